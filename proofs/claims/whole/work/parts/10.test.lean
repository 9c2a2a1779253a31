def rmX11_isWithin : Room := { frames := 0, cells := 0, slots := 0, locals := 0 }
def fX11_isWithin (F : Nat) (p0 : Int32) (p1 : Int32) (M : Mem) : Option (Bool × Mem) := if p0 < 0 then some (false, M) else if p1 ≤ p0 then some (false, M) else some (true, M)
def rmX11_at : Room := { frames := 0, cells := 0, slots := 0, locals := 0 }
def fX11_at (F : Nat) (p0 : Nat) (p1 : Int32) (M : Mem) : Option (Int32 × Mem) := if p1 < 0 then some (0, M) else if (nI (alen p0)) ≤ p1 then some (0, M) else chk (inb p1 (alen p0)) (some ((M p0 p1.toNatClampNeg), M))
def rmX11_put : Room := { frames := 0, cells := 0, slots := 0, locals := 0 }
def fX11_put (F : Nat) (p0 : Nat) (p1 : Int32) (p2 : Int32) (M : Mem) : Option Mem := if p1 < 0 then some M else if (nI (alen p0)) ≤ p1 then some M else chk (inb p1 (alen p0)) (letM (up2 M p0 p1.toNatClampNeg p2) (fun M4 => some M4))
def rmX11_holds : Room := { frames := 0, cells := 0, slots := 0, locals := 0 }
def fX11_holds (F : Nat) (p0 : Int32) (p1 : Int32) (M : Mem) : Option (Bool × Mem) := if ((p0 >>> (p1 &&& 31)) &&& 1) = 1 then some (true, M) else some (false, M)
def rmX11_bit : Room := { frames := 0, cells := 0, slots := 0, locals := 0 }
def fX11_bit (F : Nat) (p0 : Int32) (M : Mem) : Option (Int32 × Mem) := some ((1 <<< (p0 &&& 31)), M)
def rmX9_has : Room := { frames := 1, cells := 0, slots := 0, locals := 21 }
def fX9_has (F : Nat) (b : Nat) (p0 : Int32) (M : Mem) : Option (Bool × Mem) := bindM (fX11_isWithin F p0 (M b 3) M) (fun r3 M1 => some (r3, M1))
def rmX9_add : Room := { frames := 1, cells := 0, slots := 0, locals := 22 }
def fX9_add (F : Nat) (b : Nat) (p0 : Int32) (M : Mem) : Option (Int32 × Mem) := bindV (fX11_put F (b + 1) (M b 3) p0 M) (fun M1 => letM (up2 M1 b 3 ((M1 b 3) + 1)) (fun M3 => some (((M3 b 3) - 1), M3)))
def rmX9_addGrams : Room := { frames := 1, cells := 0, slots := 0, locals := 22 }
def fX9_addGrams (F : Nat) (b : Nat) (p0 : Int32) (p1 : Int32) (M : Mem) : Option (Int32 × Mem) := bindM (fX11_at F (b + 1) p0 M) (fun r3 M1 => bindV (fX11_put F (b + 1) p0 (r3 + p1) M1) (fun M4 => bindM (fX11_at F (b + 1) p0 M4) (fun r8 M6 => some (r8, M6))))
def rmX9_areConnected : Room := { frames := 1, cells := 0, slots := 0, locals := 21 }
def fX9_areConnected (F : Nat) (b : Nat) (p0 : Int32) (p1 : Int32) (M : Mem) : Option (Bool × Mem) := bindM (fX11_at F (b + 2) p0 M) (fun r3 M1 => bindM (fX11_holds F r3 p1 M1) (fun r6 M4 => some (r6, M4)))
def rmX9_connect : Room := { frames := 1, cells := 0, slots := 0, locals := 22 }
def fX9_connect (F : Nat) (b : Nat) (p0 : Int32) (p1 : Int32) (M : Mem) : Option (Int32 × Mem) := bindM (fX11_at F (b + 2) p0 M) (fun r3 M1 => bindM (fX11_bit F p1 M1) (fun r6 M4 => bindV (fX11_put F (b + 2) p0 (r3 ||| r6) M4) (fun M7 => bindM (fX11_at F (b + 2) p1 M7) (fun r11 M9 => bindM (fX11_bit F p0 M9) (fun r14 M12 => bindV (fX11_put F (b + 2) p1 (r11 ||| r14) M12) (fun M15 => letM (up2 M15 b 4 ((M15 b 4) + 1)) (fun M17 => some ((M17 b 4), M17))))))))
def rmX9_disconnect : Room := { frames := 1, cells := 0, slots := 0, locals := 22 }
def fX9_disconnect (F : Nat) (b : Nat) (p0 : Int32) (p1 : Int32) (M : Mem) : Option (Int32 × Mem) := bindM (fX11_at F (b + 2) p0 M) (fun r3 M1 => bindM (fX11_bit F p1 M1) (fun r6 M4 => bindV (fX11_put F (b + 2) p0 (r3 &&& (r6 ^^^ (-1))) M4) (fun M7 => bindM (fX11_at F (b + 2) p1 M7) (fun r11 M9 => bindM (fX11_bit F p0 M9) (fun r14 M12 => bindV (fX11_put F (b + 2) p1 (r11 &&& (r14 ^^^ (-1))) M12) (fun M15 => letM (up2 M15 b 4 ((M15 b 4) - 1)) (fun M17 => some ((M17 b 4), M17))))))))
def rmX9_neighboursOfAll : Room := { frames := 1, cells := 0, slots := 0, locals := 21 }
def fX9_neighboursOfAll_4 (F : Nat) (b : Nat) (q1 : Int32) (kx : Int32 → Mem → Option (Int32 × Mem)) : Nat → Int32 → Int32 → Mem → Option (Int32 × Mem)
  | 0, _, _, _ => none
  | n + 1, v2, v3, M => if 12 ≤ v3 then kx v2 M else bindM (fX11_holds F q1 v3 M) (fun r4 M2 => if r4 = true then chk (inb v3 12) (letM (v2 ||| (M2 (b + 2) v3.toNatClampNeg)) (fun x9 => letM (v3 + 1) (fun x11 => fX9_neighboursOfAll_4 F b q1 kx n x9 x11 M2))) else letM (v3 + 1) (fun x6 => fX9_neighboursOfAll_4 F b q1 kx n v2 x6 M2))
def fX9_neighboursOfAll (F : Nat) (b : Nat) (p0 : Int32) (M : Mem) : Option (Int32 × Mem) := fX9_neighboursOfAll_4 F b p0 (fun w14 M13 => some (w14, M13)) F 0 0 M
def rmX9_stepsBetween : Room := { frames := 2, cells := 0, slots := 0, locals := 44 }
def fX9_stepsBetween_11 (F : Nat) (b : Nat) (q2 : Int32) (kx : Mem → Option (Int32 × Mem)) : Nat → Int32 → Int32 → Int32 → Mem → Option (Int32 × Mem)
  | 0, _, _, _, _ => none
  | n + 1, v3, v4, v5, M => if 12 ≤ v5 then kx  M else bindM (fX11_holds F v3 q2 M) (fun r7 M5 => if r7 = true then some (v5, M5) else bindM (fX9_neighboursOfAll F b v3 M5) (fun r11 M9 => letM (r11 &&& (v4 ^^^ (-1))) (fun x12 => letM (v4 ||| x12) (fun x14 => letM (v5 + 1) (fun x16 => fX9_stepsBetween_11 F b q2 kx n x12 x14 x16 M9)))))
def fX9_stepsBetween (F : Nat) (b : Nat) (p0 : Int32) (p1 : Int32) (M : Mem) : Option (Int32 × Mem) := bindM (fX11_bit F p0 M) (fun r3 M1 => fX9_stepsBetween_11 F b p1 (fun M18 => some ((-1), M18)) F r3 r3 0 M1)
def rmX9_smallestIn : Room := { frames := 1, cells := 0, slots := 0, locals := 21 }
def fX9_smallestIn_2 (F : Nat) (b : Nat) (q1 : Int32) (q2 : Int32) (kx : Mem → Option (Int32 × Mem)) : Nat → Int32 → Mem → Option (Int32 × Mem)
  | 0, _, _ => none
  | n + 1, v3, M => if 12 ≤ v3 then kx  M else bindM (fX11_holds F q1 v3 M) (fun r4 M2 => if r4 = true then some (v3, M2) else letM (v3 + 1) (fun x6 => fX9_smallestIn_2 F b q1 q2 kx n x6 M2))
def fX9_smallestIn (F : Nat) (b : Nat) (p0 : Int32) (p1 : Int32) (M : Mem) : Option (Int32 × Mem) := fX9_smallestIn_2 F b p0 p1 (fun M8 => some (p1, M8)) F 0 M
set_option maxHeartbeats 4000000 in
theorem kX11_isWithin {G : GG} {l : Launch} {F : Nat}  {p0 : Int32} {p1 : Int32} {M M' : Mem} {r : Bool} (h : fX11_isWithin F p0 p1 M = some (r, M')) : Con G l yX11_isWithin cX11_isWithin 2 (some .boolean) rmX11_isWithin [.int p0, .int p1] M (QI G (b2i r) M') := by
  refine con_of pnX11 (Nat.le_of_ble_eq_true rfl) (fun κ C hQ => ?_)
  unfold fX11_isWithin at h
  refine V_L (L1 := [(0, .int p0), (1, .int p1)]) rfl ?_
  refine V_iload_n 0 C 0 dX11_isWithin_0 rfl ?_
  refine V_if_lt 1 13 C dX11_isWithin_1 (by decide) (fun c1 => ?_) (fun c1 => ?_)
  · replace h := ite_t c1 h
    refine V_iconst 13 C dX11_isWithin_13 ic0 ?_
    exact V_zreth 14 C hQ h dX11_isWithin_14
  · replace h := ite_f c1 h
    refine V_iload_n 4 C 0 dX11_isWithin_4 rfl ?_
    refine V_iload_n 5 C 1 dX11_isWithin_5 rfl ?_
    refine V_icmp_ge 6 13 C dX11_isWithin_6 (by decide) (fun c2 => ?_) (fun c2 => ?_)
    · replace h := ite_t c2 h
      refine V_iconst 13 C dX11_isWithin_13 ic0 ?_
      exact V_zreth 14 C hQ h dX11_isWithin_14
    · replace h := ite_f c2 h
      refine V_iconst 9 C dX11_isWithin_9 ic1 ?_
      refine V_goto 10 14 C dX11_isWithin_10 (by decide) ?_
      exact V_zreth 14 C hQ h dX11_isWithin_14
set_option maxHeartbeats 4000000 in
theorem kX11_at {G : GG} {l : Launch} {F : Nat} {p0 : Nat} (hp0 : ak p0 = 1) {p1 : Int32} {M M' : Mem} {r : Int32} (h : fX11_at F p0 p1 M = some (r, M')) : Con G l yX11_at cX11_at 2 (some .int) rmX11_at [.ref (gad G p0), .int p1] M (QI G r M') := by
  refine con_of pnX11 (Nat.le_of_ble_eq_true rfl) (fun κ C hQ => ?_)
  unfold fX11_at at h
  refine V_L (L1 := [(0, .ref (gad G p0)), (1, .int p1)]) rfl ?_
  refine V_iload_n 0 C 1 dX11_at_0 rfl ?_
  refine V_if_lt 1 16 C dX11_at_1 (by decide) (fun c1 => ?_) (fun c1 => ?_)
  · replace h := ite_t c1 h
    refine V_iconst 16 C dX11_at_16 ic0 ?_
    exact V_ireth 17 C hQ h dX11_at_17
  · replace h := ite_f c1 h
    refine V_iload_n 4 C 1 dX11_at_4 rfl ?_
    refine V_aload_n 5 C 0 dX11_at_5 rfl ?_
    refine V_alenI 6 C dX11_at_6 hp0 rfl ?_
    refine V_icmp_ge 7 16 C dX11_at_7 (by decide) (fun c2 => ?_) (fun c2 => ?_)
    · replace h := ite_t c2 h
      refine V_iconst 16 C dX11_at_16 ic0 ?_
      exact V_ireth 17 C hQ h dX11_at_17
    · replace h := ite_f c2 h
      refine V_aload_n 10 C 0 dX11_at_10 rfl ?_
      refine V_iload_n 11 C 1 dX11_at_11 rfl ?_
      obtain ⟨c3, h⟩ := chk_some h
      refine V_iald 12 C dX11_at_12 hp0 rfl c3 ?_
      refine V_goto 13 17 C dX11_at_13 (by decide) ?_
      exact V_ireth 17 C hQ h dX11_at_17
set_option maxHeartbeats 4000000 in
theorem kX11_put {G : GG} {l : Launch} {F : Nat} {p0 : Nat} (hp0 : ak p0 = 1) {p1 : Int32} {p2 : Int32} {M M' : Mem}  (h : fX11_put F p0 p1 p2 M = some M') : Con G l yX11_put cX11_put 3 none rmX11_put [.ref (gad G p0), .int p1, .int p2] M (QV G M') := by
  refine con_of pnX11 (Nat.le_of_ble_eq_true rfl) (fun κ C hQ => ?_)
  unfold fX11_put at h
  refine V_L (L1 := [(0, .ref (gad G p0)), (1, .int p1), (2, .int p2)]) rfl ?_
  refine V_iload_n 0 C 1 dX11_put_0 rfl ?_
  refine V_if_lt 1 14 C dX11_put_1 (by decide) (fun c1 => ?_) (fun c1 => ?_)
  · replace h := ite_t c1 h
    exact V_vreth 14 C hQ h dX11_put_14
  · replace h := ite_f c1 h
    refine V_iload_n 4 C 1 dX11_put_4 rfl ?_
    refine V_aload_n 5 C 0 dX11_put_5 rfl ?_
    refine V_alenI 6 C dX11_put_6 hp0 rfl ?_
    refine V_icmp_ge 7 14 C dX11_put_7 (by decide) (fun c2 => ?_) (fun c2 => ?_)
    · replace h := ite_t c2 h
      exact V_vreth 14 C hQ h dX11_put_14
    · replace h := ite_f c2 h
      refine V_aload_n 10 C 0 dX11_put_10 rfl ?_
      refine V_iload_n 11 C 1 dX11_put_11 rfl ?_
      refine V_iload_n 12 C 2 dX11_put_12 rfl ?_
      obtain ⟨c3, h⟩ := chk_some h
      obtain ⟨M4, e5, h⟩ := letM_some h
      refine V_iast 13 C dX11_put_13 hp0 rfl c3 ?_
      refine V_eqM e5 ?_
      exact V_vreth 14 C hQ h dX11_put_14
set_option maxHeartbeats 4000000 in
theorem kX11_holds {G : GG} {l : Launch} {F : Nat}  {p0 : Int32} {p1 : Int32} {M M' : Mem} {r : Bool} (h : fX11_holds F p0 p1 M = some (r, M')) : Con G l yX11_holds cX11_holds 2 (some .boolean) rmX11_holds [.int p0, .int p1] M (QI G (b2i r) M') := by
  refine con_of pnX11 (Nat.le_of_ble_eq_true rfl) (fun κ C hQ => ?_)
  unfold fX11_holds at h
  refine V_L (L1 := [(0, .int p0), (1, .int p1)]) rfl ?_
  refine V_iload_n 0 C 0 dX11_holds_0 rfl ?_
  refine V_iload_n 1 C 1 dX11_holds_1 rfl ?_
  refine V_ishr 2 C dX11_holds_2 ?_
  refine V_iconst 3 C dX11_holds_3 ic1 ?_
  refine V_iand 4 C dX11_holds_4 ?_
  refine V_iconst 5 C dX11_holds_5 ic1 ?_
  refine V_icmp_ne 6 13 C dX11_holds_6 (by decide) (fun c1 => ?_) (fun c1 => ?_)
  · replace h := ite_f c1 h
    refine V_iconst 13 C dX11_holds_13 ic0 ?_
    exact V_zreth 14 C hQ h dX11_holds_14
  · replace h := ite_t c1 h
    refine V_iconst 9 C dX11_holds_9 ic1 ?_
    refine V_goto 10 14 C dX11_holds_10 (by decide) ?_
    exact V_zreth 14 C hQ h dX11_holds_14
set_option maxHeartbeats 4000000 in
theorem kX11_bit {G : GG} {l : Launch} {F : Nat}  {p0 : Int32} {M M' : Mem} {r : Int32} (h : fX11_bit F p0 M = some (r, M')) : Con G l yX11_bit cX11_bit 1 (some .int) rmX11_bit [.int p0] M (QI G r M') := by
  refine con_of pnX11 (Nat.le_of_ble_eq_true rfl) (fun κ C hQ => ?_)
  unfold fX11_bit at h
  refine V_L (L1 := [(0, .int p0)]) rfl ?_
  refine V_iconst 0 C dX11_bit_0 ic1 ?_
  refine V_iload_n 1 C 0 dX11_bit_1 rfl ?_
  refine V_ishl 2 C dX11_bit_2 ?_
  exact V_ireth 3 C hQ h dX11_bit_3
set_option maxHeartbeats 4000000 in
theorem kX9_has {G : GG} {l : Launch} {F : Nat} {b : Nat} (hb : lay b = 2) {p0 : Int32} {M M' : Mem} {r : Bool} (h : fX9_has F b p0 M = some (r, M')) : Con G l yX9_has cX9_has 2 (some .boolean) rmX9_has [.ref (gad G b), .int p0] M (QI G (b2i r) M') := by
  refine con_of pnX9 (Nat.le_of_ble_eq_true rfl) (fun κ C hQ => ?_)
  unfold fX9_has at h
  refine V_L (L1 := [(0, .ref (gad G b)), (1, .int p0)]) rfl ?_
  refine V_iload_n 0 C 1 dX9_has_0 rfl ?_
  refine V_aload_n 1 C 0 dX9_has_1 rfl ?_
  refine V_get (v := .int (M b 3)) 2 C dX9_has_2 (ltl hb rfl) (ceR_X9 hb) rfl inX9 3 rfl wk_1_63 rfl rfl ?_
  obtain ⟨r3, M1, k2, h⟩ := bindM_some h
  refine V_callI 5 (runSN (rest := []) 5 C (kX11_isWithin  k2) cf_X11_isWithin wk_3_1 rfl rfl dX9_has_5 rfl rfl (Nat.zero_le _) (Nat.zero_le _)) ?_
  exact V_zreth 8 C hQ h dX9_has_8
set_option maxHeartbeats 4000000 in
theorem kX9_add {G : GG} {l : Launch} {F : Nat} {b : Nat} (hb : lay b = 2) {p0 : Int32} {M M' : Mem} {r : Int32} (h : fX9_add F b p0 M = some (r, M')) : Con G l yX9_add cX9_add 2 (some .int) rmX9_add [.ref (gad G b), .int p0] M (QI G r M') := by
  refine con_of pnX9 (Nat.le_of_ble_eq_true rfl) (fun κ C hQ => ?_)
  unfold fX9_add at h
  refine V_L (L1 := [(0, .ref (gad G b)), (1, .int p0)]) rfl ?_
  refine V_aload_n 0 C 0 dX9_add_0 rfl ?_
  refine V_get (v := .ref (gad G (b + 1))) 1 C dX9_add_1 (ltl hb rfl) (ceR_X9 hb) rfl inX9 0 rfl wk_1_52 rfl rfl ?_
  refine V_aload_n 4 C 0 dX9_add_4 rfl ?_
  refine V_get (v := .int (M b 3)) 5 C dX9_add_5 (ltl hb rfl) (ceR_X9 hb) rfl inX9 3 rfl wk_1_63 rfl rfl ?_
  refine V_iload_n 8 C 1 dX9_add_8 rfl ?_
  obtain ⟨M1, k2, h⟩ := bindV_some h
  refine V_callV 9 (runSN (rest := []) 9 C (kX11_put (akI_20 (ly2_1 hb)) k2) cf_X11_put wk_3_184 rfl rfl dX9_add_9 rfl rfl (Nat.zero_le _) (Nat.zero_le _)) ?_
  refine V_aload_n 12 C 0 dX9_add_12 rfl ?_
  refine V_dup 13 C dX9_add_13 rfl ?_
  refine V_get (v := .int (M1 b 3)) 14 C dX9_add_14 (ltl hb rfl) (ceR_X9 hb) rfl inX9 3 rfl wk_1_63 rfl rfl ?_
  refine V_iconst 17 C dX9_add_17 ic1 ?_
  refine V_iadd 18 C dX9_add_18 ?_
  obtain ⟨M3, e4, h⟩ := letM_some h
  refine V_put (ty := .int) (F := F_X9 G b) 19 C dX9_add_19 (ltl hb rfl) (fun _ => ceR_X9 hb) rfl inX9 tyX9 tyX9_ok nmX9 3 rfl wk_1_63 rfl rfl ((M1 b 3) + 1) rfl rfl rfl rfl rfl ?_
  refine V_eqM e4 ?_
  refine V_aload_n 22 C 0 dX9_add_22 rfl ?_
  refine V_get (v := .int (M3 b 3)) 23 C dX9_add_23 (ltl hb rfl) (ceR_X9 hb) rfl inX9 3 rfl wk_1_63 rfl rfl ?_
  refine V_iconst 26 C dX9_add_26 ic1 ?_
  refine V_isub 27 C dX9_add_27 ?_
  exact V_ireth 28 C hQ h dX9_add_28
set_option maxHeartbeats 4000000 in
theorem kX9_addGrams {G : GG} {l : Launch} {F : Nat} {b : Nat} (hb : lay b = 2) {p0 : Int32} {p1 : Int32} {M M' : Mem} {r : Int32} (h : fX9_addGrams F b p0 p1 M = some (r, M')) : Con G l yX9_addGrams cX9_addGrams 3 (some .int) rmX9_addGrams [.ref (gad G b), .int p0, .int p1] M (QI G r M') := by
  refine con_of pnX9 (Nat.le_of_ble_eq_true rfl) (fun κ C hQ => ?_)
  unfold fX9_addGrams at h
  refine V_L (L1 := [(0, .ref (gad G b)), (1, .int p0), (2, .int p1)]) rfl ?_
  refine V_aload_n 0 C 0 dX9_addGrams_0 rfl ?_
  refine V_get (v := .ref (gad G (b + 1))) 1 C dX9_addGrams_1 (ltl hb rfl) (ceR_X9 hb) rfl inX9 0 rfl wk_1_52 rfl rfl ?_
  refine V_iload_n 4 C 1 dX9_addGrams_4 rfl ?_
  refine V_aload_n 5 C 0 dX9_addGrams_5 rfl ?_
  refine V_get (v := .ref (gad G (b + 1))) 6 C dX9_addGrams_6 (ltl hb rfl) (ceR_X9 hb) rfl inX9 0 rfl wk_1_52 rfl rfl ?_
  refine V_iload_n 9 C 1 dX9_addGrams_9 rfl ?_
  obtain ⟨r3, M1, k2, h⟩ := bindM_some h
  refine V_callI 10 (runSN (rest := [.int p0, .ref (gad G (b + 1))]) 10 C (kX11_at (akI_20 (ly2_1 hb)) k2) cf_X11_at wk_2_118 rfl rfl dX9_addGrams_10 rfl rfl (Nat.zero_le _) (Nat.zero_le _)) ?_
  refine V_iload_n 13 C 2 dX9_addGrams_13 rfl ?_
  refine V_iadd 14 C dX9_addGrams_14 ?_
  obtain ⟨M4, k5, h⟩ := bindV_some h
  refine V_callV 15 (runSN (rest := []) 15 C (kX11_put (akI_20 (ly2_1 hb)) k5) cf_X11_put wk_3_184 rfl rfl dX9_addGrams_15 rfl rfl (Nat.zero_le _) (Nat.zero_le _)) ?_
  refine V_aload_n 18 C 0 dX9_addGrams_18 rfl ?_
  refine V_get (v := .ref (gad G (b + 1))) 19 C dX9_addGrams_19 (ltl hb rfl) (ceR_X9 hb) rfl inX9 0 rfl wk_1_52 rfl rfl ?_
  refine V_iload_n 22 C 1 dX9_addGrams_22 rfl ?_
  obtain ⟨r8, M6, k7, h⟩ := bindM_some h
  refine V_callI 23 (runSN (rest := []) 23 C (kX11_at (akI_20 (ly2_1 hb)) k7) cf_X11_at wk_2_118 rfl rfl dX9_addGrams_23 rfl rfl (Nat.zero_le _) (Nat.zero_le _)) ?_
  exact V_ireth 26 C hQ h dX9_addGrams_26
set_option maxHeartbeats 4000000 in
theorem kX9_areConnected {G : GG} {l : Launch} {F : Nat} {b : Nat} (hb : lay b = 2) {p0 : Int32} {p1 : Int32} {M M' : Mem} {r : Bool} (h : fX9_areConnected F b p0 p1 M = some (r, M')) : Con G l yX9_areConnected cX9_areConnected 3 (some .boolean) rmX9_areConnected [.ref (gad G b), .int p0, .int p1] M (QI G (b2i r) M') := by
  refine con_of pnX9 (Nat.le_of_ble_eq_true rfl) (fun κ C hQ => ?_)
  unfold fX9_areConnected at h
  refine V_L (L1 := [(0, .ref (gad G b)), (1, .int p0), (2, .int p1)]) rfl ?_
  refine V_aload_n 0 C 0 dX9_areConnected_0 rfl ?_
  refine V_get (v := .ref (gad G (b + 2))) 1 C dX9_areConnected_1 (ltl hb rfl) (ceR_X9 hb) rfl inX9 1 rfl wk_1_56 rfl rfl ?_
  refine V_iload_n 4 C 1 dX9_areConnected_4 rfl ?_
  obtain ⟨r3, M1, k2, h⟩ := bindM_some h
  refine V_callI 5 (runSN (rest := []) 5 C (kX11_at (akI_20 (ly2_2 hb)) k2) cf_X11_at wk_2_118 rfl rfl dX9_areConnected_5 rfl rfl (Nat.zero_le _) (Nat.zero_le _)) ?_
  refine V_iload_n 8 C 2 dX9_areConnected_8 rfl ?_
  obtain ⟨r6, M4, k5, h⟩ := bindM_some h
  refine V_callI 9 (runSN (rest := []) 9 C (kX11_holds  k5) cf_X11_holds wk_2_80 rfl rfl dX9_areConnected_9 rfl rfl (Nat.zero_le _) (Nat.zero_le _)) ?_
  exact V_zreth 12 C hQ h dX9_areConnected_12
set_option maxHeartbeats 4000000 in
theorem kX9_connect {G : GG} {l : Launch} {F : Nat} {b : Nat} (hb : lay b = 2) {p0 : Int32} {p1 : Int32} {M M' : Mem} {r : Int32} (h : fX9_connect F b p0 p1 M = some (r, M')) : Con G l yX9_connect cX9_connect 3 (some .int) rmX9_connect [.ref (gad G b), .int p0, .int p1] M (QI G r M') := by
  refine con_of pnX9 (Nat.le_of_ble_eq_true rfl) (fun κ C hQ => ?_)
  unfold fX9_connect at h
  refine V_L (L1 := [(0, .ref (gad G b)), (1, .int p0), (2, .int p1)]) rfl ?_
  refine V_aload_n 0 C 0 dX9_connect_0 rfl ?_
  refine V_get (v := .ref (gad G (b + 2))) 1 C dX9_connect_1 (ltl hb rfl) (ceR_X9 hb) rfl inX9 1 rfl wk_1_56 rfl rfl ?_
  refine V_iload_n 4 C 1 dX9_connect_4 rfl ?_
  refine V_aload_n 5 C 0 dX9_connect_5 rfl ?_
  refine V_get (v := .ref (gad G (b + 2))) 6 C dX9_connect_6 (ltl hb rfl) (ceR_X9 hb) rfl inX9 1 rfl wk_1_56 rfl rfl ?_
  refine V_iload_n 9 C 1 dX9_connect_9 rfl ?_
  obtain ⟨r3, M1, k2, h⟩ := bindM_some h
  refine V_callI 10 (runSN (rest := [.int p0, .ref (gad G (b + 2))]) 10 C (kX11_at (akI_20 (ly2_2 hb)) k2) cf_X11_at wk_2_118 rfl rfl dX9_connect_10 rfl rfl (Nat.zero_le _) (Nat.zero_le _)) ?_
  refine V_iload_n 13 C 2 dX9_connect_13 rfl ?_
  obtain ⟨r6, M4, k5, h⟩ := bindM_some h
  refine V_callI 14 (runSN (rest := [.int r3, .int p0, .ref (gad G (b + 2))]) 14 C (kX11_bit  k5) cf_X11_bit wk_2_87 rfl rfl dX9_connect_14 rfl rfl (Nat.zero_le _) (Nat.zero_le _)) ?_
  refine V_ior 17 C dX9_connect_17 ?_
  obtain ⟨M7, k8, h⟩ := bindV_some h
  refine V_callV 18 (runSN (rest := []) 18 C (kX11_put (akI_20 (ly2_2 hb)) k8) cf_X11_put wk_3_184 rfl rfl dX9_connect_18 rfl rfl (Nat.zero_le _) (Nat.zero_le _)) ?_
  refine V_aload_n 21 C 0 dX9_connect_21 rfl ?_
  refine V_get (v := .ref (gad G (b + 2))) 22 C dX9_connect_22 (ltl hb rfl) (ceR_X9 hb) rfl inX9 1 rfl wk_1_56 rfl rfl ?_
  refine V_iload_n 25 C 2 dX9_connect_25 rfl ?_
  refine V_aload_n 26 C 0 dX9_connect_26 rfl ?_
  refine V_get (v := .ref (gad G (b + 2))) 27 C dX9_connect_27 (ltl hb rfl) (ceR_X9 hb) rfl inX9 1 rfl wk_1_56 rfl rfl ?_
  refine V_iload_n 30 C 2 dX9_connect_30 rfl ?_
  obtain ⟨r11, M9, k10, h⟩ := bindM_some h
  refine V_callI 31 (runSN (rest := [.int p1, .ref (gad G (b + 2))]) 31 C (kX11_at (akI_20 (ly2_2 hb)) k10) cf_X11_at wk_2_118 rfl rfl dX9_connect_31 rfl rfl (Nat.zero_le _) (Nat.zero_le _)) ?_
  refine V_iload_n 34 C 1 dX9_connect_34 rfl ?_
  obtain ⟨r14, M12, k13, h⟩ := bindM_some h
  refine V_callI 35 (runSN (rest := [.int r11, .int p1, .ref (gad G (b + 2))]) 35 C (kX11_bit  k13) cf_X11_bit wk_2_87 rfl rfl dX9_connect_35 rfl rfl (Nat.zero_le _) (Nat.zero_le _)) ?_
  refine V_ior 38 C dX9_connect_38 ?_
  obtain ⟨M15, k16, h⟩ := bindV_some h
  refine V_callV 39 (runSN (rest := []) 39 C (kX11_put (akI_20 (ly2_2 hb)) k16) cf_X11_put wk_3_184 rfl rfl dX9_connect_39 rfl rfl (Nat.zero_le _) (Nat.zero_le _)) ?_
  refine V_aload_n 42 C 0 dX9_connect_42 rfl ?_
  refine V_dup 43 C dX9_connect_43 rfl ?_
  refine V_get (v := .int (M15 b 4)) 44 C dX9_connect_44 (ltl hb rfl) (ceR_X9 hb) rfl inX9 4 rfl wk_1_67 rfl rfl ?_
  refine V_iconst 47 C dX9_connect_47 ic1 ?_
  refine V_iadd 48 C dX9_connect_48 ?_
  obtain ⟨M17, e18, h⟩ := letM_some h
  refine V_put (ty := .int) (F := F_X9 G b) 49 C dX9_connect_49 (ltl hb rfl) (fun _ => ceR_X9 hb) rfl inX9 tyX9 tyX9_ok nmX9 4 rfl wk_1_67 rfl rfl ((M15 b 4) + 1) rfl rfl rfl rfl rfl ?_
  refine V_eqM e18 ?_
  refine V_aload_n 52 C 0 dX9_connect_52 rfl ?_
  refine V_get (v := .int (M17 b 4)) 53 C dX9_connect_53 (ltl hb rfl) (ceR_X9 hb) rfl inX9 4 rfl wk_1_67 rfl rfl ?_
  exact V_ireth 56 C hQ h dX9_connect_56
set_option maxHeartbeats 4000000 in
theorem kX9_disconnect {G : GG} {l : Launch} {F : Nat} {b : Nat} (hb : lay b = 2) {p0 : Int32} {p1 : Int32} {M M' : Mem} {r : Int32} (h : fX9_disconnect F b p0 p1 M = some (r, M')) : Con G l yX9_disconnect cX9_disconnect 3 (some .int) rmX9_disconnect [.ref (gad G b), .int p0, .int p1] M (QI G r M') := by
  refine con_of pnX9 (Nat.le_of_ble_eq_true rfl) (fun κ C hQ => ?_)
  unfold fX9_disconnect at h
  refine V_L (L1 := [(0, .ref (gad G b)), (1, .int p0), (2, .int p1)]) rfl ?_
  refine V_aload_n 0 C 0 dX9_disconnect_0 rfl ?_
  refine V_get (v := .ref (gad G (b + 2))) 1 C dX9_disconnect_1 (ltl hb rfl) (ceR_X9 hb) rfl inX9 1 rfl wk_1_56 rfl rfl ?_
  refine V_iload_n 4 C 1 dX9_disconnect_4 rfl ?_
  refine V_aload_n 5 C 0 dX9_disconnect_5 rfl ?_
  refine V_get (v := .ref (gad G (b + 2))) 6 C dX9_disconnect_6 (ltl hb rfl) (ceR_X9 hb) rfl inX9 1 rfl wk_1_56 rfl rfl ?_
  refine V_iload_n 9 C 1 dX9_disconnect_9 rfl ?_
  obtain ⟨r3, M1, k2, h⟩ := bindM_some h
  refine V_callI 10 (runSN (rest := [.int p0, .ref (gad G (b + 2))]) 10 C (kX11_at (akI_20 (ly2_2 hb)) k2) cf_X11_at wk_2_118 rfl rfl dX9_disconnect_10 rfl rfl (Nat.zero_le _) (Nat.zero_le _)) ?_
  refine V_iload_n 13 C 2 dX9_disconnect_13 rfl ?_
  obtain ⟨r6, M4, k5, h⟩ := bindM_some h
  refine V_callI 14 (runSN (rest := [.int r3, .int p0, .ref (gad G (b + 2))]) 14 C (kX11_bit  k5) cf_X11_bit wk_2_87 rfl rfl dX9_disconnect_14 rfl rfl (Nat.zero_le _) (Nat.zero_le _)) ?_
  refine V_iconst 17 C dX9_disconnect_17 icm1 ?_
  refine V_ixor 18 C dX9_disconnect_18 ?_
  refine V_iand 19 C dX9_disconnect_19 ?_
  obtain ⟨M7, k8, h⟩ := bindV_some h
  refine V_callV 20 (runSN (rest := []) 20 C (kX11_put (akI_20 (ly2_2 hb)) k8) cf_X11_put wk_3_184 rfl rfl dX9_disconnect_20 rfl rfl (Nat.zero_le _) (Nat.zero_le _)) ?_
  refine V_aload_n 23 C 0 dX9_disconnect_23 rfl ?_
  refine V_get (v := .ref (gad G (b + 2))) 24 C dX9_disconnect_24 (ltl hb rfl) (ceR_X9 hb) rfl inX9 1 rfl wk_1_56 rfl rfl ?_
  refine V_iload_n 27 C 2 dX9_disconnect_27 rfl ?_
  refine V_aload_n 28 C 0 dX9_disconnect_28 rfl ?_
  refine V_get (v := .ref (gad G (b + 2))) 29 C dX9_disconnect_29 (ltl hb rfl) (ceR_X9 hb) rfl inX9 1 rfl wk_1_56 rfl rfl ?_
  refine V_iload_n 32 C 2 dX9_disconnect_32 rfl ?_
  obtain ⟨r11, M9, k10, h⟩ := bindM_some h
  refine V_callI 33 (runSN (rest := [.int p1, .ref (gad G (b + 2))]) 33 C (kX11_at (akI_20 (ly2_2 hb)) k10) cf_X11_at wk_2_118 rfl rfl dX9_disconnect_33 rfl rfl (Nat.zero_le _) (Nat.zero_le _)) ?_
  refine V_iload_n 36 C 1 dX9_disconnect_36 rfl ?_
  obtain ⟨r14, M12, k13, h⟩ := bindM_some h
  refine V_callI 37 (runSN (rest := [.int r11, .int p1, .ref (gad G (b + 2))]) 37 C (kX11_bit  k13) cf_X11_bit wk_2_87 rfl rfl dX9_disconnect_37 rfl rfl (Nat.zero_le _) (Nat.zero_le _)) ?_
  refine V_iconst 40 C dX9_disconnect_40 icm1 ?_
  refine V_ixor 41 C dX9_disconnect_41 ?_
  refine V_iand 42 C dX9_disconnect_42 ?_
  obtain ⟨M15, k16, h⟩ := bindV_some h
  refine V_callV 43 (runSN (rest := []) 43 C (kX11_put (akI_20 (ly2_2 hb)) k16) cf_X11_put wk_3_184 rfl rfl dX9_disconnect_43 rfl rfl (Nat.zero_le _) (Nat.zero_le _)) ?_
  refine V_aload_n 46 C 0 dX9_disconnect_46 rfl ?_
  refine V_dup 47 C dX9_disconnect_47 rfl ?_
  refine V_get (v := .int (M15 b 4)) 48 C dX9_disconnect_48 (ltl hb rfl) (ceR_X9 hb) rfl inX9 4 rfl wk_1_67 rfl rfl ?_
  refine V_iconst 51 C dX9_disconnect_51 ic1 ?_
  refine V_isub 52 C dX9_disconnect_52 ?_
  obtain ⟨M17, e18, h⟩ := letM_some h
  refine V_put (ty := .int) (F := F_X9 G b) 53 C dX9_disconnect_53 (ltl hb rfl) (fun _ => ceR_X9 hb) rfl inX9 tyX9 tyX9_ok nmX9 4 rfl wk_1_67 rfl rfl ((M15 b 4) - 1) rfl rfl rfl rfl rfl ?_
  refine V_eqM e18 ?_
  refine V_aload_n 56 C 0 dX9_disconnect_56 rfl ?_
  refine V_get (v := .int (M17 b 4)) 57 C dX9_disconnect_57 (ltl hb rfl) (ceR_X9 hb) rfl inX9 4 rfl wk_1_67 rfl rfl ?_
  exact V_ireth 60 C hQ h dX9_disconnect_60
set_option maxHeartbeats 4000000 in
theorem vX9_neighboursOfAll_4 {G : GG} {κ : KK} {F : Nat} {b : Nat} (hb : lay b = 2) (C : Cx G κ cX9_neighboursOfAll RX9 (some .int) 4 rmX9_neighboursOfAll) {M' : Mem} {r : Int32} (hQ : HQ G κ (QI G r M') 0 0) {q1 : Int32} {kx : Int32 → Mem → Option (Int32 × Mem)} (hk : ∀ (v2 : Int32) (M : Mem), kx v2 M = some (r, M') → V G κ 4 0 0 M 36 [(2, .int v2)] []) : ∀ (n : Nat) (v2 : Int32) (v3 : Int32) (M : Mem), fX9_neighboursOfAll_4 F b q1 kx n v2 v3 M = some (r, M') → V G κ 4 0 0 M 4 [(0, .ref (gad G b)), (1, .int q1), (2, .int v2), (3, .int v3)] [] := by
  intro n
  induction n with
  | zero => intro v2 v3 M h; rw [fX9_neighboursOfAll_4] at h; cases h
  | succ n ih =>
    intro v2 v3 M h
    rw [fX9_neighboursOfAll_4] at h
    refine V_iload_n 4 C 3 dX9_neighboursOfAll_4 rfl ?_
    refine V_aload_n 5 C 0 dX9_neighboursOfAll_5 rfl ?_
    refine V_get (v := .ref (gad G (b + 2))) 6 C dX9_neighboursOfAll_6 (ltl hb rfl) (ceR_X9 hb) rfl inX9 1 rfl wk_1_56 rfl rfl ?_
    refine V_alenI 9 C dX9_neighboursOfAll_9 (akI_20 (ly2_2 hb)) (congrArg nI (al_20 (ly2_2 hb))) ?_
    refine V_icmp_ge 10 36 C dX9_neighboursOfAll_10 (by decide) (fun c1 => ?_) (fun c1 => ?_)
    · replace h := ite_t c1 h
      refine V_sub [2] rfl ?_
      exact hk _ _ h
    · replace h := ite_f c1 h
      refine V_iload_n 13 C 1 dX9_neighboursOfAll_13 rfl ?_
      refine V_iload_n 14 C 3 dX9_neighboursOfAll_14 rfl ?_
      obtain ⟨r4, M2, k3, h⟩ := bindM_some h
      refine V_callI 15 (runSN (rest := []) 15 C (kX11_holds  k3) cf_X11_holds wk_2_80 rfl rfl dX9_neighboursOfAll_15 rfl rfl (Nat.zero_le _) (Nat.zero_le _)) ?_
      refine V_ifeq_b 18 30 C dX9_neighboursOfAll_18 (by decide) (fun c5 => ?_) (fun c5 => ?_)
      · replace h := ite_f c5 h
        obtain ⟨x6, e7, h⟩ := letM_some h
        refine V_iinc 30 C [(3, .int x6), (0, .ref (gad G b)), (1, .int q1), (2, .int v2)] 3 x6 dX9_neighboursOfAll_30 rfl (by rw [e7]; rfl) rfl rfl ?_
        refine V_goto 33 4 C dX9_neighboursOfAll_33 (by decide) ?_
        refine V_sub [1, 2, 3, 0] rfl ?_
        exact ih _ _ _ h
      · replace h := ite_t c5 h
        refine V_iload_n 21 C 2 dX9_neighboursOfAll_21 rfl ?_
        refine V_aload_n 22 C 0 dX9_neighboursOfAll_22 rfl ?_
        refine V_get (v := .ref (gad G (b + 2))) 23 C dX9_neighboursOfAll_23 (ltl hb rfl) (ceR_X9 hb) rfl inX9 1 rfl wk_1_56 rfl rfl ?_
        refine V_iload_n 26 C 3 dX9_neighboursOfAll_26 rfl ?_
        obtain ⟨c8, h⟩ := chk_some h
        refine V_iald 27 C dX9_neighboursOfAll_27 (akI_20 (ly2_2 hb)) (al_20 (ly2_2 hb)) c8 ?_
        refine V_ior 28 C dX9_neighboursOfAll_28 ?_
        obtain ⟨x9, e10, h⟩ := letM_some h
        refine V_top e10 ?_
        refine V_istore_n 29 C [(2, .int x9), (0, .ref (gad G b)), (1, .int q1), (3, .int v3)] dX9_neighboursOfAll_29 rfl rfl rfl ?_
        obtain ⟨x11, e12, h⟩ := letM_some h
        refine V_iinc 30 C [(3, .int x11), (2, .int x9), (0, .ref (gad G b)), (1, .int q1)] 3 x11 dX9_neighboursOfAll_30 rfl (by rw [e12]; rfl) rfl rfl ?_
        refine V_goto 33 4 C dX9_neighboursOfAll_33 (by decide) ?_
        refine V_sub [2, 3, 1, 0] rfl ?_
        exact ih _ _ _ h
set_option maxHeartbeats 4000000 in
theorem kX9_neighboursOfAll {G : GG} {l : Launch} {F : Nat} {b : Nat} (hb : lay b = 2) {p0 : Int32} {M M' : Mem} {r : Int32} (h : fX9_neighboursOfAll F b p0 M = some (r, M')) : Con G l yX9_neighboursOfAll cX9_neighboursOfAll 4 (some .int) rmX9_neighboursOfAll [.ref (gad G b), .int p0] M (QI G r M') := by
  refine con_of pnX9 (Nat.le_of_ble_eq_true rfl) (fun κ C hQ => ?_)
  unfold fX9_neighboursOfAll at h
  refine V_L (L1 := [(0, .ref (gad G b)), (1, .int p0)]) rfl ?_
  refine V_iconst 0 C dX9_neighboursOfAll_0 ic0 ?_
  refine V_istore_n 1 C [(2, .int 0), (0, .ref (gad G b)), (1, .int p0)] dX9_neighboursOfAll_1 rfl rfl rfl ?_
  refine V_iconst 2 C dX9_neighboursOfAll_2 ic0 ?_
  refine V_istore_n 3 C [(3, .int 0), (2, .int 0), (0, .ref (gad G b)), (1, .int p0)] dX9_neighboursOfAll_3 rfl rfl rfl ?_
  refine V_sub [2, 3, 1, 0] rfl ?_
  refine vX9_neighboursOfAll_4 hb C hQ ?_ _ _ _ _ h
  intro w14 M13 h
  refine V_iload_n 36 C 0 dX9_neighboursOfAll_36 rfl ?_
  exact V_ireth 37 C hQ h dX9_neighboursOfAll_37
set_option maxHeartbeats 4000000 in
theorem vX9_stepsBetween_11 {G : GG} {κ : KK} {F : Nat} {b : Nat} (hb : lay b = 2) (C : Cx G κ cX9_stepsBetween RX9 (some .int) 6 rmX9_stepsBetween) {M' : Mem} {r : Int32} (hQ : HQ G κ (QI G r M') 0 0) {q2 : Int32} {kx : Mem → Option (Int32 × Mem)} (hk : ∀  (M : Mem), kx  M = some (r, M') → V G κ 6 0 0 M 52 [] []) : ∀ (n : Nat) (v3 : Int32) (v4 : Int32) (v5 : Int32) (M : Mem), fX9_stepsBetween_11 F b q2 kx n v3 v4 v5 M = some (r, M') → V G κ 6 0 0 M 11 [(0, .ref (gad G b)), (2, .int q2), (3, .int v3), (4, .int v4), (5, .int v5)] [] := by
  intro n
  induction n with
  | zero => intro v3 v4 v5 M h; rw [fX9_stepsBetween_11] at h; cases h
  | succ n ih =>
    intro v3 v4 v5 M h
    rw [fX9_stepsBetween_11] at h
    refine V_iload 11 C 4 dX9_stepsBetween_11 rfl ?_
    refine V_bipush 13 C dX9_stepsBetween_13 bp12 ?_
    refine V_icmp_ge 15 52 C dX9_stepsBetween_15 (by decide) (fun c4 => ?_) (fun c4 => ?_)
    · replace h := ite_t c4 h
      refine V_sub [] rfl ?_
      exact hk  _ h
    · replace h := ite_f c4 h
      refine V_iload_n 18 C 2 dX9_stepsBetween_18 rfl ?_
      refine V_iload_n 19 C 1 dX9_stepsBetween_19 rfl ?_
      obtain ⟨r7, M5, k6, h⟩ := bindM_some h
      refine V_callI 20 (runSN (rest := []) 20 C (kX11_holds  k6) cf_X11_holds wk_2_80 rfl rfl dX9_stepsBetween_20 rfl rfl (Nat.zero_le _) (Nat.zero_le _)) ?_
      refine V_ifeq_b 23 29 C dX9_stepsBetween_23 (by decide) (fun c8 => ?_) (fun c8 => ?_)
      · replace h := ite_f c8 h
        refine V_aload_n 29 C 0 dX9_stepsBetween_29 rfl ?_
        refine V_iload_n 30 C 2 dX9_stepsBetween_30 rfl ?_
        obtain ⟨r11, M9, k10, h⟩ := bindM_some h
        refine V_callI 31 (runVO (rest := []) 31 C (kX9_neighboursOfAll hb k10) cf_X9_neighboursOfAll wk_2_90 (ltl hb rfl) (ceR_X9 hb) rfl rfl rfl rfl dX9_stepsBetween_31 rfl rfl (Nat.zero_le _) (Nat.zero_le _)) ?_
        refine V_iload 34 C 3 dX9_stepsBetween_34 rfl ?_
        refine V_iconst 36 C dX9_stepsBetween_36 icm1 ?_
        refine V_ixor 37 C dX9_stepsBetween_37 ?_
        refine V_iand 38 C dX9_stepsBetween_38 ?_
        obtain ⟨x12, e13, h⟩ := letM_some h
        refine V_top e13 ?_
        refine V_istore_n 39 C [(3, .int x12), (0, .ref (gad G b)), (2, .int q2), (4, .int v4), (5, .int v5)] dX9_stepsBetween_39 rfl rfl rfl ?_
        refine V_iload 40 C 3 dX9_stepsBetween_40 rfl ?_
        refine V_iload_n 42 C 0 dX9_stepsBetween_42 rfl ?_
        refine V_ior 43 C dX9_stepsBetween_43 ?_
        obtain ⟨x14, e15, h⟩ := letM_some h
        refine V_top e15 ?_
        refine V_istore 44 C [(4, .int x14), (3, .int x12), (0, .ref (gad G b)), (2, .int q2), (5, .int v5)] dX9_stepsBetween_44 rfl rfl ?_
        obtain ⟨x16, e17, h⟩ := letM_some h
        refine V_iinc 46 C [(5, .int x16), (4, .int x14), (3, .int x12), (0, .ref (gad G b)), (2, .int q2)] 4 x16 dX9_stepsBetween_46 rfl (by rw [e17]; rfl) rfl rfl ?_
        refine V_goto 49 11 C dX9_stepsBetween_49 (by decide) ?_
        refine V_sub [3, 4, 2, 1, 0] rfl ?_
        exact ih _ _ _ _ h
      · replace h := ite_t c8 h
        refine V_iload 26 C 4 dX9_stepsBetween_26 rfl ?_
        exact V_ireth 28 C hQ h dX9_stepsBetween_28
set_option maxHeartbeats 4000000 in
theorem kX9_stepsBetween {G : GG} {l : Launch} {F : Nat} {b : Nat} (hb : lay b = 2) {p0 : Int32} {p1 : Int32} {M M' : Mem} {r : Int32} (h : fX9_stepsBetween F b p0 p1 M = some (r, M')) : Con G l yX9_stepsBetween cX9_stepsBetween 6 (some .int) rmX9_stepsBetween [.ref (gad G b), .int p0, .int p1] M (QI G r M') := by
  refine con_of pnX9 (Nat.le_of_ble_eq_true rfl) (fun κ C hQ => ?_)
  unfold fX9_stepsBetween at h
  refine V_L (L1 := [(0, .ref (gad G b)), (1, .int p0), (2, .int p1)]) rfl ?_
  refine V_iload_n 0 C 1 dX9_stepsBetween_0 rfl ?_
  obtain ⟨r3, M1, k2, h⟩ := bindM_some h
  refine V_callI 1 (runSN (rest := []) 1 C (kX11_bit  k2) cf_X11_bit wk_2_87 rfl rfl dX9_stepsBetween_1 rfl rfl (Nat.zero_le _) (Nat.zero_le _)) ?_
  refine V_istore_n 4 C [(3, .int r3), (0, .ref (gad G b)), (1, .int p0), (2, .int p1)] dX9_stepsBetween_4 rfl rfl rfl ?_
  refine V_iload_n 5 C 0 dX9_stepsBetween_5 rfl ?_
  refine V_istore 6 C [(4, .int r3), (3, .int r3), (0, .ref (gad G b)), (1, .int p0), (2, .int p1)] dX9_stepsBetween_6 rfl rfl ?_
  refine V_iconst 8 C dX9_stepsBetween_8 ic0 ?_
  refine V_istore 9 C [(5, .int 0), (4, .int r3), (3, .int r3), (0, .ref (gad G b)), (1, .int p0), (2, .int p1)] dX9_stepsBetween_9 rfl rfl ?_
  refine V_sub [3, 5, 2, 1, 0] rfl ?_
  refine vX9_stepsBetween_11 hb C hQ ?_ _ _ _ _ _ h
  intro M18 h
  refine V_iconst 52 C dX9_stepsBetween_52 icm1 ?_
  exact V_ireth 53 C hQ h dX9_stepsBetween_53
set_option maxHeartbeats 4000000 in
theorem vX9_smallestIn_2 {G : GG} {κ : KK} {F : Nat} {b : Nat} (hb : lay b = 2) (C : Cx G κ cX9_smallestIn RX9 (some .int) 4 rmX9_smallestIn) {M' : Mem} {r : Int32} (hQ : HQ G κ (QI G r M') 0 0) {q1 : Int32} {q2 : Int32} {kx : Mem → Option (Int32 × Mem)} (hk : ∀  (M : Mem), kx  M = some (r, M') → V G κ 4 0 0 M 24 [(2, .int q2)] []) : ∀ (n : Nat) (v3 : Int32) (M : Mem), fX9_smallestIn_2 F b q1 q2 kx n v3 M = some (r, M') → V G κ 4 0 0 M 2 [(1, .int q1), (2, .int q2), (3, .int v3)] [] := by
  intro n
  induction n with
  | zero => intro v3 M h; rw [fX9_smallestIn_2] at h; cases h
  | succ n ih =>
    intro v3 M h
    rw [fX9_smallestIn_2] at h
    refine V_iload_n 2 C 2 dX9_smallestIn_2 rfl ?_
    refine V_bipush 3 C dX9_smallestIn_3 bp12 ?_
    refine V_icmp_ge 5 24 C dX9_smallestIn_5 (by decide) (fun c1 => ?_) (fun c1 => ?_)
    · replace h := ite_t c1 h
      refine V_sub [1] rfl ?_
      exact hk  _ h
    · replace h := ite_f c1 h
      refine V_iload_n 8 C 0 dX9_smallestIn_8 rfl ?_
      refine V_iload_n 9 C 2 dX9_smallestIn_9 rfl ?_
      obtain ⟨r4, M2, k3, h⟩ := bindM_some h
      refine V_callI 10 (runSN (rest := []) 10 C (kX11_holds  k3) cf_X11_holds wk_2_80 rfl rfl dX9_smallestIn_10 rfl rfl (Nat.zero_le _) (Nat.zero_le _)) ?_
      refine V_ifeq_b 13 18 C dX9_smallestIn_13 (by decide) (fun c5 => ?_) (fun c5 => ?_)
      · replace h := ite_f c5 h
        obtain ⟨x6, e7, h⟩ := letM_some h
        refine V_iinc 18 C [(3, .int x6), (1, .int q1), (2, .int q2)] 2 x6 dX9_smallestIn_18 rfl (by rw [e7]; rfl) rfl rfl ?_
        refine V_goto 21 2 C dX9_smallestIn_21 (by decide) ?_
        refine V_sub [1, 2, 0] rfl ?_
        exact ih _ _ h
      · replace h := ite_t c5 h
        refine V_iload_n 16 C 2 dX9_smallestIn_16 rfl ?_
        exact V_ireth 17 C hQ h dX9_smallestIn_17
set_option maxHeartbeats 4000000 in
theorem kX9_smallestIn {G : GG} {l : Launch} {F : Nat} {b : Nat} (hb : lay b = 2) {p0 : Int32} {p1 : Int32} {M M' : Mem} {r : Int32} (h : fX9_smallestIn F b p0 p1 M = some (r, M')) : Con G l yX9_smallestIn cX9_smallestIn 4 (some .int) rmX9_smallestIn [.ref (gad G b), .int p0, .int p1] M (QI G r M') := by
  refine con_of pnX9 (Nat.le_of_ble_eq_true rfl) (fun κ C hQ => ?_)
  unfold fX9_smallestIn at h
  refine V_L (L1 := [(0, .ref (gad G b)), (1, .int p0), (2, .int p1)]) rfl ?_
  refine V_iconst 0 C dX9_smallestIn_0 ic0 ?_
  refine V_istore_n 1 C [(3, .int 0), (0, .ref (gad G b)), (1, .int p0), (2, .int p1)] dX9_smallestIn_1 rfl rfl rfl ?_
  refine V_sub [2, 3, 0] rfl ?_
  refine vX9_smallestIn_2 hb C hQ ?_ _ _ _ h
  intro M8 h
  refine V_iload_n 24 C 0 dX9_smallestIn_24 rfl ?_
  exact V_ireth 25 C hQ h dX9_smallestIn_25
