def rmX11_change : Room := { frames := 6, cells := 1, slots := 6, locals := 145 }
def fX11_change (F : Nat) (p0 : Nat) (p1 : Int32) (p2 : Int32) (M : Mem) : Option ((Int32 ⊕ Nat) × Mem) := bindM (fX3_refusalOf F 1 p0 p1 p2 M) (fun r3 M1 => chk (decide (r3 < 8)) (if r3 = 6 then some (Sum.inr 1, M1) else chk (decide (r3 < 8)) (if r3 = 7 then some (Sum.inr 2, M1) else chk (decide (r3 < 8)) (if r3 = 0 then bindV (fX2_push F 31 1 M1) (fun M10 => bindM (fX3_carryOut F 1 p0 p1 p2 M10) (fun r14 M12 => some (Sum.inl r14, M12))) else chk (decide (r3 < 8)) (chk (decide (r3 < 8)) (bindM (fX3_detailOf F 1 r3 p0 p1 M1) (fun r19 M17 => bindV (fX11_keepDenial F (rnum r3) r19 (-1) M17) (fun M20 => some (Sum.inr 3, M20)))))))))
def rmX11_addShelf : Room := { frames := 7, cells := 1, slots := 6, locals := 169 }
def fX11_addShelf (F : Nat) (p0 : Int32) (M : Mem) : Option ((Int32 ⊕ Nat) × Mem) := bindX (fX11_change F 0 p0 0 M) (fun r3 M1 => some (Sum.inl r3, M1))
def rmX11_link : Room := { frames := 7, cells := 1, slots := 6, locals := 169 }
def fX11_link (F : Nat) (p0 : Int32) (p1 : Int32) (M : Mem) : Option ((Int32 ⊕ Nat) × Mem) := bindX (fX11_change F 1 p0 p1 M) (fun r3 M1 => some (Sum.inl r3, M1))
def rmX11_unlink : Room := { frames := 7, cells := 1, slots := 6, locals := 169 }
def fX11_unlink (F : Nat) (p0 : Int32) (p1 : Int32) (M : Mem) : Option ((Int32 ⊕ Nat) × Mem) := bindX (fX11_change F 2 p0 p1 M) (fun r3 M1 => some (Sum.inl r3, M1))
def rmX11_setBlind : Room := { frames := 7, cells := 1, slots := 6, locals := 169 }
def fX11_setBlind (F : Nat) (p0 : Int32) (p1 : Bool) (M : Mem) : Option ((Int32 ⊕ Nat) × Mem) := if p1 = true then bindX (fX11_change F 3 p0 0 M) (fun r11 M9 => some (Sum.inl r11, M9)) else bindX (fX11_change F 4 p0 0 M) (fun r4 M2 => some (Sum.inl r4, M2))
def rmX11_fill : Room := { frames := 7, cells := 1, slots := 6, locals := 169 }
def fX11_fill (F : Nat) (p0 : Int32) (p1 : Int32) (M : Mem) : Option ((Int32 ⊕ Nat) × Mem) := bindX (fX11_change F 5 p0 p1 M) (fun r3 M1 => some (Sum.inl r3, M1))
def rmX11_requireShelf : Room := { frames := 6, cells := 1, slots := 6, locals := 91 }
def fX11_requireShelf (F : Nat) (p0 : Int32) (M : Mem) : Option ((Unit ⊕ Nat) × Mem) := bindM (fX9_has F 2 p0 M) (fun r3 M1 => if r3 = true then some (Sum.inl (), M1) else some (Sum.inr 1, M1))
def rmX11_cheese : Room := { frames := 7, cells := 1, slots := 6, locals := 112 }
def fX11_cheese (F : Nat) (p0 : Int32) (M : Mem) : Option ((Int32 ⊕ Nat) × Mem) := bindX (fX11_requireShelf F p0 M) (fun _ M1 => bindM (fX11_at F 3 p0 M1) (fun r10 M8 => some (Sum.inl r10, M8)))
def rmX11_isBlind : Room := { frames := 7, cells := 1, slots := 6, locals := 112 }
def fX11_isBlind (F : Nat) (p0 : Int32) (M : Mem) : Option ((Bool ⊕ Nat) × Mem) := bindX (fX11_requireShelf F p0 M) (fun _ M1 => bindM (fX11_holds F (M1 2 2) p0 M1) (fun r10 M8 => some (Sum.inl r10, M8)))
def rmX11_neighbourCount : Room := { frames := 7, cells := 1, slots := 6, locals := 112 }
def fX11_neighbourCount (F : Nat) (p0 : Int32) (M : Mem) : Option ((Int32 ⊕ Nat) × Mem) := bindX (fX11_requireShelf F p0 M) (fun _ M1 => bindM (fX11_at F 4 p0 M1) (fun r10 M8 => some (Sum.inl (bcnt r10), M8)))
def rmX11_distance : Room := { frames := 7, cells := 3, slots := 18, locals := 112 }
def fX11_distance (F : Nat) (p0 : Int32) (p1 : Int32) (M : Mem) : Option ((Int32 ⊕ Nat) × Mem) := bindX (fX11_requireShelf F p0 M) (fun _ M1 => bindX (fX11_requireShelf F p1 M1) (fun _ M8 => bindM (fX9_stepsBetween F 2 p0 p1 M8) (fun r17 M15 => if r17 = (-1) then some (Sum.inr 4, M15) else some (Sum.inl r17, M15))))
def rmX11_distanceByTable : Room := { frames := 7, cells := 3, slots := 18, locals := 112 }
def fX11_distanceByTable (F : Nat) (p0 : Int32) (p1 : Int32) (M : Mem) : Option ((Int32 ⊕ Nat) × Mem) := bindX (fX11_requireShelf F p0 M) (fun _ M1 => bindX (fX11_requireShelf F p1 M1) (fun _ M8 => bindM (fX1_stepsBetween F 113 2 p0 p1 M8) (fun r17 M15 => if r17 < 1000 then some (Sum.inl r17, M15) else some (Sum.inr 4, M15))))
def rmX11_shelfByCheese : Room := { frames := 6, cells := 1, slots := 6, locals := 91 }
def fX11_shelfByCheese (F : Nat) (p0 : Int32) (M : Mem) : Option ((Int32 ⊕ Nat) × Mem) := bindM (fX9_shelfAtRank F 2 p0 M) (fun r3 M1 => if r3 = (-1) then some (Sum.inr 4, M1) else some (Sum.inl r3, M1))
def rmX11_addStop : Room := { frames := 7, cells := 1, slots := 6, locals := 169 }
def fX11_addStop (F : Nat) (p0 : Int32) (M : Mem) : Option ((Int32 ⊕ Nat) × Mem) := bindX (fX11_change F 6 p0 0 M) (fun r3 M1 => some (Sum.inl r3, M1))
def rmX11_removeStop : Room := { frames := 7, cells := 1, slots := 6, locals := 169 }
def fX11_removeStop (F : Nat) (p0 : Int32) (M : Mem) : Option ((Int32 ⊕ Nat) × Mem) := bindX (fX11_change F 7 p0 0 M) (fun r3 M1 => some (Sum.inl r3, M1))
def rmX11_shelfOfStop : Room := { frames := 6, cells := 1, slots := 6, locals := 91 }
def fX11_shelfOfStop (F : Nat) (p0 : Int32) (M : Mem) : Option ((Int32 ⊕ Nat) × Mem) := bindM (fX6_hasStop F 5 p0 M) (fun r3 M1 => if r3 = true then bindM (fX11_at F 6 p0 M1) (fun r7 M5 => some (Sum.inl r7, M5)) else some (Sum.inr 1, M1))
def rmX11_requireAnyShelf : Room := { frames := 6, cells := 1, slots := 6, locals := 91 }
def fX11_requireAnyShelf (F : Nat)  (M : Mem) : Option ((Unit ⊕ Nat) × Mem) := if (M 2 3) = 0 then some (Sum.inr 4, M) else some (Sum.inl (), M)
def rmX11_catShelf : Room := { frames := 7, cells := 1, slots := 6, locals := 111 }
def fX11_catShelf (F : Nat)  (M : Mem) : Option ((Int32 ⊕ Nat) × Mem) := bindX (fX11_requireAnyShelf F  M) (fun _ M1 => some (Sum.inl (M1 5 2), M1))
def rmX11_goal : Room := { frames := 6, cells := 1, slots := 6, locals := 91 }
def fX11_goal (F : Nat)  (M : Mem) : Option ((Int32 ⊕ Nat) × Mem) := if (M 5 1) = 0 then some (Sum.inr 4, M) else some (Sum.inl (M 5 3), M)
def rmX11_nextShelf : Room := { frames := 7, cells := 1, slots := 6, locals := 111 }
def fX11_nextShelf (F : Nat)  (M : Mem) : Option ((Int32 ⊕ Nat) × Mem) := bindX (fX11_requireAnyShelf F  M) (fun _ M1 => bindM (fX3_shelfAfterWalk F 1 M1) (fun r10 M8 => some (Sum.inl r10, M8)))
def rmX11_lapLength : Room := { frames := 6, cells := 1, slots := 6, locals := 94 }
def fX11_lapLength (F : Nat)  (M : Mem) : Option ((Int32 ⊕ Nat) × Mem) := bindM (fX3_countLapSteps F 1 M) (fun r3 M1 => if r3 = (-1) then some (Sum.inr 4, M1) else some (Sum.inl r3, M1))
def rmX11_pass : Room := { frames := 7, cells := 1, slots := 6, locals := 169 }
def fX11_pass (F : Nat) (p0 : Int32) (M : Mem) : Option ((Int32 ⊕ Nat) × Mem) := bindX (fX11_change F 10 p0 0 M) (fun r3 M1 => some (Sum.inl r3, M1))
def rmX11_predictCaught : Room := { frames := 6, cells := 1, slots := 6, locals := 123 }
def fX11_predictCaught (F : Nat) (p0 : Int32) (M : Mem) : Option ((Int32 ⊕ Nat) × Mem) := if p0 < 0 then some (Sum.inr 2, M) else if p0 ≤ 60 then bindV (fX3_copyFrom F 11 1 M) (fun M3 => bindM (fX3_letPass F 11 p0 M3) (fun r7 M5 => some (Sum.inl r7, M5))) else some (Sum.inr 2, M)
def rmX11_setRate : Room := { frames := 7, cells := 1, slots := 6, locals := 169 }
def fX11_setRate (F : Nat) (p0 : Int32) (M : Mem) : Option ((Int32 ⊕ Nat) × Mem) := bindX (fX11_change F 8 p0 0 M) (fun r3 M1 => some (Sum.inl r3, M1))
def rmX11_setSeed : Room := { frames := 7, cells := 1, slots := 6, locals := 169 }
def fX11_setSeed (F : Nat) (p0 : Int32) (M : Mem) : Option ((Int32 ⊕ Nat) × Mem) := bindX (fX11_change F 9 p0 0 M) (fun r3 M1 => some (Sum.inl r3, M1))
def rmX11_requireMouse : Room := { frames := 6, cells := 1, slots := 6, locals := 91 }
def fX11_requireMouse (F : Nat) (p0 : Int32) (M : Mem) : Option ((Unit ⊕ Nat) × Mem) := bindM (fX11_isWithin F p0 (M 7 3) M) (fun r3 M1 => if r3 = true then some (Sum.inl (), M1) else some (Sum.inr 1, M1))
def rmX11_mouseShelf : Room := { frames := 7, cells := 1, slots := 6, locals := 112 }
def fX11_mouseShelf (F : Nat) (p0 : Int32) (M : Mem) : Option ((Int32 ⊕ Nat) × Mem) := bindX (fX11_requireMouse F p0 M) (fun _ M1 => bindM (fX11_at F 8 p0 M1) (fun r10 M8 => some (Sum.inl r10, M8)))
def rmX11_mouseEaten : Room := { frames := 7, cells := 1, slots := 6, locals := 112 }
def fX11_mouseEaten (F : Nat) (p0 : Int32) (M : Mem) : Option ((Int32 ⊕ Nat) × Mem) := bindX (fX11_requireMouse F p0 M) (fun _ M1 => bindM (fX11_at F 9 p0 M1) (fun r10 M8 => some (Sum.inl r10, M8)))
def rmX11_mouseHunger : Room := { frames := 7, cells := 1, slots := 6, locals := 112 }
def fX11_mouseHunger (F : Nat) (p0 : Int32) (M : Mem) : Option ((Int32 ⊕ Nat) × Mem) := bindX (fX11_requireMouse F p0 M) (fun _ M1 => bindM (fX11_at F 10 p0 M1) (fun r10 M8 => some (Sum.inl r10, M8)))
def rmX11_miceOn : Room := { frames := 7, cells := 1, slots := 6, locals := 112 }
def fX11_miceOn (F : Nat) (p0 : Int32) (M : Mem) : Option ((Int32 ⊕ Nat) × Mem) := bindX (fX11_requireShelf F p0 M) (fun _ M1 => bindM (fX5_countOn F 7 p0 M1) (fun r10 M8 => some (Sum.inl r10, M8)))
def rmX11_meanCheese : Room := { frames := 6, cells := 1, slots := 6, locals := 91 }
def fX11_meanCheese (F : Nat)  (M : Mem) : Option ((UInt64 ⊕ Nat) × Mem) := if (M 2 3) = 0 then some (Sum.inr 6, M) else bindM (fX9_sumOfGrams F 2 M) (fun r4 M2 => chk (nn64 (FP.ddiv (FP.i2d r4) (FP.i2d (M2 2 3)))) (some (Sum.inl (FP.ddiv (FP.i2d r4) (FP.i2d (M2 2 3))), M2)))
def rmX11_caughtShare : Room := { frames := 6, cells := 1, slots := 6, locals := 91 }
def fX11_caughtShare (F : Nat)  (M : Mem) : Option ((UInt32 ⊕ Nat) × Mem) := letM ((M 1 8) + (M 1 9)) (fun x1 => if x1 = 0 then some (Sum.inr 6, M) else chk (nn32 (FP.fdiv (FP.i2f (M 1 8)) (FP.i2f x1))) (some (Sum.inl (FP.fdiv (FP.i2f (M 1 8)) (FP.i2f x1)), M)))
def rmX11_feed : Room := { frames := 6, cells := 1, slots := 6, locals := 91 }
def fX11_feed (F : Nat) (p0 : Int32) (M : Mem) : Option ((Int32 ⊕ Nat) × Mem) := if (M 115 1) < 60 then bindV (fX8_append F 115 p0 M) (fun M2 => some (Sum.inl (M2 115 1), M2)) else some (Sum.inr 5, M)
def rmX11_execute : Room := { frames := 8, cells := 1, slots := 6, locals := 175 }
def fX11_execute (F : Nat)  (M : Mem) : Option ((Int32 ⊕ Nat) × Mem) := bindM (fX8_findFault F 115 M) (fun r3 M1 => if r3 = (-1) then bindM (fX11_tryCommands F  M1) (fun r7 M5 => bindV (fX8_clear F 115 M5) (fun M8 => if r7 = true then bindV (fX2_push F 31 1 M8) (fun M11 => bindV (fX3_copyFrom F 1 11 M11) (fun M13 => some (Sum.inl (M13 115 3), M13))) else some (Sum.inr 3, M8))) else bindV (fX8_clear F 115 M1) (fun M15 => letM (up2 M15 0 8 r3) (fun M17 => some (Sum.inr 2, M17))))
def rmX11_faultPosition : Room := { frames := 6, cells := 1, slots := 6, locals := 91 }
def fX11_faultPosition (F : Nat)  (M : Mem) : Option ((Int32 ⊕ Nat) × Mem) := if (M 0 8) = (-1) then some (Sum.inr 4, M) else some (Sum.inl (M 0 8), M)
def rmX11_writeShelf : Room := { frames := 7, cells := 1, slots := 6, locals := 112 }
def fX11_writeShelf (F : Nat) (p0 : Int32) (M : Mem) : Option ((Int32 ⊕ Nat) × Mem) := bindX (fX11_requireShelf F p0 M) (fun _ M1 => bindV (fX4_showShelf F 117 1 p0 M1) (fun M8 => some (Sum.inl (M8 117 1), M8)))
def rmX11_lineCharacter : Room := { frames := 6, cells := 1, slots := 6, locals := 91 }
def fX11_lineCharacter (F : Nat) (p0 : Int32) (M : Mem) : Option ((Int32 ⊕ Nat) × Mem) := bindM (fX11_isWithin F p0 (M 117 1) M) (fun r3 M1 => if r3 = true then bindM (fX11_isWithin F p0 64 M1) (fun r7 M5 => if r7 = true then chk (inb p0 64) (chk (nrc (M5 118 p0.toNatClampNeg)) (some (Sum.inl (M5 118 p0.toNatClampNeg), M5))) else some (Sum.inr 1, M5)) else some (Sum.inr 1, M1))
def rmX11_requireDenial : Room := { frames := 6, cells := 1, slots := 6, locals := 91 }
def fX11_requireDenial (F : Nat)  (M : Mem) : Option ((Unit ⊕ Nat) × Mem) := if (M 0 9) = (-1) then some (Sum.inr 4, M) else some (Sum.inl (), M)
def rmX11_denial : Room := { frames := 7, cells := 1, slots := 6, locals := 111 }
def fX11_denial (F : Nat)  (M : Mem) : Option ((Int32 ⊕ Nat) × Mem) := bindX (fX11_requireDenial F  M) (fun _ M1 => some (Sum.inl (M1 0 9), M1))
def rmX11_denialDetail : Room := { frames := 7, cells := 1, slots := 6, locals := 111 }
def fX11_denialDetail (F : Nat)  (M : Mem) : Option ((Int32 ⊕ Nat) × Mem) := bindX (fX11_requireDenial F  M) (fun _ M1 => some (Sum.inl (M1 0 10), M1))
def rmX11_denialCause : Room := { frames := 6, cells := 1, slots := 6, locals := 91 }
def fX11_denialCause (F : Nat)  (M : Mem) : Option ((Int32 ⊕ Nat) × Mem) := if (M 0 11) = (-1) then some (Sum.inr 4, M) else some (Sum.inl (M 0 11), M)
def rmX11_undo : Room := { frames := 6, cells := 1, slots := 6, locals := 145 }
def fX11_undo (F : Nat)  (M : Mem) : Option ((Int32 ⊕ Nat) × Mem) := if (M 31 2) = 0 then some (Sum.inr 5, M) else bindV (fX2_pop F 31 1 M) (fun M2 => some (Sum.inl (M2 31 2), M2))
def rmX11_restoreSnapshot : Room := { frames := 6, cells := 1, slots := 6, locals := 123 }
def fX11_restoreSnapshot (F : Nat)  (M : Mem) : Option ((Int32 ⊕ Nat) × Mem) := if (M 0 3) = 0 then some (Sum.inr 5, M) else bindV (fX3_copyFrom F 1 21 M) (fun M2 => bindV (fX2_clear F 31 M2) (fun M4 => some (Sum.inl (M4 2 3), M4)))
set_option maxHeartbeats 4000000 in
theorem kX11_change {G : GG} {l : Launch} (hl : l.stackTraces = false) {F : Nat}  {p0 : Nat} (hp0 : p0 < 11) {p1 : Int32} {p2 : Int32} {M M' : Mem} {res : Int32 ⊕ Nat} (h : fX11_change F p0 p1 p2 M = some (res, M')) : ConX G l yX11_change cX11_change 5 (some .int) rmX11_change [.ref (gad G 0), .ref (gv G p0), .int p1, .int p2] M (QEX G id res M') (XIX G res M') 1 6 := by
  refine conX_of hl pnX11 (Nat.le_of_ble_eq_true rfl) (fun κ C T hQ => ?_)
  unfold fX11_change at h
  refine V_L (L1 := [(0, .ref (gad G 0)), (1, .ref (gv G p0)), (2, .int p1), (3, .int p2)]) rfl ?_
  refine V_aload_n 0 C 0 dX11_change_0 rfl ?_
  refine V_get (v := .ref (gad G 1)) 1 C dX11_change_1 (ltl (by rfl) rfl) (ceR_X11 (by rfl)) rfl inX11 0 rfl wk_2_27 rfl rfl ?_
  refine V_aload_n 4 C 1 dX11_change_4 rfl ?_
  refine V_iload_n 5 C 2 dX11_change_5 rfl ?_
  refine V_iload_n 6 C 3 dX11_change_6 rfl ?_
  obtain ⟨r3, M1, k2, h⟩ := bindM_some h
  refine V_callR 7 (runVN (k := 1) (rest := []) 7 C (kX3_refusalOf (by rfl) hp0 k2) cf_X3_refusalOf wk_2_211 (ltl (by rfl) rfl) (ceR_X3 (by rfl)) rfl rfl rfl rfl dX11_change_7 rfl rfl (Nat.le_of_ble_eq_true rfl) (Nat.le_of_ble_eq_true rfl)) ?_
  refine V_astore 10 C [(4, .ref (gr G r3)), (0, .ref (gad G 0)), (1, .ref (gv G p0)), (2, .int p1), (3, .int p2)] dX11_change_10 rfl rfl ?_
  refine V_aload 12 C 0 dX11_change_12 rfl ?_
  refine V_gsr 14 C dX11_change_14 6 rfl wk_3_45 ?_
  obtain ⟨g5, h⟩ := chk_some h
  refine V_acmpne_r 17 31 C dX11_change_17 (by decide) (of_decide_eq_true g5) (by decide) (fun c4 => ?_) (fun c4 => ?_)
  · replace h := ite_f c4 h
    refine V_aload 31 C 0 dX11_change_31 rfl ?_
    refine V_gsr 33 C dX11_change_33 7 rfl wk_3_118 ?_
    obtain ⟨g7, h⟩ := chk_some h
    refine V_acmpne_r 36 50 C dX11_change_36 (by decide) (of_decide_eq_true g7) (by decide) (fun c6 => ?_) (fun c6 => ?_)
    · replace h := ite_f c6 h
      refine V_aload 50 C 0 dX11_change_50 rfl ?_
      refine V_gsr 52 C dX11_change_52 0 rfl wk_3_135 ?_
      obtain ⟨g9, h⟩ := chk_some h
      refine V_acmpeq_r 55 90 C dX11_change_55 (by decide) (of_decide_eq_true g9) (by decide) (fun c8 => ?_) (fun c8 => ?_)
      · replace h := ite_t c8 h
        refine V_aload_n 90 C 1 dX11_change_90 rfl ?_
        refine V_get (v := .ref (gad G 31)) 91 C dX11_change_91 (ltl (by rfl) rfl) (ceR_X11 (by rfl)) rfl inX11 4 rfl wk_2_31 rfl rfl ?_
        refine V_aload_n 94 C 1 dX11_change_94 rfl ?_
        refine V_get (v := .ref (gad G 1)) 95 C dX11_change_95 (ltl (by rfl) rfl) (ceR_X11 (by rfl)) rfl inX11 0 rfl wk_2_27 rfl rfl ?_
        obtain ⟨M10, k11, h⟩ := bindV_some h
        refine V_callV 98 (runVN (k := 31) (rest := []) 98 C (kX2_push (by rfl) (by rfl) k11) cf_X2_push wk_3_167 (ltl (by rfl) rfl) (ceR_X2 (by rfl)) rfl rfl rfl rfl dX11_change_98 rfl rfl (Nat.le_of_ble_eq_true rfl) (Nat.le_of_ble_eq_true rfl)) ?_
        refine V_aload_n 101 C 1 dX11_change_101 rfl ?_
        refine V_get (v := .ref (gad G 1)) 102 C dX11_change_102 (ltl (by rfl) rfl) (ceR_X11 (by rfl)) rfl inX11 0 rfl wk_2_27 rfl rfl ?_
        refine V_aload_n 105 C 2 dX11_change_105 rfl ?_
        refine V_iload_n 106 C 3 dX11_change_106 rfl ?_
        refine V_iload_n 107 C 4 dX11_change_107 rfl ?_
        obtain ⟨r14, M12, k13, h⟩ := bindM_some h
        refine V_callI 108 (runVN (k := 1) (rest := []) 108 C (kX3_carryOut (by rfl) hp0 k13) cf_X3_carryOut wk_3_176 (ltl (by rfl) rfl) (ceR_X3 (by rfl)) rfl rfl rfl rfl dX11_change_108 rfl rfl (Nat.le_of_ble_eq_true rfl) (Nat.le_of_ble_eq_true rfl)) ?_
        exact V_iretX 111 C hQ h rfl rfl dX11_change_111
      · replace h := ite_f c8 h
        refine V_aload_n 58 C 1 dX11_change_58 rfl ?_
        refine V_aload 59 C 0 dX11_change_59 rfl ?_
        obtain ⟨g15, h⟩ := chk_some h
        refine V_numN 61 C dX11_change_61 wk_8_198 (of_decide_eq_true g15) ?_
        refine V_aload_n 64 C 1 dX11_change_64 rfl ?_
        refine V_get (v := .ref (gad G 1)) 65 C dX11_change_65 (ltl (by rfl) rfl) (ceR_X11 (by rfl)) rfl inX11 0 rfl wk_2_27 rfl rfl ?_
        refine V_aload 68 C 0 dX11_change_68 rfl ?_
        refine V_aload_n 70 C 2 dX11_change_70 rfl ?_
        refine V_iload_n 71 C 3 dX11_change_71 rfl ?_
        obtain ⟨g16, h⟩ := chk_some h
        obtain ⟨r19, M17, k18, h⟩ := bindM_some h
        refine V_callI 72 (runVN (k := 1) (rest := [.int (rnum r3), .ref (gad G 0)]) 72 C (kX3_detailOf (by rfl) (of_decide_eq_true g16) hp0 k18) cf_X3_detailOf wk_3_136 (ltl (by rfl) rfl) (ceR_X3 (by rfl)) rfl rfl rfl rfl dX11_change_72 rfl rfl (Nat.le_of_ble_eq_true rfl) (Nat.le_of_ble_eq_true rfl)) ?_
        refine V_iconst 75 C dX11_change_75 icm1 ?_
        obtain ⟨M20, k21, h⟩ := bindV_some h
        refine V_callV 76 (runVO (k := 0) (rest := []) 76 C (kX11_keepDenial  k21) cf_X11_keepDenial wk_3_147 (ltl (by rfl) rfl) (ceR_X11 (by rfl)) rfl rfl rfl rfl dX11_change_76 rfl rfl (Nat.le_of_ble_eq_true rfl) (Nat.le_of_ble_eq_true rfl)) ?_
        exact V_thrW (text := "denied") 79 C T hQ 3 h (by decide) xk_3 xi_3 atS3 fitS3 dX11_change_79 dX11_change_82 dX11_change_83 dX11_change_86 dX11_change_89 rfl
    · replace h := ite_t c6 h
      exact V_thrW (text := "a value is out of range") 39 C T hQ 2 h (by decide) xk_2 xi_2 atS2 fitS2 dX11_change_39 dX11_change_42 dX11_change_43 dX11_change_46 dX11_change_49 rfl
  · replace h := ite_t c4 h
    exact V_thrW (text := "there is no such shelf or stop") 20 C T hQ 1 h (by decide) xk_1 xi_1 atS1 fitS1 dX11_change_20 dX11_change_23 dX11_change_24 dX11_change_27 dX11_change_30 rfl
set_option maxHeartbeats 4000000 in
theorem kX11_addShelf {G : GG} {l : Launch} (hl : l.stackTraces = false) {F : Nat}  {p0 : Int32} {M M' : Mem} {res : Int32 ⊕ Nat} (h : fX11_addShelf F p0 M = some (res, M')) : ConX G l yX11_addShelf cX11_addShelf 2 (some .int) rmX11_addShelf [.ref (gad G 0), .int p0] M (QEX G id res M') (XIX G res M') 1 6 := by
  refine conX_of hl pnX11 (Nat.le_of_ble_eq_true rfl) (fun κ C T hQ => ?_)
  unfold fX11_addShelf at h
  refine V_L (L1 := [(0, .ref (gad G 0)), (1, .int p0)]) rfl ?_
  refine V_aload_n 0 C 0 dX11_addShelf_0 rfl ?_
  refine V_gsv 1 C dX11_addShelf_1 0 rfl wk_2_206 ?_
  refine V_iload_n 4 C 1 dX11_addShelf_4 rfl ?_
  refine V_iconst 5 C dX11_addShelf_5 ic0 ?_
  obtain ⟨y4, M1, k2, hx5, hk6⟩ := bindX_some h
  refine V_callXI (mc1 := 1) (ms1 := 6) (α := Int32) (enc := id) 6 C T hQ (runXO (k := 0) (rest := []) 6 C (kX11_change (cxL T) (by decide) k2) cf_X11_change wk_2_207 (ltl (by rfl) rfl) (ceR_X11 (by rfl)) rfl rfl rfl rfl dX11_addShelf_6 rfl rfl (Nat.le_of_ble_eq_true rfl) (Nat.le_of_ble_eq_true rfl)) hx5 rfl rfl (fun r3 e7 => ?_)
  replace h := hk6 r3 e7
  exact V_iretX 9 C hQ h rfl rfl dX11_addShelf_9
set_option maxHeartbeats 4000000 in
theorem kX11_link {G : GG} {l : Launch} (hl : l.stackTraces = false) {F : Nat}  {p0 : Int32} {p1 : Int32} {M M' : Mem} {res : Int32 ⊕ Nat} (h : fX11_link F p0 p1 M = some (res, M')) : ConX G l yX11_link cX11_link 3 (some .int) rmX11_link [.ref (gad G 0), .int p0, .int p1] M (QEX G id res M') (XIX G res M') 1 6 := by
  refine conX_of hl pnX11 (Nat.le_of_ble_eq_true rfl) (fun κ C T hQ => ?_)
  unfold fX11_link at h
  refine V_L (L1 := [(0, .ref (gad G 0)), (1, .int p0), (2, .int p1)]) rfl ?_
  refine V_aload_n 0 C 0 dX11_link_0 rfl ?_
  refine V_gsv 1 C dX11_link_1 1 rfl wk_4_80 ?_
  refine V_iload_n 4 C 1 dX11_link_4 rfl ?_
  refine V_iload_n 5 C 2 dX11_link_5 rfl ?_
  obtain ⟨y4, M1, k2, hx5, hk6⟩ := bindX_some h
  refine V_callXI (mc1 := 1) (ms1 := 6) (α := Int32) (enc := id) 6 C T hQ (runXO (k := 0) (rest := []) 6 C (kX11_change (cxL T) (by decide) k2) cf_X11_change wk_2_207 (ltl (by rfl) rfl) (ceR_X11 (by rfl)) rfl rfl rfl rfl dX11_link_6 rfl rfl (Nat.le_of_ble_eq_true rfl) (Nat.le_of_ble_eq_true rfl)) hx5 rfl rfl (fun r3 e7 => ?_)
  replace h := hk6 r3 e7
  exact V_iretX 9 C hQ h rfl rfl dX11_link_9
set_option maxHeartbeats 4000000 in
theorem kX11_unlink {G : GG} {l : Launch} (hl : l.stackTraces = false) {F : Nat}  {p0 : Int32} {p1 : Int32} {M M' : Mem} {res : Int32 ⊕ Nat} (h : fX11_unlink F p0 p1 M = some (res, M')) : ConX G l yX11_unlink cX11_unlink 3 (some .int) rmX11_unlink [.ref (gad G 0), .int p0, .int p1] M (QEX G id res M') (XIX G res M') 1 6 := by
  refine conX_of hl pnX11 (Nat.le_of_ble_eq_true rfl) (fun κ C T hQ => ?_)
  unfold fX11_unlink at h
  refine V_L (L1 := [(0, .ref (gad G 0)), (1, .int p0), (2, .int p1)]) rfl ?_
  refine V_aload_n 0 C 0 dX11_unlink_0 rfl ?_
  refine V_gsv 1 C dX11_unlink_1 2 rfl wk_4_89 ?_
  refine V_iload_n 4 C 1 dX11_unlink_4 rfl ?_
  refine V_iload_n 5 C 2 dX11_unlink_5 rfl ?_
  obtain ⟨y4, M1, k2, hx5, hk6⟩ := bindX_some h
  refine V_callXI (mc1 := 1) (ms1 := 6) (α := Int32) (enc := id) 6 C T hQ (runXO (k := 0) (rest := []) 6 C (kX11_change (cxL T) (by decide) k2) cf_X11_change wk_2_207 (ltl (by rfl) rfl) (ceR_X11 (by rfl)) rfl rfl rfl rfl dX11_unlink_6 rfl rfl (Nat.le_of_ble_eq_true rfl) (Nat.le_of_ble_eq_true rfl)) hx5 rfl rfl (fun r3 e7 => ?_)
  replace h := hk6 r3 e7
  exact V_iretX 9 C hQ h rfl rfl dX11_unlink_9
set_option maxHeartbeats 4000000 in
theorem kX11_setBlind {G : GG} {l : Launch} (hl : l.stackTraces = false) {F : Nat}  {p0 : Int32} {p1 : Bool} {M M' : Mem} {res : Int32 ⊕ Nat} (h : fX11_setBlind F p0 p1 M = some (res, M')) : ConX G l yX11_setBlind cX11_setBlind 3 (some .int) rmX11_setBlind [.ref (gad G 0), .int p0, .int (b2i p1)] M (QEX G id res M') (XIX G res M') 1 6 := by
  refine conX_of hl pnX11 (Nat.le_of_ble_eq_true rfl) (fun κ C T hQ => ?_)
  unfold fX11_setBlind at h
  refine V_L (L1 := [(0, .ref (gad G 0)), (1, .int p0), (2, .int (b2i p1))]) rfl ?_
  refine V_aload_n 0 C 0 dX11_setBlind_0 rfl ?_
  refine V_iload_n 1 C 2 dX11_setBlind_1 rfl ?_
  refine V_ifeq_b 2 11 C dX11_setBlind_2 (by decide) (fun c1 => ?_) (fun c1 => ?_)
  · replace h := ite_f c1 h
    refine V_gsv 11 C dX11_setBlind_11 4 rfl wk_4_99 ?_
    refine V_iload_n 14 C 1 dX11_setBlind_14 rfl ?_
    refine V_iconst 15 C dX11_setBlind_15 ic0 ?_
    obtain ⟨y5, M2, k3, hx6, hk7⟩ := bindX_some h
    refine V_callXI (mc1 := 1) (ms1 := 6) (α := Int32) (enc := id) 16 C T hQ (runXO (k := 0) (rest := []) 16 C (kX11_change (cxL T) (by decide) k3) cf_X11_change wk_2_207 (ltl (by rfl) rfl) (ceR_X11 (by rfl)) rfl rfl rfl rfl dX11_setBlind_16 rfl rfl (Nat.le_of_ble_eq_true rfl) (Nat.le_of_ble_eq_true rfl)) hx6 rfl rfl (fun r4 e8 => ?_)
    replace h := hk7 r4 e8
    exact V_iretX 19 C hQ h rfl rfl dX11_setBlind_19
  · replace h := ite_t c1 h
    refine V_gsv 5 C dX11_setBlind_5 3 rfl wk_4_98 ?_
    refine V_goto 8 14 C dX11_setBlind_8 (by decide) ?_
    refine V_iload_n 14 C 1 dX11_setBlind_14 rfl ?_
    refine V_iconst 15 C dX11_setBlind_15 ic0 ?_
    obtain ⟨y12, M9, k10, hx13, hk14⟩ := bindX_some h
    refine V_callXI (mc1 := 1) (ms1 := 6) (α := Int32) (enc := id) 16 C T hQ (runXO (k := 0) (rest := []) 16 C (kX11_change (cxL T) (by decide) k10) cf_X11_change wk_2_207 (ltl (by rfl) rfl) (ceR_X11 (by rfl)) rfl rfl rfl rfl dX11_setBlind_16 rfl rfl (Nat.le_of_ble_eq_true rfl) (Nat.le_of_ble_eq_true rfl)) hx13 rfl rfl (fun r11 e15 => ?_)
    replace h := hk14 r11 e15
    exact V_iretX 19 C hQ h rfl rfl dX11_setBlind_19
set_option maxHeartbeats 4000000 in
theorem kX11_fill {G : GG} {l : Launch} (hl : l.stackTraces = false) {F : Nat}  {p0 : Int32} {p1 : Int32} {M M' : Mem} {res : Int32 ⊕ Nat} (h : fX11_fill F p0 p1 M = some (res, M')) : ConX G l yX11_fill cX11_fill 3 (some .int) rmX11_fill [.ref (gad G 0), .int p0, .int p1] M (QEX G id res M') (XIX G res M') 1 6 := by
  refine conX_of hl pnX11 (Nat.le_of_ble_eq_true rfl) (fun κ C T hQ => ?_)
  unfold fX11_fill at h
  refine V_L (L1 := [(0, .ref (gad G 0)), (1, .int p0), (2, .int p1)]) rfl ?_
  refine V_aload_n 0 C 0 dX11_fill_0 rfl ?_
  refine V_gsv 1 C dX11_fill_1 5 rfl wk_4_108 ?_
  refine V_iload_n 4 C 1 dX11_fill_4 rfl ?_
  refine V_iload_n 5 C 2 dX11_fill_5 rfl ?_
  obtain ⟨y4, M1, k2, hx5, hk6⟩ := bindX_some h
  refine V_callXI (mc1 := 1) (ms1 := 6) (α := Int32) (enc := id) 6 C T hQ (runXO (k := 0) (rest := []) 6 C (kX11_change (cxL T) (by decide) k2) cf_X11_change wk_2_207 (ltl (by rfl) rfl) (ceR_X11 (by rfl)) rfl rfl rfl rfl dX11_fill_6 rfl rfl (Nat.le_of_ble_eq_true rfl) (Nat.le_of_ble_eq_true rfl)) hx5 rfl rfl (fun r3 e7 => ?_)
  replace h := hk6 r3 e7
  exact V_iretX 9 C hQ h rfl rfl dX11_fill_9
set_option maxHeartbeats 4000000 in
theorem kX11_requireShelf {G : GG} {l : Launch} (hl : l.stackTraces = false) {F : Nat}  {p0 : Int32} {M M' : Mem} {res : Unit ⊕ Nat} (h : fX11_requireShelf F p0 M = some (res, M')) : ConX G l yX11_requireShelf cX11_requireShelf 2 none rmX11_requireShelf [.ref (gad G 0), .int p0] M (QVX G res M') (XIX G res M') 1 6 := by
  refine conX_of hl pnX11 (Nat.le_of_ble_eq_true rfl) (fun κ C T hQ => ?_)
  unfold fX11_requireShelf at h
  refine V_L (L1 := [(0, .ref (gad G 0)), (1, .int p0)]) rfl ?_
  refine V_aload_n 0 C 0 dX11_requireShelf_0 rfl ?_
  refine V_get (v := .ref (gad G 1)) 1 C dX11_requireShelf_1 (ltl (by rfl) rfl) (ceR_X11 (by rfl)) rfl inX11 0 rfl wk_2_27 rfl rfl ?_
  refine V_getN (v := .ref (gad G 2)) 4 C dX11_requireShelf_4 (ltl (by rfl) rfl) (ceR_X3 (by rfl)) rfl inX3 0 rfl wk_1_141 rfl rfl ?_
  refine V_iload_n 7 C 1 dX11_requireShelf_7 rfl ?_
  obtain ⟨r3, M1, k2, h⟩ := bindM_some h
  refine V_callI 8 (runVN (k := 2) (rest := []) 8 C (kX9_has (by rfl) k2) cf_X9_has wk_4_121 (ltl (by rfl) rfl) (ceR_X9 (by rfl)) rfl rfl rfl rfl dX11_requireShelf_8 rfl rfl (Nat.le_of_ble_eq_true rfl) (Nat.le_of_ble_eq_true rfl)) ?_
  refine V_ifne_b 11 25 C dX11_requireShelf_11 (by decide) (fun c4 => ?_) (fun c4 => ?_)
  · replace h := ite_t c4 h
    exact V_vretX 25 C hQ h rfl rfl dX11_requireShelf_25
  · replace h := ite_f c4 h
    exact V_thrW (text := "there is no such shelf") 14 C T hQ 1 h (by decide) xk_1 xi_1 atS1 fitS1 dX11_requireShelf_14 dX11_requireShelf_17 dX11_requireShelf_18 dX11_requireShelf_21 dX11_requireShelf_24 rfl
set_option maxHeartbeats 4000000 in
theorem kX11_cheese {G : GG} {l : Launch} (hl : l.stackTraces = false) {F : Nat}  {p0 : Int32} {M M' : Mem} {res : Int32 ⊕ Nat} (h : fX11_cheese F p0 M = some (res, M')) : ConX G l yX11_cheese cX11_cheese 2 (some .int) rmX11_cheese [.ref (gad G 0), .int p0] M (QEX G id res M') (XIX G res M') 1 6 := by
  refine conX_of hl pnX11 (Nat.le_of_ble_eq_true rfl) (fun κ C T hQ => ?_)
  unfold fX11_cheese at h
  refine V_L (L1 := [(0, .ref (gad G 0)), (1, .int p0)]) rfl ?_
  refine V_aload_n 0 C 0 dX11_cheese_0 rfl ?_
  refine V_iload_n 1 C 1 dX11_cheese_1 rfl ?_
  obtain ⟨y4, M1, k2, hx5, hk6⟩ := bindX_some h
  refine V_callXV (mc1 := 1) (ms1 := 6) 2 C T hQ (runXO (k := 0) (rest := []) 2 C (kX11_requireShelf (cxL T)  k2) cf_X11_requireShelf wk_4_117 (ltl (by rfl) rfl) (ceR_X11 (by rfl)) rfl rfl rfl rfl dX11_cheese_2 rfl rfl (Nat.le_of_ble_eq_true rfl) (Nat.le_of_ble_eq_true rfl)) hx5 rfl rfl (fun r3 e7 => ?_)
  replace h := hk6 r3 e7
  refine V_aload_n 5 C 0 dX11_cheese_5 rfl ?_
  refine V_get (v := .ref (gad G 1)) 6 C dX11_cheese_6 (ltl (by rfl) rfl) (ceR_X11 (by rfl)) rfl inX11 0 rfl wk_2_27 rfl rfl ?_
  refine V_getN (v := .ref (gad G 2)) 9 C dX11_cheese_9 (ltl (by rfl) rfl) (ceR_X3 (by rfl)) rfl inX3 0 rfl wk_1_141 rfl rfl ?_
  refine V_getN (v := .ref (gad G 3)) 12 C dX11_cheese_12 (ltl (by rfl) rfl) (ceR_X9 (by rfl)) rfl inX9 0 rfl wk_1_54 rfl rfl ?_
  refine V_iload_n 15 C 1 dX11_cheese_15 rfl ?_
  obtain ⟨r10, M8, k9, h⟩ := bindM_some h
  refine V_callI 16 (runSO (rest := []) 16 C (kX11_at (akI_20 (by rfl)) k9) cf_X11_at wk_4_123 rfl rfl dX11_cheese_16 rfl rfl (Nat.le_of_ble_eq_true rfl) (Nat.le_of_ble_eq_true rfl)) ?_
  exact V_iretX 19 C hQ h rfl rfl dX11_cheese_19
set_option maxHeartbeats 4000000 in
theorem kX11_isBlind {G : GG} {l : Launch} (hl : l.stackTraces = false) {F : Nat}  {p0 : Int32} {M M' : Mem} {res : Bool ⊕ Nat} (h : fX11_isBlind F p0 M = some (res, M')) : ConX G l yX11_isBlind cX11_isBlind 2 (some .boolean) rmX11_isBlind [.ref (gad G 0), .int p0] M (QEX G b2i res M') (XIX G res M') 1 6 := by
  refine conX_of hl pnX11 (Nat.le_of_ble_eq_true rfl) (fun κ C T hQ => ?_)
  unfold fX11_isBlind at h
  refine V_L (L1 := [(0, .ref (gad G 0)), (1, .int p0)]) rfl ?_
  refine V_aload_n 0 C 0 dX11_isBlind_0 rfl ?_
  refine V_iload_n 1 C 1 dX11_isBlind_1 rfl ?_
  obtain ⟨y4, M1, k2, hx5, hk6⟩ := bindX_some h
  refine V_callXV (mc1 := 1) (ms1 := 6) 2 C T hQ (runXO (k := 0) (rest := []) 2 C (kX11_requireShelf (cxL T)  k2) cf_X11_requireShelf wk_4_117 (ltl (by rfl) rfl) (ceR_X11 (by rfl)) rfl rfl rfl rfl dX11_isBlind_2 rfl rfl (Nat.le_of_ble_eq_true rfl) (Nat.le_of_ble_eq_true rfl)) hx5 rfl rfl (fun r3 e7 => ?_)
  replace h := hk6 r3 e7
  refine V_aload_n 5 C 0 dX11_isBlind_5 rfl ?_
  refine V_get (v := .ref (gad G 1)) 6 C dX11_isBlind_6 (ltl (by rfl) rfl) (ceR_X11 (by rfl)) rfl inX11 0 rfl wk_2_27 rfl rfl ?_
  refine V_getN (v := .ref (gad G 2)) 9 C dX11_isBlind_9 (ltl (by rfl) rfl) (ceR_X3 (by rfl)) rfl inX3 0 rfl wk_1_141 rfl rfl ?_
  refine V_getN (v := .int (M1 2 2)) 12 C dX11_isBlind_12 (ltl (by rfl) rfl) (ceR_X9 (by rfl)) rfl inX9 2 rfl wk_1_61 rfl rfl ?_
  refine V_iload_n 15 C 1 dX11_isBlind_15 rfl ?_
  obtain ⟨r10, M8, k9, h⟩ := bindM_some h
  refine V_callI 16 (runSO (rest := []) 16 C (kX11_holds  k9) cf_X11_holds wk_4_131 rfl rfl dX11_isBlind_16 rfl rfl (Nat.le_of_ble_eq_true rfl) (Nat.le_of_ble_eq_true rfl)) ?_
  exact V_zretX 19 C hQ h rfl rfl dX11_isBlind_19
set_option maxHeartbeats 4000000 in
theorem kX11_neighbourCount {G : GG} {l : Launch} (hl : l.stackTraces = false) {F : Nat}  {p0 : Int32} {M M' : Mem} {res : Int32 ⊕ Nat} (h : fX11_neighbourCount F p0 M = some (res, M')) : ConX G l yX11_neighbourCount cX11_neighbourCount 2 (some .int) rmX11_neighbourCount [.ref (gad G 0), .int p0] M (QEX G id res M') (XIX G res M') 1 6 := by
  refine conX_of hl pnX11 (Nat.le_of_ble_eq_true rfl) (fun κ C T hQ => ?_)
  unfold fX11_neighbourCount at h
  refine V_L (L1 := [(0, .ref (gad G 0)), (1, .int p0)]) rfl ?_
  refine V_aload_n 0 C 0 dX11_neighbourCount_0 rfl ?_
  refine V_iload_n 1 C 1 dX11_neighbourCount_1 rfl ?_
  obtain ⟨y4, M1, k2, hx5, hk6⟩ := bindX_some h
  refine V_callXV (mc1 := 1) (ms1 := 6) 2 C T hQ (runXO (k := 0) (rest := []) 2 C (kX11_requireShelf (cxL T)  k2) cf_X11_requireShelf wk_4_117 (ltl (by rfl) rfl) (ceR_X11 (by rfl)) rfl rfl rfl rfl dX11_neighbourCount_2 rfl rfl (Nat.le_of_ble_eq_true rfl) (Nat.le_of_ble_eq_true rfl)) hx5 rfl rfl (fun r3 e7 => ?_)
  replace h := hk6 r3 e7
  refine V_aload_n 5 C 0 dX11_neighbourCount_5 rfl ?_
  refine V_get (v := .ref (gad G 1)) 6 C dX11_neighbourCount_6 (ltl (by rfl) rfl) (ceR_X11 (by rfl)) rfl inX11 0 rfl wk_2_27 rfl rfl ?_
  refine V_getN (v := .ref (gad G 2)) 9 C dX11_neighbourCount_9 (ltl (by rfl) rfl) (ceR_X3 (by rfl)) rfl inX3 0 rfl wk_1_141 rfl rfl ?_
  refine V_getN (v := .ref (gad G 4)) 12 C dX11_neighbourCount_12 (ltl (by rfl) rfl) (ceR_X9 (by rfl)) rfl inX9 1 rfl wk_1_57 rfl rfl ?_
  refine V_iload_n 15 C 1 dX11_neighbourCount_15 rfl ?_
  obtain ⟨r10, M8, k9, h⟩ := bindM_some h
  refine V_callI 16 (runSO (rest := []) 16 C (kX11_at (akI_20 (by rfl)) k9) cf_X11_at wk_4_123 rfl rfl dX11_neighbourCount_16 rfl rfl (Nat.le_of_ble_eq_true rfl) (Nat.le_of_ble_eq_true rfl)) ?_
  refine V_bcX 19 C dX11_neighbourCount_19 wk_4_139 rfl rfl (Nat.le_of_ble_eq_true rfl) (Nat.le_of_ble_eq_true rfl) ?_
  exact V_iretX 22 C hQ h rfl rfl dX11_neighbourCount_22
set_option maxHeartbeats 4000000 in
theorem kX11_distance {G : GG} {l : Launch} (hl : l.stackTraces = false) {F : Nat}  {p0 : Int32} {p1 : Int32} {M M' : Mem} {res : Int32 ⊕ Nat} (h : fX11_distance F p0 p1 M = some (res, M')) : ConX G l yX11_distance cX11_distance 4 (some .int) rmX11_distance [.ref (gad G 0), .int p0, .int p1] M (QEX G id res M') (XIX G res M') 3 18 := by
  refine conX_of hl pnX11 (Nat.le_of_ble_eq_true rfl) (fun κ C T hQ => ?_)
  unfold fX11_distance at h
  refine V_L (L1 := [(0, .ref (gad G 0)), (1, .int p0), (2, .int p1)]) rfl ?_
  refine V_aload_n 0 C 0 dX11_distance_0 rfl ?_
  refine V_iload_n 1 C 1 dX11_distance_1 rfl ?_
  obtain ⟨y4, M1, k2, hx5, hk6⟩ := bindX_some h
  refine V_callXV (mc1 := 1) (ms1 := 6) 2 C T hQ (runXO (k := 0) (rest := []) 2 C (kX11_requireShelf (cxL T)  k2) cf_X11_requireShelf wk_4_117 (ltl (by rfl) rfl) (ceR_X11 (by rfl)) rfl rfl rfl rfl dX11_distance_2 rfl rfl (Nat.le_of_ble_eq_true rfl) (Nat.le_of_ble_eq_true rfl)) hx5 rfl rfl (fun r3 e7 => ?_)
  replace h := hk6 r3 e7
  refine V_aload_n 5 C 0 dX11_distance_5 rfl ?_
  refine V_iload_n 6 C 2 dX11_distance_6 rfl ?_
  obtain ⟨y11, M8, k9, hx12, hk13⟩ := bindX_some h
  refine V_callXV (mc1 := 1) (ms1 := 6) 7 C T hQ (runXO (k := 0) (rest := []) 7 C (kX11_requireShelf (cxL T)  k9) cf_X11_requireShelf wk_4_117 (ltl (by rfl) rfl) (ceR_X11 (by rfl)) rfl rfl rfl rfl dX11_distance_7 rfl rfl (Nat.le_of_ble_eq_true rfl) (Nat.le_of_ble_eq_true rfl)) hx12 rfl rfl (fun r10 e14 => ?_)
  replace h := hk13 r10 e14
  refine V_aload_n 10 C 0 dX11_distance_10 rfl ?_
  refine V_get (v := .ref (gad G 1)) 11 C dX11_distance_11 (ltl (by rfl) rfl) (ceR_X11 (by rfl)) rfl inX11 0 rfl wk_2_27 rfl rfl ?_
  refine V_getN (v := .ref (gad G 2)) 14 C dX11_distance_14 (ltl (by rfl) rfl) (ceR_X3 (by rfl)) rfl inX3 0 rfl wk_1_141 rfl rfl ?_
  refine V_iload_n 17 C 1 dX11_distance_17 rfl ?_
  refine V_iload_n 18 C 2 dX11_distance_18 rfl ?_
  obtain ⟨r17, M15, k16, h⟩ := bindM_some h
  refine V_callI 19 (runVN (k := 2) (rest := []) 19 C (kX9_stepsBetween (by rfl) k16) cf_X9_stepsBetween wk_4_148 (ltl (by rfl) rfl) (ceR_X9 (by rfl)) rfl rfl rfl rfl dX11_distance_19 rfl rfl (Nat.le_of_ble_eq_true rfl) (Nat.le_of_ble_eq_true rfl)) ?_
  refine V_istore_n 22 C [(3, .int r17), (0, .ref (gad G 0)), (1, .int p0), (2, .int p1)] dX11_distance_22 rfl rfl rfl ?_
  refine V_iload_n 23 C 0 dX11_distance_23 rfl ?_
  refine V_iconst 24 C dX11_distance_24 icm1 ?_
  refine V_icmp_ne 25 38 C dX11_distance_25 (by decide) (fun c18 => ?_) (fun c18 => ?_)
  · replace h := ite_f c18 h
    refine V_iload_n 38 C 0 dX11_distance_38 rfl ?_
    exact V_iretX 39 C hQ h rfl rfl dX11_distance_39
  · replace h := ite_t c18 h
    exact V_thrN (text := "no way leads from one shelf to the other") 28 C T hQ 4 h (by decide) xk_4 xi_4 atS4 fitS4 dX11_distance_28 dX11_distance_31 dX11_distance_32 dX11_distance_34 dX11_distance_37 rfl
set_option maxHeartbeats 4000000 in
theorem kX11_distanceByTable {G : GG} {l : Launch} (hl : l.stackTraces = false) {F : Nat}  {p0 : Int32} {p1 : Int32} {M M' : Mem} {res : Int32 ⊕ Nat} (h : fX11_distanceByTable F p0 p1 M = some (res, M')) : ConX G l yX11_distanceByTable cX11_distanceByTable 4 (some .int) rmX11_distanceByTable [.ref (gad G 0), .int p0, .int p1] M (QEX G id res M') (XIX G res M') 3 18 := by
  refine conX_of hl pnX11 (Nat.le_of_ble_eq_true rfl) (fun κ C T hQ => ?_)
  unfold fX11_distanceByTable at h
  refine V_L (L1 := [(0, .ref (gad G 0)), (1, .int p0), (2, .int p1)]) rfl ?_
  refine V_aload_n 0 C 0 dX11_distanceByTable_0 rfl ?_
  refine V_iload_n 1 C 1 dX11_distanceByTable_1 rfl ?_
  obtain ⟨y4, M1, k2, hx5, hk6⟩ := bindX_some h
  refine V_callXV (mc1 := 1) (ms1 := 6) 2 C T hQ (runXO (k := 0) (rest := []) 2 C (kX11_requireShelf (cxL T)  k2) cf_X11_requireShelf wk_4_117 (ltl (by rfl) rfl) (ceR_X11 (by rfl)) rfl rfl rfl rfl dX11_distanceByTable_2 rfl rfl (Nat.le_of_ble_eq_true rfl) (Nat.le_of_ble_eq_true rfl)) hx5 rfl rfl (fun r3 e7 => ?_)
  replace h := hk6 r3 e7
  refine V_aload_n 5 C 0 dX11_distanceByTable_5 rfl ?_
  refine V_iload_n 6 C 2 dX11_distanceByTable_6 rfl ?_
  obtain ⟨y11, M8, k9, hx12, hk13⟩ := bindX_some h
  refine V_callXV (mc1 := 1) (ms1 := 6) 7 C T hQ (runXO (k := 0) (rest := []) 7 C (kX11_requireShelf (cxL T)  k9) cf_X11_requireShelf wk_4_117 (ltl (by rfl) rfl) (ceR_X11 (by rfl)) rfl rfl rfl rfl dX11_distanceByTable_7 rfl rfl (Nat.le_of_ble_eq_true rfl) (Nat.le_of_ble_eq_true rfl)) hx12 rfl rfl (fun r10 e14 => ?_)
  replace h := hk13 r10 e14
  refine V_aload_n 10 C 0 dX11_distanceByTable_10 rfl ?_
  refine V_get (v := .ref (gad G 113)) 11 C dX11_distanceByTable_11 (ltl (by rfl) rfl) (ceR_X11 (by rfl)) rfl inX11 5 rfl wk_2_32 rfl rfl ?_
  refine V_aload_n 14 C 0 dX11_distanceByTable_14 rfl ?_
  refine V_get (v := .ref (gad G 1)) 15 C dX11_distanceByTable_15 (ltl (by rfl) rfl) (ceR_X11 (by rfl)) rfl inX11 0 rfl wk_2_27 rfl rfl ?_
  refine V_getN (v := .ref (gad G 2)) 18 C dX11_distanceByTable_18 (ltl (by rfl) rfl) (ceR_X3 (by rfl)) rfl inX3 0 rfl wk_1_141 rfl rfl ?_
  refine V_iload_n 21 C 1 dX11_distanceByTable_21 rfl ?_
  refine V_iload_n 22 C 2 dX11_distanceByTable_22 rfl ?_
  obtain ⟨r17, M15, k16, h⟩ := bindM_some h
  refine V_callI 23 (runVN (k := 113) (rest := []) 23 C (kX1_stepsBetween (by rfl) (by rfl) k16) cf_X1_stepsBetween wk_4_175 (ltl (by rfl) rfl) (ceR_X1 (by rfl)) rfl rfl rfl rfl dX11_distanceByTable_23 rfl rfl (Nat.le_of_ble_eq_true rfl) (Nat.le_of_ble_eq_true rfl)) ?_
  refine V_istore_n 26 C [(3, .int r17), (0, .ref (gad G 0)), (1, .int p0), (2, .int p1)] dX11_distanceByTable_26 rfl rfl rfl ?_
  refine V_iload_n 27 C 0 dX11_distanceByTable_27 rfl ?_
  refine V_sipush 28 C dX11_distanceByTable_28 sp1000 ?_
  refine V_icmp_lt 31 44 C dX11_distanceByTable_31 (by decide) (fun c18 => ?_) (fun c18 => ?_)
  · replace h := ite_t c18 h
    refine V_iload_n 44 C 0 dX11_distanceByTable_44 rfl ?_
    exact V_iretX 45 C hQ h rfl rfl dX11_distanceByTable_45
  · replace h := ite_f c18 h
    exact V_thrN (text := "no way leads from one shelf to the other") 34 C T hQ 4 h (by decide) xk_4 xi_4 atS4 fitS4 dX11_distanceByTable_34 dX11_distanceByTable_37 dX11_distanceByTable_38 dX11_distanceByTable_40 dX11_distanceByTable_43 rfl
set_option maxHeartbeats 4000000 in
theorem kX11_shelfByCheese {G : GG} {l : Launch} (hl : l.stackTraces = false) {F : Nat}  {p0 : Int32} {M M' : Mem} {res : Int32 ⊕ Nat} (h : fX11_shelfByCheese F p0 M = some (res, M')) : ConX G l yX11_shelfByCheese cX11_shelfByCheese 3 (some .int) rmX11_shelfByCheese [.ref (gad G 0), .int p0] M (QEX G id res M') (XIX G res M') 1 6 := by
  refine conX_of hl pnX11 (Nat.le_of_ble_eq_true rfl) (fun κ C T hQ => ?_)
  unfold fX11_shelfByCheese at h
  refine V_L (L1 := [(0, .ref (gad G 0)), (1, .int p0)]) rfl ?_
  refine V_aload_n 0 C 0 dX11_shelfByCheese_0 rfl ?_
  refine V_get (v := .ref (gad G 1)) 1 C dX11_shelfByCheese_1 (ltl (by rfl) rfl) (ceR_X11 (by rfl)) rfl inX11 0 rfl wk_2_27 rfl rfl ?_
  refine V_getN (v := .ref (gad G 2)) 4 C dX11_shelfByCheese_4 (ltl (by rfl) rfl) (ceR_X3 (by rfl)) rfl inX3 0 rfl wk_1_141 rfl rfl ?_
  refine V_iload_n 7 C 1 dX11_shelfByCheese_7 rfl ?_
  obtain ⟨r3, M1, k2, h⟩ := bindM_some h
  refine V_callI 8 (runVN (k := 2) (rest := []) 8 C (kX9_shelfAtRank (by rfl) k2) cf_X9_shelfAtRank wk_4_202 (ltl (by rfl) rfl) (ceR_X9 (by rfl)) rfl rfl rfl rfl dX11_shelfByCheese_8 rfl rfl (Nat.le_of_ble_eq_true rfl) (Nat.le_of_ble_eq_true rfl)) ?_
  refine V_istore_n 11 C [(2, .int r3), (0, .ref (gad G 0)), (1, .int p0)] dX11_shelfByCheese_11 rfl rfl rfl ?_
  refine V_iload_n 12 C 0 dX11_shelfByCheese_12 rfl ?_
  refine V_iconst 13 C dX11_shelfByCheese_13 icm1 ?_
  refine V_icmp_ne 14 27 C dX11_shelfByCheese_14 (by decide) (fun c4 => ?_) (fun c4 => ?_)
  · replace h := ite_f c4 h
    refine V_iload_n 27 C 0 dX11_shelfByCheese_27 rfl ?_
    exact V_iretX 28 C hQ h rfl rfl dX11_shelfByCheese_28
  · replace h := ite_t c4 h
    exact V_thrN (text := "there is no such rank") 17 C T hQ 4 h (by decide) xk_4 xi_4 atS4 fitS4 dX11_shelfByCheese_17 dX11_shelfByCheese_20 dX11_shelfByCheese_21 dX11_shelfByCheese_23 dX11_shelfByCheese_26 rfl
set_option maxHeartbeats 4000000 in
theorem kX11_addStop {G : GG} {l : Launch} (hl : l.stackTraces = false) {F : Nat}  {p0 : Int32} {M M' : Mem} {res : Int32 ⊕ Nat} (h : fX11_addStop F p0 M = some (res, M')) : ConX G l yX11_addStop cX11_addStop 2 (some .int) rmX11_addStop [.ref (gad G 0), .int p0] M (QEX G id res M') (XIX G res M') 1 6 := by
  refine conX_of hl pnX11 (Nat.le_of_ble_eq_true rfl) (fun κ C T hQ => ?_)
  unfold fX11_addStop at h
  refine V_L (L1 := [(0, .ref (gad G 0)), (1, .int p0)]) rfl ?_
  refine V_aload_n 0 C 0 dX11_addStop_0 rfl ?_
  refine V_gsv 1 C dX11_addStop_1 6 rfl wk_4_218 ?_
  refine V_iload_n 4 C 1 dX11_addStop_4 rfl ?_
  refine V_iconst 5 C dX11_addStop_5 ic0 ?_
  obtain ⟨y4, M1, k2, hx5, hk6⟩ := bindX_some h
  refine V_callXI (mc1 := 1) (ms1 := 6) (α := Int32) (enc := id) 6 C T hQ (runXO (k := 0) (rest := []) 6 C (kX11_change (cxL T) (by decide) k2) cf_X11_change wk_2_207 (ltl (by rfl) rfl) (ceR_X11 (by rfl)) rfl rfl rfl rfl dX11_addStop_6 rfl rfl (Nat.le_of_ble_eq_true rfl) (Nat.le_of_ble_eq_true rfl)) hx5 rfl rfl (fun r3 e7 => ?_)
  replace h := hk6 r3 e7
  exact V_iretX 9 C hQ h rfl rfl dX11_addStop_9
set_option maxHeartbeats 4000000 in
theorem kX11_removeStop {G : GG} {l : Launch} (hl : l.stackTraces = false) {F : Nat}  {p0 : Int32} {M M' : Mem} {res : Int32 ⊕ Nat} (h : fX11_removeStop F p0 M = some (res, M')) : ConX G l yX11_removeStop cX11_removeStop 2 (some .int) rmX11_removeStop [.ref (gad G 0), .int p0] M (QEX G id res M') (XIX G res M') 1 6 := by
  refine conX_of hl pnX11 (Nat.le_of_ble_eq_true rfl) (fun κ C T hQ => ?_)
  unfold fX11_removeStop at h
  refine V_L (L1 := [(0, .ref (gad G 0)), (1, .int p0)]) rfl ?_
  refine V_aload_n 0 C 0 dX11_removeStop_0 rfl ?_
  refine V_gsv 1 C dX11_removeStop_1 7 rfl wk_4_227 ?_
  refine V_iload_n 4 C 1 dX11_removeStop_4 rfl ?_
  refine V_iconst 5 C dX11_removeStop_5 ic0 ?_
  obtain ⟨y4, M1, k2, hx5, hk6⟩ := bindX_some h
  refine V_callXI (mc1 := 1) (ms1 := 6) (α := Int32) (enc := id) 6 C T hQ (runXO (k := 0) (rest := []) 6 C (kX11_change (cxL T) (by decide) k2) cf_X11_change wk_2_207 (ltl (by rfl) rfl) (ceR_X11 (by rfl)) rfl rfl rfl rfl dX11_removeStop_6 rfl rfl (Nat.le_of_ble_eq_true rfl) (Nat.le_of_ble_eq_true rfl)) hx5 rfl rfl (fun r3 e7 => ?_)
  replace h := hk6 r3 e7
  exact V_iretX 9 C hQ h rfl rfl dX11_removeStop_9
set_option maxHeartbeats 4000000 in
theorem kX11_shelfOfStop {G : GG} {l : Launch} (hl : l.stackTraces = false) {F : Nat}  {p0 : Int32} {M M' : Mem} {res : Int32 ⊕ Nat} (h : fX11_shelfOfStop F p0 M = some (res, M')) : ConX G l yX11_shelfOfStop cX11_shelfOfStop 2 (some .int) rmX11_shelfOfStop [.ref (gad G 0), .int p0] M (QEX G id res M') (XIX G res M') 1 6 := by
  refine conX_of hl pnX11 (Nat.le_of_ble_eq_true rfl) (fun κ C T hQ => ?_)
  unfold fX11_shelfOfStop at h
  refine V_L (L1 := [(0, .ref (gad G 0)), (1, .int p0)]) rfl ?_
  refine V_aload_n 0 C 0 dX11_shelfOfStop_0 rfl ?_
  refine V_get (v := .ref (gad G 1)) 1 C dX11_shelfOfStop_1 (ltl (by rfl) rfl) (ceR_X11 (by rfl)) rfl inX11 0 rfl wk_2_27 rfl rfl ?_
  refine V_getN (v := .ref (gad G 5)) 4 C dX11_shelfOfStop_4 (ltl (by rfl) rfl) (ceR_X3 (by rfl)) rfl inX3 1 rfl wk_1_144 rfl rfl ?_
  refine V_iload_n 7 C 1 dX11_shelfOfStop_7 rfl ?_
  obtain ⟨r3, M1, k2, h⟩ := bindM_some h
  refine V_callI 8 (runVN (k := 5) (rest := []) 8 C (kX6_hasStop (by rfl) k2) cf_X6_hasStop wk_4_236 (ltl (by rfl) rfl) (ceR_X6 (by rfl)) rfl rfl rfl rfl dX11_shelfOfStop_8 rfl rfl (Nat.le_of_ble_eq_true rfl) (Nat.le_of_ble_eq_true rfl)) ?_
  refine V_ifne_b 11 24 C dX11_shelfOfStop_11 (by decide) (fun c4 => ?_) (fun c4 => ?_)
  · replace h := ite_t c4 h
    refine V_aload_n 24 C 0 dX11_shelfOfStop_24 rfl ?_
    refine V_get (v := .ref (gad G 1)) 25 C dX11_shelfOfStop_25 (ltl (by rfl) rfl) (ceR_X11 (by rfl)) rfl inX11 0 rfl wk_2_27 rfl rfl ?_
    refine V_getN (v := .ref (gad G 5)) 28 C dX11_shelfOfStop_28 (ltl (by rfl) rfl) (ceR_X3 (by rfl)) rfl inX3 1 rfl wk_1_144 rfl rfl ?_
    refine V_getN (v := .ref (gad G 6)) 31 C dX11_shelfOfStop_31 (ltl (by rfl) rfl) (ceR_X6 (by rfl)) rfl inX6 0 rfl wk_1_90 rfl rfl ?_
    refine V_iload_n 34 C 1 dX11_shelfOfStop_34 rfl ?_
    obtain ⟨r7, M5, k6, h⟩ := bindM_some h
    refine V_callI 35 (runSO (rest := []) 35 C (kX11_at (akI_21 (by rfl)) k6) cf_X11_at wk_4_123 rfl rfl dX11_shelfOfStop_35 rfl rfl (Nat.le_of_ble_eq_true rfl) (Nat.le_of_ble_eq_true rfl)) ?_
    exact V_iretX 38 C hQ h rfl rfl dX11_shelfOfStop_38
  · replace h := ite_f c4 h
    exact V_thr (text := "there is no such stop") 14 C T hQ 1 h (by decide) xk_1 xi_1 atS1 fitS1 dX11_shelfOfStop_14 dX11_shelfOfStop_17 dX11_shelfOfStop_18 dX11_shelfOfStop_20 dX11_shelfOfStop_23 rfl
set_option maxHeartbeats 4000000 in
theorem kX11_requireAnyShelf {G : GG} {l : Launch} (hl : l.stackTraces = false) {F : Nat}   {M M' : Mem} {res : Unit ⊕ Nat} (h : fX11_requireAnyShelf F  M = some (res, M')) : ConX G l yX11_requireAnyShelf cX11_requireAnyShelf 1 none rmX11_requireAnyShelf [.ref (gad G 0)] M (QVX G res M') (XIX G res M') 1 6 := by
  refine conX_of hl pnX11 (Nat.le_of_ble_eq_true rfl) (fun κ C T hQ => ?_)
  unfold fX11_requireAnyShelf at h
  refine V_L (L1 := [(0, .ref (gad G 0))]) rfl ?_
  refine V_aload_n 0 C 0 dX11_requireAnyShelf_0 rfl ?_
  refine V_get (v := .ref (gad G 1)) 1 C dX11_requireAnyShelf_1 (ltl (by rfl) rfl) (ceR_X11 (by rfl)) rfl inX11 0 rfl wk_2_27 rfl rfl ?_
  refine V_getN (v := .ref (gad G 2)) 4 C dX11_requireAnyShelf_4 (ltl (by rfl) rfl) (ceR_X3 (by rfl)) rfl inX3 0 rfl wk_1_141 rfl rfl ?_
  refine V_getN (v := .int (M 2 3)) 7 C dX11_requireAnyShelf_7 (ltl (by rfl) rfl) (ceR_X9 (by rfl)) rfl inX9 3 rfl wk_1_66 rfl rfl ?_
  refine V_if_ne 10 24 C dX11_requireAnyShelf_10 (by decide) (fun c1 => ?_) (fun c1 => ?_)
  · replace h := ite_f c1 h
    exact V_vretX 24 C hQ h rfl rfl dX11_requireAnyShelf_24
  · replace h := ite_t c1 h
    exact V_thrNW (text := "there are no shelves") 13 C T hQ 4 h (by decide) xk_4 xi_4 atS4 fitS4 dX11_requireAnyShelf_13 dX11_requireAnyShelf_16 dX11_requireAnyShelf_17 dX11_requireAnyShelf_20 dX11_requireAnyShelf_23 rfl
set_option maxHeartbeats 4000000 in
theorem kX11_catShelf {G : GG} {l : Launch} (hl : l.stackTraces = false) {F : Nat}   {M M' : Mem} {res : Int32 ⊕ Nat} (h : fX11_catShelf F  M = some (res, M')) : ConX G l yX11_catShelf cX11_catShelf 1 (some .int) rmX11_catShelf [.ref (gad G 0)] M (QEX G id res M') (XIX G res M') 1 6 := by
  refine conX_of hl pnX11 (Nat.le_of_ble_eq_true rfl) (fun κ C T hQ => ?_)
  unfold fX11_catShelf at h
  refine V_L (L1 := [(0, .ref (gad G 0))]) rfl ?_
  refine V_aload_n 0 C 0 dX11_catShelf_0 rfl ?_
  obtain ⟨y4, M1, k2, hx5, hk6⟩ := bindX_some h
  refine V_callXV (mc1 := 1) (ms1 := 6) 1 C T hQ (runXO (k := 0) (rest := []) 1 C (kX11_requireAnyShelf (cxL T)  k2) cf_X11_requireAnyShelf wk_5_5 (ltl (by rfl) rfl) (ceR_X11 (by rfl)) rfl rfl rfl rfl dX11_catShelf_1 rfl rfl (Nat.le_of_ble_eq_true rfl) (Nat.le_of_ble_eq_true rfl)) hx5 rfl rfl (fun r3 e7 => ?_)
  replace h := hk6 r3 e7
  refine V_aload_n 4 C 0 dX11_catShelf_4 rfl ?_
  refine V_get (v := .ref (gad G 1)) 5 C dX11_catShelf_5 (ltl (by rfl) rfl) (ceR_X11 (by rfl)) rfl inX11 0 rfl wk_2_27 rfl rfl ?_
  refine V_getN (v := .ref (gad G 5)) 8 C dX11_catShelf_8 (ltl (by rfl) rfl) (ceR_X3 (by rfl)) rfl inX3 1 rfl wk_1_144 rfl rfl ?_
  refine V_getN (v := .int (M1 5 2)) 11 C dX11_catShelf_11 (ltl (by rfl) rfl) (ceR_X6 (by rfl)) rfl inX6 2 rfl wk_1_99 rfl rfl ?_
  exact V_iretX 14 C hQ h rfl rfl dX11_catShelf_14
set_option maxHeartbeats 4000000 in
theorem kX11_goal {G : GG} {l : Launch} (hl : l.stackTraces = false) {F : Nat}   {M M' : Mem} {res : Int32 ⊕ Nat} (h : fX11_goal F  M = some (res, M')) : ConX G l yX11_goal cX11_goal 1 (some .int) rmX11_goal [.ref (gad G 0)] M (QEX G id res M') (XIX G res M') 1 6 := by
  refine conX_of hl pnX11 (Nat.le_of_ble_eq_true rfl) (fun κ C T hQ => ?_)
  unfold fX11_goal at h
  refine V_L (L1 := [(0, .ref (gad G 0))]) rfl ?_
  refine V_aload_n 0 C 0 dX11_goal_0 rfl ?_
  refine V_get (v := .ref (gad G 1)) 1 C dX11_goal_1 (ltl (by rfl) rfl) (ceR_X11 (by rfl)) rfl inX11 0 rfl wk_2_27 rfl rfl ?_
  refine V_getN (v := .ref (gad G 5)) 4 C dX11_goal_4 (ltl (by rfl) rfl) (ceR_X3 (by rfl)) rfl inX3 1 rfl wk_1_144 rfl rfl ?_
  refine V_getN (v := .int (M 5 1)) 7 C dX11_goal_7 (ltl (by rfl) rfl) (ceR_X6 (by rfl)) rfl inX6 1 rfl wk_1_95 rfl rfl ?_
  refine V_if_ne 10 23 C dX11_goal_10 (by decide) (fun c1 => ?_) (fun c1 => ?_)
  · replace h := ite_f c1 h
    refine V_aload_n 23 C 0 dX11_goal_23 rfl ?_
    refine V_get (v := .ref (gad G 1)) 24 C dX11_goal_24 (ltl (by rfl) rfl) (ceR_X11 (by rfl)) rfl inX11 0 rfl wk_2_27 rfl rfl ?_
    refine V_getN (v := .ref (gad G 5)) 27 C dX11_goal_27 (ltl (by rfl) rfl) (ceR_X3 (by rfl)) rfl inX3 1 rfl wk_1_144 rfl rfl ?_
    refine V_getN (v := .int (M 5 3)) 30 C dX11_goal_30 (ltl (by rfl) rfl) (ceR_X6 (by rfl)) rfl inX6 3 rfl wk_1_102 rfl rfl ?_
    exact V_iretX 33 C hQ h rfl rfl dX11_goal_33
  · replace h := ite_t c1 h
    exact V_thrN (text := "there are no stops") 13 C T hQ 4 h (by decide) xk_4 xi_4 atS4 fitS4 dX11_goal_13 dX11_goal_16 dX11_goal_17 dX11_goal_19 dX11_goal_22 rfl
set_option maxHeartbeats 4000000 in
theorem kX11_nextShelf {G : GG} {l : Launch} (hl : l.stackTraces = false) {F : Nat}   {M M' : Mem} {res : Int32 ⊕ Nat} (h : fX11_nextShelf F  M = some (res, M')) : ConX G l yX11_nextShelf cX11_nextShelf 1 (some .int) rmX11_nextShelf [.ref (gad G 0)] M (QEX G id res M') (XIX G res M') 1 6 := by
  refine conX_of hl pnX11 (Nat.le_of_ble_eq_true rfl) (fun κ C T hQ => ?_)
  unfold fX11_nextShelf at h
  refine V_L (L1 := [(0, .ref (gad G 0))]) rfl ?_
  refine V_aload_n 0 C 0 dX11_nextShelf_0 rfl ?_
  obtain ⟨y4, M1, k2, hx5, hk6⟩ := bindX_some h
  refine V_callXV (mc1 := 1) (ms1 := 6) 1 C T hQ (runXO (k := 0) (rest := []) 1 C (kX11_requireAnyShelf (cxL T)  k2) cf_X11_requireAnyShelf wk_5_5 (ltl (by rfl) rfl) (ceR_X11 (by rfl)) rfl rfl rfl rfl dX11_nextShelf_1 rfl rfl (Nat.le_of_ble_eq_true rfl) (Nat.le_of_ble_eq_true rfl)) hx5 rfl rfl (fun r3 e7 => ?_)
  replace h := hk6 r3 e7
  refine V_aload_n 4 C 0 dX11_nextShelf_4 rfl ?_
  refine V_get (v := .ref (gad G 1)) 5 C dX11_nextShelf_5 (ltl (by rfl) rfl) (ceR_X11 (by rfl)) rfl inX11 0 rfl wk_2_27 rfl rfl ?_
  obtain ⟨r10, M8, k9, h⟩ := bindM_some h
  refine V_callI 8 (runVN (k := 1) (rest := []) 8 C (kX3_shelfAfterWalk (by rfl) k9) cf_X3_shelfAfterWalk wk_5_25 (ltl (by rfl) rfl) (ceR_X3 (by rfl)) rfl rfl rfl rfl dX11_nextShelf_8 rfl rfl (Nat.le_of_ble_eq_true rfl) (Nat.le_of_ble_eq_true rfl)) ?_
  exact V_iretX 11 C hQ h rfl rfl dX11_nextShelf_11
set_option maxHeartbeats 4000000 in
theorem kX11_lapLength {G : GG} {l : Launch} (hl : l.stackTraces = false) {F : Nat}   {M M' : Mem} {res : Int32 ⊕ Nat} (h : fX11_lapLength F  M = some (res, M')) : ConX G l yX11_lapLength cX11_lapLength 2 (some .int) rmX11_lapLength [.ref (gad G 0)] M (QEX G id res M') (XIX G res M') 1 6 := by
  refine conX_of hl pnX11 (Nat.le_of_ble_eq_true rfl) (fun κ C T hQ => ?_)
  unfold fX11_lapLength at h
  refine V_L (L1 := [(0, .ref (gad G 0))]) rfl ?_
  refine V_aload_n 0 C 0 dX11_lapLength_0 rfl ?_
  refine V_get (v := .ref (gad G 1)) 1 C dX11_lapLength_1 (ltl (by rfl) rfl) (ceR_X11 (by rfl)) rfl inX11 0 rfl wk_2_27 rfl rfl ?_
  obtain ⟨r3, M1, k2, h⟩ := bindM_some h
  refine V_callI 4 (runVN (k := 1) (rest := []) 4 C (kX3_countLapSteps (by rfl) k2) cf_X3_countLapSteps wk_5_33 (ltl (by rfl) rfl) (ceR_X3 (by rfl)) rfl rfl rfl rfl dX11_lapLength_4 rfl rfl (Nat.le_of_ble_eq_true rfl) (Nat.le_of_ble_eq_true rfl)) ?_
  refine V_istore_n 7 C [(1, .int r3), (0, .ref (gad G 0))] dX11_lapLength_7 rfl rfl rfl ?_
  refine V_iload_n 8 C 0 dX11_lapLength_8 rfl ?_
  refine V_iconst 9 C dX11_lapLength_9 icm1 ?_
  refine V_icmp_ne 10 23 C dX11_lapLength_10 (by decide) (fun c4 => ?_) (fun c4 => ?_)
  · replace h := ite_f c4 h
    refine V_iload_n 23 C 0 dX11_lapLength_23 rfl ?_
    exact V_iretX 24 C hQ h rfl rfl dX11_lapLength_24
  · replace h := ite_t c4 h
    exact V_thrN (text := "no way leads from a stop to the next one") 13 C T hQ 4 h (by decide) xk_4 xi_4 atS4 fitS4 dX11_lapLength_13 dX11_lapLength_16 dX11_lapLength_17 dX11_lapLength_19 dX11_lapLength_22 rfl
set_option maxHeartbeats 4000000 in
theorem kX11_pass {G : GG} {l : Launch} (hl : l.stackTraces = false) {F : Nat}  {p0 : Int32} {M M' : Mem} {res : Int32 ⊕ Nat} (h : fX11_pass F p0 M = some (res, M')) : ConX G l yX11_pass cX11_pass 2 (some .int) rmX11_pass [.ref (gad G 0), .int p0] M (QEX G id res M') (XIX G res M') 1 6 := by
  refine conX_of hl pnX11 (Nat.le_of_ble_eq_true rfl) (fun κ C T hQ => ?_)
  unfold fX11_pass at h
  refine V_L (L1 := [(0, .ref (gad G 0)), (1, .int p0)]) rfl ?_
  refine V_aload_n 0 C 0 dX11_pass_0 rfl ?_
  refine V_gsv 1 C dX11_pass_1 10 rfl wk_5_47 ?_
  refine V_iload_n 4 C 1 dX11_pass_4 rfl ?_
  refine V_iconst 5 C dX11_pass_5 ic0 ?_
  obtain ⟨y4, M1, k2, hx5, hk6⟩ := bindX_some h
  refine V_callXI (mc1 := 1) (ms1 := 6) (α := Int32) (enc := id) 6 C T hQ (runXO (k := 0) (rest := []) 6 C (kX11_change (cxL T) (by decide) k2) cf_X11_change wk_2_207 (ltl (by rfl) rfl) (ceR_X11 (by rfl)) rfl rfl rfl rfl dX11_pass_6 rfl rfl (Nat.le_of_ble_eq_true rfl) (Nat.le_of_ble_eq_true rfl)) hx5 rfl rfl (fun r3 e7 => ?_)
  replace h := hk6 r3 e7
  exact V_iretX 9 C hQ h rfl rfl dX11_pass_9
set_option maxHeartbeats 4000000 in
theorem kX11_predictCaught {G : GG} {l : Launch} (hl : l.stackTraces = false) {F : Nat}  {p0 : Int32} {M M' : Mem} {res : Int32 ⊕ Nat} (h : fX11_predictCaught F p0 M = some (res, M')) : ConX G l yX11_predictCaught cX11_predictCaught 2 (some .int) rmX11_predictCaught [.ref (gad G 0), .int p0] M (QEX G id res M') (XIX G res M') 1 6 := by
  refine conX_of hl pnX11 (Nat.le_of_ble_eq_true rfl) (fun κ C T hQ => ?_)
  unfold fX11_predictCaught at h
  refine V_L (L1 := [(0, .ref (gad G 0)), (1, .int p0)]) rfl ?_
  refine V_iload_n 0 C 1 dX11_predictCaught_0 rfl ?_
  refine V_if_lt 1 10 C dX11_predictCaught_1 (by decide) (fun c1 => ?_) (fun c1 => ?_)
  · replace h := ite_t c1 h
    exact V_thr (text := "the number of minutes is out of range") 10 C T hQ 2 h (by decide) xk_2 xi_2 atS2 fitS2 dX11_predictCaught_10 dX11_predictCaught_13 dX11_predictCaught_14 dX11_predictCaught_16 dX11_predictCaught_19 rfl
  · replace h := ite_f c1 h
    refine V_iload_n 4 C 1 dX11_predictCaught_4 rfl ?_
    refine V_bipush 5 C dX11_predictCaught_5 bp60 ?_
    refine V_icmp_le 7 20 C dX11_predictCaught_7 (by decide) (fun c2 => ?_) (fun c2 => ?_)
    · replace h := ite_t c2 h
      refine V_aload_n 20 C 0 dX11_predictCaught_20 rfl ?_
      refine V_get (v := .ref (gad G 11)) 21 C dX11_predictCaught_21 (ltl (by rfl) rfl) (ceR_X11 (by rfl)) rfl inX11 1 rfl wk_2_28 rfl rfl ?_
      refine V_aload_n 24 C 0 dX11_predictCaught_24 rfl ?_
      refine V_get (v := .ref (gad G 1)) 25 C dX11_predictCaught_25 (ltl (by rfl) rfl) (ceR_X11 (by rfl)) rfl inX11 0 rfl wk_2_27 rfl rfl ?_
      obtain ⟨M3, k4, h⟩ := bindV_some h
      refine V_callV 28 (runVN (k := 11) (rest := []) 28 C (kX3_copyFrom (by rfl) (by rfl) k4) cf_X3_copyFrom wk_2_170 (ltl (by rfl) rfl) (ceR_X3 (by rfl)) rfl rfl rfl rfl dX11_predictCaught_28 rfl rfl (Nat.le_of_ble_eq_true rfl) (Nat.le_of_ble_eq_true rfl)) ?_
      refine V_aload_n 31 C 0 dX11_predictCaught_31 rfl ?_
      refine V_get (v := .ref (gad G 11)) 32 C dX11_predictCaught_32 (ltl (by rfl) rfl) (ceR_X11 (by rfl)) rfl inX11 1 rfl wk_2_28 rfl rfl ?_
      refine V_iload_n 35 C 1 dX11_predictCaught_35 rfl ?_
      obtain ⟨r7, M5, k6, h⟩ := bindM_some h
      refine V_callI 36 (runVN (k := 11) (rest := []) 36 C (kX3_letPass (by rfl) k6) cf_X3_letPass wk_5_57 (ltl (by rfl) rfl) (ceR_X3 (by rfl)) rfl rfl rfl rfl dX11_predictCaught_36 rfl rfl (Nat.le_of_ble_eq_true rfl) (Nat.le_of_ble_eq_true rfl)) ?_
      exact V_iretX 39 C hQ h rfl rfl dX11_predictCaught_39
    · replace h := ite_f c2 h
      exact V_thr (text := "the number of minutes is out of range") 10 C T hQ 2 h (by decide) xk_2 xi_2 atS2 fitS2 dX11_predictCaught_10 dX11_predictCaught_13 dX11_predictCaught_14 dX11_predictCaught_16 dX11_predictCaught_19 rfl
set_option maxHeartbeats 4000000 in
theorem kX11_setRate {G : GG} {l : Launch} (hl : l.stackTraces = false) {F : Nat}  {p0 : Int32} {M M' : Mem} {res : Int32 ⊕ Nat} (h : fX11_setRate F p0 M = some (res, M')) : ConX G l yX11_setRate cX11_setRate 2 (some .int) rmX11_setRate [.ref (gad G 0), .int p0] M (QEX G id res M') (XIX G res M') 1 6 := by
  refine conX_of hl pnX11 (Nat.le_of_ble_eq_true rfl) (fun κ C T hQ => ?_)
  unfold fX11_setRate at h
  refine V_L (L1 := [(0, .ref (gad G 0)), (1, .int p0)]) rfl ?_
  refine V_aload_n 0 C 0 dX11_setRate_0 rfl ?_
  refine V_gsv 1 C dX11_setRate_1 8 rfl wk_5_65 ?_
  refine V_iload_n 4 C 1 dX11_setRate_4 rfl ?_
  refine V_iconst 5 C dX11_setRate_5 ic0 ?_
  obtain ⟨y4, M1, k2, hx5, hk6⟩ := bindX_some h
  refine V_callXI (mc1 := 1) (ms1 := 6) (α := Int32) (enc := id) 6 C T hQ (runXO (k := 0) (rest := []) 6 C (kX11_change (cxL T) (by decide) k2) cf_X11_change wk_2_207 (ltl (by rfl) rfl) (ceR_X11 (by rfl)) rfl rfl rfl rfl dX11_setRate_6 rfl rfl (Nat.le_of_ble_eq_true rfl) (Nat.le_of_ble_eq_true rfl)) hx5 rfl rfl (fun r3 e7 => ?_)
  replace h := hk6 r3 e7
  exact V_iretX 9 C hQ h rfl rfl dX11_setRate_9
set_option maxHeartbeats 4000000 in
theorem kX11_setSeed {G : GG} {l : Launch} (hl : l.stackTraces = false) {F : Nat}  {p0 : Int32} {M M' : Mem} {res : Int32 ⊕ Nat} (h : fX11_setSeed F p0 M = some (res, M')) : ConX G l yX11_setSeed cX11_setSeed 2 (some .int) rmX11_setSeed [.ref (gad G 0), .int p0] M (QEX G id res M') (XIX G res M') 1 6 := by
  refine conX_of hl pnX11 (Nat.le_of_ble_eq_true rfl) (fun κ C T hQ => ?_)
  unfold fX11_setSeed at h
  refine V_L (L1 := [(0, .ref (gad G 0)), (1, .int p0)]) rfl ?_
  refine V_aload_n 0 C 0 dX11_setSeed_0 rfl ?_
  refine V_gsv 1 C dX11_setSeed_1 9 rfl wk_5_74 ?_
  refine V_iload_n 4 C 1 dX11_setSeed_4 rfl ?_
  refine V_iconst 5 C dX11_setSeed_5 ic0 ?_
  obtain ⟨y4, M1, k2, hx5, hk6⟩ := bindX_some h
  refine V_callXI (mc1 := 1) (ms1 := 6) (α := Int32) (enc := id) 6 C T hQ (runXO (k := 0) (rest := []) 6 C (kX11_change (cxL T) (by decide) k2) cf_X11_change wk_2_207 (ltl (by rfl) rfl) (ceR_X11 (by rfl)) rfl rfl rfl rfl dX11_setSeed_6 rfl rfl (Nat.le_of_ble_eq_true rfl) (Nat.le_of_ble_eq_true rfl)) hx5 rfl rfl (fun r3 e7 => ?_)
  replace h := hk6 r3 e7
  exact V_iretX 9 C hQ h rfl rfl dX11_setSeed_9
set_option maxHeartbeats 4000000 in
theorem kX11_requireMouse {G : GG} {l : Launch} (hl : l.stackTraces = false) {F : Nat}  {p0 : Int32} {M M' : Mem} {res : Unit ⊕ Nat} (h : fX11_requireMouse F p0 M = some (res, M')) : ConX G l yX11_requireMouse cX11_requireMouse 2 none rmX11_requireMouse [.ref (gad G 0), .int p0] M (QVX G res M') (XIX G res M') 1 6 := by
  refine conX_of hl pnX11 (Nat.le_of_ble_eq_true rfl) (fun κ C T hQ => ?_)
  unfold fX11_requireMouse at h
  refine V_L (L1 := [(0, .ref (gad G 0)), (1, .int p0)]) rfl ?_
  refine V_iload_n 0 C 1 dX11_requireMouse_0 rfl ?_
  refine V_aload_n 1 C 0 dX11_requireMouse_1 rfl ?_
  refine V_get (v := .ref (gad G 1)) 2 C dX11_requireMouse_2 (ltl (by rfl) rfl) (ceR_X11 (by rfl)) rfl inX11 0 rfl wk_2_27 rfl rfl ?_
  refine V_getN (v := .ref (gad G 7)) 5 C dX11_requireMouse_5 (ltl (by rfl) rfl) (ceR_X3 (by rfl)) rfl inX3 2 rfl wk_1_147 rfl rfl ?_
  refine V_getN (v := .int (M 7 3)) 8 C dX11_requireMouse_8 (ltl (by rfl) rfl) (ceR_X5 (by rfl)) rfl inX5 3 rfl wk_1_129 rfl rfl ?_
  obtain ⟨r3, M1, k2, h⟩ := bindM_some h
  refine V_callI 11 (runSO (rest := []) 11 C (kX11_isWithin  k2) cf_X11_isWithin wk_5_87 rfl rfl dX11_requireMouse_11 rfl rfl (Nat.le_of_ble_eq_true rfl) (Nat.le_of_ble_eq_true rfl)) ?_
  refine V_ifne_b 14 28 C dX11_requireMouse_14 (by decide) (fun c4 => ?_) (fun c4 => ?_)
  · replace h := ite_t c4 h
    exact V_vretX 28 C hQ h rfl rfl dX11_requireMouse_28
  · replace h := ite_f c4 h
    exact V_thrW (text := "there is no such mouse") 17 C T hQ 1 h (by decide) xk_1 xi_1 atS1 fitS1 dX11_requireMouse_17 dX11_requireMouse_20 dX11_requireMouse_21 dX11_requireMouse_24 dX11_requireMouse_27 rfl
set_option maxHeartbeats 4000000 in
theorem kX11_mouseShelf {G : GG} {l : Launch} (hl : l.stackTraces = false) {F : Nat}  {p0 : Int32} {M M' : Mem} {res : Int32 ⊕ Nat} (h : fX11_mouseShelf F p0 M = some (res, M')) : ConX G l yX11_mouseShelf cX11_mouseShelf 2 (some .int) rmX11_mouseShelf [.ref (gad G 0), .int p0] M (QEX G id res M') (XIX G res M') 1 6 := by
  refine conX_of hl pnX11 (Nat.le_of_ble_eq_true rfl) (fun κ C T hQ => ?_)
  unfold fX11_mouseShelf at h
  refine V_L (L1 := [(0, .ref (gad G 0)), (1, .int p0)]) rfl ?_
  refine V_aload_n 0 C 0 dX11_mouseShelf_0 rfl ?_
  refine V_iload_n 1 C 1 dX11_mouseShelf_1 rfl ?_
  obtain ⟨y4, M1, k2, hx5, hk6⟩ := bindX_some h
  refine V_callXV (mc1 := 1) (ms1 := 6) 2 C T hQ (runXO (k := 0) (rest := []) 2 C (kX11_requireMouse (cxL T)  k2) cf_X11_requireMouse wk_5_83 (ltl (by rfl) rfl) (ceR_X11 (by rfl)) rfl rfl rfl rfl dX11_mouseShelf_2 rfl rfl (Nat.le_of_ble_eq_true rfl) (Nat.le_of_ble_eq_true rfl)) hx5 rfl rfl (fun r3 e7 => ?_)
  replace h := hk6 r3 e7
  refine V_aload_n 5 C 0 dX11_mouseShelf_5 rfl ?_
  refine V_get (v := .ref (gad G 1)) 6 C dX11_mouseShelf_6 (ltl (by rfl) rfl) (ceR_X11 (by rfl)) rfl inX11 0 rfl wk_2_27 rfl rfl ?_
  refine V_getN (v := .ref (gad G 7)) 9 C dX11_mouseShelf_9 (ltl (by rfl) rfl) (ceR_X3 (by rfl)) rfl inX3 2 rfl wk_1_147 rfl rfl ?_
  refine V_getN (v := .ref (gad G 8)) 12 C dX11_mouseShelf_12 (ltl (by rfl) rfl) (ceR_X5 (by rfl)) rfl inX5 0 rfl wk_1_120 rfl rfl ?_
  refine V_iload_n 15 C 1 dX11_mouseShelf_15 rfl ?_
  obtain ⟨r10, M8, k9, h⟩ := bindM_some h
  refine V_callI 16 (runSO (rest := []) 16 C (kX11_at (akI_22 (by rfl)) k9) cf_X11_at wk_4_123 rfl rfl dX11_mouseShelf_16 rfl rfl (Nat.le_of_ble_eq_true rfl) (Nat.le_of_ble_eq_true rfl)) ?_
  exact V_iretX 19 C hQ h rfl rfl dX11_mouseShelf_19
set_option maxHeartbeats 4000000 in
theorem kX11_mouseEaten {G : GG} {l : Launch} (hl : l.stackTraces = false) {F : Nat}  {p0 : Int32} {M M' : Mem} {res : Int32 ⊕ Nat} (h : fX11_mouseEaten F p0 M = some (res, M')) : ConX G l yX11_mouseEaten cX11_mouseEaten 2 (some .int) rmX11_mouseEaten [.ref (gad G 0), .int p0] M (QEX G id res M') (XIX G res M') 1 6 := by
  refine conX_of hl pnX11 (Nat.le_of_ble_eq_true rfl) (fun κ C T hQ => ?_)
  unfold fX11_mouseEaten at h
  refine V_L (L1 := [(0, .ref (gad G 0)), (1, .int p0)]) rfl ?_
  refine V_aload_n 0 C 0 dX11_mouseEaten_0 rfl ?_
  refine V_iload_n 1 C 1 dX11_mouseEaten_1 rfl ?_
  obtain ⟨y4, M1, k2, hx5, hk6⟩ := bindX_some h
  refine V_callXV (mc1 := 1) (ms1 := 6) 2 C T hQ (runXO (k := 0) (rest := []) 2 C (kX11_requireMouse (cxL T)  k2) cf_X11_requireMouse wk_5_83 (ltl (by rfl) rfl) (ceR_X11 (by rfl)) rfl rfl rfl rfl dX11_mouseEaten_2 rfl rfl (Nat.le_of_ble_eq_true rfl) (Nat.le_of_ble_eq_true rfl)) hx5 rfl rfl (fun r3 e7 => ?_)
  replace h := hk6 r3 e7
  refine V_aload_n 5 C 0 dX11_mouseEaten_5 rfl ?_
  refine V_get (v := .ref (gad G 1)) 6 C dX11_mouseEaten_6 (ltl (by rfl) rfl) (ceR_X11 (by rfl)) rfl inX11 0 rfl wk_2_27 rfl rfl ?_
  refine V_getN (v := .ref (gad G 7)) 9 C dX11_mouseEaten_9 (ltl (by rfl) rfl) (ceR_X3 (by rfl)) rfl inX3 2 rfl wk_1_147 rfl rfl ?_
  refine V_getN (v := .ref (gad G 9)) 12 C dX11_mouseEaten_12 (ltl (by rfl) rfl) (ceR_X5 (by rfl)) rfl inX5 1 rfl wk_1_123 rfl rfl ?_
  refine V_iload_n 15 C 1 dX11_mouseEaten_15 rfl ?_
  obtain ⟨r10, M8, k9, h⟩ := bindM_some h
  refine V_callI 16 (runSO (rest := []) 16 C (kX11_at (akI_22 (by rfl)) k9) cf_X11_at wk_4_123 rfl rfl dX11_mouseEaten_16 rfl rfl (Nat.le_of_ble_eq_true rfl) (Nat.le_of_ble_eq_true rfl)) ?_
  exact V_iretX 19 C hQ h rfl rfl dX11_mouseEaten_19
set_option maxHeartbeats 4000000 in
theorem kX11_mouseHunger {G : GG} {l : Launch} (hl : l.stackTraces = false) {F : Nat}  {p0 : Int32} {M M' : Mem} {res : Int32 ⊕ Nat} (h : fX11_mouseHunger F p0 M = some (res, M')) : ConX G l yX11_mouseHunger cX11_mouseHunger 2 (some .int) rmX11_mouseHunger [.ref (gad G 0), .int p0] M (QEX G id res M') (XIX G res M') 1 6 := by
  refine conX_of hl pnX11 (Nat.le_of_ble_eq_true rfl) (fun κ C T hQ => ?_)
  unfold fX11_mouseHunger at h
  refine V_L (L1 := [(0, .ref (gad G 0)), (1, .int p0)]) rfl ?_
  refine V_aload_n 0 C 0 dX11_mouseHunger_0 rfl ?_
  refine V_iload_n 1 C 1 dX11_mouseHunger_1 rfl ?_
  obtain ⟨y4, M1, k2, hx5, hk6⟩ := bindX_some h
  refine V_callXV (mc1 := 1) (ms1 := 6) 2 C T hQ (runXO (k := 0) (rest := []) 2 C (kX11_requireMouse (cxL T)  k2) cf_X11_requireMouse wk_5_83 (ltl (by rfl) rfl) (ceR_X11 (by rfl)) rfl rfl rfl rfl dX11_mouseHunger_2 rfl rfl (Nat.le_of_ble_eq_true rfl) (Nat.le_of_ble_eq_true rfl)) hx5 rfl rfl (fun r3 e7 => ?_)
  replace h := hk6 r3 e7
  refine V_aload_n 5 C 0 dX11_mouseHunger_5 rfl ?_
  refine V_get (v := .ref (gad G 1)) 6 C dX11_mouseHunger_6 (ltl (by rfl) rfl) (ceR_X11 (by rfl)) rfl inX11 0 rfl wk_2_27 rfl rfl ?_
  refine V_getN (v := .ref (gad G 7)) 9 C dX11_mouseHunger_9 (ltl (by rfl) rfl) (ceR_X3 (by rfl)) rfl inX3 2 rfl wk_1_147 rfl rfl ?_
  refine V_getN (v := .ref (gad G 10)) 12 C dX11_mouseHunger_12 (ltl (by rfl) rfl) (ceR_X5 (by rfl)) rfl inX5 2 rfl wk_1_126 rfl rfl ?_
  refine V_iload_n 15 C 1 dX11_mouseHunger_15 rfl ?_
  obtain ⟨r10, M8, k9, h⟩ := bindM_some h
  refine V_callI 16 (runSO (rest := []) 16 C (kX11_at (akI_22 (by rfl)) k9) cf_X11_at wk_4_123 rfl rfl dX11_mouseHunger_16 rfl rfl (Nat.le_of_ble_eq_true rfl) (Nat.le_of_ble_eq_true rfl)) ?_
  exact V_iretX 19 C hQ h rfl rfl dX11_mouseHunger_19
set_option maxHeartbeats 4000000 in
theorem kX11_miceOn {G : GG} {l : Launch} (hl : l.stackTraces = false) {F : Nat}  {p0 : Int32} {M M' : Mem} {res : Int32 ⊕ Nat} (h : fX11_miceOn F p0 M = some (res, M')) : ConX G l yX11_miceOn cX11_miceOn 2 (some .int) rmX11_miceOn [.ref (gad G 0), .int p0] M (QEX G id res M') (XIX G res M') 1 6 := by
  refine conX_of hl pnX11 (Nat.le_of_ble_eq_true rfl) (fun κ C T hQ => ?_)
  unfold fX11_miceOn at h
  refine V_L (L1 := [(0, .ref (gad G 0)), (1, .int p0)]) rfl ?_
  refine V_aload_n 0 C 0 dX11_miceOn_0 rfl ?_
  refine V_iload_n 1 C 1 dX11_miceOn_1 rfl ?_
  obtain ⟨y4, M1, k2, hx5, hk6⟩ := bindX_some h
  refine V_callXV (mc1 := 1) (ms1 := 6) 2 C T hQ (runXO (k := 0) (rest := []) 2 C (kX11_requireShelf (cxL T)  k2) cf_X11_requireShelf wk_4_117 (ltl (by rfl) rfl) (ceR_X11 (by rfl)) rfl rfl rfl rfl dX11_miceOn_2 rfl rfl (Nat.le_of_ble_eq_true rfl) (Nat.le_of_ble_eq_true rfl)) hx5 rfl rfl (fun r3 e7 => ?_)
  replace h := hk6 r3 e7
  refine V_aload_n 5 C 0 dX11_miceOn_5 rfl ?_
  refine V_get (v := .ref (gad G 1)) 6 C dX11_miceOn_6 (ltl (by rfl) rfl) (ceR_X11 (by rfl)) rfl inX11 0 rfl wk_2_27 rfl rfl ?_
  refine V_getN (v := .ref (gad G 7)) 9 C dX11_miceOn_9 (ltl (by rfl) rfl) (ceR_X3 (by rfl)) rfl inX3 2 rfl wk_1_147 rfl rfl ?_
  refine V_iload_n 12 C 1 dX11_miceOn_12 rfl ?_
  obtain ⟨r10, M8, k9, h⟩ := bindM_some h
  refine V_callI 13 (runVN (k := 7) (rest := []) 13 C (kX5_countOn (by rfl) k9) cf_X5_countOn wk_5_110 (ltl (by rfl) rfl) (ceR_X5 (by rfl)) rfl rfl rfl rfl dX11_miceOn_13 rfl rfl (Nat.le_of_ble_eq_true rfl) (Nat.le_of_ble_eq_true rfl)) ?_
  exact V_iretX 16 C hQ h rfl rfl dX11_miceOn_16
set_option maxHeartbeats 4000000 in
theorem kX11_meanCheese {G : GG} {l : Launch} (hl : l.stackTraces = false) {F : Nat}   {M M' : Mem} {res : UInt64 ⊕ Nat} (h : fX11_meanCheese F  M = some (res, M')) : ConX G l yX11_meanCheese cX11_meanCheese 1 (some .double) rmX11_meanCheese [.ref (gad G 0)] M (QDX G res M') (XIX G res M') 1 6 := by
  refine conX_of hl pnX11 (Nat.le_of_ble_eq_true rfl) (fun κ C T hQ => ?_)
  unfold fX11_meanCheese at h
  refine V_L (L1 := [(0, .ref (gad G 0))]) rfl ?_
  refine V_aload_n 0 C 0 dX11_meanCheese_0 rfl ?_
  refine V_get (v := .ref (gad G 1)) 1 C dX11_meanCheese_1 (ltl (by rfl) rfl) (ceR_X11 (by rfl)) rfl inX11 0 rfl wk_2_27 rfl rfl ?_
  refine V_getN (v := .ref (gad G 2)) 4 C dX11_meanCheese_4 (ltl (by rfl) rfl) (ceR_X3 (by rfl)) rfl inX3 0 rfl wk_1_141 rfl rfl ?_
  refine V_getN (v := .int (M 2 3)) 7 C dX11_meanCheese_7 (ltl (by rfl) rfl) (ceR_X9 (by rfl)) rfl inX9 3 rfl wk_1_66 rfl rfl ?_
  refine V_if_ne 10 24 C dX11_meanCheese_10 (by decide) (fun c1 => ?_) (fun c1 => ?_)
  · replace h := ite_f c1 h
    refine V_aload_n 24 C 0 dX11_meanCheese_24 rfl ?_
    refine V_get (v := .ref (gad G 1)) 25 C dX11_meanCheese_25 (ltl (by rfl) rfl) (ceR_X11 (by rfl)) rfl inX11 0 rfl wk_2_27 rfl rfl ?_
    refine V_getN (v := .ref (gad G 2)) 28 C dX11_meanCheese_28 (ltl (by rfl) rfl) (ceR_X3 (by rfl)) rfl inX3 0 rfl wk_1_141 rfl rfl ?_
    obtain ⟨r4, M2, k3, h⟩ := bindM_some h
    refine V_callI 31 (runVN (k := 2) (rest := []) 31 C (kX9_sumOfGrams (by rfl) k3) cf_X9_sumOfGrams wk_2_114 (ltl (by rfl) rfl) (ceR_X9 (by rfl)) rfl rfl rfl rfl dX11_meanCheese_31 rfl rfl (Nat.le_of_ble_eq_true rfl) (Nat.le_of_ble_eq_true rfl)) ?_
    refine V_i2d 34 C dX11_meanCheese_34 ?_
    refine V_aload_n 35 C 0 dX11_meanCheese_35 rfl ?_
    refine V_get (v := .ref (gad G 1)) 36 C dX11_meanCheese_36 (ltl (by rfl) rfl) (ceR_X11 (by rfl)) rfl inX11 0 rfl wk_2_27 rfl rfl ?_
    refine V_getN (v := .ref (gad G 2)) 39 C dX11_meanCheese_39 (ltl (by rfl) rfl) (ceR_X3 (by rfl)) rfl inX3 0 rfl wk_1_141 rfl rfl ?_
    refine V_getN (v := .int (M2 2 3)) 42 C dX11_meanCheese_42 (ltl (by rfl) rfl) (ceR_X9 (by rfl)) rfl inX9 3 rfl wk_1_66 rfl rfl ?_
    refine V_i2d 45 C dX11_meanCheese_45 ?_
    obtain ⟨c5, h⟩ := chk_some h
    refine V_ddiv 46 C dX11_meanCheese_46 c5 ?_
    exact V_dretX 47 C hQ h rfl rfl dX11_meanCheese_47
  · replace h := ite_t c1 h
    exact V_thrW (text := "there are no shelves") 13 C T hQ 6 h (by decide) xk_6 xi_6 atS6 fitS6 dX11_meanCheese_13 dX11_meanCheese_16 dX11_meanCheese_17 dX11_meanCheese_20 dX11_meanCheese_23 rfl
set_option maxHeartbeats 4000000 in
theorem kX11_caughtShare {G : GG} {l : Launch} (hl : l.stackTraces = false) {F : Nat}   {M M' : Mem} {res : UInt32 ⊕ Nat} (h : fX11_caughtShare F  M = some (res, M')) : ConX G l yX11_caughtShare cX11_caughtShare 2 (some .float) rmX11_caughtShare [.ref (gad G 0)] M (QFX G res M') (XIX G res M') 1 6 := by
  refine conX_of hl pnX11 (Nat.le_of_ble_eq_true rfl) (fun κ C T hQ => ?_)
  unfold fX11_caughtShare at h
  refine V_L (L1 := [(0, .ref (gad G 0))]) rfl ?_
  refine V_aload_n 0 C 0 dX11_caughtShare_0 rfl ?_
  refine V_get (v := .ref (gad G 1)) 1 C dX11_caughtShare_1 (ltl (by rfl) rfl) (ceR_X11 (by rfl)) rfl inX11 0 rfl wk_2_27 rfl rfl ?_
  refine V_getN (v := .int (M 1 8)) 4 C dX11_caughtShare_4 (ltl (by rfl) rfl) (ceR_X3 (by rfl)) rfl inX3 8 rfl wk_1_158 rfl rfl ?_
  refine V_aload_n 7 C 0 dX11_caughtShare_7 rfl ?_
  refine V_get (v := .ref (gad G 1)) 8 C dX11_caughtShare_8 (ltl (by rfl) rfl) (ceR_X11 (by rfl)) rfl inX11 0 rfl wk_2_27 rfl rfl ?_
  refine V_getN (v := .int (M 1 9)) 11 C dX11_caughtShare_11 (ltl (by rfl) rfl) (ceR_X3 (by rfl)) rfl inX3 9 rfl wk_1_160 rfl rfl ?_
  refine V_iadd 14 C dX11_caughtShare_14 ?_
  obtain ⟨x1, e2, h⟩ := letM_some h
  refine V_top e2 ?_
  refine V_istore_n 15 C [(1, .int x1), (0, .ref (gad G 0))] dX11_caughtShare_15 rfl rfl rfl ?_
  refine V_iload_n 16 C 0 dX11_caughtShare_16 rfl ?_
  refine V_if_ne 17 31 C dX11_caughtShare_17 (by decide) (fun c3 => ?_) (fun c3 => ?_)
  · replace h := ite_f c3 h
    refine V_aload_n 31 C 1 dX11_caughtShare_31 rfl ?_
    refine V_get (v := .ref (gad G 1)) 32 C dX11_caughtShare_32 (ltl (by rfl) rfl) (ceR_X11 (by rfl)) rfl inX11 0 rfl wk_2_27 rfl rfl ?_
    refine V_getN (v := .int (M 1 8)) 35 C dX11_caughtShare_35 (ltl (by rfl) rfl) (ceR_X3 (by rfl)) rfl inX3 8 rfl wk_1_158 rfl rfl ?_
    refine V_i2f 38 C dX11_caughtShare_38 ?_
    refine V_iload_n 39 C 0 dX11_caughtShare_39 rfl ?_
    refine V_i2f 40 C dX11_caughtShare_40 ?_
    obtain ⟨c4, h⟩ := chk_some h
    refine V_fdiv 41 C dX11_caughtShare_41 c4 ?_
    exact V_fretX 42 C hQ h rfl rfl dX11_caughtShare_42
  · replace h := ite_t c3 h
    exact V_thrW (text := "no mouse was caught or has left") 20 C T hQ 6 h (by decide) xk_6 xi_6 atS6 fitS6 dX11_caughtShare_20 dX11_caughtShare_23 dX11_caughtShare_24 dX11_caughtShare_27 dX11_caughtShare_30 rfl
set_option maxHeartbeats 4000000 in
theorem kX11_feed {G : GG} {l : Launch} (hl : l.stackTraces = false) {F : Nat}  {p0 : Int32} {M M' : Mem} {res : Int32 ⊕ Nat} (h : fX11_feed F p0 M = some (res, M')) : ConX G l yX11_feed cX11_feed 2 (some .int) rmX11_feed [.ref (gad G 0), .int p0] M (QEX G id res M') (XIX G res M') 1 6 := by
  refine conX_of hl pnX11 (Nat.le_of_ble_eq_true rfl) (fun κ C T hQ => ?_)
  unfold fX11_feed at h
  refine V_L (L1 := [(0, .ref (gad G 0)), (1, .int p0)]) rfl ?_
  refine V_aload_n 0 C 0 dX11_feed_0 rfl ?_
  refine V_get (v := .ref (gad G 115)) 1 C dX11_feed_1 (ltl (by rfl) rfl) (ceR_X11 (by rfl)) rfl inX11 6 rfl wk_2_33 rfl rfl ?_
  refine V_getN (v := .int (M 115 1)) 4 C dX11_feed_4 (ltl (by rfl) rfl) (ceR_X8 (by rfl)) rfl inX8 1 rfl wk_1_226 rfl rfl ?_
  refine V_bipush 7 C dX11_feed_7 bp60 ?_
  refine V_icmp_lt 9 23 C dX11_feed_9 (by decide) (fun c1 => ?_) (fun c1 => ?_)
  · replace h := ite_t c1 h
    refine V_aload_n 23 C 0 dX11_feed_23 rfl ?_
    refine V_get (v := .ref (gad G 115)) 24 C dX11_feed_24 (ltl (by rfl) rfl) (ceR_X11 (by rfl)) rfl inX11 6 rfl wk_2_33 rfl rfl ?_
    refine V_iload_n 27 C 1 dX11_feed_27 rfl ?_
    obtain ⟨M2, k3, h⟩ := bindV_some h
    refine V_callV 28 (runVN (k := 115) (rest := []) 28 C (kX8_append (by rfl) k3) cf_X8_append wk_5_169 (ltl (by rfl) rfl) (ceR_X8 (by rfl)) rfl rfl rfl rfl dX11_feed_28 rfl rfl (Nat.le_of_ble_eq_true rfl) (Nat.le_of_ble_eq_true rfl)) ?_
    refine V_aload_n 31 C 0 dX11_feed_31 rfl ?_
    refine V_get (v := .ref (gad G 115)) 32 C dX11_feed_32 (ltl (by rfl) rfl) (ceR_X11 (by rfl)) rfl inX11 6 rfl wk_2_33 rfl rfl ?_
    refine V_getN (v := .int (M2 115 1)) 35 C dX11_feed_35 (ltl (by rfl) rfl) (ceR_X8 (by rfl)) rfl inX8 1 rfl wk_1_226 rfl rfl ?_
    exact V_iretX 38 C hQ h rfl rfl dX11_feed_38
  · replace h := ite_f c1 h
    exact V_thrW (text := "the text buffer is full") 12 C T hQ 5 h (by decide) xk_5 xi_5 atS5 fitS5 dX11_feed_12 dX11_feed_15 dX11_feed_16 dX11_feed_19 dX11_feed_22 rfl
set_option maxHeartbeats 4000000 in
theorem kX11_execute {G : GG} {l : Launch} (hl : l.stackTraces = false) {F : Nat}   {M M' : Mem} {res : Int32 ⊕ Nat} (h : fX11_execute F  M = some (res, M')) : ConX G l yX11_execute cX11_execute 3 (some .int) rmX11_execute [.ref (gad G 0)] M (QEX G id res M') (XIX G res M') 1 6 := by
  refine conX_of hl pnX11 (Nat.le_of_ble_eq_true rfl) (fun κ C T hQ => ?_)
  unfold fX11_execute at h
  refine V_L (L1 := [(0, .ref (gad G 0))]) rfl ?_
  refine V_aload_n 0 C 0 dX11_execute_0 rfl ?_
  refine V_get (v := .ref (gad G 115)) 1 C dX11_execute_1 (ltl (by rfl) rfl) (ceR_X11 (by rfl)) rfl inX11 6 rfl wk_2_33 rfl rfl ?_
  obtain ⟨r3, M1, k2, h⟩ := bindM_some h
  refine V_callI 4 (runVN (k := 115) (rest := []) 4 C (kX8_findFault (by rfl) k2) cf_X8_findFault wk_5_180 (ltl (by rfl) rfl) (ceR_X8 (by rfl)) rfl rfl rfl rfl dX11_execute_4 rfl rfl (Nat.le_of_ble_eq_true rfl) (Nat.le_of_ble_eq_true rfl)) ?_
  refine V_istore_n 7 C [(1, .int r3), (0, .ref (gad G 0))] dX11_execute_7 rfl rfl rfl ?_
  refine V_iload_n 8 C 0 dX11_execute_8 rfl ?_
  refine V_iconst 9 C dX11_execute_9 icm1 ?_
  refine V_icmp_eq 10 36 C dX11_execute_10 (by decide) (fun c4 => ?_) (fun c4 => ?_)
  · replace h := ite_t c4 h
    refine V_aload_n 36 C 1 dX11_execute_36 rfl ?_
    obtain ⟨r7, M5, k6, h⟩ := bindM_some h
    refine V_callI 37 (runVO (k := 0) (rest := []) 37 C (kX11_tryCommands  k6) cf_X11_tryCommands wk_6_30 (ltl (by rfl) rfl) (ceR_X11 (by rfl)) rfl rfl rfl rfl dX11_execute_37 rfl rfl (Nat.le_of_ble_eq_true rfl) (Nat.le_of_ble_eq_true rfl)) ?_
    refine V_istore_n 40 C [(2, .int (b2i r7)), (1, .int r3), (0, .ref (gad G 0))] dX11_execute_40 rfl rfl rfl ?_
    refine V_aload_n 41 C 2 dX11_execute_41 rfl ?_
    refine V_get (v := .ref (gad G 115)) 42 C dX11_execute_42 (ltl (by rfl) rfl) (ceR_X11 (by rfl)) rfl inX11 6 rfl wk_2_33 rfl rfl ?_
    obtain ⟨M8, k9, h⟩ := bindV_some h
    refine V_callV 45 (runVN (k := 115) (rest := []) 45 C (kX8_clear (by rfl) k9) cf_X8_clear wk_6_25 (ltl (by rfl) rfl) (ceR_X8 (by rfl)) rfl rfl rfl rfl dX11_execute_45 rfl rfl (Nat.le_of_ble_eq_true rfl) (Nat.le_of_ble_eq_true rfl)) ?_
    refine V_iload_n 48 C 0 dX11_execute_48 rfl ?_
    refine V_ifne_b 49 63 C dX11_execute_49 (by decide) (fun c10 => ?_) (fun c10 => ?_)
    · replace h := ite_t c10 h
      refine V_aload_n 63 C 2 dX11_execute_63 rfl ?_
      refine V_get (v := .ref (gad G 31)) 64 C dX11_execute_64 (ltl (by rfl) rfl) (ceR_X11 (by rfl)) rfl inX11 4 rfl wk_2_31 rfl rfl ?_
      refine V_aload_n 67 C 2 dX11_execute_67 rfl ?_
      refine V_get (v := .ref (gad G 1)) 68 C dX11_execute_68 (ltl (by rfl) rfl) (ceR_X11 (by rfl)) rfl inX11 0 rfl wk_2_27 rfl rfl ?_
      obtain ⟨M11, k12, h⟩ := bindV_some h
      refine V_callV 71 (runVN (k := 31) (rest := []) 71 C (kX2_push (by rfl) (by rfl) k12) cf_X2_push wk_3_167 (ltl (by rfl) rfl) (ceR_X2 (by rfl)) rfl rfl rfl rfl dX11_execute_71 rfl rfl (Nat.le_of_ble_eq_true rfl) (Nat.le_of_ble_eq_true rfl)) ?_
      refine V_aload_n 74 C 2 dX11_execute_74 rfl ?_
      refine V_get (v := .ref (gad G 1)) 75 C dX11_execute_75 (ltl (by rfl) rfl) (ceR_X11 (by rfl)) rfl inX11 0 rfl wk_2_27 rfl rfl ?_
      refine V_aload_n 78 C 2 dX11_execute_78 rfl ?_
      refine V_get (v := .ref (gad G 11)) 79 C dX11_execute_79 (ltl (by rfl) rfl) (ceR_X11 (by rfl)) rfl inX11 1 rfl wk_2_28 rfl rfl ?_
      obtain ⟨M13, k14, h⟩ := bindV_some h
      refine V_callV 82 (runVN (k := 1) (rest := []) 82 C (kX3_copyFrom (by rfl) (by rfl) k14) cf_X3_copyFrom wk_2_170 (ltl (by rfl) rfl) (ceR_X3 (by rfl)) rfl rfl rfl rfl dX11_execute_82 rfl rfl (Nat.le_of_ble_eq_true rfl) (Nat.le_of_ble_eq_true rfl)) ?_
      refine V_aload_n 85 C 2 dX11_execute_85 rfl ?_
      refine V_get (v := .ref (gad G 115)) 86 C dX11_execute_86 (ltl (by rfl) rfl) (ceR_X11 (by rfl)) rfl inX11 6 rfl wk_2_33 rfl rfl ?_
      refine V_getN (v := .int (M13 115 3)) 89 C dX11_execute_89 (ltl (by rfl) rfl) (ceR_X8 (by rfl)) rfl inX8 3 rfl wk_1_229 rfl rfl ?_
      exact V_iretX 92 C hQ h rfl rfl dX11_execute_92
    · replace h := ite_f c10 h
      exact V_thrW (text := "a command of the text failed") 52 C T hQ 3 h (by decide) xk_3 xi_3 atS3 fitS3 dX11_execute_52 dX11_execute_55 dX11_execute_56 dX11_execute_59 dX11_execute_62 rfl
  · replace h := ite_f c4 h
    refine V_aload_n 13 C 1 dX11_execute_13 rfl ?_
    refine V_get (v := .ref (gad G 115)) 14 C dX11_execute_14 (ltl (by rfl) rfl) (ceR_X11 (by rfl)) rfl inX11 6 rfl wk_2_33 rfl rfl ?_
    obtain ⟨M15, k16, h⟩ := bindV_some h
    refine V_callV 17 (runVN (k := 115) (rest := []) 17 C (kX8_clear (by rfl) k16) cf_X8_clear wk_6_25 (ltl (by rfl) rfl) (ceR_X8 (by rfl)) rfl rfl rfl rfl dX11_execute_17 rfl rfl (Nat.le_of_ble_eq_true rfl) (Nat.le_of_ble_eq_true rfl)) ?_
    refine V_aload_n 20 C 1 dX11_execute_20 rfl ?_
    refine V_iload_n 21 C 0 dX11_execute_21 rfl ?_
    obtain ⟨M17, e18, h⟩ := letM_some h
    refine V_put (ty := .int) (F := F_X11 G 0) 22 C dX11_execute_22 (ltl (by rfl) rfl) (fun _ => ceR_X11 (by rfl)) rfl inX11 tyX11 tyX11_ok nmX11 8 rfl wk_2_35 rfl rfl r3 rfl rfl rfl rfl rfl ?_
    refine V_eqM e18 ?_
    exact V_thrW (text := "the text does not match the grammar") 25 C T hQ 2 h (by decide) xk_2 xi_2 atS2 fitS2 dX11_execute_25 dX11_execute_28 dX11_execute_29 dX11_execute_32 dX11_execute_35 rfl
set_option maxHeartbeats 4000000 in
theorem kX11_faultPosition {G : GG} {l : Launch} (hl : l.stackTraces = false) {F : Nat}   {M M' : Mem} {res : Int32 ⊕ Nat} (h : fX11_faultPosition F  M = some (res, M')) : ConX G l yX11_faultPosition cX11_faultPosition 1 (some .int) rmX11_faultPosition [.ref (gad G 0)] M (QEX G id res M') (XIX G res M') 1 6 := by
  refine conX_of hl pnX11 (Nat.le_of_ble_eq_true rfl) (fun κ C T hQ => ?_)
  unfold fX11_faultPosition at h
  refine V_L (L1 := [(0, .ref (gad G 0))]) rfl ?_
  refine V_aload_n 0 C 0 dX11_faultPosition_0 rfl ?_
  refine V_get (v := .int (M 0 8)) 1 C dX11_faultPosition_1 (ltl (by rfl) rfl) (ceR_X11 (by rfl)) rfl inX11 8 rfl wk_2_35 rfl rfl ?_
  refine V_iconst 4 C dX11_faultPosition_4 icm1 ?_
  refine V_icmp_ne 5 19 C dX11_faultPosition_5 (by decide) (fun c1 => ?_) (fun c1 => ?_)
  · replace h := ite_f c1 h
    refine V_aload_n 19 C 0 dX11_faultPosition_19 rfl ?_
    refine V_get (v := .int (M 0 8)) 20 C dX11_faultPosition_20 (ltl (by rfl) rfl) (ceR_X11 (by rfl)) rfl inX11 8 rfl wk_2_35 rfl rfl ?_
    exact V_iretX 23 C hQ h rfl rfl dX11_faultPosition_23
  · replace h := ite_t c1 h
    exact V_thrNW (text := "no fault position was kept yet") 8 C T hQ 4 h (by decide) xk_4 xi_4 atS4 fitS4 dX11_faultPosition_8 dX11_faultPosition_11 dX11_faultPosition_12 dX11_faultPosition_15 dX11_faultPosition_18 rfl
set_option maxHeartbeats 4000000 in
theorem kX11_writeShelf {G : GG} {l : Launch} (hl : l.stackTraces = false) {F : Nat}  {p0 : Int32} {M M' : Mem} {res : Int32 ⊕ Nat} (h : fX11_writeShelf F p0 M = some (res, M')) : ConX G l yX11_writeShelf cX11_writeShelf 2 (some .int) rmX11_writeShelf [.ref (gad G 0), .int p0] M (QEX G id res M') (XIX G res M') 1 6 := by
  refine conX_of hl pnX11 (Nat.le_of_ble_eq_true rfl) (fun κ C T hQ => ?_)
  unfold fX11_writeShelf at h
  refine V_L (L1 := [(0, .ref (gad G 0)), (1, .int p0)]) rfl ?_
  refine V_aload_n 0 C 0 dX11_writeShelf_0 rfl ?_
  refine V_iload_n 1 C 1 dX11_writeShelf_1 rfl ?_
  obtain ⟨y4, M1, k2, hx5, hk6⟩ := bindX_some h
  refine V_callXV (mc1 := 1) (ms1 := 6) 2 C T hQ (runXO (k := 0) (rest := []) 2 C (kX11_requireShelf (cxL T)  k2) cf_X11_requireShelf wk_4_117 (ltl (by rfl) rfl) (ceR_X11 (by rfl)) rfl rfl rfl rfl dX11_writeShelf_2 rfl rfl (Nat.le_of_ble_eq_true rfl) (Nat.le_of_ble_eq_true rfl)) hx5 rfl rfl (fun r3 e7 => ?_)
  replace h := hk6 r3 e7
  refine V_aload_n 5 C 0 dX11_writeShelf_5 rfl ?_
  refine V_get (v := .ref (gad G 117)) 6 C dX11_writeShelf_6 (ltl (by rfl) rfl) (ceR_X11 (by rfl)) rfl inX11 7 rfl wk_2_34 rfl rfl ?_
  refine V_aload_n 9 C 0 dX11_writeShelf_9 rfl ?_
  refine V_get (v := .ref (gad G 1)) 10 C dX11_writeShelf_10 (ltl (by rfl) rfl) (ceR_X11 (by rfl)) rfl inX11 0 rfl wk_2_27 rfl rfl ?_
  refine V_iload_n 13 C 1 dX11_writeShelf_13 rfl ?_
  obtain ⟨M8, k9, h⟩ := bindV_some h
  refine V_callV 14 (runVN (k := 117) (rest := []) 14 C (kX4_showShelf (by rfl) (by rfl) k9) cf_X4_showShelf wk_6_58 (ltl (by rfl) rfl) (ceR_X4 (by rfl)) rfl rfl rfl rfl dX11_writeShelf_14 rfl rfl (Nat.le_of_ble_eq_true rfl) (Nat.le_of_ble_eq_true rfl)) ?_
  refine V_aload_n 17 C 0 dX11_writeShelf_17 rfl ?_
  refine V_get (v := .ref (gad G 117)) 18 C dX11_writeShelf_18 (ltl (by rfl) rfl) (ceR_X11 (by rfl)) rfl inX11 7 rfl wk_2_34 rfl rfl ?_
  refine V_getN (v := .int (M8 117 1)) 21 C dX11_writeShelf_21 (ltl (by rfl) rfl) (ceR_X4 (by rfl)) rfl inX4 1 rfl wk_2_21 rfl rfl ?_
  exact V_iretX 24 C hQ h rfl rfl dX11_writeShelf_24
set_option maxHeartbeats 4000000 in
theorem kX11_lineCharacter {G : GG} {l : Launch} (hl : l.stackTraces = false) {F : Nat}  {p0 : Int32} {M M' : Mem} {res : Int32 ⊕ Nat} (h : fX11_lineCharacter F p0 M = some (res, M')) : ConX G l yX11_lineCharacter cX11_lineCharacter 2 (some .char) rmX11_lineCharacter [.ref (gad G 0), .int p0] M (QEX G id res M') (XIX G res M') 1 6 := by
  refine conX_of hl pnX11 (Nat.le_of_ble_eq_true rfl) (fun κ C T hQ => ?_)
  unfold fX11_lineCharacter at h
  refine V_L (L1 := [(0, .ref (gad G 0)), (1, .int p0)]) rfl ?_
  refine V_iload_n 0 C 1 dX11_lineCharacter_0 rfl ?_
  refine V_aload_n 1 C 0 dX11_lineCharacter_1 rfl ?_
  refine V_get (v := .ref (gad G 117)) 2 C dX11_lineCharacter_2 (ltl (by rfl) rfl) (ceR_X11 (by rfl)) rfl inX11 7 rfl wk_2_34 rfl rfl ?_
  refine V_getN (v := .int (M 117 1)) 5 C dX11_lineCharacter_5 (ltl (by rfl) rfl) (ceR_X4 (by rfl)) rfl inX4 1 rfl wk_2_21 rfl rfl ?_
  obtain ⟨r3, M1, k2, h⟩ := bindM_some h
  refine V_callI 8 (runSO (rest := []) 8 C (kX11_isWithin  k2) cf_X11_isWithin wk_5_87 rfl rfl dX11_lineCharacter_8 rfl rfl (Nat.le_of_ble_eq_true rfl) (Nat.le_of_ble_eq_true rfl)) ?_
  refine V_ifeq_b 11 23 C dX11_lineCharacter_11 (by decide) (fun c4 => ?_) (fun c4 => ?_)
  · replace h := ite_f c4 h
    exact V_thrW (text := "there is no such index") 23 C T hQ 1 h (by decide) xk_1 xi_1 atS1 fitS1 dX11_lineCharacter_23 dX11_lineCharacter_26 dX11_lineCharacter_27 dX11_lineCharacter_30 dX11_lineCharacter_33 rfl
  · replace h := ite_t c4 h
    refine V_iload_n 14 C 1 dX11_lineCharacter_14 rfl ?_
    refine V_bipush 15 C dX11_lineCharacter_15 bp64 ?_
    obtain ⟨r7, M5, k6, h⟩ := bindM_some h
    refine V_callI 17 (runSO (rest := []) 17 C (kX11_isWithin  k6) cf_X11_isWithin wk_5_87 rfl rfl dX11_lineCharacter_17 rfl rfl (Nat.le_of_ble_eq_true rfl) (Nat.le_of_ble_eq_true rfl)) ?_
    refine V_ifne_b 20 34 C dX11_lineCharacter_20 (by decide) (fun c8 => ?_) (fun c8 => ?_)
    · replace h := ite_t c8 h
      refine V_aload_n 34 C 0 dX11_lineCharacter_34 rfl ?_
      refine V_get (v := .ref (gad G 117)) 35 C dX11_lineCharacter_35 (ltl (by rfl) rfl) (ceR_X11 (by rfl)) rfl inX11 7 rfl wk_2_34 rfl rfl ?_
      refine V_getN (v := .ref (gad G 118)) 38 C dX11_lineCharacter_38 (ltl (by rfl) rfl) (ceR_X4 (by rfl)) rfl inX4 0 rfl wk_2_19 rfl rfl ?_
      refine V_iload_n 41 C 1 dX11_lineCharacter_41 rfl ?_
      obtain ⟨c9, h⟩ := chk_some h
      refine V_cald 42 C dX11_lineCharacter_42 (akC_25 (by rfl)) (al_25 (by rfl)) c9 ?_
      obtain ⟨c10, h⟩ := chk_some h
      exact V_cretX 43 C hQ h rfl rfl dX11_lineCharacter_43 c10
    · replace h := ite_f c8 h
      exact V_thrW (text := "there is no such index") 23 C T hQ 1 h (by decide) xk_1 xi_1 atS1 fitS1 dX11_lineCharacter_23 dX11_lineCharacter_26 dX11_lineCharacter_27 dX11_lineCharacter_30 dX11_lineCharacter_33 rfl
set_option maxHeartbeats 4000000 in
theorem kX11_requireDenial {G : GG} {l : Launch} (hl : l.stackTraces = false) {F : Nat}   {M M' : Mem} {res : Unit ⊕ Nat} (h : fX11_requireDenial F  M = some (res, M')) : ConX G l yX11_requireDenial cX11_requireDenial 1 none rmX11_requireDenial [.ref (gad G 0)] M (QVX G res M') (XIX G res M') 1 6 := by
  refine conX_of hl pnX11 (Nat.le_of_ble_eq_true rfl) (fun κ C T hQ => ?_)
  unfold fX11_requireDenial at h
  refine V_L (L1 := [(0, .ref (gad G 0))]) rfl ?_
  refine V_aload_n 0 C 0 dX11_requireDenial_0 rfl ?_
  refine V_get (v := .int (M 0 9)) 1 C dX11_requireDenial_1 (ltl (by rfl) rfl) (ceR_X11 (by rfl)) rfl inX11 9 rfl wk_2_36 rfl rfl ?_
  refine V_iconst 4 C dX11_requireDenial_4 icm1 ?_
  refine V_icmp_ne 5 19 C dX11_requireDenial_5 (by decide) (fun c1 => ?_) (fun c1 => ?_)
  · replace h := ite_f c1 h
    exact V_vretX 19 C hQ h rfl rfl dX11_requireDenial_19
  · replace h := ite_t c1 h
    exact V_thrNW (text := "nothing was denied yet") 8 C T hQ 4 h (by decide) xk_4 xi_4 atS4 fitS4 dX11_requireDenial_8 dX11_requireDenial_11 dX11_requireDenial_12 dX11_requireDenial_15 dX11_requireDenial_18 rfl
set_option maxHeartbeats 4000000 in
theorem kX11_denial {G : GG} {l : Launch} (hl : l.stackTraces = false) {F : Nat}   {M M' : Mem} {res : Int32 ⊕ Nat} (h : fX11_denial F  M = some (res, M')) : ConX G l yX11_denial cX11_denial 1 (some .int) rmX11_denial [.ref (gad G 0)] M (QEX G id res M') (XIX G res M') 1 6 := by
  refine conX_of hl pnX11 (Nat.le_of_ble_eq_true rfl) (fun κ C T hQ => ?_)
  unfold fX11_denial at h
  refine V_L (L1 := [(0, .ref (gad G 0))]) rfl ?_
  refine V_aload_n 0 C 0 dX11_denial_0 rfl ?_
  obtain ⟨y4, M1, k2, hx5, hk6⟩ := bindX_some h
  refine V_callXV (mc1 := 1) (ms1 := 6) 1 C T hQ (runXO (k := 0) (rest := []) 1 C (kX11_requireDenial (cxL T)  k2) cf_X11_requireDenial wk_6_80 (ltl (by rfl) rfl) (ceR_X11 (by rfl)) rfl rfl rfl rfl dX11_denial_1 rfl rfl (Nat.le_of_ble_eq_true rfl) (Nat.le_of_ble_eq_true rfl)) hx5 rfl rfl (fun r3 e7 => ?_)
  replace h := hk6 r3 e7
  refine V_aload_n 4 C 0 dX11_denial_4 rfl ?_
  refine V_get (v := .int (M1 0 9)) 5 C dX11_denial_5 (ltl (by rfl) rfl) (ceR_X11 (by rfl)) rfl inX11 9 rfl wk_2_36 rfl rfl ?_
  exact V_iretX 8 C hQ h rfl rfl dX11_denial_8
set_option maxHeartbeats 4000000 in
theorem kX11_denialDetail {G : GG} {l : Launch} (hl : l.stackTraces = false) {F : Nat}   {M M' : Mem} {res : Int32 ⊕ Nat} (h : fX11_denialDetail F  M = some (res, M')) : ConX G l yX11_denialDetail cX11_denialDetail 1 (some .int) rmX11_denialDetail [.ref (gad G 0)] M (QEX G id res M') (XIX G res M') 1 6 := by
  refine conX_of hl pnX11 (Nat.le_of_ble_eq_true rfl) (fun κ C T hQ => ?_)
  unfold fX11_denialDetail at h
  refine V_L (L1 := [(0, .ref (gad G 0))]) rfl ?_
  refine V_aload_n 0 C 0 dX11_denialDetail_0 rfl ?_
  obtain ⟨y4, M1, k2, hx5, hk6⟩ := bindX_some h
  refine V_callXV (mc1 := 1) (ms1 := 6) 1 C T hQ (runXO (k := 0) (rest := []) 1 C (kX11_requireDenial (cxL T)  k2) cf_X11_requireDenial wk_6_80 (ltl (by rfl) rfl) (ceR_X11 (by rfl)) rfl rfl rfl rfl dX11_denialDetail_1 rfl rfl (Nat.le_of_ble_eq_true rfl) (Nat.le_of_ble_eq_true rfl)) hx5 rfl rfl (fun r3 e7 => ?_)
  replace h := hk6 r3 e7
  refine V_aload_n 4 C 0 dX11_denialDetail_4 rfl ?_
  refine V_get (v := .int (M1 0 10)) 5 C dX11_denialDetail_5 (ltl (by rfl) rfl) (ceR_X11 (by rfl)) rfl inX11 10 rfl wk_2_37 rfl rfl ?_
  exact V_iretX 8 C hQ h rfl rfl dX11_denialDetail_8
set_option maxHeartbeats 4000000 in
theorem kX11_denialCause {G : GG} {l : Launch} (hl : l.stackTraces = false) {F : Nat}   {M M' : Mem} {res : Int32 ⊕ Nat} (h : fX11_denialCause F  M = some (res, M')) : ConX G l yX11_denialCause cX11_denialCause 1 (some .int) rmX11_denialCause [.ref (gad G 0)] M (QEX G id res M') (XIX G res M') 1 6 := by
  refine conX_of hl pnX11 (Nat.le_of_ble_eq_true rfl) (fun κ C T hQ => ?_)
  unfold fX11_denialCause at h
  refine V_L (L1 := [(0, .ref (gad G 0))]) rfl ?_
  refine V_aload_n 0 C 0 dX11_denialCause_0 rfl ?_
  refine V_get (v := .int (M 0 11)) 1 C dX11_denialCause_1 (ltl (by rfl) rfl) (ceR_X11 (by rfl)) rfl inX11 11 rfl wk_2_38 rfl rfl ?_
  refine V_iconst 4 C dX11_denialCause_4 icm1 ?_
  refine V_icmp_ne 5 19 C dX11_denialCause_5 (by decide) (fun c1 => ?_) (fun c1 => ?_)
  · replace h := ite_f c1 h
    refine V_aload_n 19 C 0 dX11_denialCause_19 rfl ?_
    refine V_get (v := .int (M 0 11)) 20 C dX11_denialCause_20 (ltl (by rfl) rfl) (ceR_X11 (by rfl)) rfl inX11 11 rfl wk_2_38 rfl rfl ?_
    exact V_iretX 23 C hQ h rfl rfl dX11_denialCause_23
  · replace h := ite_t c1 h
    exact V_thrNW (text := "there is no denial with a cause") 8 C T hQ 4 h (by decide) xk_4 xi_4 atS4 fitS4 dX11_denialCause_8 dX11_denialCause_11 dX11_denialCause_12 dX11_denialCause_15 dX11_denialCause_18 rfl
set_option maxHeartbeats 4000000 in
theorem kX11_undo {G : GG} {l : Launch} (hl : l.stackTraces = false) {F : Nat}   {M M' : Mem} {res : Int32 ⊕ Nat} (h : fX11_undo F  M = some (res, M')) : ConX G l yX11_undo cX11_undo 1 (some .int) rmX11_undo [.ref (gad G 0)] M (QEX G id res M') (XIX G res M') 1 6 := by
  refine conX_of hl pnX11 (Nat.le_of_ble_eq_true rfl) (fun κ C T hQ => ?_)
  unfold fX11_undo at h
  refine V_L (L1 := [(0, .ref (gad G 0))]) rfl ?_
  refine V_aload_n 0 C 0 dX11_undo_0 rfl ?_
  refine V_get (v := .ref (gad G 31)) 1 C dX11_undo_1 (ltl (by rfl) rfl) (ceR_X11 (by rfl)) rfl inX11 4 rfl wk_2_31 rfl rfl ?_
  refine V_getN (v := .int (M 31 2)) 4 C dX11_undo_4 (ltl (by rfl) rfl) (ceR_X2 (by rfl)) rfl inX2 2 rfl wk_1_198 rfl rfl ?_
  refine V_if_ne 7 21 C dX11_undo_7 (by decide) (fun c1 => ?_) (fun c1 => ?_)
  · replace h := ite_f c1 h
    refine V_aload_n 21 C 0 dX11_undo_21 rfl ?_
    refine V_get (v := .ref (gad G 31)) 22 C dX11_undo_22 (ltl (by rfl) rfl) (ceR_X11 (by rfl)) rfl inX11 4 rfl wk_2_31 rfl rfl ?_
    refine V_aload_n 25 C 0 dX11_undo_25 rfl ?_
    refine V_get (v := .ref (gad G 1)) 26 C dX11_undo_26 (ltl (by rfl) rfl) (ceR_X11 (by rfl)) rfl inX11 0 rfl wk_2_27 rfl rfl ?_
    obtain ⟨M2, k3, h⟩ := bindV_some h
    refine V_callV 29 (runVN (k := 31) (rest := []) 29 C (kX2_pop (by rfl) (by rfl) k3) cf_X2_pop wk_6_108 (ltl (by rfl) rfl) (ceR_X2 (by rfl)) rfl rfl rfl rfl dX11_undo_29 rfl rfl (Nat.le_of_ble_eq_true rfl) (Nat.le_of_ble_eq_true rfl)) ?_
    refine V_aload_n 32 C 0 dX11_undo_32 rfl ?_
    refine V_get (v := .ref (gad G 31)) 33 C dX11_undo_33 (ltl (by rfl) rfl) (ceR_X11 (by rfl)) rfl inX11 4 rfl wk_2_31 rfl rfl ?_
    refine V_getN (v := .int (M2 31 2)) 36 C dX11_undo_36 (ltl (by rfl) rfl) (ceR_X2 (by rfl)) rfl inX2 2 rfl wk_1_198 rfl rfl ?_
    exact V_iretX 39 C hQ h rfl rfl dX11_undo_39
  · replace h := ite_t c1 h
    exact V_thrW (text := "there is no change to undo") 10 C T hQ 5 h (by decide) xk_5 xi_5 atS5 fitS5 dX11_undo_10 dX11_undo_13 dX11_undo_14 dX11_undo_17 dX11_undo_20 rfl
set_option maxHeartbeats 4000000 in
theorem kX11_restoreSnapshot {G : GG} {l : Launch} (hl : l.stackTraces = false) {F : Nat}   {M M' : Mem} {res : Int32 ⊕ Nat} (h : fX11_restoreSnapshot F  M = some (res, M')) : ConX G l yX11_restoreSnapshot cX11_restoreSnapshot 1 (some .int) rmX11_restoreSnapshot [.ref (gad G 0)] M (QEX G id res M') (XIX G res M') 1 6 := by
  refine conX_of hl pnX11 (Nat.le_of_ble_eq_true rfl) (fun κ C T hQ => ?_)
  unfold fX11_restoreSnapshot at h
  refine V_L (L1 := [(0, .ref (gad G 0))]) rfl ?_
  refine V_aload_n 0 C 0 dX11_restoreSnapshot_0 rfl ?_
  refine V_get (v := .int (M 0 3)) 1 C dX11_restoreSnapshot_1 (ltl (by rfl) rfl) (ceR_X11 (by rfl)) rfl inX11 3 rfl wk_2_30 rfl rfl ?_
  refine V_if_ne 4 18 C dX11_restoreSnapshot_4 (by decide) (fun c1 => ?_) (fun c1 => ?_)
  · replace h := ite_f c1 h
    refine V_aload_n 18 C 0 dX11_restoreSnapshot_18 rfl ?_
    refine V_get (v := .ref (gad G 1)) 19 C dX11_restoreSnapshot_19 (ltl (by rfl) rfl) (ceR_X11 (by rfl)) rfl inX11 0 rfl wk_2_27 rfl rfl ?_
    refine V_aload_n 22 C 0 dX11_restoreSnapshot_22 rfl ?_
    refine V_get (v := .ref (gad G 21)) 23 C dX11_restoreSnapshot_23 (ltl (by rfl) rfl) (ceR_X11 (by rfl)) rfl inX11 2 rfl wk_2_29 rfl rfl ?_
    obtain ⟨M2, k3, h⟩ := bindV_some h
    refine V_callV 26 (runVN (k := 1) (rest := []) 26 C (kX3_copyFrom (by rfl) (by rfl) k3) cf_X3_copyFrom wk_2_170 (ltl (by rfl) rfl) (ceR_X3 (by rfl)) rfl rfl rfl rfl dX11_restoreSnapshot_26 rfl rfl (Nat.le_of_ble_eq_true rfl) (Nat.le_of_ble_eq_true rfl)) ?_
    refine V_aload_n 29 C 0 dX11_restoreSnapshot_29 rfl ?_
    refine V_get (v := .ref (gad G 31)) 30 C dX11_restoreSnapshot_30 (ltl (by rfl) rfl) (ceR_X11 (by rfl)) rfl inX11 4 rfl wk_2_31 rfl rfl ?_
    obtain ⟨M4, k5, h⟩ := bindV_some h
    refine V_callV 33 (runVN (k := 31) (rest := []) 33 C (kX2_clear (by rfl) k5) cf_X2_clear wk_6_120 (ltl (by rfl) rfl) (ceR_X2 (by rfl)) rfl rfl rfl rfl dX11_restoreSnapshot_33 rfl rfl (Nat.le_of_ble_eq_true rfl) (Nat.le_of_ble_eq_true rfl)) ?_
    refine V_aload_n 36 C 0 dX11_restoreSnapshot_36 rfl ?_
    refine V_get (v := .ref (gad G 1)) 37 C dX11_restoreSnapshot_37 (ltl (by rfl) rfl) (ceR_X11 (by rfl)) rfl inX11 0 rfl wk_2_27 rfl rfl ?_
    refine V_getN (v := .ref (gad G 2)) 40 C dX11_restoreSnapshot_40 (ltl (by rfl) rfl) (ceR_X3 (by rfl)) rfl inX3 0 rfl wk_1_141 rfl rfl ?_
    refine V_getN (v := .int (M4 2 3)) 43 C dX11_restoreSnapshot_43 (ltl (by rfl) rfl) (ceR_X9 (by rfl)) rfl inX9 3 rfl wk_1_66 rfl rfl ?_
    exact V_iretX 46 C hQ h rfl rfl dX11_restoreSnapshot_46
  · replace h := ite_t c1 h
    exact V_thrW (text := "there is no snapshot") 7 C T hQ 5 h (by decide) xk_5 xi_5 atS5 fitS5 dX11_restoreSnapshot_7 dX11_restoreSnapshot_10 dX11_restoreSnapshot_11 dX11_restoreSnapshot_14 dX11_restoreSnapshot_17 rfl
