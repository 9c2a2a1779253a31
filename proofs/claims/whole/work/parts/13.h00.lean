def rmL_addShelf : Room := { frames := 8, cells := 1, slots := 6, locals := 190 }
def fL_addShelf (F : Nat) (p1 : Int32) (M : Mem) : Option (Int32 × Mem) := bindH (fX11_addShelf F p1 M) (fun r3 M1 => letM (up2 M1 129 0 r3) (fun M13 => some (0, M13))) (fun z12 M1 => if z12 = 2 then some (1, M1) else if z12 = 3 then some (2, M1) else none)
def rmL_link : Room := { frames := 8, cells := 1, slots := 6, locals := 191 }
def fL_link (F : Nat) (p1 : Int32) (p2 : Int32) (M : Mem) : Option (Int32 × Mem) := bindH (fX11_link F p1 p2 M) (fun r3 M1 => letM (up2 M1 129 0 r3) (fun M13 => some (0, M13))) (fun z12 M1 => if z12 = 1 then some (1, M1) else if z12 = 3 then some (2, M1) else none)
def rmL_unlink : Room := { frames := 8, cells := 1, slots := 6, locals := 191 }
def fL_unlink (F : Nat) (p1 : Int32) (p2 : Int32) (M : Mem) : Option (Int32 × Mem) := bindH (fX11_unlink F p1 p2 M) (fun r3 M1 => letM (up2 M1 129 0 r3) (fun M13 => some (0, M13))) (fun z12 M1 => if z12 = 1 then some (1, M1) else if z12 = 3 then some (2, M1) else none)
def rmL_setBlind : Room := { frames := 8, cells := 1, slots := 6, locals := 191 }
def fL_setBlind (F : Nat) (p1 : Int32) (p2 : Bool) (M : Mem) : Option (Int32 × Mem) := bindH (fX11_setBlind F p1 p2 M) (fun r3 M1 => letM (up2 M1 129 0 r3) (fun M13 => some (0, M13))) (fun z12 M1 => if z12 = 1 then some (1, M1) else if z12 = 3 then some (2, M1) else none)
def rmL_fill : Room := { frames := 8, cells := 1, slots := 6, locals := 191 }
def fL_fill (F : Nat) (p1 : Int32) (p2 : Int32) (M : Mem) : Option (Int32 × Mem) := bindH (fX11_fill F p1 p2 M) (fun r3 M1 => letM (up2 M1 129 0 r3) (fun M13 => some (0, M13))) (fun z12 M1 => if z12 = 1 then some (1, M1) else if z12 = 2 then some (2, M1) else if z12 = 3 then some (3, M1) else none)
def rmL_cheese : Room := { frames := 8, cells := 1, slots := 6, locals := 133 }
def fL_cheese (F : Nat) (p1 : Int32) (M : Mem) : Option (Int32 × Mem) := bindH (fX11_cheese F p1 M) (fun r3 M1 => letM (up2 M1 129 0 r3) (fun M13 => some (0, M13))) (fun z12 M1 => if z12 = 1 then some (1, M1) else none)
def rmL_isBlind : Room := { frames := 8, cells := 1, slots := 6, locals := 133 }
def fL_isBlind (F : Nat) (p1 : Int32) (M : Mem) : Option (Int32 × Mem) := bindH (fX11_isBlind F p1 M) (fun r3 M1 => if r3 = true then letM (up2 M1 129 0 1) (fun M16 => some (0, M16)) else letM (up2 M1 129 0 0) (fun M14 => some (0, M14))) (fun z12 M1 => if z12 = 1 then some (1, M1) else none)
def rmL_neighbourCount : Room := { frames := 8, cells := 1, slots := 6, locals := 133 }
def fL_neighbourCount (F : Nat) (p1 : Int32) (M : Mem) : Option (Int32 × Mem) := bindH (fX11_neighbourCount F p1 M) (fun r3 M1 => letM (up2 M1 129 0 r3) (fun M13 => some (0, M13))) (fun z12 M1 => if z12 = 1 then some (1, M1) else none)
def rmL_distance : Room := { frames := 8, cells := 3, slots := 18, locals := 135 }
def fL_distance (F : Nat) (p1 : Int32) (p2 : Int32) (M : Mem) : Option (Int32 × Mem) := bindH (fX11_distance F p1 p2 M) (fun r3 M1 => letM (up2 M1 129 0 r3) (fun M13 => some (0, M13))) (fun z12 M1 => if z12 = 1 then some (1, M1) else if z12 = 4 then some (2, M1) else none)
def rmL_distanceByTable : Room := { frames := 8, cells := 3, slots := 18, locals := 135 }
def fL_distanceByTable (F : Nat) (p1 : Int32) (p2 : Int32) (M : Mem) : Option (Int32 × Mem) := bindH (fX11_distanceByTable F p1 p2 M) (fun r3 M1 => letM (up2 M1 129 0 r3) (fun M13 => some (0, M13))) (fun z12 M1 => if z12 = 1 then some (1, M1) else if z12 = 4 then some (2, M1) else none)
def rmL_shelfByCheese : Room := { frames := 7, cells := 1, slots := 6, locals := 113 }
def fL_shelfByCheese (F : Nat) (p1 : Int32) (M : Mem) : Option (Int32 × Mem) := bindH (fX11_shelfByCheese F p1 M) (fun r3 M1 => letM (up2 M1 129 0 r3) (fun M13 => some (0, M13))) (fun z12 M1 => if z12 = 4 then some (1, M1) else none)
def rmL_addStop : Room := { frames := 8, cells := 1, slots := 6, locals := 190 }
def fL_addStop (F : Nat) (p1 : Int32) (M : Mem) : Option (Int32 × Mem) := bindH (fX11_addStop F p1 M) (fun r3 M1 => letM (up2 M1 129 0 r3) (fun M13 => some (0, M13))) (fun z12 M1 => if z12 = 1 then some (1, M1) else if z12 = 3 then some (2, M1) else none)
def rmL_removeStop : Room := { frames := 8, cells := 1, slots := 6, locals := 190 }
def fL_removeStop (F : Nat) (p1 : Int32) (M : Mem) : Option (Int32 × Mem) := bindH (fX11_removeStop F p1 M) (fun r3 M1 => letM (up2 M1 129 0 r3) (fun M13 => some (0, M13))) (fun z12 M1 => if z12 = 1 then some (1, M1) else none)
def rmL_shelfOfStop : Room := { frames := 7, cells := 1, slots := 6, locals := 112 }
def fL_shelfOfStop (F : Nat) (p1 : Int32) (M : Mem) : Option (Int32 × Mem) := bindH (fX11_shelfOfStop F p1 M) (fun r3 M1 => letM (up2 M1 129 0 r3) (fun M13 => some (0, M13))) (fun z12 M1 => if z12 = 1 then some (1, M1) else none)
def rmL_catShelf : Room := { frames := 8, cells := 1, slots := 6, locals := 131 }
def fL_catShelf (F : Nat)  (M : Mem) : Option (Int32 × Mem) := bindH (fX11_catShelf F  M) (fun r3 M1 => letM (up2 M1 129 0 r3) (fun M13 => some (0, M13))) (fun z12 M1 => if z12 = 4 then some (1, M1) else none)
def rmL_goal : Room := { frames := 7, cells := 1, slots := 6, locals := 111 }
def fL_goal (F : Nat)  (M : Mem) : Option (Int32 × Mem) := bindH (fX11_goal F  M) (fun r3 M1 => letM (up2 M1 129 0 r3) (fun M13 => some (0, M13))) (fun z12 M1 => if z12 = 4 then some (1, M1) else none)
def rmL_nextShelf : Room := { frames := 8, cells := 1, slots := 6, locals := 131 }
def fL_nextShelf (F : Nat)  (M : Mem) : Option (Int32 × Mem) := bindH (fX11_nextShelf F  M) (fun r3 M1 => letM (up2 M1 129 0 r3) (fun M13 => some (0, M13))) (fun z12 M1 => if z12 = 4 then some (1, M1) else none)
def rmL_lapLength : Room := { frames := 7, cells := 1, slots := 6, locals := 115 }
def fL_lapLength (F : Nat)  (M : Mem) : Option (Int32 × Mem) := bindH (fX11_lapLength F  M) (fun r3 M1 => letM (up2 M1 129 0 r3) (fun M13 => some (0, M13))) (fun z12 M1 => if z12 = 4 then some (1, M1) else none)
def rmL_pass : Room := { frames := 8, cells := 1, slots := 6, locals := 190 }
def fL_pass (F : Nat) (p1 : Int32) (M : Mem) : Option (Int32 × Mem) := bindH (fX11_pass F p1 M) (fun r3 M1 => letM (up2 M1 129 0 r3) (fun M13 => some (0, M13))) (fun z12 M1 => if z12 = 2 then some (1, M1) else none)
def rmL_predictCaught : Room := { frames := 7, cells := 1, slots := 6, locals := 144 }
def fL_predictCaught (F : Nat) (p1 : Int32) (M : Mem) : Option (Int32 × Mem) := bindH (fX11_predictCaught F p1 M) (fun r3 M1 => letM (up2 M1 129 0 r3) (fun M13 => some (0, M13))) (fun z12 M1 => if z12 = 2 then some (1, M1) else none)
def rmL_setRate : Room := { frames := 8, cells := 1, slots := 6, locals := 190 }
def fL_setRate (F : Nat) (p1 : Int32) (M : Mem) : Option (Int32 × Mem) := bindH (fX11_setRate F p1 M) (fun r3 M1 => letM (up2 M1 129 0 r3) (fun M13 => some (0, M13))) (fun z12 M1 => if z12 = 2 then some (1, M1) else none)
def rmL_setSeed : Room := { frames := 8, cells := 1, slots := 6, locals := 190 }
def fL_setSeed (F : Nat) (p1 : Int32) (M : Mem) : Option (Int32 × Mem) := bindH (fX11_setSeed F p1 M) (fun r3 M1 => letM (up2 M1 129 0 r3) (fun M13 => some (0, M13))) (fun z12 M1 => if z12 = 2 then some (1, M1) else none)
def rmL_mouseShelf : Room := { frames := 8, cells := 1, slots := 6, locals := 133 }
def fL_mouseShelf (F : Nat) (p1 : Int32) (M : Mem) : Option (Int32 × Mem) := bindH (fX11_mouseShelf F p1 M) (fun r3 M1 => letM (up2 M1 129 0 r3) (fun M13 => some (0, M13))) (fun z12 M1 => if z12 = 1 then some (1, M1) else none)
def rmL_mouseEaten : Room := { frames := 8, cells := 1, slots := 6, locals := 133 }
def fL_mouseEaten (F : Nat) (p1 : Int32) (M : Mem) : Option (Int32 × Mem) := bindH (fX11_mouseEaten F p1 M) (fun r3 M1 => letM (up2 M1 129 0 r3) (fun M13 => some (0, M13))) (fun z12 M1 => if z12 = 1 then some (1, M1) else none)
def rmL_mouseHunger : Room := { frames := 8, cells := 1, slots := 6, locals := 133 }
def fL_mouseHunger (F : Nat) (p1 : Int32) (M : Mem) : Option (Int32 × Mem) := bindH (fX11_mouseHunger F p1 M) (fun r3 M1 => letM (up2 M1 129 0 r3) (fun M13 => some (0, M13))) (fun z12 M1 => if z12 = 1 then some (1, M1) else none)
def rmL_miceOn : Room := { frames := 8, cells := 1, slots := 6, locals := 133 }
def fL_miceOn (F : Nat) (p1 : Int32) (M : Mem) : Option (Int32 × Mem) := bindH (fX11_miceOn F p1 M) (fun r3 M1 => letM (up2 M1 129 0 r3) (fun M13 => some (0, M13))) (fun z12 M1 => if z12 = 1 then some (1, M1) else none)
def rmL_meanCheese : Room := { frames := 7, cells := 1, slots := 6, locals := 111 }
def fL_meanCheese (F : Nat)  (M : Mem) : Option (Int32 × Mem) := bindH (fX11_meanCheese F  M) (fun r3 M1 => letM (up2 (up2 M1 130 0 (hi32 r3)) 130 1 (lo32 r3)) (fun M13 => some (0, M13))) (fun z12 M1 => if z12 = 6 then some (1, M1) else none)
def rmL_caughtShare : Room := { frames := 7, cells := 1, slots := 6, locals := 112 }
def fL_caughtShare (F : Nat)  (M : Mem) : Option (Int32 × Mem) := bindH (fX11_caughtShare F  M) (fun r3 M1 => chk (nn64 (FP.f2d r3)) (letM (up2 (up2 M1 130 0 (hi32 (FP.f2d r3))) 130 1 (lo32 (FP.f2d r3))) (fun M14 => some (0, M14)))) (fun z12 M1 => if z12 = 6 then some (1, M1) else none)
def rmL_feed : Room := { frames := 7, cells := 1, slots := 6, locals := 112 }
def fL_feed (F : Nat) (p1 : Int32) (M : Mem) : Option (Int32 × Mem) := bindH (fX11_feed F p1 M) (fun r3 M1 => letM (up2 M1 129 0 r3) (fun M13 => some (0, M13))) (fun z12 M1 => if z12 = 5 then some (1, M1) else none)
def rmL_execute : Room := { frames := 9, cells := 1, slots := 6, locals := 197 }
def fL_execute (F : Nat)  (M : Mem) : Option (Int32 × Mem) := bindH (fX11_execute F  M) (fun r3 M1 => letM (up2 M1 129 0 r3) (fun M13 => some (0, M13))) (fun z12 M1 => if z12 = 2 then some (1, M1) else if z12 = 3 then some (2, M1) else none)
def rmL_faultPosition : Room := { frames := 7, cells := 1, slots := 6, locals := 111 }
def fL_faultPosition (F : Nat)  (M : Mem) : Option (Int32 × Mem) := bindH (fX11_faultPosition F  M) (fun r3 M1 => letM (up2 M1 129 0 r3) (fun M13 => some (0, M13))) (fun z12 M1 => if z12 = 4 then some (1, M1) else none)
def rmL_writeShelf : Room := { frames := 8, cells := 1, slots := 6, locals := 133 }
def fL_writeShelf (F : Nat) (p1 : Int32) (M : Mem) : Option (Int32 × Mem) := bindH (fX11_writeShelf F p1 M) (fun r3 M1 => letM (up2 M1 129 0 r3) (fun M13 => some (0, M13))) (fun z12 M1 => if z12 = 1 then some (1, M1) else none)
def rmL_lineCharacter : Room := { frames := 7, cells := 1, slots := 6, locals := 112 }
def fL_lineCharacter (F : Nat) (p1 : Int32) (M : Mem) : Option (Int32 × Mem) := bindH (fX11_lineCharacter F p1 M) (fun r3 M1 => letM (up2 M1 129 0 r3) (fun M13 => some (0, M13))) (fun z12 M1 => if z12 = 1 then some (1, M1) else none)
def rmL_denial : Room := { frames := 8, cells := 1, slots := 6, locals := 131 }
def fL_denial (F : Nat)  (M : Mem) : Option (Int32 × Mem) := bindH (fX11_denial F  M) (fun r3 M1 => letM (up2 M1 129 0 r3) (fun M13 => some (0, M13))) (fun z12 M1 => if z12 = 4 then some (1, M1) else none)
def rmL_denialDetail : Room := { frames := 8, cells := 1, slots := 6, locals := 131 }
def fL_denialDetail (F : Nat)  (M : Mem) : Option (Int32 × Mem) := bindH (fX11_denialDetail F  M) (fun r3 M1 => letM (up2 M1 129 0 r3) (fun M13 => some (0, M13))) (fun z12 M1 => if z12 = 4 then some (1, M1) else none)
def rmL_denialCause : Room := { frames := 7, cells := 1, slots := 6, locals := 111 }
def fL_denialCause (F : Nat)  (M : Mem) : Option (Int32 × Mem) := bindH (fX11_denialCause F  M) (fun r3 M1 => letM (up2 M1 129 0 r3) (fun M13 => some (0, M13))) (fun z12 M1 => if z12 = 4 then some (1, M1) else none)
def rmL_undo : Room := { frames := 7, cells := 1, slots := 6, locals := 165 }
def fL_undo (F : Nat)  (M : Mem) : Option (Int32 × Mem) := bindH (fX11_undo F  M) (fun r3 M1 => letM (up2 M1 129 0 r3) (fun M13 => some (0, M13))) (fun z12 M1 => if z12 = 5 then some (1, M1) else none)
def rmL_restoreSnapshot : Room := { frames := 7, cells := 1, slots := 6, locals := 143 }
def fL_restoreSnapshot (F : Nat)  (M : Mem) : Option (Int32 × Mem) := bindH (fX11_restoreSnapshot F  M) (fun r3 M1 => letM (up2 M1 129 0 r3) (fun M13 => some (0, M13))) (fun z12 M1 => if z12 = 5 then some (1, M1) else none)
set_option maxHeartbeats 4000000 in
theorem kL_addShelf {G : GG} {l : Launch} (hl : l.stackTraces = false) {F : Nat}  {p1 : Int32} {M M' : Mem} {r : Int32} (h : fL_addShelf F p1 M = some (r, M')) : ConH G l yL_addShelf cL_addShelf 4 (some .int) [(0, 9, 12, 13), (0, 9, 15, 15)] rmL_addShelf [.ref (gad G 0), .int p1, .ref (gad G 129)] M (QI G r M') 1 6 := by
  refine conH_of hl pnL (Nat.le_of_ble_eq_true rfl) (fun κ C T hQ => ?_)
  unfold fL_addShelf at h
  refine V_L (L1 := [(0, .ref (gad G 0)), (1, .int p1), (2, .ref (gad G 129))]) rfl ?_
  refine V_aload_n 0 C 2 dL_addShelf_0 rfl ?_
  refine V_iconst 1 C dL_addShelf_1 ic0 ?_
  refine V_aload_n 2 C 0 dL_addShelf_2 rfl ?_
  refine V_iload_n 3 C 1 dL_addShelf_3 rfl ?_
  obtain ⟨y8, M1, k2, hx9, hk10⟩ := bindH_some h
  refine V_callHI (mc1 := 1) (ms1 := 6) (α := Int32) (enc := id) 4 (runXO (k := 0) (rest := [.int 0, .ref (gad G 129)]) 4 C (kX11_addShelf (cxHL T)  k2) cf_X11_addShelf wk_2_202 (ltl (by rfl) rfl) (ceR_X11 (by rfl)) rfl rfl rfl rfl dL_addShelf_4 rfl rfl (Nat.le_of_ble_eq_true rfl) (Nat.le_of_ble_eq_true rfl)) (fun z12 e11 => ?_) (fun r3 e11 => ?_)
  · replace h := hx9 z12 e11
    by_cases c15 : z12 = 2
    · replace h := ite_t c15 h
      rw [c15]
      refine V_catch C T [] ⟨0, 9, 12, 13⟩ [⟨0, 9, 15, 15⟩] rfl (fun z hz => nomatch hz) (by decide) (by decide) wk_2_200 wk_3_121 (fun q16 => ?_)
      refine V_astore_n 12 C [(3, .ref q16), (0, .ref (gad G 0)), (1, .int p1), (2, .ref (gad G 129))] dL_addShelf_12 rfl rfl rfl ?_
      refine V_iconst 13 C dL_addShelf_13 ic1 ?_
      exact V_iretH 14 C hQ h rfl rfl dL_addShelf_14
    replace h := ite_f c15 h
    by_cases c17 : z12 = 3
    · replace h := ite_t c17 h
      rw [c17]
      refine V_catch C T [⟨0, 9, 12, 13⟩] ⟨0, 9, 15, 15⟩ [] rfl (List.forall_mem_cons.mpr ⟨⟨by decide, _, wk_2_200, by decide +kernel⟩, (fun z hz => nomatch hz)⟩) (by decide) (by decide) wk_2_201 wk_3_153 (fun q18 => ?_)
      refine V_astore_n 15 C [(3, .ref q18), (0, .ref (gad G 0)), (1, .int p1), (2, .ref (gad G 129))] dL_addShelf_15 rfl rfl rfl ?_
      refine V_iconst 16 C dL_addShelf_16 ic2 ?_
      exact V_iretH 17 C hQ h rfl rfl dL_addShelf_17
    replace h := ite_f c17 h
    cases h
  · replace h := hk10 r3 e11
    refine V_i2l 7 C dL_addShelf_7 ?_
    obtain ⟨M13, e14, h⟩ := letM_some h
    refine V_last (k := 129) 8 C dL_addShelf_8 (by rfl) ?_
    refine V_eqM e14 ?_
    refine V_goto 9 18 C dL_addShelf_9 (by decide) ?_
    refine V_iconst 18 C dL_addShelf_18 ic0 ?_
    exact V_iretH 19 C hQ h rfl rfl dL_addShelf_19
set_option maxHeartbeats 4000000 in
theorem kL_link {G : GG} {l : Launch} (hl : l.stackTraces = false) {F : Nat}  {p1 : Int32} {p2 : Int32} {M M' : Mem} {r : Int32} (h : fL_link F p1 p2 M = some (r, M')) : ConH G l yL_link cL_link 5 (some .int) [(0, 10, 13, 21), (0, 10, 17, 15)] rmL_link [.ref (gad G 0), .int p1, .int p2, .ref (gad G 129)] M (QI G r M') 1 6 := by
  refine conH_of hl pnL (Nat.le_of_ble_eq_true rfl) (fun κ C T hQ => ?_)
  unfold fL_link at h
  refine V_L (L1 := [(0, .ref (gad G 0)), (1, .int p1), (2, .int p2), (3, .ref (gad G 129))]) rfl ?_
  refine V_aload_n 0 C 3 dL_link_0 rfl ?_
  refine V_iconst 1 C dL_link_1 ic0 ?_
  refine V_aload_n 2 C 0 dL_link_2 rfl ?_
  refine V_iload_n 3 C 1 dL_link_3 rfl ?_
  refine V_iload_n 4 C 2 dL_link_4 rfl ?_
  obtain ⟨y8, M1, k2, hx9, hk10⟩ := bindH_some h
  refine V_callHI (mc1 := 1) (ms1 := 6) (α := Int32) (enc := id) 5 (runXO (k := 0) (rest := [.int 0, .ref (gad G 129)]) 5 C (kX11_link (cxHL T)  k2) cf_X11_link wk_4_76 (ltl (by rfl) rfl) (ceR_X11 (by rfl)) rfl rfl rfl rfl dL_link_5 rfl rfl (Nat.le_of_ble_eq_true rfl) (Nat.le_of_ble_eq_true rfl)) (fun z12 e11 => ?_) (fun r3 e11 => ?_)
  · replace h := hx9 z12 e11
    by_cases c15 : z12 = 1
    · replace h := ite_t c15 h
      rw [c15]
      refine V_catch C T [] ⟨0, 10, 13, 21⟩ [⟨0, 10, 17, 15⟩] rfl (fun z hz => nomatch hz) (by decide) (by decide) wk_4_55 wk_3_48 (fun q16 => ?_)
      refine V_astore 13 C [(4, .ref q16), (0, .ref (gad G 0)), (1, .int p1), (2, .int p2), (3, .ref (gad G 129))] dL_link_13 rfl rfl ?_
      refine V_iconst 15 C dL_link_15 ic1 ?_
      exact V_iretH 16 C hQ h rfl rfl dL_link_16
    replace h := ite_f c15 h
    by_cases c17 : z12 = 3
    · replace h := ite_t c17 h
      rw [c17]
      refine V_catch C T [⟨0, 10, 13, 21⟩] ⟨0, 10, 17, 15⟩ [] rfl (List.forall_mem_cons.mpr ⟨⟨by decide, _, wk_4_55, by decide +kernel⟩, (fun z hz => nomatch hz)⟩) (by decide) (by decide) wk_2_201 wk_3_153 (fun q18 => ?_)
      refine V_astore 17 C [(4, .ref q18), (0, .ref (gad G 0)), (1, .int p1), (2, .int p2), (3, .ref (gad G 129))] dL_link_17 rfl rfl ?_
      refine V_iconst 19 C dL_link_19 ic2 ?_
      exact V_iretH 20 C hQ h rfl rfl dL_link_20
    replace h := ite_f c17 h
    cases h
  · replace h := hk10 r3 e11
    refine V_i2l 8 C dL_link_8 ?_
    obtain ⟨M13, e14, h⟩ := letM_some h
    refine V_last (k := 129) 9 C dL_link_9 (by rfl) ?_
    refine V_eqM e14 ?_
    refine V_goto 10 21 C dL_link_10 (by decide) ?_
    refine V_iconst 21 C dL_link_21 ic0 ?_
    exact V_iretH 22 C hQ h rfl rfl dL_link_22
set_option maxHeartbeats 4000000 in
theorem kL_unlink {G : GG} {l : Launch} (hl : l.stackTraces = false) {F : Nat}  {p1 : Int32} {p2 : Int32} {M M' : Mem} {r : Int32} (h : fL_unlink F p1 p2 M = some (r, M')) : ConH G l yL_unlink cL_unlink 5 (some .int) [(0, 10, 13, 21), (0, 10, 17, 15)] rmL_unlink [.ref (gad G 0), .int p1, .int p2, .ref (gad G 129)] M (QI G r M') 1 6 := by
  refine conH_of hl pnL (Nat.le_of_ble_eq_true rfl) (fun κ C T hQ => ?_)
  unfold fL_unlink at h
  refine V_L (L1 := [(0, .ref (gad G 0)), (1, .int p1), (2, .int p2), (3, .ref (gad G 129))]) rfl ?_
  refine V_aload_n 0 C 3 dL_unlink_0 rfl ?_
  refine V_iconst 1 C dL_unlink_1 ic0 ?_
  refine V_aload_n 2 C 0 dL_unlink_2 rfl ?_
  refine V_iload_n 3 C 1 dL_unlink_3 rfl ?_
  refine V_iload_n 4 C 2 dL_unlink_4 rfl ?_
  obtain ⟨y8, M1, k2, hx9, hk10⟩ := bindH_some h
  refine V_callHI (mc1 := 1) (ms1 := 6) (α := Int32) (enc := id) 5 (runXO (k := 0) (rest := [.int 0, .ref (gad G 129)]) 5 C (kX11_unlink (cxHL T)  k2) cf_X11_unlink wk_4_85 (ltl (by rfl) rfl) (ceR_X11 (by rfl)) rfl rfl rfl rfl dL_unlink_5 rfl rfl (Nat.le_of_ble_eq_true rfl) (Nat.le_of_ble_eq_true rfl)) (fun z12 e11 => ?_) (fun r3 e11 => ?_)
  · replace h := hx9 z12 e11
    by_cases c15 : z12 = 1
    · replace h := ite_t c15 h
      rw [c15]
      refine V_catch C T [] ⟨0, 10, 13, 21⟩ [⟨0, 10, 17, 15⟩] rfl (fun z hz => nomatch hz) (by decide) (by decide) wk_4_55 wk_3_48 (fun q16 => ?_)
      refine V_astore 13 C [(4, .ref q16), (0, .ref (gad G 0)), (1, .int p1), (2, .int p2), (3, .ref (gad G 129))] dL_unlink_13 rfl rfl ?_
      refine V_iconst 15 C dL_unlink_15 ic1 ?_
      exact V_iretH 16 C hQ h rfl rfl dL_unlink_16
    replace h := ite_f c15 h
    by_cases c17 : z12 = 3
    · replace h := ite_t c17 h
      rw [c17]
      refine V_catch C T [⟨0, 10, 13, 21⟩] ⟨0, 10, 17, 15⟩ [] rfl (List.forall_mem_cons.mpr ⟨⟨by decide, _, wk_4_55, by decide +kernel⟩, (fun z hz => nomatch hz)⟩) (by decide) (by decide) wk_2_201 wk_3_153 (fun q18 => ?_)
      refine V_astore 17 C [(4, .ref q18), (0, .ref (gad G 0)), (1, .int p1), (2, .int p2), (3, .ref (gad G 129))] dL_unlink_17 rfl rfl ?_
      refine V_iconst 19 C dL_unlink_19 ic2 ?_
      exact V_iretH 20 C hQ h rfl rfl dL_unlink_20
    replace h := ite_f c17 h
    cases h
  · replace h := hk10 r3 e11
    refine V_i2l 8 C dL_unlink_8 ?_
    obtain ⟨M13, e14, h⟩ := letM_some h
    refine V_last (k := 129) 9 C dL_unlink_9 (by rfl) ?_
    refine V_eqM e14 ?_
    refine V_goto 10 21 C dL_unlink_10 (by decide) ?_
    refine V_iconst 21 C dL_unlink_21 ic0 ?_
    exact V_iretH 22 C hQ h rfl rfl dL_unlink_22
set_option maxHeartbeats 4000000 in
theorem kL_setBlind {G : GG} {l : Launch} (hl : l.stackTraces = false) {F : Nat}  {p1 : Int32} {p2 : Bool} {M M' : Mem} {r : Int32} (h : fL_setBlind F p1 p2 M = some (r, M')) : ConH G l yL_setBlind cL_setBlind 5 (some .int) [(0, 10, 13, 21), (0, 10, 17, 15)] rmL_setBlind [.ref (gad G 0), .int p1, .int (b2i p2), .ref (gad G 129)] M (QI G r M') 1 6 := by
  refine conH_of hl pnL (Nat.le_of_ble_eq_true rfl) (fun κ C T hQ => ?_)
  unfold fL_setBlind at h
  refine V_L (L1 := [(0, .ref (gad G 0)), (1, .int p1), (2, .int (b2i p2)), (3, .ref (gad G 129))]) rfl ?_
  refine V_aload_n 0 C 3 dL_setBlind_0 rfl ?_
  refine V_iconst 1 C dL_setBlind_1 ic0 ?_
  refine V_aload_n 2 C 0 dL_setBlind_2 rfl ?_
  refine V_iload_n 3 C 1 dL_setBlind_3 rfl ?_
  refine V_iload_n 4 C 2 dL_setBlind_4 rfl ?_
  obtain ⟨y8, M1, k2, hx9, hk10⟩ := bindH_some h
  refine V_callHI (mc1 := 1) (ms1 := 6) (α := Int32) (enc := id) 5 (runXO (k := 0) (rest := [.int 0, .ref (gad G 129)]) 5 C (kX11_setBlind (cxHL T)  k2) cf_X11_setBlind wk_4_94 (ltl (by rfl) rfl) (ceR_X11 (by rfl)) rfl rfl rfl rfl dL_setBlind_5 rfl rfl (Nat.le_of_ble_eq_true rfl) (Nat.le_of_ble_eq_true rfl)) (fun z12 e11 => ?_) (fun r3 e11 => ?_)
  · replace h := hx9 z12 e11
    by_cases c15 : z12 = 1
    · replace h := ite_t c15 h
      rw [c15]
      refine V_catch C T [] ⟨0, 10, 13, 21⟩ [⟨0, 10, 17, 15⟩] rfl (fun z hz => nomatch hz) (by decide) (by decide) wk_4_55 wk_3_48 (fun q16 => ?_)
      refine V_astore 13 C [(4, .ref q16), (0, .ref (gad G 0)), (1, .int p1), (2, .int (b2i p2)), (3, .ref (gad G 129))] dL_setBlind_13 rfl rfl ?_
      refine V_iconst 15 C dL_setBlind_15 ic1 ?_
      exact V_iretH 16 C hQ h rfl rfl dL_setBlind_16
    replace h := ite_f c15 h
    by_cases c17 : z12 = 3
    · replace h := ite_t c17 h
      rw [c17]
      refine V_catch C T [⟨0, 10, 13, 21⟩] ⟨0, 10, 17, 15⟩ [] rfl (List.forall_mem_cons.mpr ⟨⟨by decide, _, wk_4_55, by decide +kernel⟩, (fun z hz => nomatch hz)⟩) (by decide) (by decide) wk_2_201 wk_3_153 (fun q18 => ?_)
      refine V_astore 17 C [(4, .ref q18), (0, .ref (gad G 0)), (1, .int p1), (2, .int (b2i p2)), (3, .ref (gad G 129))] dL_setBlind_17 rfl rfl ?_
      refine V_iconst 19 C dL_setBlind_19 ic2 ?_
      exact V_iretH 20 C hQ h rfl rfl dL_setBlind_20
    replace h := ite_f c17 h
    cases h
  · replace h := hk10 r3 e11
    refine V_i2l 8 C dL_setBlind_8 ?_
    obtain ⟨M13, e14, h⟩ := letM_some h
    refine V_last (k := 129) 9 C dL_setBlind_9 (by rfl) ?_
    refine V_eqM e14 ?_
    refine V_goto 10 21 C dL_setBlind_10 (by decide) ?_
    refine V_iconst 21 C dL_setBlind_21 ic0 ?_
    exact V_iretH 22 C hQ h rfl rfl dL_setBlind_22
set_option maxHeartbeats 4000000 in
theorem kL_fill {G : GG} {l : Launch} (hl : l.stackTraces = false) {F : Nat}  {p1 : Int32} {p2 : Int32} {M M' : Mem} {r : Int32} (h : fL_fill F p1 p2 M = some (r, M')) : ConH G l yL_fill cL_fill 5 (some .int) [(0, 10, 13, 21), (0, 10, 17, 13), (0, 10, 21, 15)] rmL_fill [.ref (gad G 0), .int p1, .int p2, .ref (gad G 129)] M (QI G r M') 1 6 := by
  refine conH_of hl pnL (Nat.le_of_ble_eq_true rfl) (fun κ C T hQ => ?_)
  unfold fL_fill at h
  refine V_L (L1 := [(0, .ref (gad G 0)), (1, .int p1), (2, .int p2), (3, .ref (gad G 129))]) rfl ?_
  refine V_aload_n 0 C 3 dL_fill_0 rfl ?_
  refine V_iconst 1 C dL_fill_1 ic0 ?_
  refine V_aload_n 2 C 0 dL_fill_2 rfl ?_
  refine V_iload_n 3 C 1 dL_fill_3 rfl ?_
  refine V_iload_n 4 C 2 dL_fill_4 rfl ?_
  obtain ⟨y8, M1, k2, hx9, hk10⟩ := bindH_some h
  refine V_callHI (mc1 := 1) (ms1 := 6) (α := Int32) (enc := id) 5 (runXO (k := 0) (rest := [.int 0, .ref (gad G 129)]) 5 C (kX11_fill (cxHL T)  k2) cf_X11_fill wk_4_104 (ltl (by rfl) rfl) (ceR_X11 (by rfl)) rfl rfl rfl rfl dL_fill_5 rfl rfl (Nat.le_of_ble_eq_true rfl) (Nat.le_of_ble_eq_true rfl)) (fun z12 e11 => ?_) (fun r3 e11 => ?_)
  · replace h := hx9 z12 e11
    by_cases c15 : z12 = 1
    · replace h := ite_t c15 h
      rw [c15]
      refine V_catch C T [] ⟨0, 10, 13, 21⟩ [⟨0, 10, 17, 13⟩, ⟨0, 10, 21, 15⟩] rfl (fun z hz => nomatch hz) (by decide) (by decide) wk_4_55 wk_3_48 (fun q16 => ?_)
      refine V_astore 13 C [(4, .ref q16), (0, .ref (gad G 0)), (1, .int p1), (2, .int p2), (3, .ref (gad G 129))] dL_fill_13 rfl rfl ?_
      refine V_iconst 15 C dL_fill_15 ic1 ?_
      exact V_iretH 16 C hQ h rfl rfl dL_fill_16
    replace h := ite_f c15 h
    by_cases c17 : z12 = 2
    · replace h := ite_t c17 h
      rw [c17]
      refine V_catch C T [⟨0, 10, 13, 21⟩] ⟨0, 10, 17, 13⟩ [⟨0, 10, 21, 15⟩] rfl (List.forall_mem_cons.mpr ⟨⟨by decide, _, wk_4_55, by decide +kernel⟩, (fun z hz => nomatch hz)⟩) (by decide) (by decide) wk_2_200 wk_3_121 (fun q18 => ?_)
      refine V_astore 17 C [(4, .ref q18), (0, .ref (gad G 0)), (1, .int p1), (2, .int p2), (3, .ref (gad G 129))] dL_fill_17 rfl rfl ?_
      refine V_iconst 19 C dL_fill_19 ic2 ?_
      exact V_iretH 20 C hQ h rfl rfl dL_fill_20
    replace h := ite_f c17 h
    by_cases c19 : z12 = 3
    · replace h := ite_t c19 h
      rw [c19]
      refine V_catch C T [⟨0, 10, 13, 21⟩, ⟨0, 10, 17, 13⟩] ⟨0, 10, 21, 15⟩ [] rfl (List.forall_mem_cons.mpr ⟨⟨by decide, _, wk_4_55, by decide +kernel⟩, (List.forall_mem_cons.mpr ⟨⟨by decide, _, wk_2_200, by decide +kernel⟩, (fun z hz => nomatch hz)⟩)⟩) (by decide) (by decide) wk_2_201 wk_3_153 (fun q20 => ?_)
      refine V_astore 21 C [(4, .ref q20), (0, .ref (gad G 0)), (1, .int p1), (2, .int p2), (3, .ref (gad G 129))] dL_fill_21 rfl rfl ?_
      refine V_iconst 23 C dL_fill_23 ic3 ?_
      exact V_iretH 24 C hQ h rfl rfl dL_fill_24
    replace h := ite_f c19 h
    cases h
  · replace h := hk10 r3 e11
    refine V_i2l 8 C dL_fill_8 ?_
    obtain ⟨M13, e14, h⟩ := letM_some h
    refine V_last (k := 129) 9 C dL_fill_9 (by rfl) ?_
    refine V_eqM e14 ?_
    refine V_goto 10 25 C dL_fill_10 (by decide) ?_
    refine V_iconst 25 C dL_fill_25 ic0 ?_
    exact V_iretH 26 C hQ h rfl rfl dL_fill_26
set_option maxHeartbeats 4000000 in
theorem kL_cheese {G : GG} {l : Launch} (hl : l.stackTraces = false) {F : Nat}  {p1 : Int32} {M M' : Mem} {r : Int32} (h : fL_cheese F p1 M = some (r, M')) : ConH G l yL_cheese cL_cheese 4 (some .int) [(0, 9, 12, 21)] rmL_cheese [.ref (gad G 0), .int p1, .ref (gad G 129)] M (QI G r M') 1 6 := by
  refine conH_of hl pnL (Nat.le_of_ble_eq_true rfl) (fun κ C T hQ => ?_)
  unfold fL_cheese at h
  refine V_L (L1 := [(0, .ref (gad G 0)), (1, .int p1), (2, .ref (gad G 129))]) rfl ?_
  refine V_aload_n 0 C 2 dL_cheese_0 rfl ?_
  refine V_iconst 1 C dL_cheese_1 ic0 ?_
  refine V_aload_n 2 C 0 dL_cheese_2 rfl ?_
  refine V_iload_n 3 C 1 dL_cheese_3 rfl ?_
  obtain ⟨y8, M1, k2, hx9, hk10⟩ := bindH_some h
  refine V_callHI (mc1 := 1) (ms1 := 6) (α := Int32) (enc := id) 4 (runXO (k := 0) (rest := [.int 0, .ref (gad G 129)]) 4 C (kX11_cheese (cxHL T)  k2) cf_X11_cheese wk_4_113 (ltl (by rfl) rfl) (ceR_X11 (by rfl)) rfl rfl rfl rfl dL_cheese_4 rfl rfl (Nat.le_of_ble_eq_true rfl) (Nat.le_of_ble_eq_true rfl)) (fun z12 e11 => ?_) (fun r3 e11 => ?_)
  · replace h := hx9 z12 e11
    by_cases c15 : z12 = 1
    · replace h := ite_t c15 h
      rw [c15]
      refine V_catch C T [] ⟨0, 9, 12, 21⟩ [] rfl (fun z hz => nomatch hz) (by decide) (by decide) wk_4_55 wk_3_48 (fun q16 => ?_)
      refine V_astore_n 12 C [(3, .ref q16), (0, .ref (gad G 0)), (1, .int p1), (2, .ref (gad G 129))] dL_cheese_12 rfl rfl rfl ?_
      refine V_iconst 13 C dL_cheese_13 ic1 ?_
      exact V_iretH 14 C hQ h rfl rfl dL_cheese_14
    replace h := ite_f c15 h
    cases h
  · replace h := hk10 r3 e11
    refine V_i2l 7 C dL_cheese_7 ?_
    obtain ⟨M13, e14, h⟩ := letM_some h
    refine V_last (k := 129) 8 C dL_cheese_8 (by rfl) ?_
    refine V_eqM e14 ?_
    refine V_goto 9 15 C dL_cheese_9 (by decide) ?_
    refine V_iconst 15 C dL_cheese_15 ic0 ?_
    exact V_iretH 16 C hQ h rfl rfl dL_cheese_16
set_option maxHeartbeats 4000000 in
theorem kL_isBlind {G : GG} {l : Launch} (hl : l.stackTraces = false) {F : Nat}  {p1 : Int32} {M M' : Mem} {r : Int32} (h : fL_isBlind F p1 M = some (r, M')) : ConH G l yL_isBlind cL_isBlind 4 (some .int) [(0, 16, 19, 21)] rmL_isBlind [.ref (gad G 0), .int p1, .ref (gad G 129)] M (QI G r M') 1 6 := by
  refine conH_of hl pnL (Nat.le_of_ble_eq_true rfl) (fun κ C T hQ => ?_)
  unfold fL_isBlind at h
  refine V_L (L1 := [(0, .ref (gad G 0)), (1, .int p1), (2, .ref (gad G 129))]) rfl ?_
  refine V_aload_n 0 C 2 dL_isBlind_0 rfl ?_
  refine V_iconst 1 C dL_isBlind_1 ic0 ?_
  refine V_aload_n 2 C 0 dL_isBlind_2 rfl ?_
  refine V_iload_n 3 C 1 dL_isBlind_3 rfl ?_
  obtain ⟨y8, M1, k2, hx9, hk10⟩ := bindH_some h
  refine V_callHI (mc1 := 1) (ms1 := 6) (α := Bool) (enc := b2i) 4 (runXO (k := 0) (rest := [.int 0, .ref (gad G 129)]) 4 C (kX11_isBlind (cxHL T)  k2) cf_X11_isBlind wk_4_127 (ltl (by rfl) rfl) (ceR_X11 (by rfl)) rfl rfl rfl rfl dL_isBlind_4 rfl rfl (Nat.le_of_ble_eq_true rfl) (Nat.le_of_ble_eq_true rfl)) (fun z12 e11 => ?_) (fun r3 e11 => ?_)
  · replace h := hx9 z12 e11
    by_cases c18 : z12 = 1
    · replace h := ite_t c18 h
      rw [c18]
      refine V_catch C T [] ⟨0, 16, 19, 21⟩ [] rfl (fun z hz => nomatch hz) (by decide) (by decide) wk_4_55 wk_3_48 (fun q19 => ?_)
      refine V_astore_n 19 C [(3, .ref q19), (0, .ref (gad G 0)), (1, .int p1), (2, .ref (gad G 129))] dL_isBlind_19 rfl rfl rfl ?_
      refine V_iconst 20 C dL_isBlind_20 ic1 ?_
      exact V_iretH 21 C hQ h rfl rfl dL_isBlind_21
    replace h := ite_f c18 h
    cases h
  · replace h := hk10 r3 e11
    refine V_ifeq_b 7 14 C dL_isBlind_7 (by decide) (fun c13 => ?_) (fun c13 => ?_)
    · replace h := ite_f c13 h
      refine V_lconst 14 C 0 dL_isBlind_14 (by decide) ?_
      obtain ⟨M14, e15, h⟩ := letM_some h
      refine V_last (k := 129) 15 C dL_isBlind_15 (by rfl) ?_
      refine V_eqM e15 ?_
      refine V_goto 16 22 C dL_isBlind_16 (by decide) ?_
      refine V_iconst 22 C dL_isBlind_22 ic0 ?_
      exact V_iretH 23 C hQ h rfl rfl dL_isBlind_23
    · replace h := ite_t c13 h
      refine V_lconst 10 C 1 dL_isBlind_10 (by decide) ?_
      refine V_goto 11 15 C dL_isBlind_11 (by decide) ?_
      obtain ⟨M16, e17, h⟩ := letM_some h
      refine V_last (k := 129) 15 C dL_isBlind_15 (by rfl) ?_
      refine V_eqM e17 ?_
      refine V_goto 16 22 C dL_isBlind_16 (by decide) ?_
      refine V_iconst 22 C dL_isBlind_22 ic0 ?_
      exact V_iretH 23 C hQ h rfl rfl dL_isBlind_23
set_option maxHeartbeats 4000000 in
theorem kL_neighbourCount {G : GG} {l : Launch} (hl : l.stackTraces = false) {F : Nat}  {p1 : Int32} {M M' : Mem} {r : Int32} (h : fL_neighbourCount F p1 M = some (r, M')) : ConH G l yL_neighbourCount cL_neighbourCount 4 (some .int) [(0, 9, 12, 21)] rmL_neighbourCount [.ref (gad G 0), .int p1, .ref (gad G 129)] M (QI G r M') 1 6 := by
  refine conH_of hl pnL (Nat.le_of_ble_eq_true rfl) (fun κ C T hQ => ?_)
  unfold fL_neighbourCount at h
  refine V_L (L1 := [(0, .ref (gad G 0)), (1, .int p1), (2, .ref (gad G 129))]) rfl ?_
  refine V_aload_n 0 C 2 dL_neighbourCount_0 rfl ?_
  refine V_iconst 1 C dL_neighbourCount_1 ic0 ?_
  refine V_aload_n 2 C 0 dL_neighbourCount_2 rfl ?_
  refine V_iload_n 3 C 1 dL_neighbourCount_3 rfl ?_
  obtain ⟨y8, M1, k2, hx9, hk10⟩ := bindH_some h
  refine V_callHI (mc1 := 1) (ms1 := 6) (α := Int32) (enc := id) 4 (runXO (k := 0) (rest := [.int 0, .ref (gad G 129)]) 4 C (kX11_neighbourCount (cxHL T)  k2) cf_X11_neighbourCount wk_4_135 (ltl (by rfl) rfl) (ceR_X11 (by rfl)) rfl rfl rfl rfl dL_neighbourCount_4 rfl rfl (Nat.le_of_ble_eq_true rfl) (Nat.le_of_ble_eq_true rfl)) (fun z12 e11 => ?_) (fun r3 e11 => ?_)
  · replace h := hx9 z12 e11
    by_cases c15 : z12 = 1
    · replace h := ite_t c15 h
      rw [c15]
      refine V_catch C T [] ⟨0, 9, 12, 21⟩ [] rfl (fun z hz => nomatch hz) (by decide) (by decide) wk_4_55 wk_3_48 (fun q16 => ?_)
      refine V_astore_n 12 C [(3, .ref q16), (0, .ref (gad G 0)), (1, .int p1), (2, .ref (gad G 129))] dL_neighbourCount_12 rfl rfl rfl ?_
      refine V_iconst 13 C dL_neighbourCount_13 ic1 ?_
      exact V_iretH 14 C hQ h rfl rfl dL_neighbourCount_14
    replace h := ite_f c15 h
    cases h
  · replace h := hk10 r3 e11
    refine V_i2l 7 C dL_neighbourCount_7 ?_
    obtain ⟨M13, e14, h⟩ := letM_some h
    refine V_last (k := 129) 8 C dL_neighbourCount_8 (by rfl) ?_
    refine V_eqM e14 ?_
    refine V_goto 9 15 C dL_neighbourCount_9 (by decide) ?_
    refine V_iconst 15 C dL_neighbourCount_15 ic0 ?_
    exact V_iretH 16 C hQ h rfl rfl dL_neighbourCount_16
set_option maxHeartbeats 4000000 in
theorem kL_distance {G : GG} {l : Launch} (hl : l.stackTraces = false) {F : Nat}  {p1 : Int32} {p2 : Int32} {M M' : Mem} {r : Int32} (h : fL_distance F p1 p2 M = some (r, M')) : ConH G l yL_distance cL_distance 5 (some .int) [(0, 10, 13, 21), (0, 10, 17, 46)] rmL_distance [.ref (gad G 0), .int p1, .int p2, .ref (gad G 129)] M (QI G r M') 3 18 := by
  refine conH_of hl pnL (Nat.le_of_ble_eq_true rfl) (fun κ C T hQ => ?_)
  unfold fL_distance at h
  refine V_L (L1 := [(0, .ref (gad G 0)), (1, .int p1), (2, .int p2), (3, .ref (gad G 129))]) rfl ?_
  refine V_aload_n 0 C 3 dL_distance_0 rfl ?_
  refine V_iconst 1 C dL_distance_1 ic0 ?_
  refine V_aload_n 2 C 0 dL_distance_2 rfl ?_
  refine V_iload_n 3 C 1 dL_distance_3 rfl ?_
  refine V_iload_n 4 C 2 dL_distance_4 rfl ?_
  obtain ⟨y8, M1, k2, hx9, hk10⟩ := bindH_some h
  refine V_callHI (mc1 := 3) (ms1 := 18) (α := Int32) (enc := id) 5 (runXO (k := 0) (rest := [.int 0, .ref (gad G 129)]) 5 C (kX11_distance (cxHL T)  k2) cf_X11_distance wk_4_144 (ltl (by rfl) rfl) (ceR_X11 (by rfl)) rfl rfl rfl rfl dL_distance_5 rfl rfl (Nat.le_of_ble_eq_true rfl) (Nat.le_of_ble_eq_true rfl)) (fun z12 e11 => ?_) (fun r3 e11 => ?_)
  · replace h := hx9 z12 e11
    by_cases c15 : z12 = 1
    · replace h := ite_t c15 h
      rw [c15]
      refine V_catch C T [] ⟨0, 10, 13, 21⟩ [⟨0, 10, 17, 46⟩] rfl (fun z hz => nomatch hz) (by decide) (by decide) wk_4_55 wk_3_48 (fun q16 => ?_)
      refine V_astore 13 C [(4, .ref q16), (0, .ref (gad G 0)), (1, .int p1), (2, .int p2), (3, .ref (gad G 129))] dL_distance_13 rfl rfl ?_
      refine V_iconst 15 C dL_distance_15 ic1 ?_
      exact V_iretH 16 C hQ h rfl rfl dL_distance_16
    replace h := ite_f c15 h
    by_cases c17 : z12 = 4
    · replace h := ite_t c17 h
      rw [c17]
      refine V_catch C T [⟨0, 10, 13, 21⟩] ⟨0, 10, 17, 46⟩ [] rfl (List.forall_mem_cons.mpr ⟨⟨by decide, _, wk_4_55, by decide +kernel⟩, (fun z hz => nomatch hz)⟩) (by decide) (by decide) wk_4_143 wk_4_154 (fun q18 => ?_)
      refine V_astore 17 C [(4, .ref q18), (0, .ref (gad G 0)), (1, .int p1), (2, .int p2), (3, .ref (gad G 129))] dL_distance_17 rfl rfl ?_
      refine V_iconst 19 C dL_distance_19 ic2 ?_
      exact V_iretH 20 C hQ h rfl rfl dL_distance_20
    replace h := ite_f c17 h
    cases h
  · replace h := hk10 r3 e11
    refine V_i2l 8 C dL_distance_8 ?_
    obtain ⟨M13, e14, h⟩ := letM_some h
    refine V_last (k := 129) 9 C dL_distance_9 (by rfl) ?_
    refine V_eqM e14 ?_
    refine V_goto 10 21 C dL_distance_10 (by decide) ?_
    refine V_iconst 21 C dL_distance_21 ic0 ?_
    exact V_iretH 22 C hQ h rfl rfl dL_distance_22
set_option maxHeartbeats 4000000 in
theorem kL_distanceByTable {G : GG} {l : Launch} (hl : l.stackTraces = false) {F : Nat}  {p1 : Int32} {p2 : Int32} {M M' : Mem} {r : Int32} (h : fL_distanceByTable F p1 p2 M = some (r, M')) : ConH G l yL_distanceByTable cL_distanceByTable 5 (some .int) [(0, 10, 13, 21), (0, 10, 17, 46)] rmL_distanceByTable [.ref (gad G 0), .int p1, .int p2, .ref (gad G 129)] M (QI G r M') 3 18 := by
  refine conH_of hl pnL (Nat.le_of_ble_eq_true rfl) (fun κ C T hQ => ?_)
  unfold fL_distanceByTable at h
  refine V_L (L1 := [(0, .ref (gad G 0)), (1, .int p1), (2, .int p2), (3, .ref (gad G 129))]) rfl ?_
  refine V_aload_n 0 C 3 dL_distanceByTable_0 rfl ?_
  refine V_iconst 1 C dL_distanceByTable_1 ic0 ?_
  refine V_aload_n 2 C 0 dL_distanceByTable_2 rfl ?_
  refine V_iload_n 3 C 1 dL_distanceByTable_3 rfl ?_
  refine V_iload_n 4 C 2 dL_distanceByTable_4 rfl ?_
  obtain ⟨y8, M1, k2, hx9, hk10⟩ := bindH_some h
  refine V_callHI (mc1 := 3) (ms1 := 18) (α := Int32) (enc := id) 5 (runXO (k := 0) (rest := [.int 0, .ref (gad G 129)]) 5 C (kX11_distanceByTable (cxHL T)  k2) cf_X11_distanceByTable wk_4_171 (ltl (by rfl) rfl) (ceR_X11 (by rfl)) rfl rfl rfl rfl dL_distanceByTable_5 rfl rfl (Nat.le_of_ble_eq_true rfl) (Nat.le_of_ble_eq_true rfl)) (fun z12 e11 => ?_) (fun r3 e11 => ?_)
  · replace h := hx9 z12 e11
    by_cases c15 : z12 = 1
    · replace h := ite_t c15 h
      rw [c15]
      refine V_catch C T [] ⟨0, 10, 13, 21⟩ [⟨0, 10, 17, 46⟩] rfl (fun z hz => nomatch hz) (by decide) (by decide) wk_4_55 wk_3_48 (fun q16 => ?_)
      refine V_astore 13 C [(4, .ref q16), (0, .ref (gad G 0)), (1, .int p1), (2, .int p2), (3, .ref (gad G 129))] dL_distanceByTable_13 rfl rfl ?_
      refine V_iconst 15 C dL_distanceByTable_15 ic1 ?_
      exact V_iretH 16 C hQ h rfl rfl dL_distanceByTable_16
    replace h := ite_f c15 h
    by_cases c17 : z12 = 4
    · replace h := ite_t c17 h
      rw [c17]
      refine V_catch C T [⟨0, 10, 13, 21⟩] ⟨0, 10, 17, 46⟩ [] rfl (List.forall_mem_cons.mpr ⟨⟨by decide, _, wk_4_55, by decide +kernel⟩, (fun z hz => nomatch hz)⟩) (by decide) (by decide) wk_4_143 wk_4_154 (fun q18 => ?_)
      refine V_astore 17 C [(4, .ref q18), (0, .ref (gad G 0)), (1, .int p1), (2, .int p2), (3, .ref (gad G 129))] dL_distanceByTable_17 rfl rfl ?_
      refine V_iconst 19 C dL_distanceByTable_19 ic2 ?_
      exact V_iretH 20 C hQ h rfl rfl dL_distanceByTable_20
    replace h := ite_f c17 h
    cases h
  · replace h := hk10 r3 e11
    refine V_i2l 8 C dL_distanceByTable_8 ?_
    obtain ⟨M13, e14, h⟩ := letM_some h
    refine V_last (k := 129) 9 C dL_distanceByTable_9 (by rfl) ?_
    refine V_eqM e14 ?_
    refine V_goto 10 21 C dL_distanceByTable_10 (by decide) ?_
    refine V_iconst 21 C dL_distanceByTable_21 ic0 ?_
    exact V_iretH 22 C hQ h rfl rfl dL_distanceByTable_22
set_option maxHeartbeats 4000000 in
theorem kL_shelfByCheese {G : GG} {l : Launch} (hl : l.stackTraces = false) {F : Nat}  {p1 : Int32} {M M' : Mem} {r : Int32} (h : fL_shelfByCheese F p1 M = some (r, M')) : ConH G l yL_shelfByCheese cL_shelfByCheese 4 (some .int) [(0, 9, 12, 46)] rmL_shelfByCheese [.ref (gad G 0), .int p1, .ref (gad G 129)] M (QI G r M') 1 6 := by
  refine conH_of hl pnL (Nat.le_of_ble_eq_true rfl) (fun κ C T hQ => ?_)
  unfold fL_shelfByCheese at h
  refine V_L (L1 := [(0, .ref (gad G 0)), (1, .int p1), (2, .ref (gad G 129))]) rfl ?_
  refine V_aload_n 0 C 2 dL_shelfByCheese_0 rfl ?_
  refine V_iconst 1 C dL_shelfByCheese_1 ic0 ?_
  refine V_aload_n 2 C 0 dL_shelfByCheese_2 rfl ?_
  refine V_iload_n 3 C 1 dL_shelfByCheese_3 rfl ?_
  obtain ⟨y8, M1, k2, hx9, hk10⟩ := bindH_some h
  refine V_callHI (mc1 := 1) (ms1 := 6) (α := Int32) (enc := id) 4 (runXO (k := 0) (rest := [.int 0, .ref (gad G 129)]) 4 C (kX11_shelfByCheese (cxHL T)  k2) cf_X11_shelfByCheese wk_4_198 (ltl (by rfl) rfl) (ceR_X11 (by rfl)) rfl rfl rfl rfl dL_shelfByCheese_4 rfl rfl (Nat.le_of_ble_eq_true rfl) (Nat.le_of_ble_eq_true rfl)) (fun z12 e11 => ?_) (fun r3 e11 => ?_)
  · replace h := hx9 z12 e11
    by_cases c15 : z12 = 4
    · replace h := ite_t c15 h
      rw [c15]
      refine V_catch C T [] ⟨0, 9, 12, 46⟩ [] rfl (fun z hz => nomatch hz) (by decide) (by decide) wk_4_143 wk_4_154 (fun q16 => ?_)
      refine V_astore_n 12 C [(3, .ref q16), (0, .ref (gad G 0)), (1, .int p1), (2, .ref (gad G 129))] dL_shelfByCheese_12 rfl rfl rfl ?_
      refine V_iconst 13 C dL_shelfByCheese_13 ic1 ?_
      exact V_iretH 14 C hQ h rfl rfl dL_shelfByCheese_14
    replace h := ite_f c15 h
    cases h
  · replace h := hk10 r3 e11
    refine V_i2l 7 C dL_shelfByCheese_7 ?_
    obtain ⟨M13, e14, h⟩ := letM_some h
    refine V_last (k := 129) 8 C dL_shelfByCheese_8 (by rfl) ?_
    refine V_eqM e14 ?_
    refine V_goto 9 15 C dL_shelfByCheese_9 (by decide) ?_
    refine V_iconst 15 C dL_shelfByCheese_15 ic0 ?_
    exact V_iretH 16 C hQ h rfl rfl dL_shelfByCheese_16
set_option maxHeartbeats 4000000 in
theorem kL_addStop {G : GG} {l : Launch} (hl : l.stackTraces = false) {F : Nat}  {p1 : Int32} {M M' : Mem} {r : Int32} (h : fL_addStop F p1 M = some (r, M')) : ConH G l yL_addStop cL_addStop 4 (some .int) [(0, 9, 12, 21), (0, 9, 15, 15)] rmL_addStop [.ref (gad G 0), .int p1, .ref (gad G 129)] M (QI G r M') 1 6 := by
  refine conH_of hl pnL (Nat.le_of_ble_eq_true rfl) (fun κ C T hQ => ?_)
  unfold fL_addStop at h
  refine V_L (L1 := [(0, .ref (gad G 0)), (1, .int p1), (2, .ref (gad G 129))]) rfl ?_
  refine V_aload_n 0 C 2 dL_addStop_0 rfl ?_
  refine V_iconst 1 C dL_addStop_1 ic0 ?_
  refine V_aload_n 2 C 0 dL_addStop_2 rfl ?_
  refine V_iload_n 3 C 1 dL_addStop_3 rfl ?_
  obtain ⟨y8, M1, k2, hx9, hk10⟩ := bindH_some h
  refine V_callHI (mc1 := 1) (ms1 := 6) (α := Int32) (enc := id) 4 (runXO (k := 0) (rest := [.int 0, .ref (gad G 129)]) 4 C (kX11_addStop (cxHL T)  k2) cf_X11_addStop wk_4_214 (ltl (by rfl) rfl) (ceR_X11 (by rfl)) rfl rfl rfl rfl dL_addStop_4 rfl rfl (Nat.le_of_ble_eq_true rfl) (Nat.le_of_ble_eq_true rfl)) (fun z12 e11 => ?_) (fun r3 e11 => ?_)
  · replace h := hx9 z12 e11
    by_cases c15 : z12 = 1
    · replace h := ite_t c15 h
      rw [c15]
      refine V_catch C T [] ⟨0, 9, 12, 21⟩ [⟨0, 9, 15, 15⟩] rfl (fun z hz => nomatch hz) (by decide) (by decide) wk_4_55 wk_3_48 (fun q16 => ?_)
      refine V_astore_n 12 C [(3, .ref q16), (0, .ref (gad G 0)), (1, .int p1), (2, .ref (gad G 129))] dL_addStop_12 rfl rfl rfl ?_
      refine V_iconst 13 C dL_addStop_13 ic1 ?_
      exact V_iretH 14 C hQ h rfl rfl dL_addStop_14
    replace h := ite_f c15 h
    by_cases c17 : z12 = 3
    · replace h := ite_t c17 h
      rw [c17]
      refine V_catch C T [⟨0, 9, 12, 21⟩] ⟨0, 9, 15, 15⟩ [] rfl (List.forall_mem_cons.mpr ⟨⟨by decide, _, wk_4_55, by decide +kernel⟩, (fun z hz => nomatch hz)⟩) (by decide) (by decide) wk_2_201 wk_3_153 (fun q18 => ?_)
      refine V_astore_n 15 C [(3, .ref q18), (0, .ref (gad G 0)), (1, .int p1), (2, .ref (gad G 129))] dL_addStop_15 rfl rfl rfl ?_
      refine V_iconst 16 C dL_addStop_16 ic2 ?_
      exact V_iretH 17 C hQ h rfl rfl dL_addStop_17
    replace h := ite_f c17 h
    cases h
  · replace h := hk10 r3 e11
    refine V_i2l 7 C dL_addStop_7 ?_
    obtain ⟨M13, e14, h⟩ := letM_some h
    refine V_last (k := 129) 8 C dL_addStop_8 (by rfl) ?_
    refine V_eqM e14 ?_
    refine V_goto 9 18 C dL_addStop_9 (by decide) ?_
    refine V_iconst 18 C dL_addStop_18 ic0 ?_
    exact V_iretH 19 C hQ h rfl rfl dL_addStop_19
set_option maxHeartbeats 4000000 in
theorem kL_removeStop {G : GG} {l : Launch} (hl : l.stackTraces = false) {F : Nat}  {p1 : Int32} {M M' : Mem} {r : Int32} (h : fL_removeStop F p1 M = some (r, M')) : ConH G l yL_removeStop cL_removeStop 4 (some .int) [(0, 9, 12, 21)] rmL_removeStop [.ref (gad G 0), .int p1, .ref (gad G 129)] M (QI G r M') 1 6 := by
  refine conH_of hl pnL (Nat.le_of_ble_eq_true rfl) (fun κ C T hQ => ?_)
  unfold fL_removeStop at h
  refine V_L (L1 := [(0, .ref (gad G 0)), (1, .int p1), (2, .ref (gad G 129))]) rfl ?_
  refine V_aload_n 0 C 2 dL_removeStop_0 rfl ?_
  refine V_iconst 1 C dL_removeStop_1 ic0 ?_
  refine V_aload_n 2 C 0 dL_removeStop_2 rfl ?_
  refine V_iload_n 3 C 1 dL_removeStop_3 rfl ?_
  obtain ⟨y8, M1, k2, hx9, hk10⟩ := bindH_some h
  refine V_callHI (mc1 := 1) (ms1 := 6) (α := Int32) (enc := id) 4 (runXO (k := 0) (rest := [.int 0, .ref (gad G 129)]) 4 C (kX11_removeStop (cxHL T)  k2) cf_X11_removeStop wk_4_223 (ltl (by rfl) rfl) (ceR_X11 (by rfl)) rfl rfl rfl rfl dL_removeStop_4 rfl rfl (Nat.le_of_ble_eq_true rfl) (Nat.le_of_ble_eq_true rfl)) (fun z12 e11 => ?_) (fun r3 e11 => ?_)
  · replace h := hx9 z12 e11
    by_cases c15 : z12 = 1
    · replace h := ite_t c15 h
      rw [c15]
      refine V_catch C T [] ⟨0, 9, 12, 21⟩ [] rfl (fun z hz => nomatch hz) (by decide) (by decide) wk_4_55 wk_3_48 (fun q16 => ?_)
      refine V_astore_n 12 C [(3, .ref q16), (0, .ref (gad G 0)), (1, .int p1), (2, .ref (gad G 129))] dL_removeStop_12 rfl rfl rfl ?_
      refine V_iconst 13 C dL_removeStop_13 ic1 ?_
      exact V_iretH 14 C hQ h rfl rfl dL_removeStop_14
    replace h := ite_f c15 h
    cases h
  · replace h := hk10 r3 e11
    refine V_i2l 7 C dL_removeStop_7 ?_
    obtain ⟨M13, e14, h⟩ := letM_some h
    refine V_last (k := 129) 8 C dL_removeStop_8 (by rfl) ?_
    refine V_eqM e14 ?_
    refine V_goto 9 15 C dL_removeStop_9 (by decide) ?_
    refine V_iconst 15 C dL_removeStop_15 ic0 ?_
    exact V_iretH 16 C hQ h rfl rfl dL_removeStop_16
set_option maxHeartbeats 4000000 in
theorem kL_shelfOfStop {G : GG} {l : Launch} (hl : l.stackTraces = false) {F : Nat}  {p1 : Int32} {M M' : Mem} {r : Int32} (h : fL_shelfOfStop F p1 M = some (r, M')) : ConH G l yL_shelfOfStop cL_shelfOfStop 4 (some .int) [(0, 9, 12, 21)] rmL_shelfOfStop [.ref (gad G 0), .int p1, .ref (gad G 129)] M (QI G r M') 1 6 := by
  refine conH_of hl pnL (Nat.le_of_ble_eq_true rfl) (fun κ C T hQ => ?_)
  unfold fL_shelfOfStop at h
  refine V_L (L1 := [(0, .ref (gad G 0)), (1, .int p1), (2, .ref (gad G 129))]) rfl ?_
  refine V_aload_n 0 C 2 dL_shelfOfStop_0 rfl ?_
  refine V_iconst 1 C dL_shelfOfStop_1 ic0 ?_
  refine V_aload_n 2 C 0 dL_shelfOfStop_2 rfl ?_
  refine V_iload_n 3 C 1 dL_shelfOfStop_3 rfl ?_
  obtain ⟨y8, M1, k2, hx9, hk10⟩ := bindH_some h
  refine V_callHI (mc1 := 1) (ms1 := 6) (α := Int32) (enc := id) 4 (runXO (k := 0) (rest := [.int 0, .ref (gad G 129)]) 4 C (kX11_shelfOfStop (cxHL T)  k2) cf_X11_shelfOfStop wk_4_232 (ltl (by rfl) rfl) (ceR_X11 (by rfl)) rfl rfl rfl rfl dL_shelfOfStop_4 rfl rfl (Nat.le_of_ble_eq_true rfl) (Nat.le_of_ble_eq_true rfl)) (fun z12 e11 => ?_) (fun r3 e11 => ?_)
  · replace h := hx9 z12 e11
    by_cases c15 : z12 = 1
    · replace h := ite_t c15 h
      rw [c15]
      refine V_catch C T [] ⟨0, 9, 12, 21⟩ [] rfl (fun z hz => nomatch hz) (by decide) (by decide) wk_4_55 wk_3_48 (fun q16 => ?_)
      refine V_astore_n 12 C [(3, .ref q16), (0, .ref (gad G 0)), (1, .int p1), (2, .ref (gad G 129))] dL_shelfOfStop_12 rfl rfl rfl ?_
      refine V_iconst 13 C dL_shelfOfStop_13 ic1 ?_
      exact V_iretH 14 C hQ h rfl rfl dL_shelfOfStop_14
    replace h := ite_f c15 h
    cases h
  · replace h := hk10 r3 e11
    refine V_i2l 7 C dL_shelfOfStop_7 ?_
    obtain ⟨M13, e14, h⟩ := letM_some h
    refine V_last (k := 129) 8 C dL_shelfOfStop_8 (by rfl) ?_
    refine V_eqM e14 ?_
    refine V_goto 9 15 C dL_shelfOfStop_9 (by decide) ?_
    refine V_iconst 15 C dL_shelfOfStop_15 ic0 ?_
    exact V_iretH 16 C hQ h rfl rfl dL_shelfOfStop_16
set_option maxHeartbeats 4000000 in
theorem kL_catShelf {G : GG} {l : Launch} (hl : l.stackTraces = false) {F : Nat}   {M M' : Mem} {r : Int32} (h : fL_catShelf F  M = some (r, M')) : ConH G l yL_catShelf cL_catShelf 3 (some .int) [(0, 8, 11, 46)] rmL_catShelf [.ref (gad G 0), .ref (gad G 129)] M (QI G r M') 1 6 := by
  refine conH_of hl pnL (Nat.le_of_ble_eq_true rfl) (fun κ C T hQ => ?_)
  unfold fL_catShelf at h
  refine V_L (L1 := [(0, .ref (gad G 0)), (1, .ref (gad G 129))]) rfl ?_
  refine V_aload_n 0 C 1 dL_catShelf_0 rfl ?_
  refine V_iconst 1 C dL_catShelf_1 ic0 ?_
  refine V_aload_n 2 C 0 dL_catShelf_2 rfl ?_
  obtain ⟨y8, M1, k2, hx9, hk10⟩ := bindH_some h
  refine V_callHI (mc1 := 1) (ms1 := 6) (α := Int32) (enc := id) 3 (runXO (k := 0) (rest := [.int 0, .ref (gad G 129)]) 3 C (kX11_catShelf (cxHL T)  k2) cf_X11_catShelf wk_5_1 (ltl (by rfl) rfl) (ceR_X11 (by rfl)) rfl rfl rfl rfl dL_catShelf_3 rfl rfl (Nat.le_of_ble_eq_true rfl) (Nat.le_of_ble_eq_true rfl)) (fun z12 e11 => ?_) (fun r3 e11 => ?_)
  · replace h := hx9 z12 e11
    by_cases c15 : z12 = 4
    · replace h := ite_t c15 h
      rw [c15]
      refine V_catch C T [] ⟨0, 8, 11, 46⟩ [] rfl (fun z hz => nomatch hz) (by decide) (by decide) wk_4_143 wk_4_154 (fun q16 => ?_)
      refine V_astore_n 11 C [(2, .ref q16), (0, .ref (gad G 0)), (1, .ref (gad G 129))] dL_catShelf_11 rfl rfl rfl ?_
      refine V_iconst 12 C dL_catShelf_12 ic1 ?_
      exact V_iretH 13 C hQ h rfl rfl dL_catShelf_13
    replace h := ite_f c15 h
    cases h
  · replace h := hk10 r3 e11
    refine V_i2l 6 C dL_catShelf_6 ?_
    obtain ⟨M13, e14, h⟩ := letM_some h
    refine V_last (k := 129) 7 C dL_catShelf_7 (by rfl) ?_
    refine V_eqM e14 ?_
    refine V_goto 8 14 C dL_catShelf_8 (by decide) ?_
    refine V_iconst 14 C dL_catShelf_14 ic0 ?_
    exact V_iretH 15 C hQ h rfl rfl dL_catShelf_15
set_option maxHeartbeats 4000000 in
theorem kL_goal {G : GG} {l : Launch} (hl : l.stackTraces = false) {F : Nat}   {M M' : Mem} {r : Int32} (h : fL_goal F  M = some (r, M')) : ConH G l yL_goal cL_goal 3 (some .int) [(0, 8, 11, 46)] rmL_goal [.ref (gad G 0), .ref (gad G 129)] M (QI G r M') 1 6 := by
  refine conH_of hl pnL (Nat.le_of_ble_eq_true rfl) (fun κ C T hQ => ?_)
  unfold fL_goal at h
  refine V_L (L1 := [(0, .ref (gad G 0)), (1, .ref (gad G 129))]) rfl ?_
  refine V_aload_n 0 C 1 dL_goal_0 rfl ?_
  refine V_iconst 1 C dL_goal_1 ic0 ?_
  refine V_aload_n 2 C 0 dL_goal_2 rfl ?_
  obtain ⟨y8, M1, k2, hx9, hk10⟩ := bindH_some h
  refine V_callHI (mc1 := 1) (ms1 := 6) (α := Int32) (enc := id) 3 (runXO (k := 0) (rest := [.int 0, .ref (gad G 129)]) 3 C (kX11_goal (cxHL T)  k2) cf_X11_goal wk_5_13 (ltl (by rfl) rfl) (ceR_X11 (by rfl)) rfl rfl rfl rfl dL_goal_3 rfl rfl (Nat.le_of_ble_eq_true rfl) (Nat.le_of_ble_eq_true rfl)) (fun z12 e11 => ?_) (fun r3 e11 => ?_)
  · replace h := hx9 z12 e11
    by_cases c15 : z12 = 4
    · replace h := ite_t c15 h
      rw [c15]
      refine V_catch C T [] ⟨0, 8, 11, 46⟩ [] rfl (fun z hz => nomatch hz) (by decide) (by decide) wk_4_143 wk_4_154 (fun q16 => ?_)
      refine V_astore_n 11 C [(2, .ref q16), (0, .ref (gad G 0)), (1, .ref (gad G 129))] dL_goal_11 rfl rfl rfl ?_
      refine V_iconst 12 C dL_goal_12 ic1 ?_
      exact V_iretH 13 C hQ h rfl rfl dL_goal_13
    replace h := ite_f c15 h
    cases h
  · replace h := hk10 r3 e11
    refine V_i2l 6 C dL_goal_6 ?_
    obtain ⟨M13, e14, h⟩ := letM_some h
    refine V_last (k := 129) 7 C dL_goal_7 (by rfl) ?_
    refine V_eqM e14 ?_
    refine V_goto 8 14 C dL_goal_8 (by decide) ?_
    refine V_iconst 14 C dL_goal_14 ic0 ?_
    exact V_iretH 15 C hQ h rfl rfl dL_goal_15
set_option maxHeartbeats 4000000 in
theorem kL_nextShelf {G : GG} {l : Launch} (hl : l.stackTraces = false) {F : Nat}   {M M' : Mem} {r : Int32} (h : fL_nextShelf F  M = some (r, M')) : ConH G l yL_nextShelf cL_nextShelf 3 (some .int) [(0, 8, 11, 46)] rmL_nextShelf [.ref (gad G 0), .ref (gad G 129)] M (QI G r M') 1 6 := by
  refine conH_of hl pnL (Nat.le_of_ble_eq_true rfl) (fun κ C T hQ => ?_)
  unfold fL_nextShelf at h
  refine V_L (L1 := [(0, .ref (gad G 0)), (1, .ref (gad G 129))]) rfl ?_
  refine V_aload_n 0 C 1 dL_nextShelf_0 rfl ?_
  refine V_iconst 1 C dL_nextShelf_1 ic0 ?_
  refine V_aload_n 2 C 0 dL_nextShelf_2 rfl ?_
  obtain ⟨y8, M1, k2, hx9, hk10⟩ := bindH_some h
  refine V_callHI (mc1 := 1) (ms1 := 6) (α := Int32) (enc := id) 3 (runXO (k := 0) (rest := [.int 0, .ref (gad G 129)]) 3 C (kX11_nextShelf (cxHL T)  k2) cf_X11_nextShelf wk_5_21 (ltl (by rfl) rfl) (ceR_X11 (by rfl)) rfl rfl rfl rfl dL_nextShelf_3 rfl rfl (Nat.le_of_ble_eq_true rfl) (Nat.le_of_ble_eq_true rfl)) (fun z12 e11 => ?_) (fun r3 e11 => ?_)
  · replace h := hx9 z12 e11
    by_cases c15 : z12 = 4
    · replace h := ite_t c15 h
      rw [c15]
      refine V_catch C T [] ⟨0, 8, 11, 46⟩ [] rfl (fun z hz => nomatch hz) (by decide) (by decide) wk_4_143 wk_4_154 (fun q16 => ?_)
      refine V_astore_n 11 C [(2, .ref q16), (0, .ref (gad G 0)), (1, .ref (gad G 129))] dL_nextShelf_11 rfl rfl rfl ?_
      refine V_iconst 12 C dL_nextShelf_12 ic1 ?_
      exact V_iretH 13 C hQ h rfl rfl dL_nextShelf_13
    replace h := ite_f c15 h
    cases h
  · replace h := hk10 r3 e11
    refine V_i2l 6 C dL_nextShelf_6 ?_
    obtain ⟨M13, e14, h⟩ := letM_some h
    refine V_last (k := 129) 7 C dL_nextShelf_7 (by rfl) ?_
    refine V_eqM e14 ?_
    refine V_goto 8 14 C dL_nextShelf_8 (by decide) ?_
    refine V_iconst 14 C dL_nextShelf_14 ic0 ?_
    exact V_iretH 15 C hQ h rfl rfl dL_nextShelf_15
set_option maxHeartbeats 4000000 in
theorem kL_lapLength {G : GG} {l : Launch} (hl : l.stackTraces = false) {F : Nat}   {M M' : Mem} {r : Int32} (h : fL_lapLength F  M = some (r, M')) : ConH G l yL_lapLength cL_lapLength 3 (some .int) [(0, 8, 11, 46)] rmL_lapLength [.ref (gad G 0), .ref (gad G 129)] M (QI G r M') 1 6 := by
  refine conH_of hl pnL (Nat.le_of_ble_eq_true rfl) (fun κ C T hQ => ?_)
  unfold fL_lapLength at h
  refine V_L (L1 := [(0, .ref (gad G 0)), (1, .ref (gad G 129))]) rfl ?_
  refine V_aload_n 0 C 1 dL_lapLength_0 rfl ?_
  refine V_iconst 1 C dL_lapLength_1 ic0 ?_
  refine V_aload_n 2 C 0 dL_lapLength_2 rfl ?_
  obtain ⟨y8, M1, k2, hx9, hk10⟩ := bindH_some h
  refine V_callHI (mc1 := 1) (ms1 := 6) (α := Int32) (enc := id) 3 (runXO (k := 0) (rest := [.int 0, .ref (gad G 129)]) 3 C (kX11_lapLength (cxHL T)  k2) cf_X11_lapLength wk_5_29 (ltl (by rfl) rfl) (ceR_X11 (by rfl)) rfl rfl rfl rfl dL_lapLength_3 rfl rfl (Nat.le_of_ble_eq_true rfl) (Nat.le_of_ble_eq_true rfl)) (fun z12 e11 => ?_) (fun r3 e11 => ?_)
  · replace h := hx9 z12 e11
    by_cases c15 : z12 = 4
    · replace h := ite_t c15 h
      rw [c15]
      refine V_catch C T [] ⟨0, 8, 11, 46⟩ [] rfl (fun z hz => nomatch hz) (by decide) (by decide) wk_4_143 wk_4_154 (fun q16 => ?_)
      refine V_astore_n 11 C [(2, .ref q16), (0, .ref (gad G 0)), (1, .ref (gad G 129))] dL_lapLength_11 rfl rfl rfl ?_
      refine V_iconst 12 C dL_lapLength_12 ic1 ?_
      exact V_iretH 13 C hQ h rfl rfl dL_lapLength_13
    replace h := ite_f c15 h
    cases h
  · replace h := hk10 r3 e11
    refine V_i2l 6 C dL_lapLength_6 ?_
    obtain ⟨M13, e14, h⟩ := letM_some h
    refine V_last (k := 129) 7 C dL_lapLength_7 (by rfl) ?_
    refine V_eqM e14 ?_
    refine V_goto 8 14 C dL_lapLength_8 (by decide) ?_
    refine V_iconst 14 C dL_lapLength_14 ic0 ?_
    exact V_iretH 15 C hQ h rfl rfl dL_lapLength_15
set_option maxHeartbeats 4000000 in
theorem kL_pass {G : GG} {l : Launch} (hl : l.stackTraces = false) {F : Nat}  {p1 : Int32} {M M' : Mem} {r : Int32} (h : fL_pass F p1 M = some (r, M')) : ConH G l yL_pass cL_pass 4 (some .int) [(0, 9, 12, 13)] rmL_pass [.ref (gad G 0), .int p1, .ref (gad G 129)] M (QI G r M') 1 6 := by
  refine conH_of hl pnL (Nat.le_of_ble_eq_true rfl) (fun κ C T hQ => ?_)
  unfold fL_pass at h
  refine V_L (L1 := [(0, .ref (gad G 0)), (1, .int p1), (2, .ref (gad G 129))]) rfl ?_
  refine V_aload_n 0 C 2 dL_pass_0 rfl ?_
  refine V_iconst 1 C dL_pass_1 ic0 ?_
  refine V_aload_n 2 C 0 dL_pass_2 rfl ?_
  refine V_iload_n 3 C 1 dL_pass_3 rfl ?_
  obtain ⟨y8, M1, k2, hx9, hk10⟩ := bindH_some h
  refine V_callHI (mc1 := 1) (ms1 := 6) (α := Int32) (enc := id) 4 (runXO (k := 0) (rest := [.int 0, .ref (gad G 129)]) 4 C (kX11_pass (cxHL T)  k2) cf_X11_pass wk_5_43 (ltl (by rfl) rfl) (ceR_X11 (by rfl)) rfl rfl rfl rfl dL_pass_4 rfl rfl (Nat.le_of_ble_eq_true rfl) (Nat.le_of_ble_eq_true rfl)) (fun z12 e11 => ?_) (fun r3 e11 => ?_)
  · replace h := hx9 z12 e11
    by_cases c15 : z12 = 2
    · replace h := ite_t c15 h
      rw [c15]
      refine V_catch C T [] ⟨0, 9, 12, 13⟩ [] rfl (fun z hz => nomatch hz) (by decide) (by decide) wk_2_200 wk_3_121 (fun q16 => ?_)
      refine V_astore_n 12 C [(3, .ref q16), (0, .ref (gad G 0)), (1, .int p1), (2, .ref (gad G 129))] dL_pass_12 rfl rfl rfl ?_
      refine V_iconst 13 C dL_pass_13 ic1 ?_
      exact V_iretH 14 C hQ h rfl rfl dL_pass_14
    replace h := ite_f c15 h
    cases h
  · replace h := hk10 r3 e11
    refine V_i2l 7 C dL_pass_7 ?_
    obtain ⟨M13, e14, h⟩ := letM_some h
    refine V_last (k := 129) 8 C dL_pass_8 (by rfl) ?_
    refine V_eqM e14 ?_
    refine V_goto 9 15 C dL_pass_9 (by decide) ?_
    refine V_iconst 15 C dL_pass_15 ic0 ?_
    exact V_iretH 16 C hQ h rfl rfl dL_pass_16
set_option maxHeartbeats 4000000 in
theorem kL_predictCaught {G : GG} {l : Launch} (hl : l.stackTraces = false) {F : Nat}  {p1 : Int32} {M M' : Mem} {r : Int32} (h : fL_predictCaught F p1 M = some (r, M')) : ConH G l yL_predictCaught cL_predictCaught 4 (some .int) [(0, 9, 12, 13)] rmL_predictCaught [.ref (gad G 0), .int p1, .ref (gad G 129)] M (QI G r M') 1 6 := by
  refine conH_of hl pnL (Nat.le_of_ble_eq_true rfl) (fun κ C T hQ => ?_)
  unfold fL_predictCaught at h
  refine V_L (L1 := [(0, .ref (gad G 0)), (1, .int p1), (2, .ref (gad G 129))]) rfl ?_
  refine V_aload_n 0 C 2 dL_predictCaught_0 rfl ?_
  refine V_iconst 1 C dL_predictCaught_1 ic0 ?_
  refine V_aload_n 2 C 0 dL_predictCaught_2 rfl ?_
  refine V_iload_n 3 C 1 dL_predictCaught_3 rfl ?_
  obtain ⟨y8, M1, k2, hx9, hk10⟩ := bindH_some h
  refine V_callHI (mc1 := 1) (ms1 := 6) (α := Int32) (enc := id) 4 (runXO (k := 0) (rest := [.int 0, .ref (gad G 129)]) 4 C (kX11_predictCaught (cxHL T)  k2) cf_X11_predictCaught wk_5_52 (ltl (by rfl) rfl) (ceR_X11 (by rfl)) rfl rfl rfl rfl dL_predictCaught_4 rfl rfl (Nat.le_of_ble_eq_true rfl) (Nat.le_of_ble_eq_true rfl)) (fun z12 e11 => ?_) (fun r3 e11 => ?_)
  · replace h := hx9 z12 e11
    by_cases c15 : z12 = 2
    · replace h := ite_t c15 h
      rw [c15]
      refine V_catch C T [] ⟨0, 9, 12, 13⟩ [] rfl (fun z hz => nomatch hz) (by decide) (by decide) wk_2_200 wk_3_121 (fun q16 => ?_)
      refine V_astore_n 12 C [(3, .ref q16), (0, .ref (gad G 0)), (1, .int p1), (2, .ref (gad G 129))] dL_predictCaught_12 rfl rfl rfl ?_
      refine V_iconst 13 C dL_predictCaught_13 ic1 ?_
      exact V_iretH 14 C hQ h rfl rfl dL_predictCaught_14
    replace h := ite_f c15 h
    cases h
  · replace h := hk10 r3 e11
    refine V_i2l 7 C dL_predictCaught_7 ?_
    obtain ⟨M13, e14, h⟩ := letM_some h
    refine V_last (k := 129) 8 C dL_predictCaught_8 (by rfl) ?_
    refine V_eqM e14 ?_
    refine V_goto 9 15 C dL_predictCaught_9 (by decide) ?_
    refine V_iconst 15 C dL_predictCaught_15 ic0 ?_
    exact V_iretH 16 C hQ h rfl rfl dL_predictCaught_16
set_option maxHeartbeats 4000000 in
theorem kL_setRate {G : GG} {l : Launch} (hl : l.stackTraces = false) {F : Nat}  {p1 : Int32} {M M' : Mem} {r : Int32} (h : fL_setRate F p1 M = some (r, M')) : ConH G l yL_setRate cL_setRate 4 (some .int) [(0, 9, 12, 13)] rmL_setRate [.ref (gad G 0), .int p1, .ref (gad G 129)] M (QI G r M') 1 6 := by
  refine conH_of hl pnL (Nat.le_of_ble_eq_true rfl) (fun κ C T hQ => ?_)
  unfold fL_setRate at h
  refine V_L (L1 := [(0, .ref (gad G 0)), (1, .int p1), (2, .ref (gad G 129))]) rfl ?_
  refine V_aload_n 0 C 2 dL_setRate_0 rfl ?_
  refine V_iconst 1 C dL_setRate_1 ic0 ?_
  refine V_aload_n 2 C 0 dL_setRate_2 rfl ?_
  refine V_iload_n 3 C 1 dL_setRate_3 rfl ?_
  obtain ⟨y8, M1, k2, hx9, hk10⟩ := bindH_some h
  refine V_callHI (mc1 := 1) (ms1 := 6) (α := Int32) (enc := id) 4 (runXO (k := 0) (rest := [.int 0, .ref (gad G 129)]) 4 C (kX11_setRate (cxHL T)  k2) cf_X11_setRate wk_5_61 (ltl (by rfl) rfl) (ceR_X11 (by rfl)) rfl rfl rfl rfl dL_setRate_4 rfl rfl (Nat.le_of_ble_eq_true rfl) (Nat.le_of_ble_eq_true rfl)) (fun z12 e11 => ?_) (fun r3 e11 => ?_)
  · replace h := hx9 z12 e11
    by_cases c15 : z12 = 2
    · replace h := ite_t c15 h
      rw [c15]
      refine V_catch C T [] ⟨0, 9, 12, 13⟩ [] rfl (fun z hz => nomatch hz) (by decide) (by decide) wk_2_200 wk_3_121 (fun q16 => ?_)
      refine V_astore_n 12 C [(3, .ref q16), (0, .ref (gad G 0)), (1, .int p1), (2, .ref (gad G 129))] dL_setRate_12 rfl rfl rfl ?_
      refine V_iconst 13 C dL_setRate_13 ic1 ?_
      exact V_iretH 14 C hQ h rfl rfl dL_setRate_14
    replace h := ite_f c15 h
    cases h
  · replace h := hk10 r3 e11
    refine V_i2l 7 C dL_setRate_7 ?_
    obtain ⟨M13, e14, h⟩ := letM_some h
    refine V_last (k := 129) 8 C dL_setRate_8 (by rfl) ?_
    refine V_eqM e14 ?_
    refine V_goto 9 15 C dL_setRate_9 (by decide) ?_
    refine V_iconst 15 C dL_setRate_15 ic0 ?_
    exact V_iretH 16 C hQ h rfl rfl dL_setRate_16
set_option maxHeartbeats 4000000 in
theorem kL_setSeed {G : GG} {l : Launch} (hl : l.stackTraces = false) {F : Nat}  {p1 : Int32} {M M' : Mem} {r : Int32} (h : fL_setSeed F p1 M = some (r, M')) : ConH G l yL_setSeed cL_setSeed 4 (some .int) [(0, 9, 12, 13)] rmL_setSeed [.ref (gad G 0), .int p1, .ref (gad G 129)] M (QI G r M') 1 6 := by
  refine conH_of hl pnL (Nat.le_of_ble_eq_true rfl) (fun κ C T hQ => ?_)
  unfold fL_setSeed at h
  refine V_L (L1 := [(0, .ref (gad G 0)), (1, .int p1), (2, .ref (gad G 129))]) rfl ?_
  refine V_aload_n 0 C 2 dL_setSeed_0 rfl ?_
  refine V_iconst 1 C dL_setSeed_1 ic0 ?_
  refine V_aload_n 2 C 0 dL_setSeed_2 rfl ?_
  refine V_iload_n 3 C 1 dL_setSeed_3 rfl ?_
  obtain ⟨y8, M1, k2, hx9, hk10⟩ := bindH_some h
  refine V_callHI (mc1 := 1) (ms1 := 6) (α := Int32) (enc := id) 4 (runXO (k := 0) (rest := [.int 0, .ref (gad G 129)]) 4 C (kX11_setSeed (cxHL T)  k2) cf_X11_setSeed wk_5_70 (ltl (by rfl) rfl) (ceR_X11 (by rfl)) rfl rfl rfl rfl dL_setSeed_4 rfl rfl (Nat.le_of_ble_eq_true rfl) (Nat.le_of_ble_eq_true rfl)) (fun z12 e11 => ?_) (fun r3 e11 => ?_)
  · replace h := hx9 z12 e11
    by_cases c15 : z12 = 2
    · replace h := ite_t c15 h
      rw [c15]
      refine V_catch C T [] ⟨0, 9, 12, 13⟩ [] rfl (fun z hz => nomatch hz) (by decide) (by decide) wk_2_200 wk_3_121 (fun q16 => ?_)
      refine V_astore_n 12 C [(3, .ref q16), (0, .ref (gad G 0)), (1, .int p1), (2, .ref (gad G 129))] dL_setSeed_12 rfl rfl rfl ?_
      refine V_iconst 13 C dL_setSeed_13 ic1 ?_
      exact V_iretH 14 C hQ h rfl rfl dL_setSeed_14
    replace h := ite_f c15 h
    cases h
  · replace h := hk10 r3 e11
    refine V_i2l 7 C dL_setSeed_7 ?_
    obtain ⟨M13, e14, h⟩ := letM_some h
    refine V_last (k := 129) 8 C dL_setSeed_8 (by rfl) ?_
    refine V_eqM e14 ?_
    refine V_goto 9 15 C dL_setSeed_9 (by decide) ?_
    refine V_iconst 15 C dL_setSeed_15 ic0 ?_
    exact V_iretH 16 C hQ h rfl rfl dL_setSeed_16
set_option maxHeartbeats 4000000 in
theorem kL_mouseShelf {G : GG} {l : Launch} (hl : l.stackTraces = false) {F : Nat}  {p1 : Int32} {M M' : Mem} {r : Int32} (h : fL_mouseShelf F p1 M = some (r, M')) : ConH G l yL_mouseShelf cL_mouseShelf 4 (some .int) [(0, 9, 12, 21)] rmL_mouseShelf [.ref (gad G 0), .int p1, .ref (gad G 129)] M (QI G r M') 1 6 := by
  refine conH_of hl pnL (Nat.le_of_ble_eq_true rfl) (fun κ C T hQ => ?_)
  unfold fL_mouseShelf at h
  refine V_L (L1 := [(0, .ref (gad G 0)), (1, .int p1), (2, .ref (gad G 129))]) rfl ?_
  refine V_aload_n 0 C 2 dL_mouseShelf_0 rfl ?_
  refine V_iconst 1 C dL_mouseShelf_1 ic0 ?_
  refine V_aload_n 2 C 0 dL_mouseShelf_2 rfl ?_
  refine V_iload_n 3 C 1 dL_mouseShelf_3 rfl ?_
  obtain ⟨y8, M1, k2, hx9, hk10⟩ := bindH_some h
  refine V_callHI (mc1 := 1) (ms1 := 6) (α := Int32) (enc := id) 4 (runXO (k := 0) (rest := [.int 0, .ref (gad G 129)]) 4 C (kX11_mouseShelf (cxHL T)  k2) cf_X11_mouseShelf wk_5_79 (ltl (by rfl) rfl) (ceR_X11 (by rfl)) rfl rfl rfl rfl dL_mouseShelf_4 rfl rfl (Nat.le_of_ble_eq_true rfl) (Nat.le_of_ble_eq_true rfl)) (fun z12 e11 => ?_) (fun r3 e11 => ?_)
  · replace h := hx9 z12 e11
    by_cases c15 : z12 = 1
    · replace h := ite_t c15 h
      rw [c15]
      refine V_catch C T [] ⟨0, 9, 12, 21⟩ [] rfl (fun z hz => nomatch hz) (by decide) (by decide) wk_4_55 wk_3_48 (fun q16 => ?_)
      refine V_astore_n 12 C [(3, .ref q16), (0, .ref (gad G 0)), (1, .int p1), (2, .ref (gad G 129))] dL_mouseShelf_12 rfl rfl rfl ?_
      refine V_iconst 13 C dL_mouseShelf_13 ic1 ?_
      exact V_iretH 14 C hQ h rfl rfl dL_mouseShelf_14
    replace h := ite_f c15 h
    cases h
  · replace h := hk10 r3 e11
    refine V_i2l 7 C dL_mouseShelf_7 ?_
    obtain ⟨M13, e14, h⟩ := letM_some h
    refine V_last (k := 129) 8 C dL_mouseShelf_8 (by rfl) ?_
    refine V_eqM e14 ?_
    refine V_goto 9 15 C dL_mouseShelf_9 (by decide) ?_
    refine V_iconst 15 C dL_mouseShelf_15 ic0 ?_
    exact V_iretH 16 C hQ h rfl rfl dL_mouseShelf_16
set_option maxHeartbeats 4000000 in
theorem kL_mouseEaten {G : GG} {l : Launch} (hl : l.stackTraces = false) {F : Nat}  {p1 : Int32} {M M' : Mem} {r : Int32} (h : fL_mouseEaten F p1 M = some (r, M')) : ConH G l yL_mouseEaten cL_mouseEaten 4 (some .int) [(0, 9, 12, 21)] rmL_mouseEaten [.ref (gad G 0), .int p1, .ref (gad G 129)] M (QI G r M') 1 6 := by
  refine conH_of hl pnL (Nat.le_of_ble_eq_true rfl) (fun κ C T hQ => ?_)
  unfold fL_mouseEaten at h
  refine V_L (L1 := [(0, .ref (gad G 0)), (1, .int p1), (2, .ref (gad G 129))]) rfl ?_
  refine V_aload_n 0 C 2 dL_mouseEaten_0 rfl ?_
  refine V_iconst 1 C dL_mouseEaten_1 ic0 ?_
  refine V_aload_n 2 C 0 dL_mouseEaten_2 rfl ?_
  refine V_iload_n 3 C 1 dL_mouseEaten_3 rfl ?_
  obtain ⟨y8, M1, k2, hx9, hk10⟩ := bindH_some h
  refine V_callHI (mc1 := 1) (ms1 := 6) (α := Int32) (enc := id) 4 (runXO (k := 0) (rest := [.int 0, .ref (gad G 129)]) 4 C (kX11_mouseEaten (cxHL T)  k2) cf_X11_mouseEaten wk_5_92 (ltl (by rfl) rfl) (ceR_X11 (by rfl)) rfl rfl rfl rfl dL_mouseEaten_4 rfl rfl (Nat.le_of_ble_eq_true rfl) (Nat.le_of_ble_eq_true rfl)) (fun z12 e11 => ?_) (fun r3 e11 => ?_)
  · replace h := hx9 z12 e11
    by_cases c15 : z12 = 1
    · replace h := ite_t c15 h
      rw [c15]
      refine V_catch C T [] ⟨0, 9, 12, 21⟩ [] rfl (fun z hz => nomatch hz) (by decide) (by decide) wk_4_55 wk_3_48 (fun q16 => ?_)
      refine V_astore_n 12 C [(3, .ref q16), (0, .ref (gad G 0)), (1, .int p1), (2, .ref (gad G 129))] dL_mouseEaten_12 rfl rfl rfl ?_
      refine V_iconst 13 C dL_mouseEaten_13 ic1 ?_
      exact V_iretH 14 C hQ h rfl rfl dL_mouseEaten_14
    replace h := ite_f c15 h
    cases h
  · replace h := hk10 r3 e11
    refine V_i2l 7 C dL_mouseEaten_7 ?_
    obtain ⟨M13, e14, h⟩ := letM_some h
    refine V_last (k := 129) 8 C dL_mouseEaten_8 (by rfl) ?_
    refine V_eqM e14 ?_
    refine V_goto 9 15 C dL_mouseEaten_9 (by decide) ?_
    refine V_iconst 15 C dL_mouseEaten_15 ic0 ?_
    exact V_iretH 16 C hQ h rfl rfl dL_mouseEaten_16
set_option maxHeartbeats 4000000 in
theorem kL_mouseHunger {G : GG} {l : Launch} (hl : l.stackTraces = false) {F : Nat}  {p1 : Int32} {M M' : Mem} {r : Int32} (h : fL_mouseHunger F p1 M = some (r, M')) : ConH G l yL_mouseHunger cL_mouseHunger 4 (some .int) [(0, 9, 12, 21)] rmL_mouseHunger [.ref (gad G 0), .int p1, .ref (gad G 129)] M (QI G r M') 1 6 := by
  refine conH_of hl pnL (Nat.le_of_ble_eq_true rfl) (fun κ C T hQ => ?_)
  unfold fL_mouseHunger at h
  refine V_L (L1 := [(0, .ref (gad G 0)), (1, .int p1), (2, .ref (gad G 129))]) rfl ?_
  refine V_aload_n 0 C 2 dL_mouseHunger_0 rfl ?_
  refine V_iconst 1 C dL_mouseHunger_1 ic0 ?_
  refine V_aload_n 2 C 0 dL_mouseHunger_2 rfl ?_
  refine V_iload_n 3 C 1 dL_mouseHunger_3 rfl ?_
  obtain ⟨y8, M1, k2, hx9, hk10⟩ := bindH_some h
  refine V_callHI (mc1 := 1) (ms1 := 6) (α := Int32) (enc := id) 4 (runXO (k := 0) (rest := [.int 0, .ref (gad G 129)]) 4 C (kX11_mouseHunger (cxHL T)  k2) cf_X11_mouseHunger wk_5_99 (ltl (by rfl) rfl) (ceR_X11 (by rfl)) rfl rfl rfl rfl dL_mouseHunger_4 rfl rfl (Nat.le_of_ble_eq_true rfl) (Nat.le_of_ble_eq_true rfl)) (fun z12 e11 => ?_) (fun r3 e11 => ?_)
  · replace h := hx9 z12 e11
    by_cases c15 : z12 = 1
    · replace h := ite_t c15 h
      rw [c15]
      refine V_catch C T [] ⟨0, 9, 12, 21⟩ [] rfl (fun z hz => nomatch hz) (by decide) (by decide) wk_4_55 wk_3_48 (fun q16 => ?_)
      refine V_astore_n 12 C [(3, .ref q16), (0, .ref (gad G 0)), (1, .int p1), (2, .ref (gad G 129))] dL_mouseHunger_12 rfl rfl rfl ?_
      refine V_iconst 13 C dL_mouseHunger_13 ic1 ?_
      exact V_iretH 14 C hQ h rfl rfl dL_mouseHunger_14
    replace h := ite_f c15 h
    cases h
  · replace h := hk10 r3 e11
    refine V_i2l 7 C dL_mouseHunger_7 ?_
    obtain ⟨M13, e14, h⟩ := letM_some h
    refine V_last (k := 129) 8 C dL_mouseHunger_8 (by rfl) ?_
    refine V_eqM e14 ?_
    refine V_goto 9 15 C dL_mouseHunger_9 (by decide) ?_
    refine V_iconst 15 C dL_mouseHunger_15 ic0 ?_
    exact V_iretH 16 C hQ h rfl rfl dL_mouseHunger_16
set_option maxHeartbeats 4000000 in
theorem kL_miceOn {G : GG} {l : Launch} (hl : l.stackTraces = false) {F : Nat}  {p1 : Int32} {M M' : Mem} {r : Int32} (h : fL_miceOn F p1 M = some (r, M')) : ConH G l yL_miceOn cL_miceOn 4 (some .int) [(0, 9, 12, 21)] rmL_miceOn [.ref (gad G 0), .int p1, .ref (gad G 129)] M (QI G r M') 1 6 := by
  refine conH_of hl pnL (Nat.le_of_ble_eq_true rfl) (fun κ C T hQ => ?_)
  unfold fL_miceOn at h
  refine V_L (L1 := [(0, .ref (gad G 0)), (1, .int p1), (2, .ref (gad G 129))]) rfl ?_
  refine V_aload_n 0 C 2 dL_miceOn_0 rfl ?_
  refine V_iconst 1 C dL_miceOn_1 ic0 ?_
  refine V_aload_n 2 C 0 dL_miceOn_2 rfl ?_
  refine V_iload_n 3 C 1 dL_miceOn_3 rfl ?_
  obtain ⟨y8, M1, k2, hx9, hk10⟩ := bindH_some h
  refine V_callHI (mc1 := 1) (ms1 := 6) (α := Int32) (enc := id) 4 (runXO (k := 0) (rest := [.int 0, .ref (gad G 129)]) 4 C (kX11_miceOn (cxHL T)  k2) cf_X11_miceOn wk_5_106 (ltl (by rfl) rfl) (ceR_X11 (by rfl)) rfl rfl rfl rfl dL_miceOn_4 rfl rfl (Nat.le_of_ble_eq_true rfl) (Nat.le_of_ble_eq_true rfl)) (fun z12 e11 => ?_) (fun r3 e11 => ?_)
  · replace h := hx9 z12 e11
    by_cases c15 : z12 = 1
    · replace h := ite_t c15 h
      rw [c15]
      refine V_catch C T [] ⟨0, 9, 12, 21⟩ [] rfl (fun z hz => nomatch hz) (by decide) (by decide) wk_4_55 wk_3_48 (fun q16 => ?_)
      refine V_astore_n 12 C [(3, .ref q16), (0, .ref (gad G 0)), (1, .int p1), (2, .ref (gad G 129))] dL_miceOn_12 rfl rfl rfl ?_
      refine V_iconst 13 C dL_miceOn_13 ic1 ?_
      exact V_iretH 14 C hQ h rfl rfl dL_miceOn_14
    replace h := ite_f c15 h
    cases h
  · replace h := hk10 r3 e11
    refine V_i2l 7 C dL_miceOn_7 ?_
    obtain ⟨M13, e14, h⟩ := letM_some h
    refine V_last (k := 129) 8 C dL_miceOn_8 (by rfl) ?_
    refine V_eqM e14 ?_
    refine V_goto 9 15 C dL_miceOn_9 (by decide) ?_
    refine V_iconst 15 C dL_miceOn_15 ic0 ?_
    exact V_iretH 16 C hQ h rfl rfl dL_miceOn_16
set_option maxHeartbeats 4000000 in
theorem kL_meanCheese {G : GG} {l : Launch} (hl : l.stackTraces = false) {F : Nat}   {M M' : Mem} {r : Int32} (h : fL_meanCheese F  M = some (r, M')) : ConH G l yL_meanCheese cL_meanCheese 3 (some .int) [(0, 7, 10, 104)] rmL_meanCheese [.ref (gad G 0), .ref (gad G 130)] M (QI G r M') 1 6 := by
  refine conH_of hl pnL (Nat.le_of_ble_eq_true rfl) (fun κ C T hQ => ?_)
  unfold fL_meanCheese at h
  refine V_L (L1 := [(0, .ref (gad G 0)), (1, .ref (gad G 130))]) rfl ?_
  refine V_aload_n 0 C 1 dL_meanCheese_0 rfl ?_
  refine V_iconst 1 C dL_meanCheese_1 ic0 ?_
  refine V_aload_n 2 C 0 dL_meanCheese_2 rfl ?_
  obtain ⟨y8, M1, k2, hx9, hk10⟩ := bindH_some h
  refine V_callHD (mc1 := 1) (ms1 := 6) 3 (runXO (k := 0) (rest := [.int 0, .ref (gad G 130)]) 3 C (kX11_meanCheese (cxHL T)  k2) cf_X11_meanCheese wk_5_131 (ltl (by rfl) rfl) (ceR_X11 (by rfl)) rfl rfl rfl rfl dL_meanCheese_3 rfl rfl (Nat.le_of_ble_eq_true rfl) (Nat.le_of_ble_eq_true rfl)) (fun z12 e11 => ?_) (fun r3 e11 => ?_)
  · replace h := hx9 z12 e11
    by_cases c15 : z12 = 6
    · replace h := ite_t c15 h
      rw [c15]
      refine V_catch C T [] ⟨0, 7, 10, 104⟩ [] rfl (fun z hz => nomatch hz) (by decide) (by decide) wk_5_117 wk_5_129 (fun q16 => ?_)
      refine V_astore_n 10 C [(2, .ref q16), (0, .ref (gad G 0)), (1, .ref (gad G 130))] dL_meanCheese_10 rfl rfl rfl ?_
      refine V_iconst 11 C dL_meanCheese_11 ic1 ?_
      exact V_iretH 12 C hQ h rfl rfl dL_meanCheese_12
    replace h := ite_f c15 h
    cases h
  · replace h := hk10 r3 e11
    obtain ⟨M13, e14, h⟩ := letM_some h
    refine V_dast (k := 130) 6 C dL_meanCheese_6 (by rfl) ?_
    refine V_eqM e14 ?_
    refine V_goto 7 13 C dL_meanCheese_7 (by decide) ?_
    refine V_iconst 13 C dL_meanCheese_13 ic0 ?_
    exact V_iretH 14 C hQ h rfl rfl dL_meanCheese_14
set_option maxHeartbeats 4000000 in
theorem kL_caughtShare {G : GG} {l : Launch} (hl : l.stackTraces = false) {F : Nat}   {M M' : Mem} {r : Int32} (h : fL_caughtShare F  M = some (r, M')) : ConH G l yL_caughtShare cL_caughtShare 3 (some .int) [(0, 8, 11, 104)] rmL_caughtShare [.ref (gad G 0), .ref (gad G 130)] M (QI G r M') 1 6 := by
  refine conH_of hl pnL (Nat.le_of_ble_eq_true rfl) (fun κ C T hQ => ?_)
  unfold fL_caughtShare at h
  refine V_L (L1 := [(0, .ref (gad G 0)), (1, .ref (gad G 130))]) rfl ?_
  refine V_aload_n 0 C 1 dL_caughtShare_0 rfl ?_
  refine V_iconst 1 C dL_caughtShare_1 ic0 ?_
  refine V_aload_n 2 C 0 dL_caughtShare_2 rfl ?_
  obtain ⟨y8, M1, k2, hx9, hk10⟩ := bindH_some h
  refine V_callHF (mc1 := 1) (ms1 := 6) 3 (runXO (k := 0) (rest := [.int 0, .ref (gad G 130)]) 3 C (kX11_caughtShare (cxHL T)  k2) cf_X11_caughtShare wk_5_140 (ltl (by rfl) rfl) (ceR_X11 (by rfl)) rfl rfl rfl rfl dL_caughtShare_3 rfl rfl (Nat.le_of_ble_eq_true rfl) (Nat.le_of_ble_eq_true rfl)) (fun z12 e11 => ?_) (fun r3 e11 => ?_)
  · replace h := hx9 z12 e11
    by_cases c16 : z12 = 6
    · replace h := ite_t c16 h
      rw [c16]
      refine V_catch C T [] ⟨0, 8, 11, 104⟩ [] rfl (fun z hz => nomatch hz) (by decide) (by decide) wk_5_117 wk_5_129 (fun q17 => ?_)
      refine V_astore_n 11 C [(2, .ref q17), (0, .ref (gad G 0)), (1, .ref (gad G 130))] dL_caughtShare_11 rfl rfl rfl ?_
      refine V_iconst 12 C dL_caughtShare_12 ic1 ?_
      exact V_iretH 13 C hQ h rfl rfl dL_caughtShare_13
    replace h := ite_f c16 h
    cases h
  · replace h := hk10 r3 e11
    obtain ⟨c13, h⟩ := chk_some h
    refine V_f2d 6 C dL_caughtShare_6 c13 ?_
    obtain ⟨M14, e15, h⟩ := letM_some h
    refine V_dast (k := 130) 7 C dL_caughtShare_7 (by rfl) ?_
    refine V_eqM e15 ?_
    refine V_goto 8 14 C dL_caughtShare_8 (by decide) ?_
    refine V_iconst 14 C dL_caughtShare_14 ic0 ?_
    exact V_iretH 15 C hQ h rfl rfl dL_caughtShare_15
set_option maxHeartbeats 4000000 in
theorem kL_feed {G : GG} {l : Launch} (hl : l.stackTraces = false) {F : Nat}  {p1 : Int32} {M M' : Mem} {r : Int32} (h : fL_feed F p1 M = some (r, M')) : ConH G l yL_feed cL_feed 4 (some .int) [(0, 9, 12, 114)] rmL_feed [.ref (gad G 0), .int p1, .ref (gad G 129)] M (QI G r M') 1 6 := by
  refine conH_of hl pnL (Nat.le_of_ble_eq_true rfl) (fun κ C T hQ => ?_)
  unfold fL_feed at h
  refine V_L (L1 := [(0, .ref (gad G 0)), (1, .int p1), (2, .ref (gad G 129))]) rfl ?_
  refine V_aload_n 0 C 2 dL_feed_0 rfl ?_
  refine V_iconst 1 C dL_feed_1 ic0 ?_
  refine V_aload_n 2 C 0 dL_feed_2 rfl ?_
  refine V_iload_n 3 C 1 dL_feed_3 rfl ?_
  obtain ⟨y8, M1, k2, hx9, hk10⟩ := bindH_some h
  refine V_callHI (mc1 := 1) (ms1 := 6) (α := Int32) (enc := id) 4 (runXO (k := 0) (rest := [.int 0, .ref (gad G 129)]) 4 C (kX11_feed (cxHL T)  k2) cf_X11_feed wk_5_149 (ltl (by rfl) rfl) (ceR_X11 (by rfl)) rfl rfl rfl rfl dL_feed_4 rfl rfl (Nat.le_of_ble_eq_true rfl) (Nat.le_of_ble_eq_true rfl)) (fun z12 e11 => ?_) (fun r3 e11 => ?_)
  · replace h := hx9 z12 e11
    by_cases c15 : z12 = 5
    · replace h := ite_t c15 h
      rw [c15]
      refine V_catch C T [] ⟨0, 9, 12, 114⟩ [] rfl (fun z hz => nomatch hz) (by decide) (by decide) wk_5_148 wk_5_155 (fun q16 => ?_)
      refine V_astore_n 12 C [(3, .ref q16), (0, .ref (gad G 0)), (1, .int p1), (2, .ref (gad G 129))] dL_feed_12 rfl rfl rfl ?_
      refine V_iconst 13 C dL_feed_13 ic1 ?_
      exact V_iretH 14 C hQ h rfl rfl dL_feed_14
    replace h := ite_f c15 h
    cases h
  · replace h := hk10 r3 e11
    refine V_i2l 7 C dL_feed_7 ?_
    obtain ⟨M13, e14, h⟩ := letM_some h
    refine V_last (k := 129) 8 C dL_feed_8 (by rfl) ?_
    refine V_eqM e14 ?_
    refine V_goto 9 15 C dL_feed_9 (by decide) ?_
    refine V_iconst 15 C dL_feed_15 ic0 ?_
    exact V_iretH 16 C hQ h rfl rfl dL_feed_16
set_option maxHeartbeats 4000000 in
theorem kL_execute {G : GG} {l : Launch} (hl : l.stackTraces = false) {F : Nat}   {M M' : Mem} {r : Int32} (h : fL_execute F  M = some (r, M')) : ConH G l yL_execute cL_execute 3 (some .int) [(0, 8, 11, 13), (0, 8, 14, 15)] rmL_execute [.ref (gad G 0), .ref (gad G 129)] M (QI G r M') 1 6 := by
  refine conH_of hl pnL (Nat.le_of_ble_eq_true rfl) (fun κ C T hQ => ?_)
  unfold fL_execute at h
  refine V_L (L1 := [(0, .ref (gad G 0)), (1, .ref (gad G 129))]) rfl ?_
  refine V_aload_n 0 C 1 dL_execute_0 rfl ?_
  refine V_iconst 1 C dL_execute_1 ic0 ?_
  refine V_aload_n 2 C 0 dL_execute_2 rfl ?_
  obtain ⟨y8, M1, k2, hx9, hk10⟩ := bindH_some h
  refine V_callHI (mc1 := 1) (ms1 := 6) (α := Int32) (enc := id) 3 (runXO (k := 0) (rest := [.int 0, .ref (gad G 129)]) 3 C (kX11_execute (cxHL T)  k2) cf_X11_execute wk_5_176 (ltl (by rfl) rfl) (ceR_X11 (by rfl)) rfl rfl rfl rfl dL_execute_3 rfl rfl (Nat.le_of_ble_eq_true rfl) (Nat.le_of_ble_eq_true rfl)) (fun z12 e11 => ?_) (fun r3 e11 => ?_)
  · replace h := hx9 z12 e11
    by_cases c15 : z12 = 2
    · replace h := ite_t c15 h
      rw [c15]
      refine V_catch C T [] ⟨0, 8, 11, 13⟩ [⟨0, 8, 14, 15⟩] rfl (fun z hz => nomatch hz) (by decide) (by decide) wk_2_200 wk_3_121 (fun q16 => ?_)
      refine V_astore_n 11 C [(2, .ref q16), (0, .ref (gad G 0)), (1, .ref (gad G 129))] dL_execute_11 rfl rfl rfl ?_
      refine V_iconst 12 C dL_execute_12 ic1 ?_
      exact V_iretH 13 C hQ h rfl rfl dL_execute_13
    replace h := ite_f c15 h
    by_cases c17 : z12 = 3
    · replace h := ite_t c17 h
      rw [c17]
      refine V_catch C T [⟨0, 8, 11, 13⟩] ⟨0, 8, 14, 15⟩ [] rfl (List.forall_mem_cons.mpr ⟨⟨by decide, _, wk_2_200, by decide +kernel⟩, (fun z hz => nomatch hz)⟩) (by decide) (by decide) wk_2_201 wk_3_153 (fun q18 => ?_)
      refine V_astore_n 14 C [(2, .ref q18), (0, .ref (gad G 0)), (1, .ref (gad G 129))] dL_execute_14 rfl rfl rfl ?_
      refine V_iconst 15 C dL_execute_15 ic2 ?_
      exact V_iretH 16 C hQ h rfl rfl dL_execute_16
    replace h := ite_f c17 h
    cases h
  · replace h := hk10 r3 e11
    refine V_i2l 6 C dL_execute_6 ?_
    obtain ⟨M13, e14, h⟩ := letM_some h
    refine V_last (k := 129) 7 C dL_execute_7 (by rfl) ?_
    refine V_eqM e14 ?_
    refine V_goto 8 17 C dL_execute_8 (by decide) ?_
    refine V_iconst 17 C dL_execute_17 ic0 ?_
    exact V_iretH 18 C hQ h rfl rfl dL_execute_18
set_option maxHeartbeats 4000000 in
theorem kL_faultPosition {G : GG} {l : Launch} (hl : l.stackTraces = false) {F : Nat}   {M M' : Mem} {r : Int32} (h : fL_faultPosition F  M = some (r, M')) : ConH G l yL_faultPosition cL_faultPosition 3 (some .int) [(0, 8, 11, 46)] rmL_faultPosition [.ref (gad G 0), .ref (gad G 129)] M (QI G r M') 1 6 := by
  refine conH_of hl pnL (Nat.le_of_ble_eq_true rfl) (fun κ C T hQ => ?_)
  unfold fL_faultPosition at h
  refine V_L (L1 := [(0, .ref (gad G 0)), (1, .ref (gad G 129))]) rfl ?_
  refine V_aload_n 0 C 1 dL_faultPosition_0 rfl ?_
  refine V_iconst 1 C dL_faultPosition_1 ic0 ?_
  refine V_aload_n 2 C 0 dL_faultPosition_2 rfl ?_
  obtain ⟨y8, M1, k2, hx9, hk10⟩ := bindH_some h
  refine V_callHI (mc1 := 1) (ms1 := 6) (α := Int32) (enc := id) 3 (runXO (k := 0) (rest := [.int 0, .ref (gad G 129)]) 3 C (kX11_faultPosition (cxHL T)  k2) cf_X11_faultPosition wk_6_46 (ltl (by rfl) rfl) (ceR_X11 (by rfl)) rfl rfl rfl rfl dL_faultPosition_3 rfl rfl (Nat.le_of_ble_eq_true rfl) (Nat.le_of_ble_eq_true rfl)) (fun z12 e11 => ?_) (fun r3 e11 => ?_)
  · replace h := hx9 z12 e11
    by_cases c15 : z12 = 4
    · replace h := ite_t c15 h
      rw [c15]
      refine V_catch C T [] ⟨0, 8, 11, 46⟩ [] rfl (fun z hz => nomatch hz) (by decide) (by decide) wk_4_143 wk_4_154 (fun q16 => ?_)
      refine V_astore_n 11 C [(2, .ref q16), (0, .ref (gad G 0)), (1, .ref (gad G 129))] dL_faultPosition_11 rfl rfl rfl ?_
      refine V_iconst 12 C dL_faultPosition_12 ic1 ?_
      exact V_iretH 13 C hQ h rfl rfl dL_faultPosition_13
    replace h := ite_f c15 h
    cases h
  · replace h := hk10 r3 e11
    refine V_i2l 6 C dL_faultPosition_6 ?_
    obtain ⟨M13, e14, h⟩ := letM_some h
    refine V_last (k := 129) 7 C dL_faultPosition_7 (by rfl) ?_
    refine V_eqM e14 ?_
    refine V_goto 8 14 C dL_faultPosition_8 (by decide) ?_
    refine V_iconst 14 C dL_faultPosition_14 ic0 ?_
    exact V_iretH 15 C hQ h rfl rfl dL_faultPosition_15
set_option maxHeartbeats 4000000 in
theorem kL_writeShelf {G : GG} {l : Launch} (hl : l.stackTraces = false) {F : Nat}  {p1 : Int32} {M M' : Mem} {r : Int32} (h : fL_writeShelf F p1 M = some (r, M')) : ConH G l yL_writeShelf cL_writeShelf 4 (some .int) [(0, 9, 12, 21)] rmL_writeShelf [.ref (gad G 0), .int p1, .ref (gad G 129)] M (QI G r M') 1 6 := by
  refine conH_of hl pnL (Nat.le_of_ble_eq_true rfl) (fun κ C T hQ => ?_)
  unfold fL_writeShelf at h
  refine V_L (L1 := [(0, .ref (gad G 0)), (1, .int p1), (2, .ref (gad G 129))]) rfl ?_
  refine V_aload_n 0 C 2 dL_writeShelf_0 rfl ?_
  refine V_iconst 1 C dL_writeShelf_1 ic0 ?_
  refine V_aload_n 2 C 0 dL_writeShelf_2 rfl ?_
  refine V_iload_n 3 C 1 dL_writeShelf_3 rfl ?_
  obtain ⟨y8, M1, k2, hx9, hk10⟩ := bindH_some h
  refine V_callHI (mc1 := 1) (ms1 := 6) (α := Int32) (enc := id) 4 (runXO (k := 0) (rest := [.int 0, .ref (gad G 129)]) 4 C (kX11_writeShelf (cxHL T)  k2) cf_X11_writeShelf wk_6_54 (ltl (by rfl) rfl) (ceR_X11 (by rfl)) rfl rfl rfl rfl dL_writeShelf_4 rfl rfl (Nat.le_of_ble_eq_true rfl) (Nat.le_of_ble_eq_true rfl)) (fun z12 e11 => ?_) (fun r3 e11 => ?_)
  · replace h := hx9 z12 e11
    by_cases c15 : z12 = 1
    · replace h := ite_t c15 h
      rw [c15]
      refine V_catch C T [] ⟨0, 9, 12, 21⟩ [] rfl (fun z hz => nomatch hz) (by decide) (by decide) wk_4_55 wk_3_48 (fun q16 => ?_)
      refine V_astore_n 12 C [(3, .ref q16), (0, .ref (gad G 0)), (1, .int p1), (2, .ref (gad G 129))] dL_writeShelf_12 rfl rfl rfl ?_
      refine V_iconst 13 C dL_writeShelf_13 ic1 ?_
      exact V_iretH 14 C hQ h rfl rfl dL_writeShelf_14
    replace h := ite_f c15 h
    cases h
  · replace h := hk10 r3 e11
    refine V_i2l 7 C dL_writeShelf_7 ?_
    obtain ⟨M13, e14, h⟩ := letM_some h
    refine V_last (k := 129) 8 C dL_writeShelf_8 (by rfl) ?_
    refine V_eqM e14 ?_
    refine V_goto 9 15 C dL_writeShelf_9 (by decide) ?_
    refine V_iconst 15 C dL_writeShelf_15 ic0 ?_
    exact V_iretH 16 C hQ h rfl rfl dL_writeShelf_16
set_option maxHeartbeats 4000000 in
theorem kL_lineCharacter {G : GG} {l : Launch} (hl : l.stackTraces = false) {F : Nat}  {p1 : Int32} {M M' : Mem} {r : Int32} (h : fL_lineCharacter F p1 M = some (r, M')) : ConH G l yL_lineCharacter cL_lineCharacter 4 (some .int) [(0, 9, 12, 21)] rmL_lineCharacter [.ref (gad G 0), .int p1, .ref (gad G 129)] M (QI G r M') 1 6 := by
  refine conH_of hl pnL (Nat.le_of_ble_eq_true rfl) (fun κ C T hQ => ?_)
  unfold fL_lineCharacter at h
  refine V_L (L1 := [(0, .ref (gad G 0)), (1, .int p1), (2, .ref (gad G 129))]) rfl ?_
  refine V_aload_n 0 C 2 dL_lineCharacter_0 rfl ?_
  refine V_iconst 1 C dL_lineCharacter_1 ic0 ?_
  refine V_aload_n 2 C 0 dL_lineCharacter_2 rfl ?_
  refine V_iload_n 3 C 1 dL_lineCharacter_3 rfl ?_
  obtain ⟨y8, M1, k2, hx9, hk10⟩ := bindH_some h
  refine V_callHI (mc1 := 1) (ms1 := 6) (α := Int32) (enc := id) 4 (runXO (k := 0) (rest := [.int 0, .ref (gad G 129)]) 4 C (kX11_lineCharacter (cxHL T)  k2) cf_X11_lineCharacter wk_6_68 (ltl (by rfl) rfl) (ceR_X11 (by rfl)) rfl rfl rfl rfl dL_lineCharacter_4 rfl rfl (Nat.le_of_ble_eq_true rfl) (Nat.le_of_ble_eq_true rfl)) (fun z12 e11 => ?_) (fun r3 e11 => ?_)
  · replace h := hx9 z12 e11
    by_cases c15 : z12 = 1
    · replace h := ite_t c15 h
      rw [c15]
      refine V_catch C T [] ⟨0, 9, 12, 21⟩ [] rfl (fun z hz => nomatch hz) (by decide) (by decide) wk_4_55 wk_3_48 (fun q16 => ?_)
      refine V_astore_n 12 C [(3, .ref q16), (0, .ref (gad G 0)), (1, .int p1), (2, .ref (gad G 129))] dL_lineCharacter_12 rfl rfl rfl ?_
      refine V_iconst 13 C dL_lineCharacter_13 ic1 ?_
      exact V_iretH 14 C hQ h rfl rfl dL_lineCharacter_14
    replace h := ite_f c15 h
    cases h
  · replace h := hk10 r3 e11
    refine V_i2l 7 C dL_lineCharacter_7 ?_
    obtain ⟨M13, e14, h⟩ := letM_some h
    refine V_last (k := 129) 8 C dL_lineCharacter_8 (by rfl) ?_
    refine V_eqM e14 ?_
    refine V_goto 9 15 C dL_lineCharacter_9 (by decide) ?_
    refine V_iconst 15 C dL_lineCharacter_15 ic0 ?_
    exact V_iretH 16 C hQ h rfl rfl dL_lineCharacter_16
set_option maxHeartbeats 4000000 in
theorem kL_denial {G : GG} {l : Launch} (hl : l.stackTraces = false) {F : Nat}   {M M' : Mem} {r : Int32} (h : fL_denial F  M = some (r, M')) : ConH G l yL_denial cL_denial 3 (some .int) [(0, 8, 11, 46)] rmL_denial [.ref (gad G 0), .ref (gad G 129)] M (QI G r M') 1 6 := by
  refine conH_of hl pnL (Nat.le_of_ble_eq_true rfl) (fun κ C T hQ => ?_)
  unfold fL_denial at h
  refine V_L (L1 := [(0, .ref (gad G 0)), (1, .ref (gad G 129))]) rfl ?_
  refine V_aload_n 0 C 1 dL_denial_0 rfl ?_
  refine V_iconst 1 C dL_denial_1 ic0 ?_
  refine V_aload_n 2 C 0 dL_denial_2 rfl ?_
  obtain ⟨y8, M1, k2, hx9, hk10⟩ := bindH_some h
  refine V_callHI (mc1 := 1) (ms1 := 6) (α := Int32) (enc := id) 3 (runXO (k := 0) (rest := [.int 0, .ref (gad G 129)]) 3 C (kX11_denial (cxHL T)  k2) cf_X11_denial wk_6_76 (ltl (by rfl) rfl) (ceR_X11 (by rfl)) rfl rfl rfl rfl dL_denial_3 rfl rfl (Nat.le_of_ble_eq_true rfl) (Nat.le_of_ble_eq_true rfl)) (fun z12 e11 => ?_) (fun r3 e11 => ?_)
  · replace h := hx9 z12 e11
    by_cases c15 : z12 = 4
    · replace h := ite_t c15 h
      rw [c15]
      refine V_catch C T [] ⟨0, 8, 11, 46⟩ [] rfl (fun z hz => nomatch hz) (by decide) (by decide) wk_4_143 wk_4_154 (fun q16 => ?_)
      refine V_astore_n 11 C [(2, .ref q16), (0, .ref (gad G 0)), (1, .ref (gad G 129))] dL_denial_11 rfl rfl rfl ?_
      refine V_iconst 12 C dL_denial_12 ic1 ?_
      exact V_iretH 13 C hQ h rfl rfl dL_denial_13
    replace h := ite_f c15 h
    cases h
  · replace h := hk10 r3 e11
    refine V_i2l 6 C dL_denial_6 ?_
    obtain ⟨M13, e14, h⟩ := letM_some h
    refine V_last (k := 129) 7 C dL_denial_7 (by rfl) ?_
    refine V_eqM e14 ?_
    refine V_goto 8 14 C dL_denial_8 (by decide) ?_
    refine V_iconst 14 C dL_denial_14 ic0 ?_
    exact V_iretH 15 C hQ h rfl rfl dL_denial_15
set_option maxHeartbeats 4000000 in
theorem kL_denialDetail {G : GG} {l : Launch} (hl : l.stackTraces = false) {F : Nat}   {M M' : Mem} {r : Int32} (h : fL_denialDetail F  M = some (r, M')) : ConH G l yL_denialDetail cL_denialDetail 3 (some .int) [(0, 8, 11, 46)] rmL_denialDetail [.ref (gad G 0), .ref (gad G 129)] M (QI G r M') 1 6 := by
  refine conH_of hl pnL (Nat.le_of_ble_eq_true rfl) (fun κ C T hQ => ?_)
  unfold fL_denialDetail at h
  refine V_L (L1 := [(0, .ref (gad G 0)), (1, .ref (gad G 129))]) rfl ?_
  refine V_aload_n 0 C 1 dL_denialDetail_0 rfl ?_
  refine V_iconst 1 C dL_denialDetail_1 ic0 ?_
  refine V_aload_n 2 C 0 dL_denialDetail_2 rfl ?_
  obtain ⟨y8, M1, k2, hx9, hk10⟩ := bindH_some h
  refine V_callHI (mc1 := 1) (ms1 := 6) (α := Int32) (enc := id) 3 (runXO (k := 0) (rest := [.int 0, .ref (gad G 129)]) 3 C (kX11_denialDetail (cxHL T)  k2) cf_X11_denialDetail wk_6_88 (ltl (by rfl) rfl) (ceR_X11 (by rfl)) rfl rfl rfl rfl dL_denialDetail_3 rfl rfl (Nat.le_of_ble_eq_true rfl) (Nat.le_of_ble_eq_true rfl)) (fun z12 e11 => ?_) (fun r3 e11 => ?_)
  · replace h := hx9 z12 e11
    by_cases c15 : z12 = 4
    · replace h := ite_t c15 h
      rw [c15]
      refine V_catch C T [] ⟨0, 8, 11, 46⟩ [] rfl (fun z hz => nomatch hz) (by decide) (by decide) wk_4_143 wk_4_154 (fun q16 => ?_)
      refine V_astore_n 11 C [(2, .ref q16), (0, .ref (gad G 0)), (1, .ref (gad G 129))] dL_denialDetail_11 rfl rfl rfl ?_
      refine V_iconst 12 C dL_denialDetail_12 ic1 ?_
      exact V_iretH 13 C hQ h rfl rfl dL_denialDetail_13
    replace h := ite_f c15 h
    cases h
  · replace h := hk10 r3 e11
    refine V_i2l 6 C dL_denialDetail_6 ?_
    obtain ⟨M13, e14, h⟩ := letM_some h
    refine V_last (k := 129) 7 C dL_denialDetail_7 (by rfl) ?_
    refine V_eqM e14 ?_
    refine V_goto 8 14 C dL_denialDetail_8 (by decide) ?_
    refine V_iconst 14 C dL_denialDetail_14 ic0 ?_
    exact V_iretH 15 C hQ h rfl rfl dL_denialDetail_15
set_option maxHeartbeats 4000000 in
theorem kL_denialCause {G : GG} {l : Launch} (hl : l.stackTraces = false) {F : Nat}   {M M' : Mem} {r : Int32} (h : fL_denialCause F  M = some (r, M')) : ConH G l yL_denialCause cL_denialCause 3 (some .int) [(0, 8, 11, 46)] rmL_denialCause [.ref (gad G 0), .ref (gad G 129)] M (QI G r M') 1 6 := by
  refine conH_of hl pnL (Nat.le_of_ble_eq_true rfl) (fun κ C T hQ => ?_)
  unfold fL_denialCause at h
  refine V_L (L1 := [(0, .ref (gad G 0)), (1, .ref (gad G 129))]) rfl ?_
  refine V_aload_n 0 C 1 dL_denialCause_0 rfl ?_
  refine V_iconst 1 C dL_denialCause_1 ic0 ?_
  refine V_aload_n 2 C 0 dL_denialCause_2 rfl ?_
  obtain ⟨y8, M1, k2, hx9, hk10⟩ := bindH_some h
  refine V_callHI (mc1 := 1) (ms1 := 6) (α := Int32) (enc := id) 3 (runXO (k := 0) (rest := [.int 0, .ref (gad G 129)]) 3 C (kX11_denialCause (cxHL T)  k2) cf_X11_denialCause wk_6_95 (ltl (by rfl) rfl) (ceR_X11 (by rfl)) rfl rfl rfl rfl dL_denialCause_3 rfl rfl (Nat.le_of_ble_eq_true rfl) (Nat.le_of_ble_eq_true rfl)) (fun z12 e11 => ?_) (fun r3 e11 => ?_)
  · replace h := hx9 z12 e11
    by_cases c15 : z12 = 4
    · replace h := ite_t c15 h
      rw [c15]
      refine V_catch C T [] ⟨0, 8, 11, 46⟩ [] rfl (fun z hz => nomatch hz) (by decide) (by decide) wk_4_143 wk_4_154 (fun q16 => ?_)
      refine V_astore_n 11 C [(2, .ref q16), (0, .ref (gad G 0)), (1, .ref (gad G 129))] dL_denialCause_11 rfl rfl rfl ?_
      refine V_iconst 12 C dL_denialCause_12 ic1 ?_
      exact V_iretH 13 C hQ h rfl rfl dL_denialCause_13
    replace h := ite_f c15 h
    cases h
  · replace h := hk10 r3 e11
    refine V_i2l 6 C dL_denialCause_6 ?_
    obtain ⟨M13, e14, h⟩ := letM_some h
    refine V_last (k := 129) 7 C dL_denialCause_7 (by rfl) ?_
    refine V_eqM e14 ?_
    refine V_goto 8 14 C dL_denialCause_8 (by decide) ?_
    refine V_iconst 14 C dL_denialCause_14 ic0 ?_
    exact V_iretH 15 C hQ h rfl rfl dL_denialCause_15
set_option maxHeartbeats 4000000 in
theorem kL_undo {G : GG} {l : Launch} (hl : l.stackTraces = false) {F : Nat}   {M M' : Mem} {r : Int32} (h : fL_undo F  M = some (r, M')) : ConH G l yL_undo cL_undo 3 (some .int) [(0, 8, 11, 114)] rmL_undo [.ref (gad G 0), .ref (gad G 129)] M (QI G r M') 1 6 := by
  refine conH_of hl pnL (Nat.le_of_ble_eq_true rfl) (fun κ C T hQ => ?_)
  unfold fL_undo at h
  refine V_L (L1 := [(0, .ref (gad G 0)), (1, .ref (gad G 129))]) rfl ?_
  refine V_aload_n 0 C 1 dL_undo_0 rfl ?_
  refine V_iconst 1 C dL_undo_1 ic0 ?_
  refine V_aload_n 2 C 0 dL_undo_2 rfl ?_
  obtain ⟨y8, M1, k2, hx9, hk10⟩ := bindH_some h
  refine V_callHI (mc1 := 1) (ms1 := 6) (α := Int32) (enc := id) 3 (runXO (k := 0) (rest := [.int 0, .ref (gad G 129)]) 3 C (kX11_undo (cxHL T)  k2) cf_X11_undo wk_6_103 (ltl (by rfl) rfl) (ceR_X11 (by rfl)) rfl rfl rfl rfl dL_undo_3 rfl rfl (Nat.le_of_ble_eq_true rfl) (Nat.le_of_ble_eq_true rfl)) (fun z12 e11 => ?_) (fun r3 e11 => ?_)
  · replace h := hx9 z12 e11
    by_cases c15 : z12 = 5
    · replace h := ite_t c15 h
      rw [c15]
      refine V_catch C T [] ⟨0, 8, 11, 114⟩ [] rfl (fun z hz => nomatch hz) (by decide) (by decide) wk_5_148 wk_5_155 (fun q16 => ?_)
      refine V_astore_n 11 C [(2, .ref q16), (0, .ref (gad G 0)), (1, .ref (gad G 129))] dL_undo_11 rfl rfl rfl ?_
      refine V_iconst 12 C dL_undo_12 ic1 ?_
      exact V_iretH 13 C hQ h rfl rfl dL_undo_13
    replace h := ite_f c15 h
    cases h
  · replace h := hk10 r3 e11
    refine V_i2l 6 C dL_undo_6 ?_
    obtain ⟨M13, e14, h⟩ := letM_some h
    refine V_last (k := 129) 7 C dL_undo_7 (by rfl) ?_
    refine V_eqM e14 ?_
    refine V_goto 8 14 C dL_undo_8 (by decide) ?_
    refine V_iconst 14 C dL_undo_14 ic0 ?_
    exact V_iretH 15 C hQ h rfl rfl dL_undo_15
set_option maxHeartbeats 4000000 in
theorem kL_restoreSnapshot {G : GG} {l : Launch} (hl : l.stackTraces = false) {F : Nat}   {M M' : Mem} {r : Int32} (h : fL_restoreSnapshot F  M = some (r, M')) : ConH G l yL_restoreSnapshot cL_restoreSnapshot 3 (some .int) [(0, 8, 11, 114)] rmL_restoreSnapshot [.ref (gad G 0), .ref (gad G 129)] M (QI G r M') 1 6 := by
  refine conH_of hl pnL (Nat.le_of_ble_eq_true rfl) (fun κ C T hQ => ?_)
  unfold fL_restoreSnapshot at h
  refine V_L (L1 := [(0, .ref (gad G 0)), (1, .ref (gad G 129))]) rfl ?_
  refine V_aload_n 0 C 1 dL_restoreSnapshot_0 rfl ?_
  refine V_iconst 1 C dL_restoreSnapshot_1 ic0 ?_
  refine V_aload_n 2 C 0 dL_restoreSnapshot_2 rfl ?_
  obtain ⟨y8, M1, k2, hx9, hk10⟩ := bindH_some h
  refine V_callHI (mc1 := 1) (ms1 := 6) (α := Int32) (enc := id) 3 (runXO (k := 0) (rest := [.int 0, .ref (gad G 129)]) 3 C (kX11_restoreSnapshot (cxHL T)  k2) cf_X11_restoreSnapshot wk_6_115 (ltl (by rfl) rfl) (ceR_X11 (by rfl)) rfl rfl rfl rfl dL_restoreSnapshot_3 rfl rfl (Nat.le_of_ble_eq_true rfl) (Nat.le_of_ble_eq_true rfl)) (fun z12 e11 => ?_) (fun r3 e11 => ?_)
  · replace h := hx9 z12 e11
    by_cases c15 : z12 = 5
    · replace h := ite_t c15 h
      rw [c15]
      refine V_catch C T [] ⟨0, 8, 11, 114⟩ [] rfl (fun z hz => nomatch hz) (by decide) (by decide) wk_5_148 wk_5_155 (fun q16 => ?_)
      refine V_astore_n 11 C [(2, .ref q16), (0, .ref (gad G 0)), (1, .ref (gad G 129))] dL_restoreSnapshot_11 rfl rfl rfl ?_
      refine V_iconst 12 C dL_restoreSnapshot_12 ic1 ?_
      exact V_iretH 13 C hQ h rfl rfl dL_restoreSnapshot_13
    replace h := ite_f c15 h
    cases h
  · replace h := hk10 r3 e11
    refine V_i2l 6 C dL_restoreSnapshot_6 ?_
    obtain ⟨M13, e14, h⟩ := letM_some h
    refine V_last (k := 129) 7 C dL_restoreSnapshot_7 (by rfl) ?_
    refine V_eqM e14 ?_
    refine V_goto 8 14 C dL_restoreSnapshot_8 (by decide) ?_
    refine V_iconst 14 C dL_restoreSnapshot_14 ic0 ?_
    exact V_iretH 15 C hQ h rfl rfl dL_restoreSnapshot_15
