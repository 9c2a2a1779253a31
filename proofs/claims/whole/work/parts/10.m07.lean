def rmX12_undoCount : Room := { frames := 0, cells := 0, slots := 0, locals := 0 }
def fX12_undoCount (F : Nat)  (M : Mem) : Option (Int32 × Mem) := letM (up2 M 119 0 0) (fun M1 => some ((M1 119 11), M1))
def rmX12_saveSnapshot : Room := { frames := 0, cells := 0, slots := 0, locals := 0 }
def fX12_saveSnapshot_7 (F : Nat)   (kx : Mem → Option (Int32 × Mem)) : Nat → Int32 → Mem → Option (Int32 × Mem)
  | 0, _, _ => none
  | n + 1, v1, M => if 216 ≤ v1 then kx  M else chk (inb v1 216) (chk (inb v1 216) (letM (up2 M 122 v1.toNatClampNeg (M 120 v1.toNatClampNeg)) (fun M6 => letM (v1 + 1) (fun x8 => fX12_saveSnapshot_7 F  kx n x8 M6))))
def fX12_saveSnapshot (F : Nat)  (M : Mem) : Option (Int32 × Mem) := letM (up2 M 119 0 0) (fun M1 => fX12_saveSnapshot_7 F  (fun M10 => letM (up2 M10 119 13 1) (fun M11 => some ((M11 120 0), M11))) F 0 M1)
def rmX12_restoreSnapshot : Room := { frames := 1, cells := 0, slots := 0, locals := 21 }
def fX12_restoreSnapshot_20 (F : Nat)   (kx : Mem → Option (Int32 × Mem)) : Nat → Int32 → Mem → Option (Int32 × Mem)
  | 0, _, _ => none
  | n + 1, v1, M => if 216 ≤ v1 then kx  M else chk (inb v1 216) (chk (inb v1 216) (letM (up2 M 120 v1.toNatClampNeg (M 122 v1.toNatClampNeg)) (fun M7 => letM (v1 + 1) (fun x9 => fX12_restoreSnapshot_20 F  kx n x9 M7))))
def fX12_restoreSnapshot (F : Nat)  (M : Mem) : Option (Int32 × Mem) := letM (up2 M 119 0 0) (fun M1 => if (M1 119 13) = 0 then bindM (fX12_fails F 1 M1) (fun r19 M17 => some (r19, M17)) else fX12_restoreSnapshot_20 F  (fun M11 => letM (up2 M11 119 11 0) (fun M12 => letM (up2 M12 119 12 0) (fun M14 => some ((M14 120 0), M14)))) F 0 M1)
set_option maxHeartbeats 4000000 in
theorem kX12_undoCount {G : GG} {l : Launch} {F : Nat}   {M M' : Mem} {r : Int32} (h : fX12_undoCount F  M = some (r, M')) : Con G l yX12_undoCount cX12_undoCount 1 (some .int) rmX12_undoCount [.ref (gad G 119)] M (QI G r M') := by
  refine con_of pnX12 (Nat.le_of_ble_eq_true rfl) (fun κ C hQ => ?_)
  unfold fX12_undoCount at h
  refine V_L (L1 := [(0, .ref (gad G 119))]) rfl ?_
  refine V_aload_n 0 C 0 dX12_undoCount_0 rfl ?_
  refine V_iconst 1 C dX12_undoCount_1 ic0 ?_
  obtain ⟨M1, e2, h⟩ := letM_some h
  refine V_put (ty := .int) (F := F_X12 G 119) 2 C dX12_undoCount_2 (ltl (by rfl) rfl) (fun _ => ceR_X12 (by rfl)) rfl inX12 tyX12 tyX12_ok nmX12 0 rfl wk_6_134 rfl rfl 0 rfl rfl rfl rfl rfl ?_
  refine V_eqM e2 ?_
  refine V_aload_n 5 C 0 dX12_undoCount_5 rfl ?_
  refine V_get (v := .int (M1 119 11)) 6 C dX12_undoCount_6 (ltl (by rfl) rfl) (ceR_X12 (by rfl)) rfl inX12 11 rfl wk_6_145 rfl rfl ?_
  exact V_ireth 9 C hQ h dX12_undoCount_9
set_option maxHeartbeats 4000000 in
theorem vX12_saveSnapshot_7 {G : GG} {κ : KK} {F : Nat}  (C : Cx G κ cX12_saveSnapshot RX12 (some .int) 2 rmX12_saveSnapshot) {M' : Mem} {r : Int32} (hQ : HQ G κ (QI G r M') 0 0)  {kx : Mem → Option (Int32 × Mem)} (hk : ∀  (M : Mem), kx  M = some (r, M') → V G κ 2 0 0 M 32 [(0, .ref (gad G 119))] []) : ∀ (n : Nat) (v1 : Int32) (M : Mem), fX12_saveSnapshot_7 F  kx n v1 M = some (r, M') → V G κ 2 0 0 M 7 [(0, .ref (gad G 119)), (1, .int v1)] [] := by
  intro n
  induction n with
  | zero => intro v1 M h; rw [fX12_saveSnapshot_7] at h; cases h
  | succ n ih =>
    intro v1 M h
    rw [fX12_saveSnapshot_7] at h
    refine V_iload_n 7 C 1 dX12_saveSnapshot_7 rfl ?_
    refine V_sipush 8 C dX12_saveSnapshot_8 sp216 ?_
    refine V_icmp_ge 11 32 C dX12_saveSnapshot_11 (by decide) (fun c3 => ?_) (fun c3 => ?_)
    · replace h := ite_t c3 h
      refine V_sub [0] rfl ?_
      exact hk  _ h
    · replace h := ite_f c3 h
      refine V_aload_n 14 C 0 dX12_saveSnapshot_14 rfl ?_
      refine V_get (v := .ref (gad G 122)) 15 C dX12_saveSnapshot_15 (ltl (by rfl) rfl) (ceR_X12 (by rfl)) rfl inX12 8 rfl wk_6_142 rfl rfl ?_
      refine V_iload_n 18 C 1 dX12_saveSnapshot_18 rfl ?_
      refine V_aload_n 19 C 0 dX12_saveSnapshot_19 rfl ?_
      refine V_get (v := .ref (gad G 120)) 20 C dX12_saveSnapshot_20 (ltl (by rfl) rfl) (ceR_X12 (by rfl)) rfl inX12 6 rfl wk_6_140 rfl rfl ?_
      refine V_iload_n 23 C 1 dX12_saveSnapshot_23 rfl ?_
      obtain ⟨c4, h⟩ := chk_some h
      refine V_iald 24 C dX12_saveSnapshot_24 (akI_26 (by rfl)) (al_26 (by rfl)) c4 ?_
      obtain ⟨c5, h⟩ := chk_some h
      obtain ⟨M6, e7, h⟩ := letM_some h
      refine V_iast 25 C dX12_saveSnapshot_25 (akI_26 (by rfl)) (al_26 (by rfl)) c5 ?_
      refine V_eqM e7 ?_
      obtain ⟨x8, e9, h⟩ := letM_some h
      refine V_iinc 26 C [(1, .int x8), (0, .ref (gad G 119))] 1 x8 dX12_saveSnapshot_26 rfl (by rw [e9]; rfl) rfl rfl ?_
      refine V_goto 29 7 C dX12_saveSnapshot_29 (by decide) ?_
      refine V_sub [1, 0] rfl ?_
      exact ih _ _ h
set_option maxHeartbeats 4000000 in
theorem kX12_saveSnapshot {G : GG} {l : Launch} {F : Nat}   {M M' : Mem} {r : Int32} (h : fX12_saveSnapshot F  M = some (r, M')) : Con G l yX12_saveSnapshot cX12_saveSnapshot 2 (some .int) rmX12_saveSnapshot [.ref (gad G 119)] M (QI G r M') := by
  refine con_of pnX12 (Nat.le_of_ble_eq_true rfl) (fun κ C hQ => ?_)
  unfold fX12_saveSnapshot at h
  refine V_L (L1 := [(0, .ref (gad G 119))]) rfl ?_
  refine V_aload_n 0 C 0 dX12_saveSnapshot_0 rfl ?_
  refine V_iconst 1 C dX12_saveSnapshot_1 ic0 ?_
  obtain ⟨M1, e2, h⟩ := letM_some h
  refine V_put (ty := .int) (F := F_X12 G 119) 2 C dX12_saveSnapshot_2 (ltl (by rfl) rfl) (fun _ => ceR_X12 (by rfl)) rfl inX12 tyX12 tyX12_ok nmX12 0 rfl wk_6_134 rfl rfl 0 rfl rfl rfl rfl rfl ?_
  refine V_eqM e2 ?_
  refine V_iconst 5 C dX12_saveSnapshot_5 ic0 ?_
  refine V_istore_n 6 C [(1, .int 0), (0, .ref (gad G 119))] dX12_saveSnapshot_6 rfl rfl rfl ?_
  refine V_sub [1, 0] rfl ?_
  refine vX12_saveSnapshot_7  C hQ ?_ _ _ _ h
  intro M10 h
  refine V_aload_n 32 C 0 dX12_saveSnapshot_32 rfl ?_
  refine V_iconst 33 C dX12_saveSnapshot_33 ic1 ?_
  obtain ⟨M11, e12, h⟩ := letM_some h
  refine V_put (ty := .boolean) (F := F_X12 G 119) 34 C dX12_saveSnapshot_34 (ltl (by rfl) rfl) (fun _ => ceR_X12 (by rfl)) rfl inX12 tyX12 tyX12_ok nmX12 13 rfl wk_6_147 rfl rfl 1 rfl rfl rfl rfl rfl ?_
  refine V_eqM e12 ?_
  refine V_aload_n 37 C 0 dX12_saveSnapshot_37 rfl ?_
  refine V_get (v := .ref (gad G 120)) 38 C dX12_saveSnapshot_38 (ltl (by rfl) rfl) (ceR_X12 (by rfl)) rfl inX12 6 rfl wk_6_140 rfl rfl ?_
  refine V_iconst 41 C dX12_saveSnapshot_41 ic0 ?_
  refine V_ialdJ 42 C dX12_saveSnapshot_42 (akI_26 (by rfl)) (al_26 (by rfl)) (by decide) (j := 0) (by decide) ?_
  exact V_ireth 43 C hQ h dX12_saveSnapshot_43
set_option maxHeartbeats 4000000 in
theorem vX12_restoreSnapshot_20 {G : GG} {κ : KK} {F : Nat}  (C : Cx G κ cX12_restoreSnapshot RX12 (some .int) 2 rmX12_restoreSnapshot) {M' : Mem} {r : Int32} (hQ : HQ G κ (QI G r M') 0 0)  {kx : Mem → Option (Int32 × Mem)} (hk : ∀  (M : Mem), kx  M = some (r, M') → V G κ 2 0 0 M 45 [(0, .ref (gad G 119))] []) : ∀ (n : Nat) (v1 : Int32) (M : Mem), fX12_restoreSnapshot_20 F  kx n v1 M = some (r, M') → V G κ 2 0 0 M 20 [(0, .ref (gad G 119)), (1, .int v1)] [] := by
  intro n
  induction n with
  | zero => intro v1 M h; rw [fX12_restoreSnapshot_20] at h; cases h
  | succ n ih =>
    intro v1 M h
    rw [fX12_restoreSnapshot_20] at h
    refine V_iload_n 20 C 1 dX12_restoreSnapshot_20 rfl ?_
    refine V_sipush 21 C dX12_restoreSnapshot_21 sp216 ?_
    refine V_icmp_ge 24 45 C dX12_restoreSnapshot_24 (by decide) (fun c4 => ?_) (fun c4 => ?_)
    · replace h := ite_t c4 h
      refine V_sub [0] rfl ?_
      exact hk  _ h
    · replace h := ite_f c4 h
      refine V_aload_n 27 C 0 dX12_restoreSnapshot_27 rfl ?_
      refine V_get (v := .ref (gad G 120)) 28 C dX12_restoreSnapshot_28 (ltl (by rfl) rfl) (ceR_X12 (by rfl)) rfl inX12 6 rfl wk_6_140 rfl rfl ?_
      refine V_iload_n 31 C 1 dX12_restoreSnapshot_31 rfl ?_
      refine V_aload_n 32 C 0 dX12_restoreSnapshot_32 rfl ?_
      refine V_get (v := .ref (gad G 122)) 33 C dX12_restoreSnapshot_33 (ltl (by rfl) rfl) (ceR_X12 (by rfl)) rfl inX12 8 rfl wk_6_142 rfl rfl ?_
      refine V_iload_n 36 C 1 dX12_restoreSnapshot_36 rfl ?_
      obtain ⟨c5, h⟩ := chk_some h
      refine V_iald 37 C dX12_restoreSnapshot_37 (akI_26 (by rfl)) (al_26 (by rfl)) c5 ?_
      obtain ⟨c6, h⟩ := chk_some h
      obtain ⟨M7, e8, h⟩ := letM_some h
      refine V_iast 38 C dX12_restoreSnapshot_38 (akI_26 (by rfl)) (al_26 (by rfl)) c6 ?_
      refine V_eqM e8 ?_
      obtain ⟨x9, e10, h⟩ := letM_some h
      refine V_iinc 39 C [(1, .int x9), (0, .ref (gad G 119))] 1 x9 dX12_restoreSnapshot_39 rfl (by rw [e10]; rfl) rfl rfl ?_
      refine V_goto 42 20 C dX12_restoreSnapshot_42 (by decide) ?_
      refine V_sub [1, 0] rfl ?_
      exact ih _ _ h
set_option maxHeartbeats 4000000 in
theorem kX12_restoreSnapshot {G : GG} {l : Launch} {F : Nat}   {M M' : Mem} {r : Int32} (h : fX12_restoreSnapshot F  M = some (r, M')) : Con G l yX12_restoreSnapshot cX12_restoreSnapshot 2 (some .int) rmX12_restoreSnapshot [.ref (gad G 119)] M (QI G r M') := by
  refine con_of pnX12 (Nat.le_of_ble_eq_true rfl) (fun κ C hQ => ?_)
  unfold fX12_restoreSnapshot at h
  refine V_L (L1 := [(0, .ref (gad G 119))]) rfl ?_
  refine V_aload_n 0 C 0 dX12_restoreSnapshot_0 rfl ?_
  refine V_iconst 1 C dX12_restoreSnapshot_1 ic0 ?_
  obtain ⟨M1, e2, h⟩ := letM_some h
  refine V_put (ty := .int) (F := F_X12 G 119) 2 C dX12_restoreSnapshot_2 (ltl (by rfl) rfl) (fun _ => ceR_X12 (by rfl)) rfl inX12 tyX12 tyX12_ok nmX12 0 rfl wk_6_134 rfl rfl 0 rfl rfl rfl rfl rfl ?_
  refine V_eqM e2 ?_
  refine V_aload_n 5 C 0 dX12_restoreSnapshot_5 rfl ?_
  refine V_get (v := .int (M1 119 13)) 6 C dX12_restoreSnapshot_6 (ltl (by rfl) rfl) (ceR_X12 (by rfl)) rfl inX12 13 rfl wk_6_147 rfl rfl ?_
  refine V_if_ne 9 18 C dX12_restoreSnapshot_9 (by decide) (fun c3 => ?_) (fun c3 => ?_)
  · replace h := ite_f c3 h
    refine V_iconst 18 C dX12_restoreSnapshot_18 ic0 ?_
    refine V_istore_n 19 C [(1, .int 0), (0, .ref (gad G 119))] dX12_restoreSnapshot_19 rfl rfl rfl ?_
    refine V_sub [1, 0] rfl ?_
    refine vX12_restoreSnapshot_20  C hQ ?_ _ _ _ h
    intro M11 h
    refine V_aload_n 45 C 0 dX12_restoreSnapshot_45 rfl ?_
    refine V_iconst 46 C dX12_restoreSnapshot_46 ic0 ?_
    obtain ⟨M12, e13, h⟩ := letM_some h
    refine V_put (ty := .int) (F := F_X12 G 119) 47 C dX12_restoreSnapshot_47 (ltl (by rfl) rfl) (fun _ => ceR_X12 (by rfl)) rfl inX12 tyX12 tyX12_ok nmX12 11 rfl wk_6_145 rfl rfl 0 rfl rfl rfl rfl rfl ?_
    refine V_eqM e13 ?_
    refine V_aload_n 50 C 0 dX12_restoreSnapshot_50 rfl ?_
    refine V_iconst 51 C dX12_restoreSnapshot_51 ic0 ?_
    obtain ⟨M14, e15, h⟩ := letM_some h
    refine V_put (ty := .int) (F := F_X12 G 119) 52 C dX12_restoreSnapshot_52 (ltl (by rfl) rfl) (fun _ => ceR_X12 (by rfl)) rfl inX12 tyX12 tyX12_ok nmX12 12 rfl wk_6_146 rfl rfl 0 rfl rfl rfl rfl rfl ?_
    refine V_eqM e15 ?_
    refine V_aload_n 55 C 0 dX12_restoreSnapshot_55 rfl ?_
    refine V_get (v := .ref (gad G 120)) 56 C dX12_restoreSnapshot_56 (ltl (by rfl) rfl) (ceR_X12 (by rfl)) rfl inX12 6 rfl wk_6_140 rfl rfl ?_
    refine V_iconst 59 C dX12_restoreSnapshot_59 ic0 ?_
    refine V_ialdJ 60 C dX12_restoreSnapshot_60 (akI_26 (by rfl)) (al_26 (by rfl)) (by decide) (j := 0) (by decide) ?_
    exact V_ireth 61 C hQ h dX12_restoreSnapshot_61
  · replace h := ite_t c3 h
    refine V_aload_n 12 C 0 dX12_restoreSnapshot_12 rfl ?_
    refine V_iconst 13 C dX12_restoreSnapshot_13 ic1 ?_
    obtain ⟨r19, M17, k18, h⟩ := bindM_some h
    refine V_callI 14 (runVO (k := 119) (rest := []) 14 C (kX12_fails  k18) cf_X12_fails wk_6_226 (ltl (by rfl) rfl) (ceR_X12 (by rfl)) rfl rfl rfl rfl dX12_restoreSnapshot_14 rfl rfl (Nat.zero_le _) (Nat.zero_le _)) ?_
    exact V_ireth 17 C hQ h dX12_restoreSnapshot_17
