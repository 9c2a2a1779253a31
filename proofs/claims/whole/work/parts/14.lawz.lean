section
variable {ret : Option FieldType}
def fL_law_loop (F Ls : Nat) (xs : Nat → Int32) : Nat → Int32 → Mem → Option Bool
  | 0, _, _ => none
  | n + 1, v5, M => if (nI Ls - 3) < v5 then some true else chk (inb v5 Ls) (letM ((xs v5.toNatClampNeg) &&& 63) (fun x => if x = 0 then fL_law_276 F Ls xs (fun M2 => letM (v5 + 3) (fun i2 => fL_law_loop F Ls xs n i2 M2)) v5 M else if x = 1 then fL_law_332 F Ls xs (fun M2 => letM (v5 + 3) (fun i2 => fL_law_loop F Ls xs n i2 M2)) v5 M else if x = 2 then fL_law_400 F Ls xs (fun M2 => letM (v5 + 3) (fun i2 => fL_law_loop F Ls xs n i2 M2)) v5 M else if x = 3 then fL_law_468 F Ls xs (fun M2 => letM (v5 + 3) (fun i2 => fL_law_loop F Ls xs n i2 M2)) v5 M else if x = 4 then fL_law_552 F Ls xs (fun M2 => letM (v5 + 3) (fun i2 => fL_law_loop F Ls xs n i2 M2)) v5 M else if x = 5 then fL_law_620 F Ls xs (fun M2 => letM (v5 + 3) (fun i2 => fL_law_loop F Ls xs n i2 M2)) v5 M else if x = 6 then fL_law_633 F Ls xs (fun M2 => letM (v5 + 3) (fun i2 => fL_law_loop F Ls xs n i2 M2)) v5 M else if x = 7 then fL_law_646 F Ls xs (fun M2 => letM (v5 + 3) (fun i2 => fL_law_loop F Ls xs n i2 M2)) v5 M else if x = 8 then fL_law_702 F Ls xs (fun M2 => letM (v5 + 3) (fun i2 => fL_law_loop F Ls xs n i2 M2)) v5 M else if x = 9 then fL_law_765 F Ls xs (fun M2 => letM (v5 + 3) (fun i2 => fL_law_loop F Ls xs n i2 M2)) v5 M else if x = 10 then fL_law_821 F Ls xs (fun M2 => letM (v5 + 3) (fun i2 => fL_law_loop F Ls xs n i2 M2)) v5 M else if x = 11 then fL_law_889 F Ls xs (fun M2 => letM (v5 + 3) (fun i2 => fL_law_loop F Ls xs n i2 M2)) v5 M else if x = 12 then fL_law_957 F Ls xs (fun M2 => letM (v5 + 3) (fun i2 => fL_law_loop F Ls xs n i2 M2)) v5 M else if x = 13 then fL_law_970 F Ls xs (fun M2 => letM (v5 + 3) (fun i2 => fL_law_loop F Ls xs n i2 M2)) v5 M else if x = 14 then fL_law_1026 F Ls xs (fun M2 => letM (v5 + 3) (fun i2 => fL_law_loop F Ls xs n i2 M2)) v5 M else if x = 15 then fL_law_1082 F Ls xs (fun M2 => letM (v5 + 3) (fun i2 => fL_law_loop F Ls xs n i2 M2)) v5 M else if x = 16 then fL_law_1138 F Ls xs (fun M2 => letM (v5 + 3) (fun i2 => fL_law_loop F Ls xs n i2 M2)) v5 M else if x = 17 then fL_law_1151 F Ls xs (fun M2 => letM (v5 + 3) (fun i2 => fL_law_loop F Ls xs n i2 M2)) v5 M else if x = 18 then fL_law_1207 F Ls xs (fun M2 => letM (v5 + 3) (fun i2 => fL_law_loop F Ls xs n i2 M2)) v5 M else if x = 19 then fL_law_1251 F Ls xs (fun M2 => letM (v5 + 3) (fun i2 => fL_law_loop F Ls xs n i2 M2)) v5 M else if x = 20 then fL_law_1295 F Ls xs (fun M2 => letM (v5 + 3) (fun i2 => fL_law_loop F Ls xs n i2 M2)) v5 M else if x = 21 then fL_law_1339 F Ls xs (fun M2 => letM (v5 + 3) (fun i2 => fL_law_loop F Ls xs n i2 M2)) v5 M else if x = 22 then fL_law_1383 F Ls xs (fun M2 => letM (v5 + 3) (fun i2 => fL_law_loop F Ls xs n i2 M2)) v5 M else if x = 23 then fL_law_1439 F Ls xs (fun M2 => letM (v5 + 3) (fun i2 => fL_law_loop F Ls xs n i2 M2)) v5 M else if x = 24 then fL_law_1495 F Ls xs (fun M2 => letM (v5 + 3) (fun i2 => fL_law_loop F Ls xs n i2 M2)) v5 M else if x = 25 then fL_law_1551 F Ls xs (fun M2 => letM (v5 + 3) (fun i2 => fL_law_loop F Ls xs n i2 M2)) v5 M else if x = 26 then fL_law_1607 F Ls xs (fun M2 => letM (v5 + 3) (fun i2 => fL_law_loop F Ls xs n i2 M2)) v5 M else if x = 27 then fL_law_1620 F Ls xs (fun M2 => letM (v5 + 3) (fun i2 => fL_law_loop F Ls xs n i2 M2)) v5 M else if x = 28 then fL_law_1633 F Ls xs (fun M2 => letM (v5 + 3) (fun i2 => fL_law_loop F Ls xs n i2 M2)) v5 M else if x = 29 then fL_law_1646 F Ls xs (fun M2 => letM (v5 + 3) (fun i2 => fL_law_loop F Ls xs n i2 M2)) v5 M else if x = 30 then fL_law_1702 F Ls xs (fun M2 => letM (v5 + 3) (fun i2 => fL_law_loop F Ls xs n i2 M2)) v5 M else if x = 31 then fL_law_1758 F Ls xs (fun M2 => letM (v5 + 3) (fun i2 => fL_law_loop F Ls xs n i2 M2)) v5 M else if x = 32 then fL_law_1814 F Ls xs (fun M2 => letM (v5 + 3) (fun i2 => fL_law_loop F Ls xs n i2 M2)) v5 M else if x = 33 then fL_law_1870 F Ls xs (fun M2 => letM (v5 + 3) (fun i2 => fL_law_loop F Ls xs n i2 M2)) v5 M else if x = 34 then fL_law_1883 F Ls xs (fun M2 => letM (v5 + 3) (fun i2 => fL_law_loop F Ls xs n i2 M2)) v5 M else if x = 35 then fL_law_1896 F Ls xs (fun M2 => letM (v5 + 3) (fun i2 => fL_law_loop F Ls xs n i2 M2)) v5 M else if x = 36 then fL_law_1909 F Ls xs (fun M2 => letM (v5 + 3) (fun i2 => fL_law_loop F Ls xs n i2 M2)) v5 M else if x = 37 then fL_law_1922 F Ls xs (fun M2 => letM (v5 + 3) (fun i2 => fL_law_loop F Ls xs n i2 M2)) v5 M else if x = 38 then fL_law_1935 F Ls xs (fun M2 => letM (v5 + 3) (fun i2 => fL_law_loop F Ls xs n i2 M2)) v5 M else if x = 39 then fL_law_1948 F Ls xs (fun M2 => letM (v5 + 3) (fun i2 => fL_law_loop F Ls xs n i2 M2)) v5 M else if x = 40 then fL_law_2013 F Ls xs (fun M2 => letM (v5 + 3) (fun i2 => fL_law_loop F Ls xs n i2 M2)) v5 M else if x = 41 then fL_law_2079 F Ls xs (fun M2 => letM (v5 + 3) (fun i2 => fL_law_loop F Ls xs n i2 M2)) v5 M else if x = 42 then fL_law_2137 F Ls xs (fun M2 => letM (v5 + 3) (fun i2 => fL_law_loop F Ls xs n i2 M2)) v5 M else if x = 43 then fL_law_2181 F Ls xs (fun M2 => letM (v5 + 3) (fun i2 => fL_law_loop F Ls xs n i2 M2)) v5 M else if x = 44 then fL_law_2225 F Ls xs (fun M2 => letM (v5 + 3) (fun i2 => fL_law_loop F Ls xs n i2 M2)) v5 M else if x = 45 then fL_law_2281 F Ls xs (fun M2 => letM (v5 + 3) (fun i2 => fL_law_loop F Ls xs n i2 M2)) v5 M else if x = 46 then fL_law_2294 F Ls xs (fun M2 => letM (v5 + 3) (fun i2 => fL_law_loop F Ls xs n i2 M2)) v5 M else if x = 47 then fL_law_2350 F Ls xs (fun M2 => letM (v5 + 3) (fun i2 => fL_law_loop F Ls xs n i2 M2)) v5 M else if x = 48 then fL_law_2394 F Ls xs (fun M2 => letM (v5 + 3) (fun i2 => fL_law_loop F Ls xs n i2 M2)) v5 M else if x = 49 then fL_law_2438 F Ls xs (fun M2 => letM (v5 + 3) (fun i2 => fL_law_loop F Ls xs n i2 M2)) v5 M else if x = 50 then fL_law_2482 F Ls xs (fun M2 => letM (v5 + 3) (fun i2 => fL_law_loop F Ls xs n i2 M2)) v5 M else if x = 51 then fL_law_2526 F Ls xs (fun M2 => letM (v5 + 3) (fun i2 => fL_law_loop F Ls xs n i2 M2)) v5 M else if x = 52 then fL_law_2539 F Ls xs (fun M2 => letM (v5 + 3) (fun i2 => fL_law_loop F Ls xs n i2 M2)) v5 M else if x = 53 then fL_law_2552 F Ls xs (fun M2 => letM (v5 + 3) (fun i2 => fL_law_loop F Ls xs n i2 M2)) v5 M else (fun M2 => letM (v5 + 3) (fun i2 => fL_law_loop F Ls xs n i2 M2)) M))
set_option maxHeartbeats 8000000 in
theorem vL_law_loop {G : GG} {κ : KK} {F b Ls : Nat} {xs : Nat → Int32} (C : Cx G κ cL_law "LarderPatrolLaw" ret 9 room_1) (S : CxS G κ b Ls xs) (T : κ.2.1.stackTraces = false) (hend : ∀ (c9 s9 : Nat) (M : Mem), c9 ≤ 603072 → s9 ≤ 7182442 → ∀ v5, V G κ 9 c9 s9 M 2603 [(0, .ref b), (1, .ref (gad G 0)), (2, .ref (gad G 119)), (3, .ref (gad G 129)), (4, .ref (gad G 130)), (5, .int v5)] [.int 1]) : ∀ (n c9 s9 : Nat), c9 + 3 * n ≤ 603072 → s9 + 18 * n ≤ 7182442 → ∀ (v5 : Int32) (M : Mem), fL_law_loop F Ls xs n v5 M = some true → V G κ 9 c9 s9 M 28 [(0, .ref b), (1, .ref (gad G 0)), (2, .ref (gad G 119)), (3, .ref (gad G 129)), (4, .ref (gad G 130)), (5, .int v5)] [] := by
  intro n
  induction n with
  | zero => intro c9 s9 hc hs v5 M h; rw [fL_law_loop] at h; cases h
  | succ n ih =>
    intro c9 s9 hc hs v5 M h
    rw [fL_law_loop] at h
    refine V_iload 28 C 5 dL_law_28 rfl ?_
    refine V_aload_n 30 C 0 dL_law_30 rfl ?_
    refine V_slenS 31 C S dL_law_31 ?_
    refine V_iconst 32 C dL_law_32 ic3 ?_
    refine V_isub 33 C dL_law_33 ?_
    refine V_icmp_gt 34 2602 C dL_law_34 (by decide) (fun c1 => ?_) (fun c1 => ?_)
    · refine V_iconst 2602 C dL_law_2602 ic1 ?_
      exact hend c9 s9 _ (by omega) (by omega) _
    replace h := ite_f c1 h
    obtain ⟨c2, h⟩ := chk_some h
    refine V_aload_n 37 C 0 dL_law_37 rfl ?_
    refine V_iload 38 C 5 dL_law_38 rfl ?_
    refine V_sld 40 C S dL_law_40 c2 ?_
    refine V_bipush 41 C dL_law_41 bp63 ?_
    refine V_iand 43 C dL_law_43 ?_
    obtain ⟨x, ex, h⟩ := letM_some h
    refine V_top ex ?_
    by_cases d0 : x = 0
    · replace h := ite_t d0 h
      rw [d0]
      refine V_tswIn 44 276 C dL_law_44 (by decide) (by decide) rfl (by decide) ?_
      refine vL_law_276 C S T (by omega) (by omega) (fun M2 h => ?_) _ h
      obtain ⟨i2, e2, h⟩ := letM_some h
      refine V_iinc 2596 C [(5, .int i2), (0, .ref b), (1, .ref (gad G 0)), (2, .ref (gad G 119)), (3, .ref (gad G 129)), (4, .ref (gad G 130))] 5 i2 dL_law_2596 rfl (by rw [e2]; rfl) rfl rfl ?_
      refine V_goto 2599 28 C dL_law_2599 (by decide) ?_
      refine V_sub [1, 2, 3, 4, 5, 0] rfl ?_
      exact ih (c9 + 3) (s9 + 18) (by omega) (by omega) _ _ h
    replace h := ite_f d0 h
    by_cases d1 : x = 1
    · replace h := ite_t d1 h
      rw [d1]
      refine V_tswIn 44 332 C dL_law_44 (by decide) (by decide) rfl (by decide) ?_
      refine vL_law_332 C S T (by omega) (by omega) (fun M2 h => ?_) _ h
      obtain ⟨i2, e2, h⟩ := letM_some h
      refine V_iinc 2596 C [(5, .int i2), (0, .ref b), (1, .ref (gad G 0)), (2, .ref (gad G 119)), (3, .ref (gad G 129)), (4, .ref (gad G 130))] 5 i2 dL_law_2596 rfl (by rw [e2]; rfl) rfl rfl ?_
      refine V_goto 2599 28 C dL_law_2599 (by decide) ?_
      refine V_sub [1, 2, 3, 4, 5, 0] rfl ?_
      exact ih (c9 + 3) (s9 + 18) (by omega) (by omega) _ _ h
    replace h := ite_f d1 h
    by_cases d2 : x = 2
    · replace h := ite_t d2 h
      rw [d2]
      refine V_tswIn 44 400 C dL_law_44 (by decide) (by decide) rfl (by decide) ?_
      refine vL_law_400 C S T (by omega) (by omega) (fun M2 h => ?_) _ h
      obtain ⟨i2, e2, h⟩ := letM_some h
      refine V_iinc 2596 C [(5, .int i2), (0, .ref b), (1, .ref (gad G 0)), (2, .ref (gad G 119)), (3, .ref (gad G 129)), (4, .ref (gad G 130))] 5 i2 dL_law_2596 rfl (by rw [e2]; rfl) rfl rfl ?_
      refine V_goto 2599 28 C dL_law_2599 (by decide) ?_
      refine V_sub [1, 2, 3, 4, 5, 0] rfl ?_
      exact ih (c9 + 3) (s9 + 18) (by omega) (by omega) _ _ h
    replace h := ite_f d2 h
    by_cases d3 : x = 3
    · replace h := ite_t d3 h
      rw [d3]
      refine V_tswIn 44 468 C dL_law_44 (by decide) (by decide) rfl (by decide) ?_
      refine vL_law_468 C S T (by omega) (by omega) (fun M2 h => ?_) _ h
      obtain ⟨i2, e2, h⟩ := letM_some h
      refine V_iinc 2596 C [(5, .int i2), (0, .ref b), (1, .ref (gad G 0)), (2, .ref (gad G 119)), (3, .ref (gad G 129)), (4, .ref (gad G 130))] 5 i2 dL_law_2596 rfl (by rw [e2]; rfl) rfl rfl ?_
      refine V_goto 2599 28 C dL_law_2599 (by decide) ?_
      refine V_sub [1, 2, 3, 4, 5, 0] rfl ?_
      exact ih (c9 + 3) (s9 + 18) (by omega) (by omega) _ _ h
    replace h := ite_f d3 h
    by_cases d4 : x = 4
    · replace h := ite_t d4 h
      rw [d4]
      refine V_tswIn 44 552 C dL_law_44 (by decide) (by decide) rfl (by decide) ?_
      refine vL_law_552 C S T (by omega) (by omega) (fun M2 h => ?_) _ h
      obtain ⟨i2, e2, h⟩ := letM_some h
      refine V_iinc 2596 C [(5, .int i2), (0, .ref b), (1, .ref (gad G 0)), (2, .ref (gad G 119)), (3, .ref (gad G 129)), (4, .ref (gad G 130))] 5 i2 dL_law_2596 rfl (by rw [e2]; rfl) rfl rfl ?_
      refine V_goto 2599 28 C dL_law_2599 (by decide) ?_
      refine V_sub [1, 2, 3, 4, 5, 0] rfl ?_
      exact ih (c9 + 3) (s9 + 18) (by omega) (by omega) _ _ h
    replace h := ite_f d4 h
    by_cases d5 : x = 5
    · replace h := ite_t d5 h
      rw [d5]
      refine V_tswIn 44 620 C dL_law_44 (by decide) (by decide) rfl (by decide) ?_
      refine vL_law_620 C S T (by omega) (by omega) (fun M2 h => ?_) _ h
      obtain ⟨i2, e2, h⟩ := letM_some h
      refine V_iinc 2596 C [(5, .int i2), (0, .ref b), (1, .ref (gad G 0)), (2, .ref (gad G 119)), (3, .ref (gad G 129)), (4, .ref (gad G 130))] 5 i2 dL_law_2596 rfl (by rw [e2]; rfl) rfl rfl ?_
      refine V_goto 2599 28 C dL_law_2599 (by decide) ?_
      refine V_sub [1, 2, 3, 4, 5, 0] rfl ?_
      exact ih (c9 + 3) (s9 + 18) (by omega) (by omega) _ _ h
    replace h := ite_f d5 h
    by_cases d6 : x = 6
    · replace h := ite_t d6 h
      rw [d6]
      refine V_tswIn 44 633 C dL_law_44 (by decide) (by decide) rfl (by decide) ?_
      refine vL_law_633 C S T (by omega) (by omega) (fun M2 h => ?_) _ h
      obtain ⟨i2, e2, h⟩ := letM_some h
      refine V_iinc 2596 C [(5, .int i2), (0, .ref b), (1, .ref (gad G 0)), (2, .ref (gad G 119)), (3, .ref (gad G 129)), (4, .ref (gad G 130))] 5 i2 dL_law_2596 rfl (by rw [e2]; rfl) rfl rfl ?_
      refine V_goto 2599 28 C dL_law_2599 (by decide) ?_
      refine V_sub [1, 2, 3, 4, 5, 0] rfl ?_
      exact ih (c9 + 3) (s9 + 18) (by omega) (by omega) _ _ h
    replace h := ite_f d6 h
    by_cases d7 : x = 7
    · replace h := ite_t d7 h
      rw [d7]
      refine V_tswIn 44 646 C dL_law_44 (by decide) (by decide) rfl (by decide) ?_
      refine vL_law_646 C S T (by omega) (by omega) (fun M2 h => ?_) _ h
      obtain ⟨i2, e2, h⟩ := letM_some h
      refine V_iinc 2596 C [(5, .int i2), (0, .ref b), (1, .ref (gad G 0)), (2, .ref (gad G 119)), (3, .ref (gad G 129)), (4, .ref (gad G 130))] 5 i2 dL_law_2596 rfl (by rw [e2]; rfl) rfl rfl ?_
      refine V_goto 2599 28 C dL_law_2599 (by decide) ?_
      refine V_sub [1, 2, 3, 4, 5, 0] rfl ?_
      exact ih (c9 + 3) (s9 + 18) (by omega) (by omega) _ _ h
    replace h := ite_f d7 h
    by_cases d8 : x = 8
    · replace h := ite_t d8 h
      rw [d8]
      refine V_tswIn 44 702 C dL_law_44 (by decide) (by decide) rfl (by decide) ?_
      refine vL_law_702 C S T (by omega) (by omega) (fun M2 h => ?_) _ h
      obtain ⟨i2, e2, h⟩ := letM_some h
      refine V_iinc 2596 C [(5, .int i2), (0, .ref b), (1, .ref (gad G 0)), (2, .ref (gad G 119)), (3, .ref (gad G 129)), (4, .ref (gad G 130))] 5 i2 dL_law_2596 rfl (by rw [e2]; rfl) rfl rfl ?_
      refine V_goto 2599 28 C dL_law_2599 (by decide) ?_
      refine V_sub [1, 2, 3, 4, 5, 0] rfl ?_
      exact ih (c9 + 3) (s9 + 18) (by omega) (by omega) _ _ h
    replace h := ite_f d8 h
    by_cases d9 : x = 9
    · replace h := ite_t d9 h
      rw [d9]
      refine V_tswIn 44 765 C dL_law_44 (by decide) (by decide) rfl (by decide) ?_
      refine vL_law_765 C S T (by omega) (by omega) (fun M2 h => ?_) _ h
      obtain ⟨i2, e2, h⟩ := letM_some h
      refine V_iinc 2596 C [(5, .int i2), (0, .ref b), (1, .ref (gad G 0)), (2, .ref (gad G 119)), (3, .ref (gad G 129)), (4, .ref (gad G 130))] 5 i2 dL_law_2596 rfl (by rw [e2]; rfl) rfl rfl ?_
      refine V_goto 2599 28 C dL_law_2599 (by decide) ?_
      refine V_sub [1, 2, 3, 4, 5, 0] rfl ?_
      exact ih (c9 + 3) (s9 + 18) (by omega) (by omega) _ _ h
    replace h := ite_f d9 h
    by_cases d10 : x = 10
    · replace h := ite_t d10 h
      rw [d10]
      refine V_tswIn 44 821 C dL_law_44 (by decide) (by decide) rfl (by decide) ?_
      refine vL_law_821 C S T (by omega) (by omega) (fun M2 h => ?_) _ h
      obtain ⟨i2, e2, h⟩ := letM_some h
      refine V_iinc 2596 C [(5, .int i2), (0, .ref b), (1, .ref (gad G 0)), (2, .ref (gad G 119)), (3, .ref (gad G 129)), (4, .ref (gad G 130))] 5 i2 dL_law_2596 rfl (by rw [e2]; rfl) rfl rfl ?_
      refine V_goto 2599 28 C dL_law_2599 (by decide) ?_
      refine V_sub [1, 2, 3, 4, 5, 0] rfl ?_
      exact ih (c9 + 3) (s9 + 18) (by omega) (by omega) _ _ h
    replace h := ite_f d10 h
    by_cases d11 : x = 11
    · replace h := ite_t d11 h
      rw [d11]
      refine V_tswIn 44 889 C dL_law_44 (by decide) (by decide) rfl (by decide) ?_
      refine vL_law_889 C S T (by omega) (by omega) (fun M2 h => ?_) _ h
      obtain ⟨i2, e2, h⟩ := letM_some h
      refine V_iinc 2596 C [(5, .int i2), (0, .ref b), (1, .ref (gad G 0)), (2, .ref (gad G 119)), (3, .ref (gad G 129)), (4, .ref (gad G 130))] 5 i2 dL_law_2596 rfl (by rw [e2]; rfl) rfl rfl ?_
      refine V_goto 2599 28 C dL_law_2599 (by decide) ?_
      refine V_sub [1, 2, 3, 4, 5, 0] rfl ?_
      exact ih (c9 + 3) (s9 + 18) (by omega) (by omega) _ _ h
    replace h := ite_f d11 h
    by_cases d12 : x = 12
    · replace h := ite_t d12 h
      rw [d12]
      refine V_tswIn 44 957 C dL_law_44 (by decide) (by decide) rfl (by decide) ?_
      refine vL_law_957 C S T (by omega) (by omega) (fun M2 h => ?_) _ h
      obtain ⟨i2, e2, h⟩ := letM_some h
      refine V_iinc 2596 C [(5, .int i2), (0, .ref b), (1, .ref (gad G 0)), (2, .ref (gad G 119)), (3, .ref (gad G 129)), (4, .ref (gad G 130))] 5 i2 dL_law_2596 rfl (by rw [e2]; rfl) rfl rfl ?_
      refine V_goto 2599 28 C dL_law_2599 (by decide) ?_
      refine V_sub [1, 2, 3, 4, 5, 0] rfl ?_
      exact ih (c9 + 3) (s9 + 18) (by omega) (by omega) _ _ h
    replace h := ite_f d12 h
    by_cases d13 : x = 13
    · replace h := ite_t d13 h
      rw [d13]
      refine V_tswIn 44 970 C dL_law_44 (by decide) (by decide) rfl (by decide) ?_
      refine vL_law_970 C S T (by omega) (by omega) (fun M2 h => ?_) _ h
      obtain ⟨i2, e2, h⟩ := letM_some h
      refine V_iinc 2596 C [(5, .int i2), (0, .ref b), (1, .ref (gad G 0)), (2, .ref (gad G 119)), (3, .ref (gad G 129)), (4, .ref (gad G 130))] 5 i2 dL_law_2596 rfl (by rw [e2]; rfl) rfl rfl ?_
      refine V_goto 2599 28 C dL_law_2599 (by decide) ?_
      refine V_sub [1, 2, 3, 4, 5, 0] rfl ?_
      exact ih (c9 + 3) (s9 + 18) (by omega) (by omega) _ _ h
    replace h := ite_f d13 h
    by_cases d14 : x = 14
    · replace h := ite_t d14 h
      rw [d14]
      refine V_tswIn 44 1026 C dL_law_44 (by decide) (by decide) rfl (by decide) ?_
      refine vL_law_1026 C S T (by omega) (by omega) (fun M2 h => ?_) _ h
      obtain ⟨i2, e2, h⟩ := letM_some h
      refine V_iinc 2596 C [(5, .int i2), (0, .ref b), (1, .ref (gad G 0)), (2, .ref (gad G 119)), (3, .ref (gad G 129)), (4, .ref (gad G 130))] 5 i2 dL_law_2596 rfl (by rw [e2]; rfl) rfl rfl ?_
      refine V_goto 2599 28 C dL_law_2599 (by decide) ?_
      refine V_sub [1, 2, 3, 4, 5, 0] rfl ?_
      exact ih (c9 + 3) (s9 + 18) (by omega) (by omega) _ _ h
    replace h := ite_f d14 h
    by_cases d15 : x = 15
    · replace h := ite_t d15 h
      rw [d15]
      refine V_tswIn 44 1082 C dL_law_44 (by decide) (by decide) rfl (by decide) ?_
      refine vL_law_1082 C S T (by omega) (by omega) (fun M2 h => ?_) _ h
      obtain ⟨i2, e2, h⟩ := letM_some h
      refine V_iinc 2596 C [(5, .int i2), (0, .ref b), (1, .ref (gad G 0)), (2, .ref (gad G 119)), (3, .ref (gad G 129)), (4, .ref (gad G 130))] 5 i2 dL_law_2596 rfl (by rw [e2]; rfl) rfl rfl ?_
      refine V_goto 2599 28 C dL_law_2599 (by decide) ?_
      refine V_sub [1, 2, 3, 4, 5, 0] rfl ?_
      exact ih (c9 + 3) (s9 + 18) (by omega) (by omega) _ _ h
    replace h := ite_f d15 h
    by_cases d16 : x = 16
    · replace h := ite_t d16 h
      rw [d16]
      refine V_tswIn 44 1138 C dL_law_44 (by decide) (by decide) rfl (by decide) ?_
      refine vL_law_1138 C S T (by omega) (by omega) (fun M2 h => ?_) _ h
      obtain ⟨i2, e2, h⟩ := letM_some h
      refine V_iinc 2596 C [(5, .int i2), (0, .ref b), (1, .ref (gad G 0)), (2, .ref (gad G 119)), (3, .ref (gad G 129)), (4, .ref (gad G 130))] 5 i2 dL_law_2596 rfl (by rw [e2]; rfl) rfl rfl ?_
      refine V_goto 2599 28 C dL_law_2599 (by decide) ?_
      refine V_sub [1, 2, 3, 4, 5, 0] rfl ?_
      exact ih (c9 + 3) (s9 + 18) (by omega) (by omega) _ _ h
    replace h := ite_f d16 h
    by_cases d17 : x = 17
    · replace h := ite_t d17 h
      rw [d17]
      refine V_tswIn 44 1151 C dL_law_44 (by decide) (by decide) rfl (by decide) ?_
      refine vL_law_1151 C S T (by omega) (by omega) (fun M2 h => ?_) _ h
      obtain ⟨i2, e2, h⟩ := letM_some h
      refine V_iinc 2596 C [(5, .int i2), (0, .ref b), (1, .ref (gad G 0)), (2, .ref (gad G 119)), (3, .ref (gad G 129)), (4, .ref (gad G 130))] 5 i2 dL_law_2596 rfl (by rw [e2]; rfl) rfl rfl ?_
      refine V_goto 2599 28 C dL_law_2599 (by decide) ?_
      refine V_sub [1, 2, 3, 4, 5, 0] rfl ?_
      exact ih (c9 + 3) (s9 + 18) (by omega) (by omega) _ _ h
    replace h := ite_f d17 h
    by_cases d18 : x = 18
    · replace h := ite_t d18 h
      rw [d18]
      refine V_tswIn 44 1207 C dL_law_44 (by decide) (by decide) rfl (by decide) ?_
      refine vL_law_1207 C S T (by omega) (by omega) (fun M2 h => ?_) _ h
      obtain ⟨i2, e2, h⟩ := letM_some h
      refine V_iinc 2596 C [(5, .int i2), (0, .ref b), (1, .ref (gad G 0)), (2, .ref (gad G 119)), (3, .ref (gad G 129)), (4, .ref (gad G 130))] 5 i2 dL_law_2596 rfl (by rw [e2]; rfl) rfl rfl ?_
      refine V_goto 2599 28 C dL_law_2599 (by decide) ?_
      refine V_sub [1, 2, 3, 4, 5, 0] rfl ?_
      exact ih (c9 + 3) (s9 + 18) (by omega) (by omega) _ _ h
    replace h := ite_f d18 h
    by_cases d19 : x = 19
    · replace h := ite_t d19 h
      rw [d19]
      refine V_tswIn 44 1251 C dL_law_44 (by decide) (by decide) rfl (by decide) ?_
      refine vL_law_1251 C S T (by omega) (by omega) (fun M2 h => ?_) _ h
      obtain ⟨i2, e2, h⟩ := letM_some h
      refine V_iinc 2596 C [(5, .int i2), (0, .ref b), (1, .ref (gad G 0)), (2, .ref (gad G 119)), (3, .ref (gad G 129)), (4, .ref (gad G 130))] 5 i2 dL_law_2596 rfl (by rw [e2]; rfl) rfl rfl ?_
      refine V_goto 2599 28 C dL_law_2599 (by decide) ?_
      refine V_sub [1, 2, 3, 4, 5, 0] rfl ?_
      exact ih (c9 + 3) (s9 + 18) (by omega) (by omega) _ _ h
    replace h := ite_f d19 h
    by_cases d20 : x = 20
    · replace h := ite_t d20 h
      rw [d20]
      refine V_tswIn 44 1295 C dL_law_44 (by decide) (by decide) rfl (by decide) ?_
      refine vL_law_1295 C S T (by omega) (by omega) (fun M2 h => ?_) _ h
      obtain ⟨i2, e2, h⟩ := letM_some h
      refine V_iinc 2596 C [(5, .int i2), (0, .ref b), (1, .ref (gad G 0)), (2, .ref (gad G 119)), (3, .ref (gad G 129)), (4, .ref (gad G 130))] 5 i2 dL_law_2596 rfl (by rw [e2]; rfl) rfl rfl ?_
      refine V_goto 2599 28 C dL_law_2599 (by decide) ?_
      refine V_sub [1, 2, 3, 4, 5, 0] rfl ?_
      exact ih (c9 + 3) (s9 + 18) (by omega) (by omega) _ _ h
    replace h := ite_f d20 h
    by_cases d21 : x = 21
    · replace h := ite_t d21 h
      rw [d21]
      refine V_tswIn 44 1339 C dL_law_44 (by decide) (by decide) rfl (by decide) ?_
      refine vL_law_1339 C S T (by omega) (by omega) (fun M2 h => ?_) _ h
      obtain ⟨i2, e2, h⟩ := letM_some h
      refine V_iinc 2596 C [(5, .int i2), (0, .ref b), (1, .ref (gad G 0)), (2, .ref (gad G 119)), (3, .ref (gad G 129)), (4, .ref (gad G 130))] 5 i2 dL_law_2596 rfl (by rw [e2]; rfl) rfl rfl ?_
      refine V_goto 2599 28 C dL_law_2599 (by decide) ?_
      refine V_sub [1, 2, 3, 4, 5, 0] rfl ?_
      exact ih (c9 + 3) (s9 + 18) (by omega) (by omega) _ _ h
    replace h := ite_f d21 h
    by_cases d22 : x = 22
    · replace h := ite_t d22 h
      rw [d22]
      refine V_tswIn 44 1383 C dL_law_44 (by decide) (by decide) rfl (by decide) ?_
      refine vL_law_1383 C S T (by omega) (by omega) (fun M2 h => ?_) _ h
      obtain ⟨i2, e2, h⟩ := letM_some h
      refine V_iinc 2596 C [(5, .int i2), (0, .ref b), (1, .ref (gad G 0)), (2, .ref (gad G 119)), (3, .ref (gad G 129)), (4, .ref (gad G 130))] 5 i2 dL_law_2596 rfl (by rw [e2]; rfl) rfl rfl ?_
      refine V_goto 2599 28 C dL_law_2599 (by decide) ?_
      refine V_sub [1, 2, 3, 4, 5, 0] rfl ?_
      exact ih (c9 + 3) (s9 + 18) (by omega) (by omega) _ _ h
    replace h := ite_f d22 h
    by_cases d23 : x = 23
    · replace h := ite_t d23 h
      rw [d23]
      refine V_tswIn 44 1439 C dL_law_44 (by decide) (by decide) rfl (by decide) ?_
      refine vL_law_1439 C S T (by omega) (by omega) (fun M2 h => ?_) _ h
      obtain ⟨i2, e2, h⟩ := letM_some h
      refine V_iinc 2596 C [(5, .int i2), (0, .ref b), (1, .ref (gad G 0)), (2, .ref (gad G 119)), (3, .ref (gad G 129)), (4, .ref (gad G 130))] 5 i2 dL_law_2596 rfl (by rw [e2]; rfl) rfl rfl ?_
      refine V_goto 2599 28 C dL_law_2599 (by decide) ?_
      refine V_sub [1, 2, 3, 4, 5, 0] rfl ?_
      exact ih (c9 + 3) (s9 + 18) (by omega) (by omega) _ _ h
    replace h := ite_f d23 h
    by_cases d24 : x = 24
    · replace h := ite_t d24 h
      rw [d24]
      refine V_tswIn 44 1495 C dL_law_44 (by decide) (by decide) rfl (by decide) ?_
      refine vL_law_1495 C S T (by omega) (by omega) (fun M2 h => ?_) _ h
      obtain ⟨i2, e2, h⟩ := letM_some h
      refine V_iinc 2596 C [(5, .int i2), (0, .ref b), (1, .ref (gad G 0)), (2, .ref (gad G 119)), (3, .ref (gad G 129)), (4, .ref (gad G 130))] 5 i2 dL_law_2596 rfl (by rw [e2]; rfl) rfl rfl ?_
      refine V_goto 2599 28 C dL_law_2599 (by decide) ?_
      refine V_sub [1, 2, 3, 4, 5, 0] rfl ?_
      exact ih (c9 + 3) (s9 + 18) (by omega) (by omega) _ _ h
    replace h := ite_f d24 h
    by_cases d25 : x = 25
    · replace h := ite_t d25 h
      rw [d25]
      refine V_tswIn 44 1551 C dL_law_44 (by decide) (by decide) rfl (by decide) ?_
      refine vL_law_1551 C S T (by omega) (by omega) (fun M2 h => ?_) _ h
      obtain ⟨i2, e2, h⟩ := letM_some h
      refine V_iinc 2596 C [(5, .int i2), (0, .ref b), (1, .ref (gad G 0)), (2, .ref (gad G 119)), (3, .ref (gad G 129)), (4, .ref (gad G 130))] 5 i2 dL_law_2596 rfl (by rw [e2]; rfl) rfl rfl ?_
      refine V_goto 2599 28 C dL_law_2599 (by decide) ?_
      refine V_sub [1, 2, 3, 4, 5, 0] rfl ?_
      exact ih (c9 + 3) (s9 + 18) (by omega) (by omega) _ _ h
    replace h := ite_f d25 h
    by_cases d26 : x = 26
    · replace h := ite_t d26 h
      rw [d26]
      refine V_tswIn 44 1607 C dL_law_44 (by decide) (by decide) rfl (by decide) ?_
      refine vL_law_1607 C S T (by omega) (by omega) (fun M2 h => ?_) _ h
      obtain ⟨i2, e2, h⟩ := letM_some h
      refine V_iinc 2596 C [(5, .int i2), (0, .ref b), (1, .ref (gad G 0)), (2, .ref (gad G 119)), (3, .ref (gad G 129)), (4, .ref (gad G 130))] 5 i2 dL_law_2596 rfl (by rw [e2]; rfl) rfl rfl ?_
      refine V_goto 2599 28 C dL_law_2599 (by decide) ?_
      refine V_sub [1, 2, 3, 4, 5, 0] rfl ?_
      exact ih (c9 + 3) (s9 + 18) (by omega) (by omega) _ _ h
    replace h := ite_f d26 h
    by_cases d27 : x = 27
    · replace h := ite_t d27 h
      rw [d27]
      refine V_tswIn 44 1620 C dL_law_44 (by decide) (by decide) rfl (by decide) ?_
      refine vL_law_1620 C S T (by omega) (by omega) (fun M2 h => ?_) _ h
      obtain ⟨i2, e2, h⟩ := letM_some h
      refine V_iinc 2596 C [(5, .int i2), (0, .ref b), (1, .ref (gad G 0)), (2, .ref (gad G 119)), (3, .ref (gad G 129)), (4, .ref (gad G 130))] 5 i2 dL_law_2596 rfl (by rw [e2]; rfl) rfl rfl ?_
      refine V_goto 2599 28 C dL_law_2599 (by decide) ?_
      refine V_sub [1, 2, 3, 4, 5, 0] rfl ?_
      exact ih (c9 + 3) (s9 + 18) (by omega) (by omega) _ _ h
    replace h := ite_f d27 h
    by_cases d28 : x = 28
    · replace h := ite_t d28 h
      rw [d28]
      refine V_tswIn 44 1633 C dL_law_44 (by decide) (by decide) rfl (by decide) ?_
      refine vL_law_1633 C S T (by omega) (by omega) (fun M2 h => ?_) _ h
      obtain ⟨i2, e2, h⟩ := letM_some h
      refine V_iinc 2596 C [(5, .int i2), (0, .ref b), (1, .ref (gad G 0)), (2, .ref (gad G 119)), (3, .ref (gad G 129)), (4, .ref (gad G 130))] 5 i2 dL_law_2596 rfl (by rw [e2]; rfl) rfl rfl ?_
      refine V_goto 2599 28 C dL_law_2599 (by decide) ?_
      refine V_sub [1, 2, 3, 4, 5, 0] rfl ?_
      exact ih (c9 + 3) (s9 + 18) (by omega) (by omega) _ _ h
    replace h := ite_f d28 h
    by_cases d29 : x = 29
    · replace h := ite_t d29 h
      rw [d29]
      refine V_tswIn 44 1646 C dL_law_44 (by decide) (by decide) rfl (by decide) ?_
      refine vL_law_1646 C S T (by omega) (by omega) (fun M2 h => ?_) _ h
      obtain ⟨i2, e2, h⟩ := letM_some h
      refine V_iinc 2596 C [(5, .int i2), (0, .ref b), (1, .ref (gad G 0)), (2, .ref (gad G 119)), (3, .ref (gad G 129)), (4, .ref (gad G 130))] 5 i2 dL_law_2596 rfl (by rw [e2]; rfl) rfl rfl ?_
      refine V_goto 2599 28 C dL_law_2599 (by decide) ?_
      refine V_sub [1, 2, 3, 4, 5, 0] rfl ?_
      exact ih (c9 + 3) (s9 + 18) (by omega) (by omega) _ _ h
    replace h := ite_f d29 h
    by_cases d30 : x = 30
    · replace h := ite_t d30 h
      rw [d30]
      refine V_tswIn 44 1702 C dL_law_44 (by decide) (by decide) rfl (by decide) ?_
      refine vL_law_1702 C S T (by omega) (by omega) (fun M2 h => ?_) _ h
      obtain ⟨i2, e2, h⟩ := letM_some h
      refine V_iinc 2596 C [(5, .int i2), (0, .ref b), (1, .ref (gad G 0)), (2, .ref (gad G 119)), (3, .ref (gad G 129)), (4, .ref (gad G 130))] 5 i2 dL_law_2596 rfl (by rw [e2]; rfl) rfl rfl ?_
      refine V_goto 2599 28 C dL_law_2599 (by decide) ?_
      refine V_sub [1, 2, 3, 4, 5, 0] rfl ?_
      exact ih (c9 + 3) (s9 + 18) (by omega) (by omega) _ _ h
    replace h := ite_f d30 h
    by_cases d31 : x = 31
    · replace h := ite_t d31 h
      rw [d31]
      refine V_tswIn 44 1758 C dL_law_44 (by decide) (by decide) rfl (by decide) ?_
      refine vL_law_1758 C S T (by omega) (by omega) (fun M2 h => ?_) _ h
      obtain ⟨i2, e2, h⟩ := letM_some h
      refine V_iinc 2596 C [(5, .int i2), (0, .ref b), (1, .ref (gad G 0)), (2, .ref (gad G 119)), (3, .ref (gad G 129)), (4, .ref (gad G 130))] 5 i2 dL_law_2596 rfl (by rw [e2]; rfl) rfl rfl ?_
      refine V_goto 2599 28 C dL_law_2599 (by decide) ?_
      refine V_sub [1, 2, 3, 4, 5, 0] rfl ?_
      exact ih (c9 + 3) (s9 + 18) (by omega) (by omega) _ _ h
    replace h := ite_f d31 h
    by_cases d32 : x = 32
    · replace h := ite_t d32 h
      rw [d32]
      refine V_tswIn 44 1814 C dL_law_44 (by decide) (by decide) rfl (by decide) ?_
      refine vL_law_1814 C S T (by omega) (by omega) (fun M2 h => ?_) _ h
      obtain ⟨i2, e2, h⟩ := letM_some h
      refine V_iinc 2596 C [(5, .int i2), (0, .ref b), (1, .ref (gad G 0)), (2, .ref (gad G 119)), (3, .ref (gad G 129)), (4, .ref (gad G 130))] 5 i2 dL_law_2596 rfl (by rw [e2]; rfl) rfl rfl ?_
      refine V_goto 2599 28 C dL_law_2599 (by decide) ?_
      refine V_sub [1, 2, 3, 4, 5, 0] rfl ?_
      exact ih (c9 + 3) (s9 + 18) (by omega) (by omega) _ _ h
    replace h := ite_f d32 h
    by_cases d33 : x = 33
    · replace h := ite_t d33 h
      rw [d33]
      refine V_tswIn 44 1870 C dL_law_44 (by decide) (by decide) rfl (by decide) ?_
      refine vL_law_1870 C S T (by omega) (by omega) (fun M2 h => ?_) _ h
      obtain ⟨i2, e2, h⟩ := letM_some h
      refine V_iinc 2596 C [(5, .int i2), (0, .ref b), (1, .ref (gad G 0)), (2, .ref (gad G 119)), (3, .ref (gad G 129)), (4, .ref (gad G 130))] 5 i2 dL_law_2596 rfl (by rw [e2]; rfl) rfl rfl ?_
      refine V_goto 2599 28 C dL_law_2599 (by decide) ?_
      refine V_sub [1, 2, 3, 4, 5, 0] rfl ?_
      exact ih (c9 + 3) (s9 + 18) (by omega) (by omega) _ _ h
    replace h := ite_f d33 h
    by_cases d34 : x = 34
    · replace h := ite_t d34 h
      rw [d34]
      refine V_tswIn 44 1883 C dL_law_44 (by decide) (by decide) rfl (by decide) ?_
      refine vL_law_1883 C S T (by omega) (by omega) (fun M2 h => ?_) _ h
      obtain ⟨i2, e2, h⟩ := letM_some h
      refine V_iinc 2596 C [(5, .int i2), (0, .ref b), (1, .ref (gad G 0)), (2, .ref (gad G 119)), (3, .ref (gad G 129)), (4, .ref (gad G 130))] 5 i2 dL_law_2596 rfl (by rw [e2]; rfl) rfl rfl ?_
      refine V_goto 2599 28 C dL_law_2599 (by decide) ?_
      refine V_sub [1, 2, 3, 4, 5, 0] rfl ?_
      exact ih (c9 + 3) (s9 + 18) (by omega) (by omega) _ _ h
    replace h := ite_f d34 h
    by_cases d35 : x = 35
    · replace h := ite_t d35 h
      rw [d35]
      refine V_tswIn 44 1896 C dL_law_44 (by decide) (by decide) rfl (by decide) ?_
      refine vL_law_1896 C S T (by omega) (by omega) (fun M2 h => ?_) _ h
      obtain ⟨i2, e2, h⟩ := letM_some h
      refine V_iinc 2596 C [(5, .int i2), (0, .ref b), (1, .ref (gad G 0)), (2, .ref (gad G 119)), (3, .ref (gad G 129)), (4, .ref (gad G 130))] 5 i2 dL_law_2596 rfl (by rw [e2]; rfl) rfl rfl ?_
      refine V_goto 2599 28 C dL_law_2599 (by decide) ?_
      refine V_sub [1, 2, 3, 4, 5, 0] rfl ?_
      exact ih (c9 + 3) (s9 + 18) (by omega) (by omega) _ _ h
    replace h := ite_f d35 h
    by_cases d36 : x = 36
    · replace h := ite_t d36 h
      rw [d36]
      refine V_tswIn 44 1909 C dL_law_44 (by decide) (by decide) rfl (by decide) ?_
      refine vL_law_1909 C S T (by omega) (by omega) (fun M2 h => ?_) _ h
      obtain ⟨i2, e2, h⟩ := letM_some h
      refine V_iinc 2596 C [(5, .int i2), (0, .ref b), (1, .ref (gad G 0)), (2, .ref (gad G 119)), (3, .ref (gad G 129)), (4, .ref (gad G 130))] 5 i2 dL_law_2596 rfl (by rw [e2]; rfl) rfl rfl ?_
      refine V_goto 2599 28 C dL_law_2599 (by decide) ?_
      refine V_sub [1, 2, 3, 4, 5, 0] rfl ?_
      exact ih (c9 + 3) (s9 + 18) (by omega) (by omega) _ _ h
    replace h := ite_f d36 h
    by_cases d37 : x = 37
    · replace h := ite_t d37 h
      rw [d37]
      refine V_tswIn 44 1922 C dL_law_44 (by decide) (by decide) rfl (by decide) ?_
      refine vL_law_1922 C S T (by omega) (by omega) (fun M2 h => ?_) _ h
      obtain ⟨i2, e2, h⟩ := letM_some h
      refine V_iinc 2596 C [(5, .int i2), (0, .ref b), (1, .ref (gad G 0)), (2, .ref (gad G 119)), (3, .ref (gad G 129)), (4, .ref (gad G 130))] 5 i2 dL_law_2596 rfl (by rw [e2]; rfl) rfl rfl ?_
      refine V_goto 2599 28 C dL_law_2599 (by decide) ?_
      refine V_sub [1, 2, 3, 4, 5, 0] rfl ?_
      exact ih (c9 + 3) (s9 + 18) (by omega) (by omega) _ _ h
    replace h := ite_f d37 h
    by_cases d38 : x = 38
    · replace h := ite_t d38 h
      rw [d38]
      refine V_tswIn 44 1935 C dL_law_44 (by decide) (by decide) rfl (by decide) ?_
      refine vL_law_1935 C S T (by omega) (by omega) (fun M2 h => ?_) _ h
      obtain ⟨i2, e2, h⟩ := letM_some h
      refine V_iinc 2596 C [(5, .int i2), (0, .ref b), (1, .ref (gad G 0)), (2, .ref (gad G 119)), (3, .ref (gad G 129)), (4, .ref (gad G 130))] 5 i2 dL_law_2596 rfl (by rw [e2]; rfl) rfl rfl ?_
      refine V_goto 2599 28 C dL_law_2599 (by decide) ?_
      refine V_sub [1, 2, 3, 4, 5, 0] rfl ?_
      exact ih (c9 + 3) (s9 + 18) (by omega) (by omega) _ _ h
    replace h := ite_f d38 h
    by_cases d39 : x = 39
    · replace h := ite_t d39 h
      rw [d39]
      refine V_tswIn 44 1948 C dL_law_44 (by decide) (by decide) rfl (by decide) ?_
      refine vL_law_1948 C S T (by omega) (by omega) (fun M2 h => ?_) _ h
      obtain ⟨i2, e2, h⟩ := letM_some h
      refine V_iinc 2596 C [(5, .int i2), (0, .ref b), (1, .ref (gad G 0)), (2, .ref (gad G 119)), (3, .ref (gad G 129)), (4, .ref (gad G 130))] 5 i2 dL_law_2596 rfl (by rw [e2]; rfl) rfl rfl ?_
      refine V_goto 2599 28 C dL_law_2599 (by decide) ?_
      refine V_sub [1, 2, 3, 4, 5, 0] rfl ?_
      exact ih (c9 + 3) (s9 + 18) (by omega) (by omega) _ _ h
    replace h := ite_f d39 h
    by_cases d40 : x = 40
    · replace h := ite_t d40 h
      rw [d40]
      refine V_tswIn 44 2013 C dL_law_44 (by decide) (by decide) rfl (by decide) ?_
      refine vL_law_2013 C S T (by omega) (by omega) (fun M2 h => ?_) _ h
      obtain ⟨i2, e2, h⟩ := letM_some h
      refine V_iinc 2596 C [(5, .int i2), (0, .ref b), (1, .ref (gad G 0)), (2, .ref (gad G 119)), (3, .ref (gad G 129)), (4, .ref (gad G 130))] 5 i2 dL_law_2596 rfl (by rw [e2]; rfl) rfl rfl ?_
      refine V_goto 2599 28 C dL_law_2599 (by decide) ?_
      refine V_sub [1, 2, 3, 4, 5, 0] rfl ?_
      exact ih (c9 + 3) (s9 + 18) (by omega) (by omega) _ _ h
    replace h := ite_f d40 h
    by_cases d41 : x = 41
    · replace h := ite_t d41 h
      rw [d41]
      refine V_tswIn 44 2079 C dL_law_44 (by decide) (by decide) rfl (by decide) ?_
      refine vL_law_2079 C S T (by omega) (by omega) (fun M2 h => ?_) _ h
      obtain ⟨i2, e2, h⟩ := letM_some h
      refine V_iinc 2596 C [(5, .int i2), (0, .ref b), (1, .ref (gad G 0)), (2, .ref (gad G 119)), (3, .ref (gad G 129)), (4, .ref (gad G 130))] 5 i2 dL_law_2596 rfl (by rw [e2]; rfl) rfl rfl ?_
      refine V_goto 2599 28 C dL_law_2599 (by decide) ?_
      refine V_sub [1, 2, 3, 4, 5, 0] rfl ?_
      exact ih (c9 + 3) (s9 + 18) (by omega) (by omega) _ _ h
    replace h := ite_f d41 h
    by_cases d42 : x = 42
    · replace h := ite_t d42 h
      rw [d42]
      refine V_tswIn 44 2137 C dL_law_44 (by decide) (by decide) rfl (by decide) ?_
      refine vL_law_2137 C S T (by omega) (by omega) (fun M2 h => ?_) _ h
      obtain ⟨i2, e2, h⟩ := letM_some h
      refine V_iinc 2596 C [(5, .int i2), (0, .ref b), (1, .ref (gad G 0)), (2, .ref (gad G 119)), (3, .ref (gad G 129)), (4, .ref (gad G 130))] 5 i2 dL_law_2596 rfl (by rw [e2]; rfl) rfl rfl ?_
      refine V_goto 2599 28 C dL_law_2599 (by decide) ?_
      refine V_sub [1, 2, 3, 4, 5, 0] rfl ?_
      exact ih (c9 + 3) (s9 + 18) (by omega) (by omega) _ _ h
    replace h := ite_f d42 h
    by_cases d43 : x = 43
    · replace h := ite_t d43 h
      rw [d43]
      refine V_tswIn 44 2181 C dL_law_44 (by decide) (by decide) rfl (by decide) ?_
      refine vL_law_2181 C S T (by omega) (by omega) (fun M2 h => ?_) _ h
      obtain ⟨i2, e2, h⟩ := letM_some h
      refine V_iinc 2596 C [(5, .int i2), (0, .ref b), (1, .ref (gad G 0)), (2, .ref (gad G 119)), (3, .ref (gad G 129)), (4, .ref (gad G 130))] 5 i2 dL_law_2596 rfl (by rw [e2]; rfl) rfl rfl ?_
      refine V_goto 2599 28 C dL_law_2599 (by decide) ?_
      refine V_sub [1, 2, 3, 4, 5, 0] rfl ?_
      exact ih (c9 + 3) (s9 + 18) (by omega) (by omega) _ _ h
    replace h := ite_f d43 h
    by_cases d44 : x = 44
    · replace h := ite_t d44 h
      rw [d44]
      refine V_tswIn 44 2225 C dL_law_44 (by decide) (by decide) rfl (by decide) ?_
      refine vL_law_2225 C S T (by omega) (by omega) (fun M2 h => ?_) _ h
      obtain ⟨i2, e2, h⟩ := letM_some h
      refine V_iinc 2596 C [(5, .int i2), (0, .ref b), (1, .ref (gad G 0)), (2, .ref (gad G 119)), (3, .ref (gad G 129)), (4, .ref (gad G 130))] 5 i2 dL_law_2596 rfl (by rw [e2]; rfl) rfl rfl ?_
      refine V_goto 2599 28 C dL_law_2599 (by decide) ?_
      refine V_sub [1, 2, 3, 4, 5, 0] rfl ?_
      exact ih (c9 + 3) (s9 + 18) (by omega) (by omega) _ _ h
    replace h := ite_f d44 h
    by_cases d45 : x = 45
    · replace h := ite_t d45 h
      rw [d45]
      refine V_tswIn 44 2281 C dL_law_44 (by decide) (by decide) rfl (by decide) ?_
      refine vL_law_2281 C S T (by omega) (by omega) (fun M2 h => ?_) _ h
      obtain ⟨i2, e2, h⟩ := letM_some h
      refine V_iinc 2596 C [(5, .int i2), (0, .ref b), (1, .ref (gad G 0)), (2, .ref (gad G 119)), (3, .ref (gad G 129)), (4, .ref (gad G 130))] 5 i2 dL_law_2596 rfl (by rw [e2]; rfl) rfl rfl ?_
      refine V_goto 2599 28 C dL_law_2599 (by decide) ?_
      refine V_sub [1, 2, 3, 4, 5, 0] rfl ?_
      exact ih (c9 + 3) (s9 + 18) (by omega) (by omega) _ _ h
    replace h := ite_f d45 h
    by_cases d46 : x = 46
    · replace h := ite_t d46 h
      rw [d46]
      refine V_tswIn 44 2294 C dL_law_44 (by decide) (by decide) rfl (by decide) ?_
      refine vL_law_2294 C S T (by omega) (by omega) (fun M2 h => ?_) _ h
      obtain ⟨i2, e2, h⟩ := letM_some h
      refine V_iinc 2596 C [(5, .int i2), (0, .ref b), (1, .ref (gad G 0)), (2, .ref (gad G 119)), (3, .ref (gad G 129)), (4, .ref (gad G 130))] 5 i2 dL_law_2596 rfl (by rw [e2]; rfl) rfl rfl ?_
      refine V_goto 2599 28 C dL_law_2599 (by decide) ?_
      refine V_sub [1, 2, 3, 4, 5, 0] rfl ?_
      exact ih (c9 + 3) (s9 + 18) (by omega) (by omega) _ _ h
    replace h := ite_f d46 h
    by_cases d47 : x = 47
    · replace h := ite_t d47 h
      rw [d47]
      refine V_tswIn 44 2350 C dL_law_44 (by decide) (by decide) rfl (by decide) ?_
      refine vL_law_2350 C S T (by omega) (by omega) (fun M2 h => ?_) _ h
      obtain ⟨i2, e2, h⟩ := letM_some h
      refine V_iinc 2596 C [(5, .int i2), (0, .ref b), (1, .ref (gad G 0)), (2, .ref (gad G 119)), (3, .ref (gad G 129)), (4, .ref (gad G 130))] 5 i2 dL_law_2596 rfl (by rw [e2]; rfl) rfl rfl ?_
      refine V_goto 2599 28 C dL_law_2599 (by decide) ?_
      refine V_sub [1, 2, 3, 4, 5, 0] rfl ?_
      exact ih (c9 + 3) (s9 + 18) (by omega) (by omega) _ _ h
    replace h := ite_f d47 h
    by_cases d48 : x = 48
    · replace h := ite_t d48 h
      rw [d48]
      refine V_tswIn 44 2394 C dL_law_44 (by decide) (by decide) rfl (by decide) ?_
      refine vL_law_2394 C S T (by omega) (by omega) (fun M2 h => ?_) _ h
      obtain ⟨i2, e2, h⟩ := letM_some h
      refine V_iinc 2596 C [(5, .int i2), (0, .ref b), (1, .ref (gad G 0)), (2, .ref (gad G 119)), (3, .ref (gad G 129)), (4, .ref (gad G 130))] 5 i2 dL_law_2596 rfl (by rw [e2]; rfl) rfl rfl ?_
      refine V_goto 2599 28 C dL_law_2599 (by decide) ?_
      refine V_sub [1, 2, 3, 4, 5, 0] rfl ?_
      exact ih (c9 + 3) (s9 + 18) (by omega) (by omega) _ _ h
    replace h := ite_f d48 h
    by_cases d49 : x = 49
    · replace h := ite_t d49 h
      rw [d49]
      refine V_tswIn 44 2438 C dL_law_44 (by decide) (by decide) rfl (by decide) ?_
      refine vL_law_2438 C S T (by omega) (by omega) (fun M2 h => ?_) _ h
      obtain ⟨i2, e2, h⟩ := letM_some h
      refine V_iinc 2596 C [(5, .int i2), (0, .ref b), (1, .ref (gad G 0)), (2, .ref (gad G 119)), (3, .ref (gad G 129)), (4, .ref (gad G 130))] 5 i2 dL_law_2596 rfl (by rw [e2]; rfl) rfl rfl ?_
      refine V_goto 2599 28 C dL_law_2599 (by decide) ?_
      refine V_sub [1, 2, 3, 4, 5, 0] rfl ?_
      exact ih (c9 + 3) (s9 + 18) (by omega) (by omega) _ _ h
    replace h := ite_f d49 h
    by_cases d50 : x = 50
    · replace h := ite_t d50 h
      rw [d50]
      refine V_tswIn 44 2482 C dL_law_44 (by decide) (by decide) rfl (by decide) ?_
      refine vL_law_2482 C S T (by omega) (by omega) (fun M2 h => ?_) _ h
      obtain ⟨i2, e2, h⟩ := letM_some h
      refine V_iinc 2596 C [(5, .int i2), (0, .ref b), (1, .ref (gad G 0)), (2, .ref (gad G 119)), (3, .ref (gad G 129)), (4, .ref (gad G 130))] 5 i2 dL_law_2596 rfl (by rw [e2]; rfl) rfl rfl ?_
      refine V_goto 2599 28 C dL_law_2599 (by decide) ?_
      refine V_sub [1, 2, 3, 4, 5, 0] rfl ?_
      exact ih (c9 + 3) (s9 + 18) (by omega) (by omega) _ _ h
    replace h := ite_f d50 h
    by_cases d51 : x = 51
    · replace h := ite_t d51 h
      rw [d51]
      refine V_tswIn 44 2526 C dL_law_44 (by decide) (by decide) rfl (by decide) ?_
      refine vL_law_2526 C S T (by omega) (by omega) (fun M2 h => ?_) _ h
      obtain ⟨i2, e2, h⟩ := letM_some h
      refine V_iinc 2596 C [(5, .int i2), (0, .ref b), (1, .ref (gad G 0)), (2, .ref (gad G 119)), (3, .ref (gad G 129)), (4, .ref (gad G 130))] 5 i2 dL_law_2596 rfl (by rw [e2]; rfl) rfl rfl ?_
      refine V_goto 2599 28 C dL_law_2599 (by decide) ?_
      refine V_sub [1, 2, 3, 4, 5, 0] rfl ?_
      exact ih (c9 + 3) (s9 + 18) (by omega) (by omega) _ _ h
    replace h := ite_f d51 h
    by_cases d52 : x = 52
    · replace h := ite_t d52 h
      rw [d52]
      refine V_tswIn 44 2539 C dL_law_44 (by decide) (by decide) rfl (by decide) ?_
      refine vL_law_2539 C S T (by omega) (by omega) (fun M2 h => ?_) _ h
      obtain ⟨i2, e2, h⟩ := letM_some h
      refine V_iinc 2596 C [(5, .int i2), (0, .ref b), (1, .ref (gad G 0)), (2, .ref (gad G 119)), (3, .ref (gad G 129)), (4, .ref (gad G 130))] 5 i2 dL_law_2596 rfl (by rw [e2]; rfl) rfl rfl ?_
      refine V_goto 2599 28 C dL_law_2599 (by decide) ?_
      refine V_sub [1, 2, 3, 4, 5, 0] rfl ?_
      exact ih (c9 + 3) (s9 + 18) (by omega) (by omega) _ _ h
    replace h := ite_f d52 h
    by_cases d53 : x = 53
    · replace h := ite_t d53 h
      rw [d53]
      refine V_tswIn 44 2552 C dL_law_44 (by decide) (by decide) rfl (by decide) ?_
      refine vL_law_2552 C S T (by omega) (by omega) (fun M2 h => ?_) _ h
      obtain ⟨i2, e2, h⟩ := letM_some h
      refine V_iinc 2596 C [(5, .int i2), (0, .ref b), (1, .ref (gad G 0)), (2, .ref (gad G 119)), (3, .ref (gad G 129)), (4, .ref (gad G 130))] 5 i2 dL_law_2596 rfl (by rw [e2]; rfl) rfl rfl ?_
      refine V_goto 2599 28 C dL_law_2599 (by decide) ?_
      refine V_sub [1, 2, 3, 4, 5, 0] rfl ?_
      exact ih (c9 + 3) (s9 + 18) (by omega) (by omega) _ _ h
    replace h := ite_f d53 h
    by_cases g : x.toInt < 0 ∨ 53 < x.toInt
    · refine V_tswOut 44 2596 C dL_law_44 g (by decide) ?_
      refine V_wide (Nat.le_add_right c9 3) (Nat.le_add_right s9 18) ?_
      obtain ⟨i2, e2, h⟩ := letM_some h
      refine V_iinc 2596 C [(5, .int i2), (0, .ref b), (1, .ref (gad G 0)), (2, .ref (gad G 119)), (3, .ref (gad G 129)), (4, .ref (gad G 130))] 5 i2 dL_law_2596 rfl (by rw [e2]; rfl) rfl rfl ?_
      refine V_goto 2599 28 C dL_law_2599 (by decide) ?_
      refine V_sub [1, 2, 3, 4, 5, 0] rfl ?_
      exact ih (c9 + 3) (s9 + 18) (by omega) (by omega) _ _ h
    exfalso
    have n0 : x.toInt ≠ 0 := fun q => d0 (Int32.toInt_inj.mp (by rw [q]; rfl))
    have n1 : x.toInt ≠ 1 := fun q => d1 (Int32.toInt_inj.mp (by rw [q]; rfl))
    have n2 : x.toInt ≠ 2 := fun q => d2 (Int32.toInt_inj.mp (by rw [q]; rfl))
    have n3 : x.toInt ≠ 3 := fun q => d3 (Int32.toInt_inj.mp (by rw [q]; rfl))
    have n4 : x.toInt ≠ 4 := fun q => d4 (Int32.toInt_inj.mp (by rw [q]; rfl))
    have n5 : x.toInt ≠ 5 := fun q => d5 (Int32.toInt_inj.mp (by rw [q]; rfl))
    have n6 : x.toInt ≠ 6 := fun q => d6 (Int32.toInt_inj.mp (by rw [q]; rfl))
    have n7 : x.toInt ≠ 7 := fun q => d7 (Int32.toInt_inj.mp (by rw [q]; rfl))
    have n8 : x.toInt ≠ 8 := fun q => d8 (Int32.toInt_inj.mp (by rw [q]; rfl))
    have n9 : x.toInt ≠ 9 := fun q => d9 (Int32.toInt_inj.mp (by rw [q]; rfl))
    have n10 : x.toInt ≠ 10 := fun q => d10 (Int32.toInt_inj.mp (by rw [q]; rfl))
    have n11 : x.toInt ≠ 11 := fun q => d11 (Int32.toInt_inj.mp (by rw [q]; rfl))
    have n12 : x.toInt ≠ 12 := fun q => d12 (Int32.toInt_inj.mp (by rw [q]; rfl))
    have n13 : x.toInt ≠ 13 := fun q => d13 (Int32.toInt_inj.mp (by rw [q]; rfl))
    have n14 : x.toInt ≠ 14 := fun q => d14 (Int32.toInt_inj.mp (by rw [q]; rfl))
    have n15 : x.toInt ≠ 15 := fun q => d15 (Int32.toInt_inj.mp (by rw [q]; rfl))
    have n16 : x.toInt ≠ 16 := fun q => d16 (Int32.toInt_inj.mp (by rw [q]; rfl))
    have n17 : x.toInt ≠ 17 := fun q => d17 (Int32.toInt_inj.mp (by rw [q]; rfl))
    have n18 : x.toInt ≠ 18 := fun q => d18 (Int32.toInt_inj.mp (by rw [q]; rfl))
    have n19 : x.toInt ≠ 19 := fun q => d19 (Int32.toInt_inj.mp (by rw [q]; rfl))
    have n20 : x.toInt ≠ 20 := fun q => d20 (Int32.toInt_inj.mp (by rw [q]; rfl))
    have n21 : x.toInt ≠ 21 := fun q => d21 (Int32.toInt_inj.mp (by rw [q]; rfl))
    have n22 : x.toInt ≠ 22 := fun q => d22 (Int32.toInt_inj.mp (by rw [q]; rfl))
    have n23 : x.toInt ≠ 23 := fun q => d23 (Int32.toInt_inj.mp (by rw [q]; rfl))
    have n24 : x.toInt ≠ 24 := fun q => d24 (Int32.toInt_inj.mp (by rw [q]; rfl))
    have n25 : x.toInt ≠ 25 := fun q => d25 (Int32.toInt_inj.mp (by rw [q]; rfl))
    have n26 : x.toInt ≠ 26 := fun q => d26 (Int32.toInt_inj.mp (by rw [q]; rfl))
    have n27 : x.toInt ≠ 27 := fun q => d27 (Int32.toInt_inj.mp (by rw [q]; rfl))
    have n28 : x.toInt ≠ 28 := fun q => d28 (Int32.toInt_inj.mp (by rw [q]; rfl))
    have n29 : x.toInt ≠ 29 := fun q => d29 (Int32.toInt_inj.mp (by rw [q]; rfl))
    have n30 : x.toInt ≠ 30 := fun q => d30 (Int32.toInt_inj.mp (by rw [q]; rfl))
    have n31 : x.toInt ≠ 31 := fun q => d31 (Int32.toInt_inj.mp (by rw [q]; rfl))
    have n32 : x.toInt ≠ 32 := fun q => d32 (Int32.toInt_inj.mp (by rw [q]; rfl))
    have n33 : x.toInt ≠ 33 := fun q => d33 (Int32.toInt_inj.mp (by rw [q]; rfl))
    have n34 : x.toInt ≠ 34 := fun q => d34 (Int32.toInt_inj.mp (by rw [q]; rfl))
    have n35 : x.toInt ≠ 35 := fun q => d35 (Int32.toInt_inj.mp (by rw [q]; rfl))
    have n36 : x.toInt ≠ 36 := fun q => d36 (Int32.toInt_inj.mp (by rw [q]; rfl))
    have n37 : x.toInt ≠ 37 := fun q => d37 (Int32.toInt_inj.mp (by rw [q]; rfl))
    have n38 : x.toInt ≠ 38 := fun q => d38 (Int32.toInt_inj.mp (by rw [q]; rfl))
    have n39 : x.toInt ≠ 39 := fun q => d39 (Int32.toInt_inj.mp (by rw [q]; rfl))
    have n40 : x.toInt ≠ 40 := fun q => d40 (Int32.toInt_inj.mp (by rw [q]; rfl))
    have n41 : x.toInt ≠ 41 := fun q => d41 (Int32.toInt_inj.mp (by rw [q]; rfl))
    have n42 : x.toInt ≠ 42 := fun q => d42 (Int32.toInt_inj.mp (by rw [q]; rfl))
    have n43 : x.toInt ≠ 43 := fun q => d43 (Int32.toInt_inj.mp (by rw [q]; rfl))
    have n44 : x.toInt ≠ 44 := fun q => d44 (Int32.toInt_inj.mp (by rw [q]; rfl))
    have n45 : x.toInt ≠ 45 := fun q => d45 (Int32.toInt_inj.mp (by rw [q]; rfl))
    have n46 : x.toInt ≠ 46 := fun q => d46 (Int32.toInt_inj.mp (by rw [q]; rfl))
    have n47 : x.toInt ≠ 47 := fun q => d47 (Int32.toInt_inj.mp (by rw [q]; rfl))
    have n48 : x.toInt ≠ 48 := fun q => d48 (Int32.toInt_inj.mp (by rw [q]; rfl))
    have n49 : x.toInt ≠ 49 := fun q => d49 (Int32.toInt_inj.mp (by rw [q]; rfl))
    have n50 : x.toInt ≠ 50 := fun q => d50 (Int32.toInt_inj.mp (by rw [q]; rfl))
    have n51 : x.toInt ≠ 51 := fun q => d51 (Int32.toInt_inj.mp (by rw [q]; rfl))
    have n52 : x.toInt ≠ 52 := fun q => d52 (Int32.toInt_inj.mp (by rw [q]; rfl))
    have n53 : x.toInt ≠ 53 := fun q => d53 (Int32.toInt_inj.mp (by rw [q]; rfl))
    omega
end
