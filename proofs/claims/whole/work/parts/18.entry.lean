theorem wk_4_71 : (Jvm.Cond.instantiable "java/lang/String" (4 : Nat)) ∈ lw_tbl := tm4 71 (by decide +kernel)
theorem wk_4_56 : (Jvm.Cond.instantiable "java/lang/ArrayIndexOutOfBoundsException" (6 : Nat)) ∈ lw_tbl := tm4 56 (by decide +kernel)
theorem wk_1_33 : (Jvm.Cond.instantiable "LarderPatrol" (12 : Nat)) ∈ lw_tbl := tm1 33 (by decide +kernel)
theorem wk_6_129 : (Jvm.Cond.instantiable "LarderPatrolModel" (24 : Nat)) ∈ lw_tbl := tm6 129 (by decide +kernel)
theorem wk_1_193 : (Jvm.Cond.arrayOver (Jvm.ClassFile.FieldType.object "LarderPatrol$Larder")) ∈ lw_tbl := tm1 193 (by decide +kernel)
theorem wk_1_81 : (Jvm.Cond.arrayClass Jvm.ClassFile.FieldType.int) ∈ lw_tbl := tm1 81 (by decide +kernel)
theorem wk_2_11 : (Jvm.Cond.arrayClass Jvm.ClassFile.FieldType.char) ∈ lw_tbl := tm2 11 (by decide +kernel)
theorem wk_8_172 : (Jvm.Cond.arrayClass Jvm.ClassFile.FieldType.long) ∈ lw_tbl := tm8 172 (by decide +kernel)
theorem wk_8_173 : (Jvm.Cond.arrayClass Jvm.ClassFile.FieldType.double) ∈ lw_tbl := tm8 173 (by decide +kernel)
theorem wk_1_32 : (Jvm.Cond.classLink "LarderPatrolLaw" (8 : Nat) "LarderPatrol") ∈ lw_tbl := tm1 32 (by decide +kernel)
theorem wk_1_35 : (Jvm.Cond.instanceMethod ({ cls := "LarderPatrol", name := "<init>", desc := "()V" } : Jvm.MethodName)) ∈ lw_tbl := tm1 35 (by decide +kernel)
theorem wk_6_128 : (Jvm.Cond.classLink "LarderPatrolLaw" (145 : Nat) "LarderPatrolModel") ∈ lw_tbl := tm6 128 (by decide +kernel)
theorem wk_6_131 : (Jvm.Cond.instanceMethod ({ cls := "LarderPatrolModel", name := "<init>", desc := "()V" } : Jvm.MethodName)) ∈ lw_tbl := tm6 131 (by decide +kernel)
theorem st_inJ0 : ∀ w ∈ u_ws RJ0 TJ0 2, w ∈ lw_tbl := by decide +kernel
theorem st_inJx : ∀ w ∈ u_ws RJx00060 TJx00060 6, w ∈ lw_tbl := by decide +kernel
section
variable {b : Nat} {s : State}
theorem st_K0 (hts : HTS b s) (k : Nat) : ∃ p : ClassId × (Nat → Nat), ∀ q, vwCl[k]? = some q → u_Kn s q.1 q.2.1 q.2.2 p.1 p.2 :=
  match k with
  | 0 => by
    obtain ⟨c, i, h⟩ := u_known (C := RJ0) (T := TJ0) (N := 2) (n := 4) hts st_inJ0 (hts _ wk_4_71)
    exact ⟨(c, i), fun q hq => by cases hq; exact h⟩
  | 1 => by
    obtain ⟨c, i, h⟩ := u_known (C := RJx00060) (T := TJx00060) (N := 6) (n := 6) hts st_inJx (hts _ wk_4_56)
    exact ⟨(c, i), fun q hq => by cases hq; exact h⟩
  | 2 => by
    obtain ⟨c, i, h⟩ := u_known (C := RX1) (T := TX1) (N := 1) (n := 1) hts inX1 (hts _ wk_1_207)
    exact ⟨(c, i), fun q hq => by cases hq; exact h⟩
  | 3 => by
    obtain ⟨c, i, h⟩ := u_known (C := RX2) (T := TX2) (N := 3) (n := 3) hts inX2 (hts _ wk_1_187)
    exact ⟨(c, i), fun q hq => by cases hq; exact h⟩
  | 4 => by
    obtain ⟨c, i, h⟩ := u_known (C := RX3) (T := TX3) (N := 11) (n := 11) hts inX3 (hts _ wk_1_41)
    exact ⟨(c, i), fun q hq => by cases hq; exact h⟩
  | 5 => by
    obtain ⟨c, i, h⟩ := u_known (C := RX4) (T := TX4) (N := 2) (n := 2) hts inX4 (hts _ wk_2_13)
    exact ⟨(c, i), fun q hq => by cases hq; exact h⟩
  | 6 => by
    obtain ⟨c, i, h⟩ := u_known (C := RX5) (T := TX5) (N := 4) (n := 4) hts inX5 (hts _ wk_1_113)
    exact ⟨(c, i), fun q hq => by cases hq; exact h⟩
  | 7 => by
    obtain ⟨c, i, h⟩ := u_known (C := RX6) (T := TX6) (N := 4) (n := 4) hts inX6 (hts _ wk_1_83)
    exact ⟨(c, i), fun q hq => by cases hq; exact h⟩
  | 8 => by
    obtain ⟨c, i, h⟩ := u_known (C := RX8) (T := TX8) (N := 7) (n := 7) hts inX8 (hts _ wk_1_217)
    exact ⟨(c, i), fun q hq => by cases hq; exact h⟩
  | 9 => by
    obtain ⟨c, i, h⟩ := u_known (C := RX9) (T := TX9) (N := 5) (n := 5) hts inX9 (hts _ wk_1_47)
    exact ⟨(c, i), fun q hq => by cases hq; exact h⟩
  | 10 => by
    obtain ⟨c, i, h⟩ := u_known (C := RX11) (T := TX11) (N := 12) (n := 12) hts inX11 (hts _ wk_1_33)
    exact ⟨(c, i), fun q hq => by cases hq; exact h⟩
  | 11 => by
    obtain ⟨c, i, h⟩ := u_known (C := RX12) (T := TX12) (N := 24) (n := 24) hts inX12 (hts _ wk_6_129)
    exact ⟨(c, i), fun q hq => by cases hq; exact h⟩
  | k + 12 => ⟨(0, fun _ => 0), fun q hq => by simp [vwCl] at hq⟩
theorem st_K (hts : HTS b s) : ∃ D : va_G, ∀ (k : Nat) (q : vw_C), vwCl[k]? = some q → u_Kn s q.1 q.2.1 q.2.2 (D.1 k) (D.2 k) := by
  obtain ⟨f, hf⟩ := Classical.axiomOfChoice (st_K0 hts)
  exact ⟨(fun k => (f k).1, fun k => (f k).2), hf⟩
theorem st_G (hts : HTS b s) (hn : NWH b s) : ∃ G : GG, WS G s ∧ (∀ k, gad G k = gb G + k) ∧ gb G = s.heap.size := by
  obtain ⟨D, hD⟩ := st_K hts
  obtain ⟨v, r, k, w, z, hSH⟩ := st_SH hts hn
  obtain ⟨c0, a0, f0⟩ := st_A hts wk_1_81
  obtain ⟨c1, a1, f1⟩ := st_A hts wk_2_11
  obtain ⟨c2, a2, f2⟩ := st_O hts wk_1_193
  obtain ⟨c3, a3, f3⟩ := st_A hts wk_8_172
  obtain ⟨c4, a4, f4⟩ := st_A hts wk_8_173
  refine ⟨(fun k => s.heap.size + k, D, fun i => [c0, c1, c2, c3, c4].getD i 0, v, r, k, w, z, s.heap.size), ⟨⟨hD, fun k q hq => ?_⟩, fun w hw hg => gnw_same hg rfl (hts w hw), ⟨fun i j _ _ e => ?_, fun i _ => Nat.le_add_right _ _⟩, Nat.le_refl _, hSH _ _ _, st_msg hts hn, fun q hq => va_Nc.of (flat_of_before _ hn _ (st_nc q hq))⟩, fun k => rfl, rfl⟩
  · match k, hq with
    | 0, hq => cases hq; exact ⟨a0, f0⟩
    | 1, hq => cases hq; exact ⟨a1, f1⟩
    | 2, hq => cases hq; exact ⟨a2, f2⟩
    | 3, hq => cases hq; exact ⟨a3, f3⟩
    | 4, hq => cases hq; exact ⟨a4, f4⟩
    | k + 5, hq => simp [tysG] at hq
  · have e : s.heap.size + i = s.heap.size + j := e
    omega
theorem M0_129 : M0 129 = fun _ => 0 := M0_z (c := 31) (by rfl) (by decide)
theorem M0_130 : M0 130 = fun _ => 0 := M0_z (c := 32) (by rfl) (by decide)
theorem VP_toV {G : GG} {κ : KK} {nL cells slots pc : Nat} {L : List (Nat × Value)} {st : List Value} {E : Nat → va_E} (hg : ∀ k, gad G k = gb G + k) (he : ∀ j, j < 131 → E j = ceR G (M0 j) j) (k : V G κ nL cells slots M0 pc L st) : VP G κ nL cells slots (EP G E 131) pc L st := by
  obtain ⟨p, l, e, R, s, m, args, below, meth, c, Q⟩ := κ
  intro H locs ls hl hP hS
  refine k H locs ls hl (fun j q hq => ?_) hS
  have hj : j < 131 := by
    have := (List.getElem?_eq_some_iff.mp hq).1
    simpa [wld, NC] using this
  have hq2 : q = (gb G + j, E j) := by
    have h2 : (wld G M0)[j]? = some (gad G j, ceR G (M0 j) j) := by simp [wld, NC, hj]
    rw [h2] at hq
    rw [← Option.some.inj hq, hg, he j hj]
  subst hq2
  exact hP.1 j _ (wlE_at hj)
theorem whole_of {p : Program} {e : Env} {s : State} {m : MethodId} {below : List Frame} {meth : Method} {c : Code} (l : Launch) (hflags : l.flags = flags0) {b L : Nat} {xs : Nat → Int32} (C0 : lw_At p s m meth c b L xs) {F n : Nat} (hn600 : n ≤ 600) (hm : fL_law_loop F L xs n 0 M0 = some true) : W p l e room_1 s m #[Value.ref b] below meth c s.heap [] 0 0 (lw_Z below #[Value.ref b] s) (entryFrame m ([Value.ref b] : List Value).toArray 9) := by
  obtain ⟨hx, hb, hr, hml, hown, hts, hX, hbl, hlocks, hgv⟩ := id C0
  obtain ⟨G, hWS, hg, hgb⟩ := st_G hts hgv
  have hl := lv_entry ([.ref b]) (n := 9) (Nat.le_of_ble_eq_true rfl)
  rw [lg_entry_eq]
  generalize (lg_sl ([.ref b]) ++ List.replicate (9 - (lg_sl ([.ref b])).length) Slot.unset).toArray = ls at hl ⊢
  have hl : lv_has ls 9 [(0, .ref b)] := hl
  have C : Cx G (p, l, e, room_1, s, m, #[Value.ref b], below, meth, c, lw_Z below #[Value.ref b] s) cL_law "LarderPatrolLaw" ret 9 room_1 := ⟨hx, hb, hr, hml, hown, hlocks, rfl, hWS⟩
  have CA : CxA (p, l, e, room_1, s, m, #[Value.ref b], below, meth, c, lw_Z below #[Value.ref b] s) := ⟨hts _ wk_1_81, hts _ wk_2_11, va_AO.of (hts _ wk_1_193)⟩
  have S : CxS G (p, l, e, room_1, s, m, #[Value.ref b], below, meth, c, lw_Z below #[Value.ref b] s) b L xs := ⟨hX, hbl, fun h => by have h2 : gb G ≤ b := h; omega⟩
  have T : l.stackTraces = false := by
    unfold Launch.stackTraces; rw [hflags]; decide
  have hE0 : EP G (fun _ => .inr (0, [])) 0 s.heap := ⟨fun k q h => by simp [wlE] at h, by rw [hgb]; rfl⟩
  suffices K : VP G (p, l, e, room_1, s, m, #[Value.ref b], below, meth, c, lw_Z below #[Value.ref b] s) 9 0 0 (EP G (fun _ => .inr (0, [])) 0) 0 [(0, .ref b)] [] from K s.heap [] ls hl hE0 va_S.rf
  refine VP_new (fs := [.null, .null, .null, .int 0, .null, .null, .null, .null, .int 0, .int 0, .int 0, .int 0]) 0 C dL_law_0 (ci := 10) rfl inX11 tyX11 tyX11_ok wk_1_32 wk_1_33 wk_1_1 (fun j hj => by rcases (show j = 0 ∨ j = 1 ∨ j = 2 ∨ j = 3 ∨ j = 4 ∨ j = 5 ∨ j = 6 ∨ j = 7 ∨ j = 8 ∨ j = 9 ∨ j = 10 ∨ j = 11 by omega) with rfl | rfl | rfl | rfl | rfl | rfl | rfl | rfl | rfl | rfl | rfl | rfl <;> rfl) (Nat.le_of_ble_eq_true rfl) (Nat.le_of_ble_eq_true rfl) ?_
  obtain ⟨E1, hE1⟩ : ∃ z : Nat → va_E, z = eup (fun _ => .inr (0, [])) 0 (.inr (10, [.null, .null, .null, .int 0, .null, .null, .null, .null, .int 0, .int 0, .int 0, .int 0])) := ⟨_, rfl⟩
  refine VP_eqE hE1 ?_
  refine VP_dup 3 C dL_law_3 rfl ?_
  have g1 : E1 0 = .inr (10, [.null, .null, .null, .int 0, .null, .null, .null, .null, .int 0, .int 0, .int 0, .int 0]) := by rw [hE1, eup_same]
  refine VP_call (k := 0) (mc := 118) (ms := 1191) 4 C CA (kX11_init hg (by rfl) g1) rfl wk_1_36 wk_1_1 wk_1_35 (by decide +kernel) wk_1_34 rfl dL_law_4 rfl (Nat.le_of_ble_eq_true rfl) (Nat.le_of_ble_eq_true rfl) ?_
  obtain ⟨E2, hE2⟩ : ∃ z : Nat → va_E, z = inE G E1 0 119 := ⟨_, rfl⟩
  refine VP_eqE hE2 ?_
  refine VP_astore_n 7 C [(1, .ref (gb G + 0)), (0, .ref b)] dL_law_7 rfl rfl rfl ?_
  refine VP_new (fs := [.int 0, .int 0, .int 0, .int 0, .int 0, .int 0, .null, .null, .null, .null, .null, .int 0, .int 0, .int 0, .null, .null, .int 0, .null, .int 0, .int 0, .int 0, .null, .int 0, .int 0]) 8 C dL_law_8 (ci := 11) rfl inX12 tyX12 tyX12_ok wk_6_128 wk_6_129 wk_1_12 (fun j hj => by rcases (show j = 0 ∨ j = 1 ∨ j = 2 ∨ j = 3 ∨ j = 4 ∨ j = 5 ∨ j = 6 ∨ j = 7 ∨ j = 8 ∨ j = 9 ∨ j = 10 ∨ j = 11 ∨ j = 12 ∨ j = 13 ∨ j = 14 ∨ j = 15 ∨ j = 16 ∨ j = 17 ∨ j = 18 ∨ j = 19 ∨ j = 20 ∨ j = 21 ∨ j = 22 ∨ j = 23 by omega) with rfl | rfl | rfl | rfl | rfl | rfl | rfl | rfl | rfl | rfl | rfl | rfl | rfl | rfl | rfl | rfl | rfl | rfl | rfl | rfl | rfl | rfl | rfl | rfl <;> rfl) (Nat.le_of_ble_eq_true rfl) (Nat.le_of_ble_eq_true rfl) ?_
  obtain ⟨E3, hE3⟩ : ∃ z : Nat → va_E, z = eup E2 119 (.inr (11, [.int 0, .int 0, .int 0, .int 0, .int 0, .int 0, .null, .null, .null, .null, .null, .int 0, .int 0, .int 0, .null, .null, .int 0, .null, .int 0, .int 0, .int 0, .null, .int 0, .int 0])) := ⟨_, rfl⟩
  refine VP_eqE hE3 ?_
  refine VP_dup 11 C dL_law_11 rfl ?_
  have g3 : E3 119 = .inr (11, [.int 0, .int 0, .int 0, .int 0, .int 0, .int 0, .null, .null, .null, .null, .null, .int 0, .int 0, .int 0, .null, .null, .int 0, .null, .int 0, .int 0, .int 0, .null, .int 0, .int 0]) := by rw [hE3, eup_same]
  refine VP_call (k := 119) (mc := 9) (ms := 2746) 12 C CA (kX12_init hg (by rfl) g3) rfl wk_6_132 wk_1_12 wk_6_131 (by decide +kernel) wk_6_130 rfl dL_law_12 rfl (Nat.le_of_ble_eq_true rfl) (Nat.le_of_ble_eq_true rfl) ?_
  obtain ⟨E4, hE4⟩ : ∃ z : Nat → va_E, z = inE G E3 119 10 := ⟨_, rfl⟩
  refine VP_eqE hE4 ?_
  refine VP_astore_n 15 C [(2, .ref (gb G + 119)), (1, .ref (gb G + 0)), (0, .ref b)] dL_law_15 rfl rfl rfl ?_
  refine VP_iconst (v := 1) 16 C dL_law_16 rfl ?_
  refine VP_newarr (t0 := 3) (n := 1) 17 C dL_law_17 rfl rfl (hts _ wk_8_172) (1, .inr (.inl (fun _ => 0))) (fun cA => vp_cell_l cA 1 _) (by decide) (by decide) rfl (Nat.le_of_ble_eq_true rfl) (Nat.le_of_ble_eq_true rfl) ?_
  obtain ⟨E5, hE5⟩ : ∃ z : Nat → va_E, z = eup E4 129 (.inl (gcl G 3, 1, .inr (.inl (fun _ => 0)))) := ⟨_, rfl⟩
  refine VP_eqE hE5 ?_
  refine VP_astore_n 19 C [(3, .ref (gb G + 129)), (2, .ref (gb G + 119)), (1, .ref (gb G + 0)), (0, .ref b)] dL_law_19 rfl rfl rfl ?_
  refine VP_iconst (v := 1) 20 C dL_law_20 rfl ?_
  refine VP_newarr (t0 := 4) (n := 1) 21 C dL_law_21 rfl rfl (hts _ wk_8_173) (1, .inr (.inr (.inr (.inl (fun _ => 0))))) (fun cA => vp_cell_d cA 1 _) (by decide) (by decide) rfl (Nat.le_of_ble_eq_true rfl) (Nat.le_of_ble_eq_true rfl) ?_
  obtain ⟨E6, hE6⟩ : ∃ z : Nat → va_E, z = eup E5 130 (.inl (gcl G 4, 1, .inr (.inr (.inr (.inl (fun _ => 0)))))) := ⟨_, rfl⟩
  refine VP_eqE hE6 ?_
  refine VP_astore 23 C [(4, .ref (gb G + 130)), (3, .ref (gb G + 129)), (2, .ref (gb G + 119)), (1, .ref (gb G + 0)), (0, .ref b)] dL_law_23 rfl rfl ?_
  refine VP_toV hg (fun j hj => ?_) ?_
  · by_cases h1 : j = 130
    · subst h1
      rw [hE6, eup_same]
      have hmk : mk64 0 0 = 0 := by decide
      have hl30 : lay 130 = 32 := rfl
      unfold ceR
      simp only [M0_130, hl30, hmk]
    · rw [hE6, eup_ne h1]
      by_cases h2 : j = 129
      · subst h2
        rw [hE5, eup_same]
        unfold ceR
        rw [M0_129]
        rfl
      · rw [hE5, eup_ne h2, hE4]
        by_cases h3 : 119 ≤ j
        · rw [inE_in h3 (by omega)]
        · rw [inE_ne (by omega), hE3, eup_ne (by omega), hE2, inE_in (by omega) (by omega)]
  · have hl0 : Value.ref (gb G + 0) = .ref (gad G 0) := by rw [hg]
    rw [← hg 0, ← hg 119, ← hg 129, ← hg 130]
    refine V_iconst (v := 0) 25 C dL_law_25 rfl ?_
    refine V_istore 26 C [(5, .int 0), (4, .ref (gad G 130)), (3, .ref (gad G 129)), (2, .ref (gad G 119)), (1, .ref (gad G 0)), (0, .ref b)] dL_law_26 rfl rfl ?_
    refine V_sub (L1 := [(0, .ref b), (1, .ref (gad G 0)), (2, .ref (gad G 119)), (3, .ref (gad G 129)), (4, .ref (gad G 130)), (5, .int 0)]) [5, 4, 3, 2, 1, 0] rfl ?_
    refine vL_law_loop C S T (fun c9 s9 M h1 h2 v5 H locs ls hl hP hS => ?_) n _ _ (by omega) (by omega) 0 M0 hm
    refine va_forget (fun q hq => by have h3 : gb G ≤ q.base := hS.2.2 q hq; omega) ?_
    refine W.widen (k := 603072) (n := 7182442) h1 h2 ?_
    refine W.base ?_
    exact lw_ret (Drawn.sameBut.refl s.drawn lw_cs) hx hb hr hlocks dL_law_2603
end
