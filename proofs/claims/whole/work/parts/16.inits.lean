def M0 : Mem := fun k i => if k = 120 then (if i = 5 then 4 else 0) else if lay k = 1 then (if i = 3 then 4 else 0) else if lay k = 0 then (if i = 8 ∨ i = 9 ∨ i = 11 then -1 else 0) else if lay k = 9 then (if i = 20 then -1 else 0) else 0
theorem M0_z {k c : Nat} (h : lay k = c) (hc : (c != 0 && c != 1 && c != 9 && c != 26) = true) : M0 k = fun _ => 0 := by
  funext i
  simp only [Bool.and_eq_true, bne_iff_ne] at hc
  unfold M0
  have h2 : k ≠ 120 := fun q => by subst q; exact hc.2 (h.symm.trans (by rfl))
  rw [if_neg h2, if_neg (by omega), if_neg (by omega), if_neg (by omega)]
theorem M0_26 {k : Nat} (h : lay k = 26) (hc : k ≠ 120) : M0 k = fun _ => 0 := by
  funext i
  unfold M0
  rw [if_neg hc, if_neg (by omega), if_neg (by omega), if_neg (by omega)]
theorem wk_1_38 : (Jvm.Cond.instanceMethod ({ cls := "java/lang/Object", name := "<init>", desc := "()V" } : Jvm.MethodName)) ∈ lw_tbl := tm1 38 (by decide +kernel)
theorem wk_1_39 : (Jvm.Cond.code ({ cls := "java/lang/Object", name := "<init>", desc := "()V" } : Jvm.MethodName) object_method_1_code (1 : Nat) (Option.none : Option Jvm.ClassFile.FieldType)) ∈ lw_tbl := tm1 39 (by decide +kernel)
theorem wk_1_46 : (Jvm.Cond.classLink "LarderPatrol$Larder" (9 : Nat) "LarderPatrol$Shelves") ∈ lw_tbl := tm1 46 (by decide +kernel)
theorem wk_1_47 : (Jvm.Cond.instantiable "LarderPatrol$Shelves" (5 : Nat)) ∈ lw_tbl := tm1 47 (by decide +kernel)
theorem wk_1_49 : (Jvm.Cond.instanceMethod ({ cls := "LarderPatrol$Shelves", name := "<init>", desc := "()V" } : Jvm.MethodName)) ∈ lw_tbl := tm1 49 (by decide +kernel)
theorem wk_1_82 : (Jvm.Cond.classLink "LarderPatrol$Larder" (18 : Nat) "LarderPatrol$Patrol") ∈ lw_tbl := tm1 82 (by decide +kernel)
theorem wk_1_83 : (Jvm.Cond.instantiable "LarderPatrol$Patrol" (4 : Nat)) ∈ lw_tbl := tm1 83 (by decide +kernel)
theorem wk_1_85 : (Jvm.Cond.instanceMethod ({ cls := "LarderPatrol$Patrol", name := "<init>", desc := "()V" } : Jvm.MethodName)) ∈ lw_tbl := tm1 85 (by decide +kernel)
theorem wk_1_112 : (Jvm.Cond.classLink "LarderPatrol$Larder" (25 : Nat) "LarderPatrol$Mice") ∈ lw_tbl := tm1 112 (by decide +kernel)
theorem wk_1_113 : (Jvm.Cond.instantiable "LarderPatrol$Mice" (4 : Nat)) ∈ lw_tbl := tm1 113 (by decide +kernel)
theorem wk_1_115 : (Jvm.Cond.instanceMethod ({ cls := "LarderPatrol$Mice", name := "<init>", desc := "()V" } : Jvm.MethodName)) ∈ lw_tbl := tm1 115 (by decide +kernel)
theorem wk_1_192 : (Jvm.Cond.classLink "LarderPatrol$History" (9 : Nat) "LarderPatrol$Larder") ∈ lw_tbl := tm1 192 (by decide +kernel)
theorem wk_1_41 : (Jvm.Cond.instantiable "LarderPatrol$Larder" (11 : Nat)) ∈ lw_tbl := tm1 41 (by decide +kernel)
theorem wk_1_43 : (Jvm.Cond.instanceMethod ({ cls := "LarderPatrol$Larder", name := "<init>", desc := "()V" } : Jvm.MethodName)) ∈ lw_tbl := tm1 43 (by decide +kernel)
theorem wk_1_40 : (Jvm.Cond.classLink "LarderPatrol" (7 : Nat) "LarderPatrol$Larder") ∈ lw_tbl := tm1 40 (by decide +kernel)
theorem wk_1_186 : (Jvm.Cond.classLink "LarderPatrol" (22 : Nat) "LarderPatrol$History") ∈ lw_tbl := tm1 186 (by decide +kernel)
theorem wk_1_187 : (Jvm.Cond.instantiable "LarderPatrol$History" (3 : Nat)) ∈ lw_tbl := tm1 187 (by decide +kernel)
theorem wk_1_189 : (Jvm.Cond.instanceMethod ({ cls := "LarderPatrol$History", name := "<init>", desc := "()V" } : Jvm.MethodName)) ∈ lw_tbl := tm1 189 (by decide +kernel)
theorem wk_1_206 : (Jvm.Cond.classLink "LarderPatrol" (29 : Nat) "LarderPatrol$DistanceTable") ∈ lw_tbl := tm1 206 (by decide +kernel)
theorem wk_1_207 : (Jvm.Cond.instantiable "LarderPatrol$DistanceTable" (1 : Nat)) ∈ lw_tbl := tm1 207 (by decide +kernel)
theorem wk_1_209 : (Jvm.Cond.instanceMethod ({ cls := "LarderPatrol$DistanceTable", name := "<init>", desc := "()V" } : Jvm.MethodName)) ∈ lw_tbl := tm1 209 (by decide +kernel)
theorem wk_1_216 : (Jvm.Cond.classLink "LarderPatrol" (36 : Nat) "LarderPatrol$Script") ∈ lw_tbl := tm1 216 (by decide +kernel)
theorem wk_1_217 : (Jvm.Cond.instantiable "LarderPatrol$Script" (7 : Nat)) ∈ lw_tbl := tm1 217 (by decide +kernel)
theorem wk_1_219 : (Jvm.Cond.instanceMethod ({ cls := "LarderPatrol$Script", name := "<init>", desc := "()V" } : Jvm.MethodName)) ∈ lw_tbl := tm1 219 (by decide +kernel)
theorem wk_2_12 : (Jvm.Cond.classLink "LarderPatrol" (43 : Nat) "LarderPatrol$Line") ∈ lw_tbl := tm2 12 (by decide +kernel)
theorem wk_2_13 : (Jvm.Cond.instantiable "LarderPatrol$Line" (2 : Nat)) ∈ lw_tbl := tm2 13 (by decide +kernel)
theorem wk_2_15 : (Jvm.Cond.instanceMethod ({ cls := "LarderPatrol$Line", name := "<init>", desc := "()V" } : Jvm.MethodName)) ∈ lw_tbl := tm2 15 (by decide +kernel)
def inE (G : GG) (E : Nat → va_E) (k n : Nat) : Nat → va_E := fun j => if k ≤ j ∧ j < k + n then ceR G (M0 j) j else E j
theorem inE_ne {G : GG} {E : Nat → va_E} {k n j : Nat} (h : j < k ∨ k + n ≤ j) : inE G E k n j = E j := by unfold inE; rw [if_neg (by omega)]
theorem inE_in {G : GG} {E : Nat → va_E} {k n j : Nat} (h : k ≤ j) (h2 : j < k + n) : inE G E k n j = ceR G (M0 j) j := by unfold inE; rw [if_pos ⟨h, h2⟩]
theorem ceI_z {G : GG} {k n : Nat} (h1 : ak k = 1) (h2 : alen k = n) (h3 : M0 k = fun _ => 0) : ceR G (M0 k) k = .inl (gcl G 0, n, .inl (fun _ => 0)) := by rw [ceR_I h1, h2, h3]
theorem ceC_z {G : GG} {k n : Nat} (h1 : ak k = 2) (h2 : alen k = n) (h3 : M0 k = fun _ => 0) : ceR G (M0 k) k = .inl (gcl G 1, n, .inl (fun _ => 0)) := by rw [ceR_C h1, h2, h3]
theorem ceI_w {G : GG} : ceR G (M0 120) 120 = .inl (gcl G 0, 216, .inl (upd (fun _ => 0) 5 4)) := by
  rw [ceR_I (by rfl)]
  have h : M0 120 = upd (fun _ => 0) 5 4 := by funext i; unfold M0 upd; rw [if_pos rfl]
  rw [h]; rfl
section
variable {G : GG} {κ : KK} {cc : ByteArray} {own : String} {ret : Option FieldType} {nL cells slots : Nat} {rm : Room} {L : List (Nat × Value)} {st rest : List Value}
theorem VP_gsv (pc : Nat) {Pr : Heap → Prop} (C : Cx G κ cc own ret nL rm) {idx : Nat} (d : decode cc pc = .ok (.getstatic idx, 3)) (i : Nat) {nm : String} (hi : vN[i]? = some nm) (hw : Cond.fieldLink own idx "LarderPatrol$Verb" nm "LLarderPatrol$Verb;" ∈ lw_tbl) (k : VP G κ nL cells slots Pr (pc + 3) L (.ref (gv G i) :: st)) : VP G κ nL cells slots Pr pc L st := by
  obtain ⟨p, l, e, R, s, m, args, below, meth, c, Q⟩ := κ
  intro H locs ls hl hP hS
  have hlen : i < vN.length := (List.getElem?_eq_some_iff.mp hi).1
  have hn : vN.getD i "" = nm := by rw [List.getD_eq_getElem?_getD, hi]; rfl
  have hZ := ((cxS C).1.1 i hlen).1
  rw [hn] at hZ
  exact va_gets C.1 C.2.1 hZ hS C.2.2.2.2.1 (wd C hw rfl) (fun _ h => h) d (k H locs ls hl hP hS)
theorem VP_get (pc : Nat) (C : Cx G κ cc own ret nL rm) {ref Cn : String} {T : u_T} {N ci index k N9 : Nat} {E : Nat → va_E} {fs : List Value} {v : Value} (d : decode cc pc = .ok (.getfield index, 3)) (hk : k < N9) (hce : E k = .inr (ci, fs)) (hcl : vwCl[ci]? = some (Cn, T, N)) (hin : ∀ w ∈ u_ws Cn T N, w ∈ lw_tbl) (j : Nat) (hj : Nat.blt j N = true) (hw : Cond.fieldLink own index ref (T j).2.1 (T j).2.2.1 ∈ lw_tbl) (hsame : (T j).1 = ref) (hv : fs[j]? = some v) (kk : VP G κ nL cells slots (EP G E N9) (pc + 3) L (v :: st)) : VP G κ nL cells slots (EP G E N9) pc L (.ref (gb G + k) :: st) := by
  obtain ⟨p, l, e, R, s, m, args, below, meth, c, Q⟩ := κ
  intro H locs ls hl hP hS
  exact va_get (C := Cn) (T := T) (N := N) (Ts := u_ws Cn T N) C.1 C.2.1 (fun w h => wd C (hin w h) (u_ws_good w h)) (fun _ h => h) C.2.2.2.2.1 C.2.2.2.2.2.2.2.1 hP.1 k (by rw [wlE_at hk, hce]) hcl j (Nat.le_of_ble_eq_true hj) (wd C hw rfl) (fun x h => by rw [← hsame]; exact h) hv d (kk H locs ls hl hP hS)
theorem VP_iast (pc : Nat) (C : Cx G κ cc own ret nL rm) {k N9 n : Nat} {E : Nat → va_E} {f : Nat → Int32} {i x : Int32} (d : decode cc pc = .ok (.iastore, 1)) (hk : k < N9) (hce : E k = .inl (gcl G 0, n, .inl f)) (hi : inb i n = true) (kk : VP G κ nL cells slots (EP G (eup E k (.inl (gcl G 0, n, .inl (upd f i.toNatClampNeg x)))) N9) (pc + 1) L st) : VP G κ nL cells slots (EP G E N9) pc L (.int x :: .int i :: .ref (gb G + k) :: st) := by
  obtain ⟨p, l, e, R, s, m, args, below, meth, c, Q⟩ := κ
  intro H locs ls hl hP hS
  obtain ⟨hx, hb, -, hml, hown, -, hRm, hWS⟩ := id C
  have hat : (wlE G E N9)[k]? = some (gb G + k, .inl (gcl G 0, n, .inl f)) := by rw [wlE_at hk, hce]
  have hin := inb_in hi
  refine W.iast hx hb (hP.1 k _ hat) ((hWS.1.2 0 _ rfl).1 n (fun j => .int (f j))) (fun q => by cases q) (by show ¬ (i < 0 ∨ (arrV _ _ _).slots.size ≤ _); rw [arrV_size]; exact hin) rfl rfl d fun H1 e1 z oq => ?_
  have hP1 : va_P (gD G) vwCl ((wlE G E N9).set k (gb G + k, .inl (gcl G 0, n, .inl (upd f i.toNatClampNeg x)))) H1 := by
    refine hP.1.set (wlE_D E N9) hat ?_ oq
    show H1[gb G + k]? = some (vp_cell _ _)
    rw [e1]
    rw [vp_cell_i, vp_cell_i, arrV_store]
    congr 2
    funext q
    by_cases hq : q = i.toNatClampNeg
    · subst hq
      simp [updV, upd]
    · simp [updV, upd, hq]
  rw [wlE_set] at hP1
  exact kk H1 _ ls hl ⟨hP1, z.trans hP.2⟩ (hS.put z oq (Nat.le_add_right _ _))
end
def rmIX9 : Room := { frames := 1, cells := 2, slots := 24, locals := 12 }
set_option maxHeartbeats 4000000 in
theorem kX9_init {G : GG} {l : Launch} (hg : ∀ k, gad G k = gb G + k) {k : Nat} (hb : lay k = 2) {E : Nat → va_E} (hk0 : E k = .inr (9, [.null, .null, .int 0, .int 0, .int 0])) : ConE G l yX9_init cX9_init 1 rmIX9 k E (inE G E k 3) (k + 1) (k + 3) 2 24 := by
  refine conE_of pnX9 rfl (by decide) (fun κ C CI CA hQ => ?_)
  refine VP_aload_n 0 C 0 dX9_init_0 rfl ?_
  refine VP_obj 1 C dX9_init_1 wk_1_51 wk_1_38 wk_1_39 rfl ?_
  refine VP_aload_n 4 C 0 dX9_init_4 rfl ?_
  refine VP_bipush 5 C dX9_init_5 bp12 ?_
  refine VP_newI 7 C CA dX9_init_7 (n := 12) (by decide) (by decide) rfl (Nat.le_of_ble_eq_true rfl) (Nat.le_of_ble_eq_true rfl) ?_
  obtain ⟨E1, hE1⟩ : ∃ z : Nat → va_E, z = eup E (k + 1) (.inl (gcl G 0, 12, .inl (fun _ => 0))) := ⟨_, rfl⟩
  refine VP_eqE hE1 ?_
  have f1 : E1 k = .inr (9, [.null, .null, .int 0, .int 0, .int 0]) := by rw [hE1, eup_ne (by omega)]; exact hk0
  refine VP_put (ty := .array .int) 9 C CI dX9_init_9 (by omega) f1 rfl inX9 tyX9 tyX9_ok nmX9 0 rfl wk_1_52 rfl rfl rfl rfl rfl rfl ?_
  obtain ⟨E2, hE2⟩ : ∃ z : Nat → va_E, z = eup E1 k (.inr (9, [.ref (gb G + (k + 1)), .null, .int 0, .int 0, .int 0])) := ⟨_, rfl⟩
  refine VP_eqE hE2 ?_
  have f2 : E2 k = .inr (9, [.ref (gb G + (k + 1)), .null, .int 0, .int 0, .int 0]) := by rw [hE2, eup_same]
  refine VP_aload_n 12 C 0 dX9_init_12 rfl ?_
  refine VP_bipush 13 C dX9_init_13 bp12 ?_
  refine VP_newI 15 C CA dX9_init_15 (n := 12) (by decide) (by decide) rfl (Nat.le_of_ble_eq_true rfl) (Nat.le_of_ble_eq_true rfl) ?_
  obtain ⟨E3, hE3⟩ : ∃ z : Nat → va_E, z = eup E2 (k + 2) (.inl (gcl G 0, 12, .inl (fun _ => 0))) := ⟨_, rfl⟩
  refine VP_eqE hE3 ?_
  have f3 : E3 k = .inr (9, [.ref (gb G + (k + 1)), .null, .int 0, .int 0, .int 0]) := by rw [hE3, eup_ne (by omega)]; exact f2
  refine VP_put (ty := .array .int) 17 C CI dX9_init_17 (by omega) f3 rfl inX9 tyX9 tyX9_ok nmX9 1 rfl wk_1_56 rfl rfl rfl rfl rfl rfl ?_
  obtain ⟨E4, hE4⟩ : ∃ z : Nat → va_E, z = eup E3 k (.inr (9, [.ref (gb G + (k + 1)), .ref (gb G + (k + 2)), .int 0, .int 0, .int 0])) := ⟨_, rfl⟩
  refine VP_eqE hE4 ?_
  have f4 : E4 k = .inr (9, [.ref (gb G + (k + 1)), .ref (gb G + (k + 2)), .int 0, .int 0, .int 0]) := by rw [hE4, eup_same]
  refine VP_ret 20 C hQ rfl (fun j hj => ?_) (Nat.le_of_ble_eq_true rfl) (Nat.le_of_ble_eq_true rfl) dX9_init_20
  rcases (show j < k ∨ j = k ∨ j = (k + 1) ∨ j = (k + 2) by omega) with h | rfl | rfl | rfl
  · rw [inE_ne (by omega)]
    simp only [hE1, hE2, hE3, hE4]
    unfold eup
    rw [if_neg (by omega)]
    rw [if_neg (by omega)]
    rw [if_neg (by omega)]
    rw [if_neg (by omega)]
  · rw [inE_in (by omega) (by omega), f4, ceR_X9 hb]
    simp [F_X9, hg, M0_z hb (by decide)]
  · rw [inE_in (by omega) (by omega)]
    simp only [hE1, hE2, hE3, hE4]
    rw [ceI_z (akI_20 (ly2_1 hb)) (al_20 (ly2_1 hb)) (M0_z (ly2_1 hb) (by decide))]
    simp [eup]
  · rw [inE_in (by omega) (by omega)]
    simp only [hE1, hE2, hE3, hE4]
    rw [ceI_z (akI_20 (ly2_2 hb)) (al_20 (ly2_2 hb)) (M0_z (ly2_2 hb) (by decide))]
    simp [eup]
def rmIX6 : Room := { frames := 1, cells := 1, slots := 10, locals := 12 }
set_option maxHeartbeats 4000000 in
theorem kX6_init {G : GG} {l : Launch} (hg : ∀ k, gad G k = gb G + k) {k : Nat} (hb : lay k = 3) {E : Nat → va_E} (hk0 : E k = .inr (7, [.null, .int 0, .int 0, .int 0])) : ConE G l yX6_init cX6_init 1 rmIX6 k E (inE G E k 2) (k + 1) (k + 2) 1 10 := by
  refine conE_of pnX6 rfl (by decide) (fun κ C CI CA hQ => ?_)
  refine VP_aload_n 0 C 0 dX6_init_0 rfl ?_
  refine VP_obj 1 C dX6_init_1 wk_1_87 wk_1_38 wk_1_39 rfl ?_
  refine VP_aload_n 4 C 0 dX6_init_4 rfl ?_
  refine VP_bipush 5 C dX6_init_5 bp10 ?_
  refine VP_newI 7 C CA dX6_init_7 (n := 10) (by decide) (by decide) rfl (Nat.le_of_ble_eq_true rfl) (Nat.le_of_ble_eq_true rfl) ?_
  obtain ⟨E1, hE1⟩ : ∃ z : Nat → va_E, z = eup E (k + 1) (.inl (gcl G 0, 10, .inl (fun _ => 0))) := ⟨_, rfl⟩
  refine VP_eqE hE1 ?_
  have f1 : E1 k = .inr (7, [.null, .int 0, .int 0, .int 0]) := by rw [hE1, eup_ne (by omega)]; exact hk0
  refine VP_put (ty := .array .int) 9 C CI dX6_init_9 (by omega) f1 rfl inX6 tyX6 tyX6_ok nmX6 0 rfl wk_1_88 rfl rfl rfl rfl rfl rfl ?_
  obtain ⟨E2, hE2⟩ : ∃ z : Nat → va_E, z = eup E1 k (.inr (7, [.ref (gb G + (k + 1)), .int 0, .int 0, .int 0])) := ⟨_, rfl⟩
  refine VP_eqE hE2 ?_
  have f2 : E2 k = .inr (7, [.ref (gb G + (k + 1)), .int 0, .int 0, .int 0]) := by rw [hE2, eup_same]
  refine VP_ret 12 C hQ rfl (fun j hj => ?_) (Nat.le_of_ble_eq_true rfl) (Nat.le_of_ble_eq_true rfl) dX6_init_12
  rcases (show j < k ∨ j = k ∨ j = (k + 1) by omega) with h | rfl | rfl
  · rw [inE_ne (by omega)]
    simp only [hE1, hE2]
    unfold eup
    rw [if_neg (by omega)]
    rw [if_neg (by omega)]
  · rw [inE_in (by omega) (by omega), f2, ceR_X6 hb]
    simp [F_X6, hg, M0_z hb (by decide)]
  · rw [inE_in (by omega) (by omega)]
    simp only [hE1, hE2]
    rw [ceI_z (akI_21 (ly3_1 hb)) (al_21 (ly3_1 hb)) (M0_z (ly3_1 hb) (by decide))]
    simp [eup]
def rmIX5 : Room := { frames := 1, cells := 3, slots := 24, locals := 12 }
set_option maxHeartbeats 4000000 in
theorem kX5_init {G : GG} {l : Launch} (hg : ∀ k, gad G k = gb G + k) {k : Nat} (hb : lay k = 4) {E : Nat → va_E} (hk0 : E k = .inr (6, [.null, .null, .null, .int 0])) : ConE G l yX5_init cX5_init 1 rmIX5 k E (inE G E k 4) (k + 1) (k + 4) 3 24 := by
  refine conE_of pnX5 rfl (by decide) (fun κ C CI CA hQ => ?_)
  refine VP_aload_n 0 C 0 dX5_init_0 rfl ?_
  refine VP_obj 1 C dX5_init_1 wk_1_117 wk_1_38 wk_1_39 rfl ?_
  refine VP_aload_n 4 C 0 dX5_init_4 rfl ?_
  refine VP_bipush 5 C dX5_init_5 bp8 ?_
  refine VP_newI 7 C CA dX5_init_7 (n := 8) (by decide) (by decide) rfl (Nat.le_of_ble_eq_true rfl) (Nat.le_of_ble_eq_true rfl) ?_
  obtain ⟨E1, hE1⟩ : ∃ z : Nat → va_E, z = eup E (k + 1) (.inl (gcl G 0, 8, .inl (fun _ => 0))) := ⟨_, rfl⟩
  refine VP_eqE hE1 ?_
  have f1 : E1 k = .inr (6, [.null, .null, .null, .int 0]) := by rw [hE1, eup_ne (by omega)]; exact hk0
  refine VP_put (ty := .array .int) 9 C CI dX5_init_9 (by omega) f1 rfl inX5 tyX5 tyX5_ok nmX5 0 rfl wk_1_118 rfl rfl rfl rfl rfl rfl ?_
  obtain ⟨E2, hE2⟩ : ∃ z : Nat → va_E, z = eup E1 k (.inr (6, [.ref (gb G + (k + 1)), .null, .null, .int 0])) := ⟨_, rfl⟩
  refine VP_eqE hE2 ?_
  have f2 : E2 k = .inr (6, [.ref (gb G + (k + 1)), .null, .null, .int 0]) := by rw [hE2, eup_same]
  refine VP_aload_n 12 C 0 dX5_init_12 rfl ?_
  refine VP_bipush 13 C dX5_init_13 bp8 ?_
  refine VP_newI 15 C CA dX5_init_15 (n := 8) (by decide) (by decide) rfl (Nat.le_of_ble_eq_true rfl) (Nat.le_of_ble_eq_true rfl) ?_
  obtain ⟨E3, hE3⟩ : ∃ z : Nat → va_E, z = eup E2 (k + 2) (.inl (gcl G 0, 8, .inl (fun _ => 0))) := ⟨_, rfl⟩
  refine VP_eqE hE3 ?_
  have f3 : E3 k = .inr (6, [.ref (gb G + (k + 1)), .null, .null, .int 0]) := by rw [hE3, eup_ne (by omega)]; exact f2
  refine VP_put (ty := .array .int) 17 C CI dX5_init_17 (by omega) f3 rfl inX5 tyX5 tyX5_ok nmX5 1 rfl wk_1_121 rfl rfl rfl rfl rfl rfl ?_
  obtain ⟨E4, hE4⟩ : ∃ z : Nat → va_E, z = eup E3 k (.inr (6, [.ref (gb G + (k + 1)), .ref (gb G + (k + 2)), .null, .int 0])) := ⟨_, rfl⟩
  refine VP_eqE hE4 ?_
  have f4 : E4 k = .inr (6, [.ref (gb G + (k + 1)), .ref (gb G + (k + 2)), .null, .int 0]) := by rw [hE4, eup_same]
  refine VP_aload_n 20 C 0 dX5_init_20 rfl ?_
  refine VP_bipush 21 C dX5_init_21 bp8 ?_
  refine VP_newI 23 C CA dX5_init_23 (n := 8) (by decide) (by decide) rfl (Nat.le_of_ble_eq_true rfl) (Nat.le_of_ble_eq_true rfl) ?_
  obtain ⟨E5, hE5⟩ : ∃ z : Nat → va_E, z = eup E4 (k + 3) (.inl (gcl G 0, 8, .inl (fun _ => 0))) := ⟨_, rfl⟩
  refine VP_eqE hE5 ?_
  have f5 : E5 k = .inr (6, [.ref (gb G + (k + 1)), .ref (gb G + (k + 2)), .null, .int 0]) := by rw [hE5, eup_ne (by omega)]; exact f4
  refine VP_put (ty := .array .int) 25 C CI dX5_init_25 (by omega) f5 rfl inX5 tyX5 tyX5_ok nmX5 2 rfl wk_1_124 rfl rfl rfl rfl rfl rfl ?_
  obtain ⟨E6, hE6⟩ : ∃ z : Nat → va_E, z = eup E5 k (.inr (6, [.ref (gb G + (k + 1)), .ref (gb G + (k + 2)), .ref (gb G + (k + 3)), .int 0])) := ⟨_, rfl⟩
  refine VP_eqE hE6 ?_
  have f6 : E6 k = .inr (6, [.ref (gb G + (k + 1)), .ref (gb G + (k + 2)), .ref (gb G + (k + 3)), .int 0]) := by rw [hE6, eup_same]
  refine VP_ret 28 C hQ rfl (fun j hj => ?_) (Nat.le_of_ble_eq_true rfl) (Nat.le_of_ble_eq_true rfl) dX5_init_28
  rcases (show j < k ∨ j = k ∨ j = (k + 1) ∨ j = (k + 2) ∨ j = (k + 3) by omega) with h | rfl | rfl | rfl | rfl
  · rw [inE_ne (by omega)]
    simp only [hE1, hE2, hE3, hE4, hE5, hE6]
    unfold eup
    rw [if_neg (by omega)]
    rw [if_neg (by omega)]
    rw [if_neg (by omega)]
    rw [if_neg (by omega)]
    rw [if_neg (by omega)]
    rw [if_neg (by omega)]
  · rw [inE_in (by omega) (by omega), f6, ceR_X5 hb]
    simp [F_X5, hg, M0_z hb (by decide)]
  · rw [inE_in (by omega) (by omega)]
    simp only [hE1, hE2, hE3, hE4, hE5, hE6]
    rw [ceI_z (akI_22 (ly4_1 hb)) (al_22 (ly4_1 hb)) (M0_z (ly4_1 hb) (by decide))]
    simp [eup]
  · rw [inE_in (by omega) (by omega)]
    simp only [hE1, hE2, hE3, hE4, hE5, hE6]
    rw [ceI_z (akI_22 (ly4_2 hb)) (al_22 (ly4_2 hb)) (M0_z (ly4_2 hb) (by decide))]
    simp [eup]
  · rw [inE_in (by omega) (by omega)]
    simp only [hE1, hE2, hE3, hE4, hE5, hE6]
    rw [ceI_z (akI_22 (ly4_3 hb)) (al_22 (ly4_3 hb)) (M0_z (ly4_3 hb) (by decide))]
    simp [eup]
def rmIX1 : Room := { frames := 1, cells := 1, slots := 144, locals := 12 }
set_option maxHeartbeats 4000000 in
theorem kX1_init {G : GG} {l : Launch} (hg : ∀ k, gad G k = gb G + k) {k : Nat} (hb : lay k = 6) {E : Nat → va_E} (hk0 : E k = .inr (2, [.null])) : ConE G l yX1_init cX1_init 1 rmIX1 k E (inE G E k 2) (k + 1) (k + 2) 1 144 := by
  refine conE_of pnX1 rfl (by decide) (fun κ C CI CA hQ => ?_)
  refine VP_aload_n 0 C 0 dX1_init_0 rfl ?_
  refine VP_obj 1 C dX1_init_1 wk_1_211 wk_1_38 wk_1_39 rfl ?_
  refine VP_aload_n 4 C 0 dX1_init_4 rfl ?_
  refine VP_sipush 5 C dX1_init_5 sp144 ?_
  refine VP_newI 8 C CA dX1_init_8 (n := 144) (by decide) (by decide) rfl (Nat.le_of_ble_eq_true rfl) (Nat.le_of_ble_eq_true rfl) ?_
  obtain ⟨E1, hE1⟩ : ∃ z : Nat → va_E, z = eup E (k + 1) (.inl (gcl G 0, 144, .inl (fun _ => 0))) := ⟨_, rfl⟩
  refine VP_eqE hE1 ?_
  have f1 : E1 k = .inr (2, [.null]) := by rw [hE1, eup_ne (by omega)]; exact hk0
  refine VP_put (ty := .array .int) 10 C CI dX1_init_10 (by omega) f1 rfl inX1 tyX1 tyX1_ok nmX1 0 rfl wk_1_212 rfl rfl rfl rfl rfl rfl ?_
  obtain ⟨E2, hE2⟩ : ∃ z : Nat → va_E, z = eup E1 k (.inr (2, [.ref (gb G + (k + 1))])) := ⟨_, rfl⟩
  refine VP_eqE hE2 ?_
  have f2 : E2 k = .inr (2, [.ref (gb G + (k + 1))]) := by rw [hE2, eup_same]
  refine VP_ret 13 C hQ rfl (fun j hj => ?_) (Nat.le_of_ble_eq_true rfl) (Nat.le_of_ble_eq_true rfl) dX1_init_13
  rcases (show j < k ∨ j = k ∨ j = (k + 1) by omega) with h | rfl | rfl
  · rw [inE_ne (by omega)]
    simp only [hE1, hE2]
    unfold eup
    rw [if_neg (by omega)]
    rw [if_neg (by omega)]
  · rw [inE_in (by omega) (by omega), f2, ceR_X1 hb]
    simp [F_X1, hg, M0_z hb (by decide)]
  · rw [inE_in (by omega) (by omega)]
    simp only [hE1, hE2]
    rw [ceI_z (akI_23 (ly6_1 hb)) (al_23 (ly6_1 hb)) (M0_z (ly6_1 hb) (by decide))]
    simp [eup]
def rmIX8 : Room := { frames := 1, cells := 1, slots := 60, locals := 12 }
set_option maxHeartbeats 4000000 in
theorem kX8_init {G : GG} {l : Launch} (hg : ∀ k, gad G k = gb G + k) {k : Nat} (hb : lay k = 7) {E : Nat → va_E} (hk0 : E k = .inr (8, [.null, .int 0, .int 0, .int 0, .null, .int 0, .int 0])) : ConE G l yX8_init cX8_init 1 rmIX8 k E (inE G E k 2) (k + 1) (k + 2) 1 60 := by
  refine conE_of pnX8 rfl (by decide) (fun κ C CI CA hQ => ?_)
  refine VP_aload_n 0 C 0 dX8_init_0 rfl ?_
  refine VP_obj 1 C dX8_init_1 wk_1_221 wk_1_38 wk_1_39 rfl ?_
  refine VP_aload_n 4 C 0 dX8_init_4 rfl ?_
  refine VP_bipush 5 C dX8_init_5 bp60 ?_
  refine VP_newC 7 C CA dX8_init_7 (n := 60) (by decide) (by decide) rfl (Nat.le_of_ble_eq_true rfl) (Nat.le_of_ble_eq_true rfl) ?_
  obtain ⟨E1, hE1⟩ : ∃ z : Nat → va_E, z = eup E (k + 1) (.inl (gcl G 1, 60, .inl (fun _ => 0))) := ⟨_, rfl⟩
  refine VP_eqE hE1 ?_
  have f1 : E1 k = .inr (8, [.null, .int 0, .int 0, .int 0, .null, .int 0, .int 0]) := by rw [hE1, eup_ne (by omega)]; exact hk0
  refine VP_put (ty := .array .char) 9 C CI dX8_init_9 (by omega) f1 rfl inX8 tyX8 tyX8_ok nmX8 0 rfl wk_1_224 rfl rfl rfl rfl rfl rfl ?_
  obtain ⟨E2, hE2⟩ : ∃ z : Nat → va_E, z = eup E1 k (.inr (8, [.ref (gb G + (k + 1)), .int 0, .int 0, .int 0, .null, .int 0, .int 0])) := ⟨_, rfl⟩
  refine VP_eqE hE2 ?_
  have f2 : E2 k = .inr (8, [.ref (gb G + (k + 1)), .int 0, .int 0, .int 0, .null, .int 0, .int 0]) := by rw [hE2, eup_same]
  refine VP_aload_n 12 C 0 dX8_init_12 rfl ?_
  refine VP_gsv 13 C dX8_init_13 0 rfl wk_1_222 ?_
  refine VP_put (ty := .object "LarderPatrol$Verb") 16 C CI dX8_init_16 (by omega) f2 rfl inX8 tyX8 tyX8_ok nmX8 4 rfl wk_1_230 rfl rfl rfl rfl rfl rfl ?_
  obtain ⟨E3, hE3⟩ : ∃ z : Nat → va_E, z = eup E2 k (.inr (8, [.ref (gb G + (k + 1)), .int 0, .int 0, .int 0, .ref (gv G 0), .int 0, .int 0])) := ⟨_, rfl⟩
  refine VP_eqE hE3 ?_
  have f3 : E3 k = .inr (8, [.ref (gb G + (k + 1)), .int 0, .int 0, .int 0, .ref (gv G 0), .int 0, .int 0]) := by rw [hE3, eup_same]
  refine VP_ret 19 C hQ rfl (fun j hj => ?_) (Nat.le_of_ble_eq_true rfl) (Nat.le_of_ble_eq_true rfl) dX8_init_19
  rcases (show j < k ∨ j = k ∨ j = (k + 1) by omega) with h | rfl | rfl
  · rw [inE_ne (by omega)]
    simp only [hE1, hE2, hE3]
    unfold eup
    rw [if_neg (by omega)]
    rw [if_neg (by omega)]
    rw [if_neg (by omega)]
  · rw [inE_in (by omega) (by omega), f3, ceR_X8 hb]
    simp [F_X8, hg, M0_z hb (by decide)]
  · rw [inE_in (by omega) (by omega)]
    simp only [hE1, hE2, hE3]
    rw [ceC_z (akC_24 (ly7_1 hb)) (al_24 (ly7_1 hb)) (M0_z (ly7_1 hb) (by decide))]
    simp [eup]
def rmIX4 : Room := { frames := 1, cells := 1, slots := 64, locals := 12 }
set_option maxHeartbeats 4000000 in
theorem kX4_init {G : GG} {l : Launch} (hg : ∀ k, gad G k = gb G + k) {k : Nat} (hb : lay k = 8) {E : Nat → va_E} (hk0 : E k = .inr (5, [.null, .int 0])) : ConE G l yX4_init cX4_init 1 rmIX4 k E (inE G E k 2) (k + 1) (k + 2) 1 64 := by
  refine conE_of pnX4 rfl (by decide) (fun κ C CI CA hQ => ?_)
  refine VP_aload_n 0 C 0 dX4_init_0 rfl ?_
  refine VP_obj 1 C dX4_init_1 wk_2_17 wk_1_38 wk_1_39 rfl ?_
  refine VP_aload_n 4 C 0 dX4_init_4 rfl ?_
  refine VP_bipush 5 C dX4_init_5 bp64 ?_
  refine VP_newC 7 C CA dX4_init_7 (n := 64) (by decide) (by decide) rfl (Nat.le_of_ble_eq_true rfl) (Nat.le_of_ble_eq_true rfl) ?_
  obtain ⟨E1, hE1⟩ : ∃ z : Nat → va_E, z = eup E (k + 1) (.inl (gcl G 1, 64, .inl (fun _ => 0))) := ⟨_, rfl⟩
  refine VP_eqE hE1 ?_
  have f1 : E1 k = .inr (5, [.null, .int 0]) := by rw [hE1, eup_ne (by omega)]; exact hk0
  refine VP_put (ty := .array .char) 9 C CI dX4_init_9 (by omega) f1 rfl inX4 tyX4 tyX4_ok nmX4 0 rfl wk_2_18 rfl rfl rfl rfl rfl rfl ?_
  obtain ⟨E2, hE2⟩ : ∃ z : Nat → va_E, z = eup E1 k (.inr (5, [.ref (gb G + (k + 1)), .int 0])) := ⟨_, rfl⟩
  refine VP_eqE hE2 ?_
  have f2 : E2 k = .inr (5, [.ref (gb G + (k + 1)), .int 0]) := by rw [hE2, eup_same]
  refine VP_ret 12 C hQ rfl (fun j hj => ?_) (Nat.le_of_ble_eq_true rfl) (Nat.le_of_ble_eq_true rfl) dX4_init_12
  rcases (show j < k ∨ j = k ∨ j = (k + 1) by omega) with h | rfl | rfl
  · rw [inE_ne (by omega)]
    simp only [hE1, hE2]
    unfold eup
    rw [if_neg (by omega)]
    rw [if_neg (by omega)]
  · rw [inE_in (by omega) (by omega), f2, ceR_X4 hb]
    simp [F_X4, hg, M0_z hb (by decide)]
  · rw [inE_in (by omega) (by omega)]
    simp only [hE1, hE2]
    rw [ceC_z (akC_25 (ly8_1 hb)) (al_25 (ly8_1 hb)) (M0_z (ly8_1 hb) (by decide))]
    simp [eup]
def rmIX3 : Room := { frames := 2, cells := 9, slots := 71, locals := 32 }
set_option maxHeartbeats 4000000 in
theorem kX3_init {G : GG} {l : Launch} (hg : ∀ k, gad G k = gb G + k) {k : Nat} (hb : lay k = 1) {E : Nat → va_E} (hk0 : E k = .inr (4, [.null, .null, .null, .int 0, .int 0, .int 0, .int 0, .int 0, .int 0, .int 0, .int 0])) : ConE G l yX3_init cX3_init 1 rmIX3 k E (inE G E k 10) (k + 1) (k + 10) 9 71 := by
  refine conE_of pnX3 rfl (by decide) (fun κ C CI CA hQ => ?_)
  refine VP_aload_n 0 C 0 dX3_init_0 rfl ?_
  refine VP_obj 1 C dX3_init_1 wk_1_45 wk_1_38 wk_1_39 rfl ?_
  refine VP_aload_n 4 C 0 dX3_init_4 rfl ?_
  refine VP_new (fs := [.null, .null, .int 0, .int 0, .int 0]) 5 C dX3_init_5 (ci := 9) rfl inX9 tyX9 tyX9_ok wk_1_46 wk_1_47 wk_1_3 (fun j hj => by rcases (show j = 0 ∨ j = 1 ∨ j = 2 ∨ j = 3 ∨ j = 4 by omega) with rfl | rfl | rfl | rfl | rfl <;> rfl) (Nat.le_of_ble_eq_true rfl) (Nat.le_of_ble_eq_true rfl) ?_
  obtain ⟨E1, hE1⟩ : ∃ z : Nat → va_E, z = eup E (k + 1) (.inr (9, [.null, .null, .int 0, .int 0, .int 0])) := ⟨_, rfl⟩
  refine VP_eqE hE1 ?_
  have f1 : E1 k = .inr (4, [.null, .null, .null, .int 0, .int 0, .int 0, .int 0, .int 0, .int 0, .int 0, .int 0]) := by rw [hE1, eup_ne (by omega)]; exact hk0
  refine VP_dup 8 C dX3_init_8 rfl ?_
  have g2 : E1 (k + 1) = .inr (9, [.null, .null, .int 0, .int 0, .int 0]) := by rw [hE1, eup_same]
  refine VP_callN (k := (k + 1)) (mc := 2) (ms := 24) 9 C CA (kX9_init hg (ly1_1 hb) g2) rfl wk_1_50 wk_1_3 wk_1_49 (by decide +kernel) wk_1_48 rfl dX3_init_9 rfl (Nat.le_of_ble_eq_true rfl) (Nat.le_of_ble_eq_true rfl) ?_
  obtain ⟨E2, hE2⟩ : ∃ z : Nat → va_E, z = inE G E1 (k + 1) 3 := ⟨_, rfl⟩
  refine VP_eqE hE2 ?_
  have f2 : E2 k = .inr (4, [.null, .null, .null, .int 0, .int 0, .int 0, .int 0, .int 0, .int 0, .int 0, .int 0]) := by rw [hE2, inE_ne (by omega)]; exact f1
  refine VP_put (ty := .object "LarderPatrol$Shelves") 12 C CI dX3_init_12 (by omega) f2 rfl inX3 tyX3 tyX3_ok nmX3 0 rfl wk_1_139 rfl rfl rfl rfl rfl rfl ?_
  obtain ⟨E3, hE3⟩ : ∃ z : Nat → va_E, z = eup E2 k (.inr (4, [.ref (gb G + (k + 1)), .null, .null, .int 0, .int 0, .int 0, .int 0, .int 0, .int 0, .int 0, .int 0])) := ⟨_, rfl⟩
  refine VP_eqE hE3 ?_
  have f3 : E3 k = .inr (4, [.ref (gb G + (k + 1)), .null, .null, .int 0, .int 0, .int 0, .int 0, .int 0, .int 0, .int 0, .int 0]) := by rw [hE3, eup_same]
  refine VP_aload_n 15 C 0 dX3_init_15 rfl ?_
  refine VP_new (fs := [.null, .int 0, .int 0, .int 0]) 16 C dX3_init_16 (ci := 7) rfl inX6 tyX6 tyX6_ok wk_1_82 wk_1_83 wk_1_4 (fun j hj => by rcases (show j = 0 ∨ j = 1 ∨ j = 2 ∨ j = 3 by omega) with rfl | rfl | rfl | rfl <;> rfl) (Nat.le_of_ble_eq_true rfl) (Nat.le_of_ble_eq_true rfl) ?_
  obtain ⟨E4, hE4⟩ : ∃ z : Nat → va_E, z = eup E3 (k + 4) (.inr (7, [.null, .int 0, .int 0, .int 0])) := ⟨_, rfl⟩
  refine VP_eqE hE4 ?_
  have f4 : E4 k = .inr (4, [.ref (gb G + (k + 1)), .null, .null, .int 0, .int 0, .int 0, .int 0, .int 0, .int 0, .int 0, .int 0]) := by rw [hE4, eup_ne (by omega)]; exact f3
  refine VP_dup 19 C dX3_init_19 rfl ?_
  have g5 : E4 (k + 4) = .inr (7, [.null, .int 0, .int 0, .int 0]) := by rw [hE4, eup_same]
  refine VP_callN (k := (k + 4)) (mc := 1) (ms := 10) 20 C CA (kX6_init hg (ly1_4 hb) g5) rfl wk_1_86 wk_1_4 wk_1_85 (by decide +kernel) wk_1_84 rfl dX3_init_20 rfl (Nat.le_of_ble_eq_true rfl) (Nat.le_of_ble_eq_true rfl) ?_
  obtain ⟨E5, hE5⟩ : ∃ z : Nat → va_E, z = inE G E4 (k + 4) 2 := ⟨_, rfl⟩
  refine VP_eqE hE5 ?_
  have f5 : E5 k = .inr (4, [.ref (gb G + (k + 1)), .null, .null, .int 0, .int 0, .int 0, .int 0, .int 0, .int 0, .int 0, .int 0]) := by rw [hE5, inE_ne (by omega)]; exact f4
  refine VP_put (ty := .object "LarderPatrol$Patrol") 23 C CI dX3_init_23 (by omega) f5 rfl inX3 tyX3 tyX3_ok nmX3 1 rfl wk_1_142 rfl rfl rfl rfl rfl rfl ?_
  obtain ⟨E6, hE6⟩ : ∃ z : Nat → va_E, z = eup E5 k (.inr (4, [.ref (gb G + (k + 1)), .ref (gb G + (k + 4)), .null, .int 0, .int 0, .int 0, .int 0, .int 0, .int 0, .int 0, .int 0])) := ⟨_, rfl⟩
  refine VP_eqE hE6 ?_
  have f6 : E6 k = .inr (4, [.ref (gb G + (k + 1)), .ref (gb G + (k + 4)), .null, .int 0, .int 0, .int 0, .int 0, .int 0, .int 0, .int 0, .int 0]) := by rw [hE6, eup_same]
  refine VP_aload_n 26 C 0 dX3_init_26 rfl ?_
  refine VP_new (fs := [.null, .null, .null, .int 0]) 27 C dX3_init_27 (ci := 6) rfl inX5 tyX5 tyX5_ok wk_1_112 wk_1_113 wk_1_5 (fun j hj => by rcases (show j = 0 ∨ j = 1 ∨ j = 2 ∨ j = 3 by omega) with rfl | rfl | rfl | rfl <;> rfl) (Nat.le_of_ble_eq_true rfl) (Nat.le_of_ble_eq_true rfl) ?_
  obtain ⟨E7, hE7⟩ : ∃ z : Nat → va_E, z = eup E6 (k + 6) (.inr (6, [.null, .null, .null, .int 0])) := ⟨_, rfl⟩
  refine VP_eqE hE7 ?_
  have f7 : E7 k = .inr (4, [.ref (gb G + (k + 1)), .ref (gb G + (k + 4)), .null, .int 0, .int 0, .int 0, .int 0, .int 0, .int 0, .int 0, .int 0]) := by rw [hE7, eup_ne (by omega)]; exact f6
  refine VP_dup 30 C dX3_init_30 rfl ?_
  have g8 : E7 (k + 6) = .inr (6, [.null, .null, .null, .int 0]) := by rw [hE7, eup_same]
  refine VP_callN (k := (k + 6)) (mc := 3) (ms := 24) 31 C CA (kX5_init hg (ly1_6 hb) g8) rfl wk_1_116 wk_1_5 wk_1_115 (by decide +kernel) wk_1_114 rfl dX3_init_31 rfl (Nat.le_of_ble_eq_true rfl) (Nat.le_of_ble_eq_true rfl) ?_
  obtain ⟨E8, hE8⟩ : ∃ z : Nat → va_E, z = inE G E7 (k + 6) 4 := ⟨_, rfl⟩
  refine VP_eqE hE8 ?_
  have f8 : E8 k = .inr (4, [.ref (gb G + (k + 1)), .ref (gb G + (k + 4)), .null, .int 0, .int 0, .int 0, .int 0, .int 0, .int 0, .int 0, .int 0]) := by rw [hE8, inE_ne (by omega)]; exact f7
  refine VP_put (ty := .object "LarderPatrol$Mice") 34 C CI dX3_init_34 (by omega) f8 rfl inX3 tyX3 tyX3_ok nmX3 2 rfl wk_1_145 rfl rfl rfl rfl rfl rfl ?_
  obtain ⟨E9, hE9⟩ : ∃ z : Nat → va_E, z = eup E8 k (.inr (4, [.ref (gb G + (k + 1)), .ref (gb G + (k + 4)), .ref (gb G + (k + 6)), .int 0, .int 0, .int 0, .int 0, .int 0, .int 0, .int 0, .int 0])) := ⟨_, rfl⟩
  refine VP_eqE hE9 ?_
  have f9 : E9 k = .inr (4, [.ref (gb G + (k + 1)), .ref (gb G + (k + 4)), .ref (gb G + (k + 6)), .int 0, .int 0, .int 0, .int 0, .int 0, .int 0, .int 0, .int 0]) := by rw [hE9, eup_same]
  refine VP_aload_n 37 C 0 dX3_init_37 rfl ?_
  refine VP_iconst 38 C dX3_init_38 ic4 ?_
  refine VP_put (ty := .int) 39 C CI dX3_init_39 (by omega) f9 rfl inX3 tyX3 tyX3_ok nmX3 3 rfl wk_1_148 rfl rfl rfl rfl rfl rfl ?_
  obtain ⟨E10, hE10⟩ : ∃ z : Nat → va_E, z = eup E9 k (.inr (4, [.ref (gb G + (k + 1)), .ref (gb G + (k + 4)), .ref (gb G + (k + 6)), .int 4, .int 0, .int 0, .int 0, .int 0, .int 0, .int 0, .int 0])) := ⟨_, rfl⟩
  refine VP_eqE hE10 ?_
  have f10 : E10 k = .inr (4, [.ref (gb G + (k + 1)), .ref (gb G + (k + 4)), .ref (gb G + (k + 6)), .int 4, .int 0, .int 0, .int 0, .int 0, .int 0, .int 0, .int 0]) := by rw [hE10, eup_same]
  refine VP_ret 42 C hQ rfl (fun j hj => ?_) (Nat.le_of_ble_eq_true rfl) (Nat.le_of_ble_eq_true rfl) dX3_init_42
  rcases (show j < k ∨ j = k ∨ j = (k + 1) ∨ j = (k + 2) ∨ j = (k + 3) ∨ j = (k + 4) ∨ j = (k + 5) ∨ j = (k + 6) ∨ j = (k + 7) ∨ j = (k + 8) ∨ j = (k + 9) by omega) with h | hj | hj | hj | hj | hj | hj | hj | hj | hj | hj
  · rw [inE_ne (by omega)]
    simp only [hE1, hE2, hE3, hE4, hE5, hE6, hE7, hE8, hE9, hE10]
    first | rw [eup_ne (by omega)] | rw [inE_ne (by omega)]
    first | rw [eup_ne (by omega)] | rw [inE_ne (by omega)]
    first | rw [eup_ne (by omega)] | rw [inE_ne (by omega)]
    first | rw [eup_ne (by omega)] | rw [inE_ne (by omega)]
    first | rw [eup_ne (by omega)] | rw [inE_ne (by omega)]
    first | rw [eup_ne (by omega)] | rw [inE_ne (by omega)]
    first | rw [eup_ne (by omega)] | rw [inE_ne (by omega)]
    first | rw [eup_ne (by omega)] | rw [inE_ne (by omega)]
    first | rw [eup_ne (by omega)] | rw [inE_ne (by omega)]
    first | rw [eup_ne (by omega)] | rw [inE_ne (by omega)]
  · rw [hj]
    rw [inE_in (by omega) (by omega), f10, ceR_X3 hb]
    have h120 : k ≠ 120 := fun q => by subst q; exact absurd hb (by decide)
    simp [F_X3, hg, M0, hb, h120]
  · rw [hj]
    rw [inE_in (by omega) (by omega)]
    simp only [hE1, hE2, hE3, hE4, hE5, hE6, hE7, hE8, hE9, hE10]
    simp [eup, inE]
  · rw [hj]
    rw [inE_in (by omega) (by omega)]
    simp only [hE1, hE2, hE3, hE4, hE5, hE6, hE7, hE8, hE9, hE10]
    simp [eup, inE]
  · rw [hj]
    rw [inE_in (by omega) (by omega)]
    simp only [hE1, hE2, hE3, hE4, hE5, hE6, hE7, hE8, hE9, hE10]
    simp [eup, inE]
  · rw [hj]
    rw [inE_in (by omega) (by omega)]
    simp only [hE1, hE2, hE3, hE4, hE5, hE6, hE7, hE8, hE9, hE10]
    simp [eup, inE]
  · rw [hj]
    rw [inE_in (by omega) (by omega)]
    simp only [hE1, hE2, hE3, hE4, hE5, hE6, hE7, hE8, hE9, hE10]
    simp [eup, inE]
  · rw [hj]
    rw [inE_in (by omega) (by omega)]
    simp only [hE1, hE2, hE3, hE4, hE5, hE6, hE7, hE8, hE9, hE10]
    simp [eup, inE]
  · rw [hj]
    rw [inE_in (by omega) (by omega)]
    simp only [hE1, hE2, hE3, hE4, hE5, hE6, hE7, hE8, hE9, hE10]
    simp [eup, inE]
  · rw [hj]
    rw [inE_in (by omega) (by omega)]
    simp only [hE1, hE2, hE3, hE4, hE5, hE6, hE7, hE8, hE9, hE10]
    simp [eup, inE]
  · rw [hj]
    rw [inE_in (by omega) (by omega)]
    simp only [hE1, hE2, hE3, hE4, hE5, hE6, hE7, hE8, hE9, hE10]
    simp [eup, inE]
def rmIX12 : Room := { frames := 1, cells := 9, slots := 2746, locals := 12 }
set_option maxHeartbeats 4000000 in
theorem kX12_init {G : GG} {l : Launch} (hg : ∀ k, gad G k = gb G + k) (hb : lay 119 = 9) {E : Nat → va_E} (hk0 : E 119 = .inr (11, [.int 0, .int 0, .int 0, .int 0, .int 0, .int 0, .null, .null, .null, .null, .null, .int 0, .int 0, .int 0, .null, .null, .int 0, .null, .int 0, .int 0, .int 0, .null, .int 0, .int 0])) : ConE G l yX12_init cX12_init 1 rmIX12 119 E (inE G E 119 10) 120 129 9 2746 := by
  refine conE_of pnX12 rfl (by decide) (fun κ C CI CA hQ => ?_)
  refine VP_aload_n 0 C 0 dX12_init_0 rfl ?_
  refine VP_obj 1 C dX12_init_1 wk_6_133 wk_1_38 wk_1_39 rfl ?_
  refine VP_aload_n 4 C 0 dX12_init_4 rfl ?_
  refine VP_sipush 5 C dX12_init_5 sp216 ?_
  refine VP_newI 8 C CA dX12_init_8 (n := 216) (by decide) (by decide) rfl (Nat.le_of_ble_eq_true rfl) (Nat.le_of_ble_eq_true rfl) ?_
  obtain ⟨E1, hE1⟩ : ∃ z : Nat → va_E, z = eup E 120 (.inl (gcl G 0, 216, .inl (fun _ => 0))) := ⟨_, rfl⟩
  refine VP_eqE hE1 ?_
  have f1 : E1 119 = .inr (11, [.int 0, .int 0, .int 0, .int 0, .int 0, .int 0, .null, .null, .null, .null, .null, .int 0, .int 0, .int 0, .null, .null, .int 0, .null, .int 0, .int 0, .int 0, .null, .int 0, .int 0]) := by rw [hE1, eup_ne (by omega)]; exact hk0
  refine VP_put (ty := .array .int) 10 C CI dX12_init_10 (by omega) f1 rfl inX12 tyX12 tyX12_ok nmX12 6 rfl wk_6_140 rfl rfl rfl rfl rfl rfl ?_
  obtain ⟨E2, hE2⟩ : ∃ z : Nat → va_E, z = eup E1 119 (.inr (11, [.int 0, .int 0, .int 0, .int 0, .int 0, .int 0, .ref (gb G + 120), .null, .null, .null, .null, .int 0, .int 0, .int 0, .null, .null, .int 0, .null, .int 0, .int 0, .int 0, .null, .int 0, .int 0])) := ⟨_, rfl⟩
  refine VP_eqE hE2 ?_
  have f2 : E2 119 = .inr (11, [.int 0, .int 0, .int 0, .int 0, .int 0, .int 0, .ref (gb G + 120), .null, .null, .null, .null, .int 0, .int 0, .int 0, .null, .null, .int 0, .null, .int 0, .int 0, .int 0, .null, .int 0, .int 0]) := by rw [hE2, eup_same]
  refine VP_aload_n 13 C 0 dX12_init_13 rfl ?_
  refine VP_sipush 14 C dX12_init_14 sp1728 ?_
  refine VP_newI 17 C CA dX12_init_17 (n := 1728) (by decide) (by decide) rfl (Nat.le_of_ble_eq_true rfl) (Nat.le_of_ble_eq_true rfl) ?_
  obtain ⟨E3, hE3⟩ : ∃ z : Nat → va_E, z = eup E2 121 (.inl (gcl G 0, 1728, .inl (fun _ => 0))) := ⟨_, rfl⟩
  refine VP_eqE hE3 ?_
  have f3 : E3 119 = .inr (11, [.int 0, .int 0, .int 0, .int 0, .int 0, .int 0, .ref (gb G + 120), .null, .null, .null, .null, .int 0, .int 0, .int 0, .null, .null, .int 0, .null, .int 0, .int 0, .int 0, .null, .int 0, .int 0]) := by rw [hE3, eup_ne (by omega)]; exact f2
  refine VP_put (ty := .array .int) 19 C CI dX12_init_19 (by omega) f3 rfl inX12 tyX12 tyX12_ok nmX12 7 rfl wk_6_141 rfl rfl rfl rfl rfl rfl ?_
  obtain ⟨E4, hE4⟩ : ∃ z : Nat → va_E, z = eup E3 119 (.inr (11, [.int 0, .int 0, .int 0, .int 0, .int 0, .int 0, .ref (gb G + 120), .ref (gb G + 121), .null, .null, .null, .int 0, .int 0, .int 0, .null, .null, .int 0, .null, .int 0, .int 0, .int 0, .null, .int 0, .int 0])) := ⟨_, rfl⟩
  refine VP_eqE hE4 ?_
  have f4 : E4 119 = .inr (11, [.int 0, .int 0, .int 0, .int 0, .int 0, .int 0, .ref (gb G + 120), .ref (gb G + 121), .null, .null, .null, .int 0, .int 0, .int 0, .null, .null, .int 0, .null, .int 0, .int 0, .int 0, .null, .int 0, .int 0]) := by rw [hE4, eup_same]
  refine VP_aload_n 22 C 0 dX12_init_22 rfl ?_
  refine VP_sipush 23 C dX12_init_23 sp216 ?_
  refine VP_newI 26 C CA dX12_init_26 (n := 216) (by decide) (by decide) rfl (Nat.le_of_ble_eq_true rfl) (Nat.le_of_ble_eq_true rfl) ?_
  obtain ⟨E5, hE5⟩ : ∃ z : Nat → va_E, z = eup E4 122 (.inl (gcl G 0, 216, .inl (fun _ => 0))) := ⟨_, rfl⟩
  refine VP_eqE hE5 ?_
  have f5 : E5 119 = .inr (11, [.int 0, .int 0, .int 0, .int 0, .int 0, .int 0, .ref (gb G + 120), .ref (gb G + 121), .null, .null, .null, .int 0, .int 0, .int 0, .null, .null, .int 0, .null, .int 0, .int 0, .int 0, .null, .int 0, .int 0]) := by rw [hE5, eup_ne (by omega)]; exact f4
  refine VP_put (ty := .array .int) 28 C CI dX12_init_28 (by omega) f5 rfl inX12 tyX12 tyX12_ok nmX12 8 rfl wk_6_142 rfl rfl rfl rfl rfl rfl ?_
  obtain ⟨E6, hE6⟩ : ∃ z : Nat → va_E, z = eup E5 119 (.inr (11, [.int 0, .int 0, .int 0, .int 0, .int 0, .int 0, .ref (gb G + 120), .ref (gb G + 121), .ref (gb G + 122), .null, .null, .int 0, .int 0, .int 0, .null, .null, .int 0, .null, .int 0, .int 0, .int 0, .null, .int 0, .int 0])) := ⟨_, rfl⟩
  refine VP_eqE hE6 ?_
  have f6 : E6 119 = .inr (11, [.int 0, .int 0, .int 0, .int 0, .int 0, .int 0, .ref (gb G + 120), .ref (gb G + 121), .ref (gb G + 122), .null, .null, .int 0, .int 0, .int 0, .null, .null, .int 0, .null, .int 0, .int 0, .int 0, .null, .int 0, .int 0]) := by rw [hE6, eup_same]
  refine VP_aload_n 31 C 0 dX12_init_31 rfl ?_
  refine VP_sipush 32 C dX12_init_32 sp216 ?_
  refine VP_newI 35 C CA dX12_init_35 (n := 216) (by decide) (by decide) rfl (Nat.le_of_ble_eq_true rfl) (Nat.le_of_ble_eq_true rfl) ?_
  obtain ⟨E7, hE7⟩ : ∃ z : Nat → va_E, z = eup E6 123 (.inl (gcl G 0, 216, .inl (fun _ => 0))) := ⟨_, rfl⟩
  refine VP_eqE hE7 ?_
  have f7 : E7 119 = .inr (11, [.int 0, .int 0, .int 0, .int 0, .int 0, .int 0, .ref (gb G + 120), .ref (gb G + 121), .ref (gb G + 122), .null, .null, .int 0, .int 0, .int 0, .null, .null, .int 0, .null, .int 0, .int 0, .int 0, .null, .int 0, .int 0]) := by rw [hE7, eup_ne (by omega)]; exact f6
  refine VP_put (ty := .array .int) 37 C CI dX12_init_37 (by omega) f7 rfl inX12 tyX12 tyX12_ok nmX12 9 rfl wk_6_143 rfl rfl rfl rfl rfl rfl ?_
  obtain ⟨E8, hE8⟩ : ∃ z : Nat → va_E, z = eup E7 119 (.inr (11, [.int 0, .int 0, .int 0, .int 0, .int 0, .int 0, .ref (gb G + 120), .ref (gb G + 121), .ref (gb G + 122), .ref (gb G + 123), .null, .int 0, .int 0, .int 0, .null, .null, .int 0, .null, .int 0, .int 0, .int 0, .null, .int 0, .int 0])) := ⟨_, rfl⟩
  refine VP_eqE hE8 ?_
  have f8 : E8 119 = .inr (11, [.int 0, .int 0, .int 0, .int 0, .int 0, .int 0, .ref (gb G + 120), .ref (gb G + 121), .ref (gb G + 122), .ref (gb G + 123), .null, .int 0, .int 0, .int 0, .null, .null, .int 0, .null, .int 0, .int 0, .int 0, .null, .int 0, .int 0]) := by rw [hE8, eup_same]
  refine VP_aload_n 40 C 0 dX12_init_40 rfl ?_
  refine VP_sipush 41 C dX12_init_41 sp216 ?_
  refine VP_newI 44 C CA dX12_init_44 (n := 216) (by decide) (by decide) rfl (Nat.le_of_ble_eq_true rfl) (Nat.le_of_ble_eq_true rfl) ?_
  obtain ⟨E9, hE9⟩ : ∃ z : Nat → va_E, z = eup E8 124 (.inl (gcl G 0, 216, .inl (fun _ => 0))) := ⟨_, rfl⟩
  refine VP_eqE hE9 ?_
  have f9 : E9 119 = .inr (11, [.int 0, .int 0, .int 0, .int 0, .int 0, .int 0, .ref (gb G + 120), .ref (gb G + 121), .ref (gb G + 122), .ref (gb G + 123), .null, .int 0, .int 0, .int 0, .null, .null, .int 0, .null, .int 0, .int 0, .int 0, .null, .int 0, .int 0]) := by rw [hE9, eup_ne (by omega)]; exact f8
  refine VP_put (ty := .array .int) 46 C CI dX12_init_46 (by omega) f9 rfl inX12 tyX12 tyX12_ok nmX12 10 rfl wk_6_144 rfl rfl rfl rfl rfl rfl ?_
  obtain ⟨E10, hE10⟩ : ∃ z : Nat → va_E, z = eup E9 119 (.inr (11, [.int 0, .int 0, .int 0, .int 0, .int 0, .int 0, .ref (gb G + 120), .ref (gb G + 121), .ref (gb G + 122), .ref (gb G + 123), .ref (gb G + 124), .int 0, .int 0, .int 0, .null, .null, .int 0, .null, .int 0, .int 0, .int 0, .null, .int 0, .int 0])) := ⟨_, rfl⟩
  refine VP_eqE hE10 ?_
  have f10 : E10 119 = .inr (11, [.int 0, .int 0, .int 0, .int 0, .int 0, .int 0, .ref (gb G + 120), .ref (gb G + 121), .ref (gb G + 122), .ref (gb G + 123), .ref (gb G + 124), .int 0, .int 0, .int 0, .null, .null, .int 0, .null, .int 0, .int 0, .int 0, .null, .int 0, .int 0]) := by rw [hE10, eup_same]
  refine VP_aload_n 49 C 0 dX12_init_49 rfl ?_
  refine VP_bipush 50 C dX12_init_50 bp12 ?_
  refine VP_newI 52 C CA dX12_init_52 (n := 12) (by decide) (by decide) rfl (Nat.le_of_ble_eq_true rfl) (Nat.le_of_ble_eq_true rfl) ?_
  obtain ⟨E11, hE11⟩ : ∃ z : Nat → va_E, z = eup E10 125 (.inl (gcl G 0, 12, .inl (fun _ => 0))) := ⟨_, rfl⟩
  refine VP_eqE hE11 ?_
  have f11 : E11 119 = .inr (11, [.int 0, .int 0, .int 0, .int 0, .int 0, .int 0, .ref (gb G + 120), .ref (gb G + 121), .ref (gb G + 122), .ref (gb G + 123), .ref (gb G + 124), .int 0, .int 0, .int 0, .null, .null, .int 0, .null, .int 0, .int 0, .int 0, .null, .int 0, .int 0]) := by rw [hE11, eup_ne (by omega)]; exact f10
  refine VP_put (ty := .array .int) 54 C CI dX12_init_54 (by omega) f11 rfl inX12 tyX12 tyX12_ok nmX12 14 rfl wk_6_148 rfl rfl rfl rfl rfl rfl ?_
  obtain ⟨E12, hE12⟩ : ∃ z : Nat → va_E, z = eup E11 119 (.inr (11, [.int 0, .int 0, .int 0, .int 0, .int 0, .int 0, .ref (gb G + 120), .ref (gb G + 121), .ref (gb G + 122), .ref (gb G + 123), .ref (gb G + 124), .int 0, .int 0, .int 0, .ref (gb G + 125), .null, .int 0, .null, .int 0, .int 0, .int 0, .null, .int 0, .int 0])) := ⟨_, rfl⟩
  refine VP_eqE hE12 ?_
  have f12 : E12 119 = .inr (11, [.int 0, .int 0, .int 0, .int 0, .int 0, .int 0, .ref (gb G + 120), .ref (gb G + 121), .ref (gb G + 122), .ref (gb G + 123), .ref (gb G + 124), .int 0, .int 0, .int 0, .ref (gb G + 125), .null, .int 0, .null, .int 0, .int 0, .int 0, .null, .int 0, .int 0]) := by rw [hE12, eup_same]
  refine VP_aload_n 57 C 0 dX12_init_57 rfl ?_
  refine VP_bipush 58 C dX12_init_58 bp80 ?_
  refine VP_newC 60 C CA dX12_init_60 (n := 80) (by decide) (by decide) rfl (Nat.le_of_ble_eq_true rfl) (Nat.le_of_ble_eq_true rfl) ?_
  obtain ⟨E13, hE13⟩ : ∃ z : Nat → va_E, z = eup E12 126 (.inl (gcl G 1, 80, .inl (fun _ => 0))) := ⟨_, rfl⟩
  refine VP_eqE hE13 ?_
  have f13 : E13 119 = .inr (11, [.int 0, .int 0, .int 0, .int 0, .int 0, .int 0, .ref (gb G + 120), .ref (gb G + 121), .ref (gb G + 122), .ref (gb G + 123), .ref (gb G + 124), .int 0, .int 0, .int 0, .ref (gb G + 125), .null, .int 0, .null, .int 0, .int 0, .int 0, .null, .int 0, .int 0]) := by rw [hE13, eup_ne (by omega)]; exact f12
  refine VP_put (ty := .array .char) 62 C CI dX12_init_62 (by omega) f13 rfl inX12 tyX12 tyX12_ok nmX12 15 rfl wk_6_149 rfl rfl rfl rfl rfl rfl ?_
  obtain ⟨E14, hE14⟩ : ∃ z : Nat → va_E, z = eup E13 119 (.inr (11, [.int 0, .int 0, .int 0, .int 0, .int 0, .int 0, .ref (gb G + 120), .ref (gb G + 121), .ref (gb G + 122), .ref (gb G + 123), .ref (gb G + 124), .int 0, .int 0, .int 0, .ref (gb G + 125), .ref (gb G + 126), .int 0, .null, .int 0, .int 0, .int 0, .null, .int 0, .int 0])) := ⟨_, rfl⟩
  refine VP_eqE hE14 ?_
  have f14 : E14 119 = .inr (11, [.int 0, .int 0, .int 0, .int 0, .int 0, .int 0, .ref (gb G + 120), .ref (gb G + 121), .ref (gb G + 122), .ref (gb G + 123), .ref (gb G + 124), .int 0, .int 0, .int 0, .ref (gb G + 125), .ref (gb G + 126), .int 0, .null, .int 0, .int 0, .int 0, .null, .int 0, .int 0]) := by rw [hE14, eup_same]
  refine VP_aload_n 65 C 0 dX12_init_65 rfl ?_
  refine VP_bipush 66 C dX12_init_66 bp60 ?_
  refine VP_newC 68 C CA dX12_init_68 (n := 60) (by decide) (by decide) rfl (Nat.le_of_ble_eq_true rfl) (Nat.le_of_ble_eq_true rfl) ?_
  obtain ⟨E15, hE15⟩ : ∃ z : Nat → va_E, z = eup E14 127 (.inl (gcl G 1, 60, .inl (fun _ => 0))) := ⟨_, rfl⟩
  refine VP_eqE hE15 ?_
  have f15 : E15 119 = .inr (11, [.int 0, .int 0, .int 0, .int 0, .int 0, .int 0, .ref (gb G + 120), .ref (gb G + 121), .ref (gb G + 122), .ref (gb G + 123), .ref (gb G + 124), .int 0, .int 0, .int 0, .ref (gb G + 125), .ref (gb G + 126), .int 0, .null, .int 0, .int 0, .int 0, .null, .int 0, .int 0]) := by rw [hE15, eup_ne (by omega)]; exact f14
  refine VP_put (ty := .array .char) 70 C CI dX12_init_70 (by omega) f15 rfl inX12 tyX12 tyX12_ok nmX12 17 rfl wk_6_151 rfl rfl rfl rfl rfl rfl ?_
  obtain ⟨E16, hE16⟩ : ∃ z : Nat → va_E, z = eup E15 119 (.inr (11, [.int 0, .int 0, .int 0, .int 0, .int 0, .int 0, .ref (gb G + 120), .ref (gb G + 121), .ref (gb G + 122), .ref (gb G + 123), .ref (gb G + 124), .int 0, .int 0, .int 0, .ref (gb G + 125), .ref (gb G + 126), .int 0, .ref (gb G + 127), .int 0, .int 0, .int 0, .null, .int 0, .int 0])) := ⟨_, rfl⟩
  refine VP_eqE hE16 ?_
  have f16 : E16 119 = .inr (11, [.int 0, .int 0, .int 0, .int 0, .int 0, .int 0, .ref (gb G + 120), .ref (gb G + 121), .ref (gb G + 122), .ref (gb G + 123), .ref (gb G + 124), .int 0, .int 0, .int 0, .ref (gb G + 125), .ref (gb G + 126), .int 0, .ref (gb G + 127), .int 0, .int 0, .int 0, .null, .int 0, .int 0]) := by rw [hE16, eup_same]
  refine VP_aload_n 73 C 0 dX12_init_73 rfl ?_
  refine VP_iconst 74 C dX12_init_74 icm1 ?_
  refine VP_put (ty := .int) 75 C CI dX12_init_75 (by omega) f16 rfl inX12 tyX12 tyX12_ok nmX12 20 rfl wk_6_154 rfl rfl rfl rfl rfl rfl ?_
  obtain ⟨E17, hE17⟩ : ∃ z : Nat → va_E, z = eup E16 119 (.inr (11, [.int 0, .int 0, .int 0, .int 0, .int 0, .int 0, .ref (gb G + 120), .ref (gb G + 121), .ref (gb G + 122), .ref (gb G + 123), .ref (gb G + 124), .int 0, .int 0, .int 0, .ref (gb G + 125), .ref (gb G + 126), .int 0, .ref (gb G + 127), .int 0, .int 0, .int (-1), .null, .int 0, .int 0])) := ⟨_, rfl⟩
  refine VP_eqE hE17 ?_
  have f17 : E17 119 = .inr (11, [.int 0, .int 0, .int 0, .int 0, .int 0, .int 0, .ref (gb G + 120), .ref (gb G + 121), .ref (gb G + 122), .ref (gb G + 123), .ref (gb G + 124), .int 0, .int 0, .int 0, .ref (gb G + 125), .ref (gb G + 126), .int 0, .ref (gb G + 127), .int 0, .int 0, .int (-1), .null, .int 0, .int 0]) := by rw [hE17, eup_same]
  refine VP_aload_n 78 C 0 dX12_init_78 rfl ?_
  refine VP_iconst 79 C dX12_init_79 ic2 ?_
  refine VP_newI 80 C CA dX12_init_80 (n := 2) (by decide) (by decide) rfl (Nat.le_of_ble_eq_true rfl) (Nat.le_of_ble_eq_true rfl) ?_
  obtain ⟨E18, hE18⟩ : ∃ z : Nat → va_E, z = eup E17 128 (.inl (gcl G 0, 2, .inl (fun _ => 0))) := ⟨_, rfl⟩
  refine VP_eqE hE18 ?_
  have f18 : E18 119 = .inr (11, [.int 0, .int 0, .int 0, .int 0, .int 0, .int 0, .ref (gb G + 120), .ref (gb G + 121), .ref (gb G + 122), .ref (gb G + 123), .ref (gb G + 124), .int 0, .int 0, .int 0, .ref (gb G + 125), .ref (gb G + 126), .int 0, .ref (gb G + 127), .int 0, .int 0, .int (-1), .null, .int 0, .int 0]) := by rw [hE18, eup_ne (by omega)]; exact f17
  refine VP_put (ty := .array .int) 82 C CI dX12_init_82 (by omega) f18 rfl inX12 tyX12 tyX12_ok nmX12 21 rfl wk_6_155 rfl rfl rfl rfl rfl rfl ?_
  obtain ⟨E19, hE19⟩ : ∃ z : Nat → va_E, z = eup E18 119 (.inr (11, [.int 0, .int 0, .int 0, .int 0, .int 0, .int 0, .ref (gb G + 120), .ref (gb G + 121), .ref (gb G + 122), .ref (gb G + 123), .ref (gb G + 124), .int 0, .int 0, .int 0, .ref (gb G + 125), .ref (gb G + 126), .int 0, .ref (gb G + 127), .int 0, .int 0, .int (-1), .ref (gb G + 128), .int 0, .int 0])) := ⟨_, rfl⟩
  refine VP_eqE hE19 ?_
  have f19 : E19 119 = .inr (11, [.int 0, .int 0, .int 0, .int 0, .int 0, .int 0, .ref (gb G + 120), .ref (gb G + 121), .ref (gb G + 122), .ref (gb G + 123), .ref (gb G + 124), .int 0, .int 0, .int 0, .ref (gb G + 125), .ref (gb G + 126), .int 0, .ref (gb G + 127), .int 0, .int 0, .int (-1), .ref (gb G + 128), .int 0, .int 0]) := by rw [hE19, eup_same]
  refine VP_aload_n 85 C 0 dX12_init_85 rfl ?_
  refine VP_get (v := .ref (gb G + 120)) 86 C dX12_init_86 (by omega) f19 rfl inX12 6 rfl wk_6_140 rfl rfl ?_
  refine VP_iconst 89 C dX12_init_89 ic5 ?_
  refine VP_iconst 90 C dX12_init_90 ic4 ?_
  have g20 : E19 120 = .inl (gcl G 0, 216, .inl (fun _ => 0)) := by simp [hE1, hE2, hE3, hE4, hE5, hE6, hE7, hE8, hE9, hE10, hE11, hE12, hE13, hE14, hE15, hE16, hE17, hE18, hE19, eup]
  refine VP_iast (k := 120) 91 C dX12_init_91 (by omega) g20 (by decide) ?_
  obtain ⟨E20, hE20⟩ : ∃ z : Nat → va_E, z = eup E19 120 (.inl (gcl G 0, 216, .inl (upd (fun _ => 0) (5 : Int32).toNatClampNeg 4))) := ⟨_, rfl⟩
  refine VP_eqE hE20 ?_
  refine VP_ret 92 C hQ rfl (fun j hj => ?_) (Nat.le_of_ble_eq_true rfl) (Nat.le_of_ble_eq_true rfl) dX12_init_92
  rcases (show j < 119 ∨ j = 119 ∨ j = 120 ∨ j = 121 ∨ j = 122 ∨ j = 123 ∨ j = 124 ∨ j = 125 ∨ j = 126 ∨ j = 127 ∨ j = 128 by omega) with h | rfl | rfl | rfl | rfl | rfl | rfl | rfl | rfl | rfl | rfl
  · rw [inE_ne (by omega)]
    simp only [hE1, hE2, hE3, hE4, hE5, hE6, hE7, hE8, hE9, hE10, hE11, hE12, hE13, hE14, hE15, hE16, hE17, hE18, hE19, hE20]
    unfold eup
    rw [if_neg (by omega)]
    rw [if_neg (by omega)]
    rw [if_neg (by omega)]
    rw [if_neg (by omega)]
    rw [if_neg (by omega)]
    rw [if_neg (by omega)]
    rw [if_neg (by omega)]
    rw [if_neg (by omega)]
    rw [if_neg (by omega)]
    rw [if_neg (by omega)]
    rw [if_neg (by omega)]
    rw [if_neg (by omega)]
    rw [if_neg (by omega)]
    rw [if_neg (by omega)]
    rw [if_neg (by omega)]
    rw [if_neg (by omega)]
    rw [if_neg (by omega)]
    rw [if_neg (by omega)]
    rw [if_neg (by omega)]
    rw [if_neg (by omega)]
  · rw [inE_in (by omega) (by omega), ceR_X12 (by rfl)]
    simp only [hE1, hE2, hE3, hE4, hE5, hE6, hE7, hE8, hE9, hE10, hE11, hE12, hE13, hE14, hE15, hE16, hE17, hE18, hE19, hE20]
    simp [eup]
    simp [F_X12, hg, M0, lay, layL]
  · rw [inE_in (by omega) (by omega)]
    simp only [hE1, hE2, hE3, hE4, hE5, hE6, hE7, hE8, hE9, hE10, hE11, hE12, hE13, hE14, hE15, hE16, hE17, hE18, hE19, hE20]
    rw [ceI_w]
    simp [eup]
  · rw [inE_in (by omega) (by omega)]
    simp only [hE1, hE2, hE3, hE4, hE5, hE6, hE7, hE8, hE9, hE10, hE11, hE12, hE13, hE14, hE15, hE16, hE17, hE18, hE19, hE20]
    rw [ceI_z (by rfl) (by rfl) (M0_z (c := 27) (by rfl) (by decide))]
    simp [eup, alen, alk, lay, layL]
  · rw [inE_in (by omega) (by omega)]
    simp only [hE1, hE2, hE3, hE4, hE5, hE6, hE7, hE8, hE9, hE10, hE11, hE12, hE13, hE14, hE15, hE16, hE17, hE18, hE19, hE20]
    rw [ceI_z (by rfl) (by rfl) (M0_26 (by rfl) (by decide))]
    simp [eup, alen, alk, lay, layL]
  · rw [inE_in (by omega) (by omega)]
    simp only [hE1, hE2, hE3, hE4, hE5, hE6, hE7, hE8, hE9, hE10, hE11, hE12, hE13, hE14, hE15, hE16, hE17, hE18, hE19, hE20]
    rw [ceI_z (by rfl) (by rfl) (M0_26 (by rfl) (by decide))]
    simp [eup, alen, alk, lay, layL]
  · rw [inE_in (by omega) (by omega)]
    simp only [hE1, hE2, hE3, hE4, hE5, hE6, hE7, hE8, hE9, hE10, hE11, hE12, hE13, hE14, hE15, hE16, hE17, hE18, hE19, hE20]
    rw [ceI_z (by rfl) (by rfl) (M0_26 (by rfl) (by decide))]
    simp [eup, alen, alk, lay, layL]
  · rw [inE_in (by omega) (by omega)]
    simp only [hE1, hE2, hE3, hE4, hE5, hE6, hE7, hE8, hE9, hE10, hE11, hE12, hE13, hE14, hE15, hE16, hE17, hE18, hE19, hE20]
    rw [ceI_z (by rfl) (by rfl) (M0_z (c := 20) (by rfl) (by decide))]
    simp [eup, alen, alk, lay, layL]
  · rw [inE_in (by omega) (by omega)]
    simp only [hE1, hE2, hE3, hE4, hE5, hE6, hE7, hE8, hE9, hE10, hE11, hE12, hE13, hE14, hE15, hE16, hE17, hE18, hE19, hE20]
    rw [ceC_z (by rfl) (by rfl) (M0_z (c := 28) (by rfl) (by decide))]
    simp [eup, alen, alk, lay, layL]
  · rw [inE_in (by omega) (by omega)]
    simp only [hE1, hE2, hE3, hE4, hE5, hE6, hE7, hE8, hE9, hE10, hE11, hE12, hE13, hE14, hE15, hE16, hE17, hE18, hE19, hE20]
    rw [ceC_z (by rfl) (by rfl) (M0_z (c := 24) (by rfl) (by decide))]
    simp [eup, alen, alk, lay, layL]
  · rw [inE_in (by omega) (by omega)]
    simp only [hE1, hE2, hE3, hE4, hE5, hE6, hE7, hE8, hE9, hE10, hE11, hE12, hE13, hE14, hE15, hE16, hE17, hE18, hE19, hE20]
    rw [ceI_z (by rfl) (by rfl) (M0_z (c := 29) (by rfl) (by decide))]
    simp [eup, alen, alk, lay, layL]
def rmIX2 : Room := { frames := 3, cells := 81, slots := 664, locals := 52 }
set_option maxHeartbeats 4000000 in
theorem kX2_init {G : GG} {l : Launch} (hg : ∀ k, gad G k = gb G + k) (hb : lay 31 = 5) {E : Nat → va_E} (hk0 : E 31 = .inr (3, [.null, .int 0, .int 0])) : ConE G l yX2_init cX2_init 2 rmIX2 31 E (inE G E 31 82) 32 113 81 664 := by
  refine conE_of pnX2 rfl (by decide) (fun κ C CI CA hQ => ?_)
  refine VP_aload_n 0 C 0 dX2_init_0 rfl ?_
  refine VP_obj 1 C dX2_init_1 wk_1_191 wk_1_38 wk_1_39 rfl ?_
  refine VP_aload_n 4 C 0 dX2_init_4 rfl ?_
  refine VP_bipush 5 C dX2_init_5 bp8 ?_
  refine VP_anew (n := 8) 7 C CA dX2_init_7 wk_1_192 (by decide) (by decide) rfl (Nat.le_of_ble_eq_true rfl) (Nat.le_of_ble_eq_true rfl) ?_
  obtain ⟨E1, hE1⟩ : ∃ z : Nat → va_E, z = eup E 32 (.inl (gcl G 2, 8, .inr (.inr (.inr (.inr (fun _ => none)))))) := ⟨_, rfl⟩
  refine VP_eqE hE1 ?_
  have f1 : E1 31 = .inr (3, [.null, .int 0, .int 0]) := by rw [hE1, eup_ne (by omega)]; exact hk0
  obtain ⟨a0, ha0⟩ : ∃ z : Nat → Option Nat, z = (fun _ => none) := ⟨_, rfl⟩
  have q1 : E1 32 = .inl (gcl G 2, 8, .inr (.inr (.inr (.inr a0)))) := by rw [hE1, eup_same, ha0]
  refine VP_put (ty := .array (.object "LarderPatrol$Larder")) 10 C CI dX2_init_10 (by omega) f1 rfl inX2 tyX2 tyX2_ok nmX2 0 rfl wk_1_195 rfl rfl rfl rfl rfl rfl ?_
  obtain ⟨E2, hE2⟩ : ∃ z : Nat → va_E, z = eup E1 31 (.inr (3, [.ref (gb G + 32), .int 0, .int 0])) := ⟨_, rfl⟩
  refine VP_eqE hE2 ?_
  have f2 : E2 31 = .inr (3, [.ref (gb G + 32), .int 0, .int 0]) := by rw [hE2, eup_same]
  have q2 : E2 32 = .inl (gcl G 2, 8, .inr (.inr (.inr (.inr a0)))) := by rw [hE2, eup_ne (by omega)]; exact q1
  refine VP_iconst 13 C dX2_init_13 ic0 ?_
  refine VP_istore_n 14 C [(1, .int 0), (0, .ref (gb G + 31))] dX2_init_14 rfl rfl rfl ?_
  refine VP_iload_n 15 C 0 dX2_init_15 rfl ?_
  refine VP_aload_n 16 C 1 dX2_init_16 rfl ?_
  refine VP_get (v := .ref (gb G + 32)) 17 C dX2_init_17 (by omega) f2 rfl inX2 0 rfl wk_1_195 rfl rfl ?_
  refine VP_alenO 20 C dX2_init_20 (by omega) q2 ?_
  refine VP_icmp_ge 21 43 C dX2_init_21 (by decide) (fun q => absurd q (by decide)) (fun _ => ?_)
  refine VP_aload_n 24 C 1 dX2_init_24 rfl ?_
  refine VP_get (v := .ref (gb G + 32)) 25 C dX2_init_25 (by omega) f2 rfl inX2 0 rfl wk_1_195 rfl rfl ?_
  refine VP_iload_n 28 C 0 dX2_init_28 rfl ?_
  refine VP_new (fs := [.null, .null, .null, .int 0, .int 0, .int 0, .int 0, .int 0, .int 0, .int 0, .int 0]) 29 C dX2_init_29 (ci := 4) rfl inX3 tyX3 tyX3_ok wk_1_192 wk_1_41 wk_1_2 (fun j hj => by rcases (show j = 0 ∨ j = 1 ∨ j = 2 ∨ j = 3 ∨ j = 4 ∨ j = 5 ∨ j = 6 ∨ j = 7 ∨ j = 8 ∨ j = 9 ∨ j = 10 by omega) with rfl | rfl | rfl | rfl | rfl | rfl | rfl | rfl | rfl | rfl | rfl <;> rfl) (Nat.le_of_ble_eq_true rfl) (Nat.le_of_ble_eq_true rfl) ?_
  obtain ⟨E3, hE3⟩ : ∃ z : Nat → va_E, z = eup E2 33 (.inr (4, [.null, .null, .null, .int 0, .int 0, .int 0, .int 0, .int 0, .int 0, .int 0, .int 0])) := ⟨_, rfl⟩
  refine VP_eqE hE3 ?_
  have f3 : E3 31 = .inr (3, [.ref (gb G + 32), .int 0, .int 0]) := by rw [hE3, eup_ne (by omega)]; exact f2
  have q3 : E3 32 = .inl (gcl G 2, 8, .inr (.inr (.inr (.inr a0)))) := by rw [hE3, eup_ne (by omega)]; exact q2
  refine VP_dup 32 C dX2_init_32 rfl ?_
  have g4 : E3 33 = .inr (4, [.null, .null, .null, .int 0, .int 0, .int 0, .int 0, .int 0, .int 0, .int 0, .int 0]) := by rw [hE3, eup_same]
  refine VP_callN (k := 33) (mc := 9) (ms := 71) 33 C CA (kX3_init hg (by rfl) g4) rfl wk_1_44 wk_1_2 wk_1_43 (by decide +kernel) wk_1_194 rfl dX2_init_33 rfl (Nat.le_of_ble_eq_true rfl) (Nat.le_of_ble_eq_true rfl) ?_
  obtain ⟨E4, hE4⟩ : ∃ z : Nat → va_E, z = inE G E3 33 10 := ⟨_, rfl⟩
  refine VP_eqE hE4 ?_
  have f4 : E4 31 = .inr (3, [.ref (gb G + 32), .int 0, .int 0]) := by rw [hE4, inE_ne (by omega)]; exact f3
  have q4 : E4 32 = .inl (gcl G 2, 8, .inr (.inr (.inr (.inr a0)))) := by rw [hE4, inE_ne (by omega)]; exact q3
  have v5 : E4 33 = .inr (4, F_X3 G 33 (M0 33)) := by rw [hE4, inE_in (by omega) (by omega), ceR_X3 (by rfl)]
  refine VP_aastO 36 C dX2_init_36 (by omega) q4 (by omega) v5 (by decide) ?_
  obtain ⟨a1, ha1⟩ : ∃ z : Nat → Option Nat, z = va_up a0 (0 : Int32).toNatClampNeg (some (gb G + 33)) := ⟨_, rfl⟩
  rw [← ha1]
  obtain ⟨E5, hE5⟩ : ∃ z : Nat → va_E, z = eup E4 32 (.inl (gcl G 2, 8, .inr (.inr (.inr (.inr a1))))) := ⟨_, rfl⟩
  refine VP_eqE hE5 ?_
  have f5 : E5 31 = .inr (3, [.ref (gb G + 32), .int 0, .int 0]) := by rw [hE5, eup_ne (by omega)]; exact f4
  have q5 : E5 32 = .inl (gcl G 2, 8, .inr (.inr (.inr (.inr a1)))) := by rw [hE5, eup_same]
  refine VP_iinc 37 C [(1, .int 1), (0, .ref (gb G + 31))] 0 1 dX2_init_37 rfl (by decide) rfl rfl ?_
  refine VP_goto 40 15 C dX2_init_40 (by decide) ?_
  refine VP_iload_n 15 C 0 dX2_init_15 rfl ?_
  refine VP_aload_n 16 C 1 dX2_init_16 rfl ?_
  refine VP_get (v := .ref (gb G + 32)) 17 C dX2_init_17 (by omega) f5 rfl inX2 0 rfl wk_1_195 rfl rfl ?_
  refine VP_alenO 20 C dX2_init_20 (by omega) q5 ?_
  refine VP_icmp_ge 21 43 C dX2_init_21 (by decide) (fun q => absurd q (by decide)) (fun _ => ?_)
  refine VP_aload_n 24 C 1 dX2_init_24 rfl ?_
  refine VP_get (v := .ref (gb G + 32)) 25 C dX2_init_25 (by omega) f5 rfl inX2 0 rfl wk_1_195 rfl rfl ?_
  refine VP_iload_n 28 C 0 dX2_init_28 rfl ?_
  refine VP_new (fs := [.null, .null, .null, .int 0, .int 0, .int 0, .int 0, .int 0, .int 0, .int 0, .int 0]) 29 C dX2_init_29 (ci := 4) rfl inX3 tyX3 tyX3_ok wk_1_192 wk_1_41 wk_1_2 (fun j hj => by rcases (show j = 0 ∨ j = 1 ∨ j = 2 ∨ j = 3 ∨ j = 4 ∨ j = 5 ∨ j = 6 ∨ j = 7 ∨ j = 8 ∨ j = 9 ∨ j = 10 by omega) with rfl | rfl | rfl | rfl | rfl | rfl | rfl | rfl | rfl | rfl | rfl <;> rfl) (Nat.le_of_ble_eq_true rfl) (Nat.le_of_ble_eq_true rfl) ?_
  obtain ⟨E6, hE6⟩ : ∃ z : Nat → va_E, z = eup E5 43 (.inr (4, [.null, .null, .null, .int 0, .int 0, .int 0, .int 0, .int 0, .int 0, .int 0, .int 0])) := ⟨_, rfl⟩
  refine VP_eqE hE6 ?_
  have f6 : E6 31 = .inr (3, [.ref (gb G + 32), .int 0, .int 0]) := by rw [hE6, eup_ne (by omega)]; exact f5
  have q6 : E6 32 = .inl (gcl G 2, 8, .inr (.inr (.inr (.inr a1)))) := by rw [hE6, eup_ne (by omega)]; exact q5
  refine VP_dup 32 C dX2_init_32 rfl ?_
  have g7 : E6 43 = .inr (4, [.null, .null, .null, .int 0, .int 0, .int 0, .int 0, .int 0, .int 0, .int 0, .int 0]) := by rw [hE6, eup_same]
  refine VP_callN (k := 43) (mc := 9) (ms := 71) 33 C CA (kX3_init hg (by rfl) g7) rfl wk_1_44 wk_1_2 wk_1_43 (by decide +kernel) wk_1_194 rfl dX2_init_33 rfl (Nat.le_of_ble_eq_true rfl) (Nat.le_of_ble_eq_true rfl) ?_
  obtain ⟨E7, hE7⟩ : ∃ z : Nat → va_E, z = inE G E6 43 10 := ⟨_, rfl⟩
  refine VP_eqE hE7 ?_
  have f7 : E7 31 = .inr (3, [.ref (gb G + 32), .int 0, .int 0]) := by rw [hE7, inE_ne (by omega)]; exact f6
  have q7 : E7 32 = .inl (gcl G 2, 8, .inr (.inr (.inr (.inr a1)))) := by rw [hE7, inE_ne (by omega)]; exact q6
  have v8 : E7 43 = .inr (4, F_X3 G 43 (M0 43)) := by rw [hE7, inE_in (by omega) (by omega), ceR_X3 (by rfl)]
  refine VP_aastO 36 C dX2_init_36 (by omega) q7 (by omega) v8 (by decide) ?_
  obtain ⟨a2, ha2⟩ : ∃ z : Nat → Option Nat, z = va_up a1 (1 : Int32).toNatClampNeg (some (gb G + 43)) := ⟨_, rfl⟩
  rw [← ha2]
  obtain ⟨E8, hE8⟩ : ∃ z : Nat → va_E, z = eup E7 32 (.inl (gcl G 2, 8, .inr (.inr (.inr (.inr a2))))) := ⟨_, rfl⟩
  refine VP_eqE hE8 ?_
  have f8 : E8 31 = .inr (3, [.ref (gb G + 32), .int 0, .int 0]) := by rw [hE8, eup_ne (by omega)]; exact f7
  have q8 : E8 32 = .inl (gcl G 2, 8, .inr (.inr (.inr (.inr a2)))) := by rw [hE8, eup_same]
  refine VP_iinc 37 C [(1, .int 2), (0, .ref (gb G + 31))] 0 2 dX2_init_37 rfl (by decide) rfl rfl ?_
  refine VP_goto 40 15 C dX2_init_40 (by decide) ?_
  refine VP_iload_n 15 C 0 dX2_init_15 rfl ?_
  refine VP_aload_n 16 C 1 dX2_init_16 rfl ?_
  refine VP_get (v := .ref (gb G + 32)) 17 C dX2_init_17 (by omega) f8 rfl inX2 0 rfl wk_1_195 rfl rfl ?_
  refine VP_alenO 20 C dX2_init_20 (by omega) q8 ?_
  refine VP_icmp_ge 21 43 C dX2_init_21 (by decide) (fun q => absurd q (by decide)) (fun _ => ?_)
  refine VP_aload_n 24 C 1 dX2_init_24 rfl ?_
  refine VP_get (v := .ref (gb G + 32)) 25 C dX2_init_25 (by omega) f8 rfl inX2 0 rfl wk_1_195 rfl rfl ?_
  refine VP_iload_n 28 C 0 dX2_init_28 rfl ?_
  refine VP_new (fs := [.null, .null, .null, .int 0, .int 0, .int 0, .int 0, .int 0, .int 0, .int 0, .int 0]) 29 C dX2_init_29 (ci := 4) rfl inX3 tyX3 tyX3_ok wk_1_192 wk_1_41 wk_1_2 (fun j hj => by rcases (show j = 0 ∨ j = 1 ∨ j = 2 ∨ j = 3 ∨ j = 4 ∨ j = 5 ∨ j = 6 ∨ j = 7 ∨ j = 8 ∨ j = 9 ∨ j = 10 by omega) with rfl | rfl | rfl | rfl | rfl | rfl | rfl | rfl | rfl | rfl | rfl <;> rfl) (Nat.le_of_ble_eq_true rfl) (Nat.le_of_ble_eq_true rfl) ?_
  obtain ⟨E9, hE9⟩ : ∃ z : Nat → va_E, z = eup E8 53 (.inr (4, [.null, .null, .null, .int 0, .int 0, .int 0, .int 0, .int 0, .int 0, .int 0, .int 0])) := ⟨_, rfl⟩
  refine VP_eqE hE9 ?_
  have f9 : E9 31 = .inr (3, [.ref (gb G + 32), .int 0, .int 0]) := by rw [hE9, eup_ne (by omega)]; exact f8
  have q9 : E9 32 = .inl (gcl G 2, 8, .inr (.inr (.inr (.inr a2)))) := by rw [hE9, eup_ne (by omega)]; exact q8
  refine VP_dup 32 C dX2_init_32 rfl ?_
  have g10 : E9 53 = .inr (4, [.null, .null, .null, .int 0, .int 0, .int 0, .int 0, .int 0, .int 0, .int 0, .int 0]) := by rw [hE9, eup_same]
  refine VP_callN (k := 53) (mc := 9) (ms := 71) 33 C CA (kX3_init hg (by rfl) g10) rfl wk_1_44 wk_1_2 wk_1_43 (by decide +kernel) wk_1_194 rfl dX2_init_33 rfl (Nat.le_of_ble_eq_true rfl) (Nat.le_of_ble_eq_true rfl) ?_
  obtain ⟨E10, hE10⟩ : ∃ z : Nat → va_E, z = inE G E9 53 10 := ⟨_, rfl⟩
  refine VP_eqE hE10 ?_
  have f10 : E10 31 = .inr (3, [.ref (gb G + 32), .int 0, .int 0]) := by rw [hE10, inE_ne (by omega)]; exact f9
  have q10 : E10 32 = .inl (gcl G 2, 8, .inr (.inr (.inr (.inr a2)))) := by rw [hE10, inE_ne (by omega)]; exact q9
  have v11 : E10 53 = .inr (4, F_X3 G 53 (M0 53)) := by rw [hE10, inE_in (by omega) (by omega), ceR_X3 (by rfl)]
  refine VP_aastO 36 C dX2_init_36 (by omega) q10 (by omega) v11 (by decide) ?_
  obtain ⟨a3, ha3⟩ : ∃ z : Nat → Option Nat, z = va_up a2 (2 : Int32).toNatClampNeg (some (gb G + 53)) := ⟨_, rfl⟩
  rw [← ha3]
  obtain ⟨E11, hE11⟩ : ∃ z : Nat → va_E, z = eup E10 32 (.inl (gcl G 2, 8, .inr (.inr (.inr (.inr a3))))) := ⟨_, rfl⟩
  refine VP_eqE hE11 ?_
  have f11 : E11 31 = .inr (3, [.ref (gb G + 32), .int 0, .int 0]) := by rw [hE11, eup_ne (by omega)]; exact f10
  have q11 : E11 32 = .inl (gcl G 2, 8, .inr (.inr (.inr (.inr a3)))) := by rw [hE11, eup_same]
  refine VP_iinc 37 C [(1, .int 3), (0, .ref (gb G + 31))] 0 3 dX2_init_37 rfl (by decide) rfl rfl ?_
  refine VP_goto 40 15 C dX2_init_40 (by decide) ?_
  refine VP_iload_n 15 C 0 dX2_init_15 rfl ?_
  refine VP_aload_n 16 C 1 dX2_init_16 rfl ?_
  refine VP_get (v := .ref (gb G + 32)) 17 C dX2_init_17 (by omega) f11 rfl inX2 0 rfl wk_1_195 rfl rfl ?_
  refine VP_alenO 20 C dX2_init_20 (by omega) q11 ?_
  refine VP_icmp_ge 21 43 C dX2_init_21 (by decide) (fun q => absurd q (by decide)) (fun _ => ?_)
  refine VP_aload_n 24 C 1 dX2_init_24 rfl ?_
  refine VP_get (v := .ref (gb G + 32)) 25 C dX2_init_25 (by omega) f11 rfl inX2 0 rfl wk_1_195 rfl rfl ?_
  refine VP_iload_n 28 C 0 dX2_init_28 rfl ?_
  refine VP_new (fs := [.null, .null, .null, .int 0, .int 0, .int 0, .int 0, .int 0, .int 0, .int 0, .int 0]) 29 C dX2_init_29 (ci := 4) rfl inX3 tyX3 tyX3_ok wk_1_192 wk_1_41 wk_1_2 (fun j hj => by rcases (show j = 0 ∨ j = 1 ∨ j = 2 ∨ j = 3 ∨ j = 4 ∨ j = 5 ∨ j = 6 ∨ j = 7 ∨ j = 8 ∨ j = 9 ∨ j = 10 by omega) with rfl | rfl | rfl | rfl | rfl | rfl | rfl | rfl | rfl | rfl | rfl <;> rfl) (Nat.le_of_ble_eq_true rfl) (Nat.le_of_ble_eq_true rfl) ?_
  obtain ⟨E12, hE12⟩ : ∃ z : Nat → va_E, z = eup E11 63 (.inr (4, [.null, .null, .null, .int 0, .int 0, .int 0, .int 0, .int 0, .int 0, .int 0, .int 0])) := ⟨_, rfl⟩
  refine VP_eqE hE12 ?_
  have f12 : E12 31 = .inr (3, [.ref (gb G + 32), .int 0, .int 0]) := by rw [hE12, eup_ne (by omega)]; exact f11
  have q12 : E12 32 = .inl (gcl G 2, 8, .inr (.inr (.inr (.inr a3)))) := by rw [hE12, eup_ne (by omega)]; exact q11
  refine VP_dup 32 C dX2_init_32 rfl ?_
  have g13 : E12 63 = .inr (4, [.null, .null, .null, .int 0, .int 0, .int 0, .int 0, .int 0, .int 0, .int 0, .int 0]) := by rw [hE12, eup_same]
  refine VP_callN (k := 63) (mc := 9) (ms := 71) 33 C CA (kX3_init hg (by rfl) g13) rfl wk_1_44 wk_1_2 wk_1_43 (by decide +kernel) wk_1_194 rfl dX2_init_33 rfl (Nat.le_of_ble_eq_true rfl) (Nat.le_of_ble_eq_true rfl) ?_
  obtain ⟨E13, hE13⟩ : ∃ z : Nat → va_E, z = inE G E12 63 10 := ⟨_, rfl⟩
  refine VP_eqE hE13 ?_
  have f13 : E13 31 = .inr (3, [.ref (gb G + 32), .int 0, .int 0]) := by rw [hE13, inE_ne (by omega)]; exact f12
  have q13 : E13 32 = .inl (gcl G 2, 8, .inr (.inr (.inr (.inr a3)))) := by rw [hE13, inE_ne (by omega)]; exact q12
  have v14 : E13 63 = .inr (4, F_X3 G 63 (M0 63)) := by rw [hE13, inE_in (by omega) (by omega), ceR_X3 (by rfl)]
  refine VP_aastO 36 C dX2_init_36 (by omega) q13 (by omega) v14 (by decide) ?_
  obtain ⟨a4, ha4⟩ : ∃ z : Nat → Option Nat, z = va_up a3 (3 : Int32).toNatClampNeg (some (gb G + 63)) := ⟨_, rfl⟩
  rw [← ha4]
  obtain ⟨E14, hE14⟩ : ∃ z : Nat → va_E, z = eup E13 32 (.inl (gcl G 2, 8, .inr (.inr (.inr (.inr a4))))) := ⟨_, rfl⟩
  refine VP_eqE hE14 ?_
  have f14 : E14 31 = .inr (3, [.ref (gb G + 32), .int 0, .int 0]) := by rw [hE14, eup_ne (by omega)]; exact f13
  have q14 : E14 32 = .inl (gcl G 2, 8, .inr (.inr (.inr (.inr a4)))) := by rw [hE14, eup_same]
  refine VP_iinc 37 C [(1, .int 4), (0, .ref (gb G + 31))] 0 4 dX2_init_37 rfl (by decide) rfl rfl ?_
  refine VP_goto 40 15 C dX2_init_40 (by decide) ?_
  refine VP_iload_n 15 C 0 dX2_init_15 rfl ?_
  refine VP_aload_n 16 C 1 dX2_init_16 rfl ?_
  refine VP_get (v := .ref (gb G + 32)) 17 C dX2_init_17 (by omega) f14 rfl inX2 0 rfl wk_1_195 rfl rfl ?_
  refine VP_alenO 20 C dX2_init_20 (by omega) q14 ?_
  refine VP_icmp_ge 21 43 C dX2_init_21 (by decide) (fun q => absurd q (by decide)) (fun _ => ?_)
  refine VP_aload_n 24 C 1 dX2_init_24 rfl ?_
  refine VP_get (v := .ref (gb G + 32)) 25 C dX2_init_25 (by omega) f14 rfl inX2 0 rfl wk_1_195 rfl rfl ?_
  refine VP_iload_n 28 C 0 dX2_init_28 rfl ?_
  refine VP_new (fs := [.null, .null, .null, .int 0, .int 0, .int 0, .int 0, .int 0, .int 0, .int 0, .int 0]) 29 C dX2_init_29 (ci := 4) rfl inX3 tyX3 tyX3_ok wk_1_192 wk_1_41 wk_1_2 (fun j hj => by rcases (show j = 0 ∨ j = 1 ∨ j = 2 ∨ j = 3 ∨ j = 4 ∨ j = 5 ∨ j = 6 ∨ j = 7 ∨ j = 8 ∨ j = 9 ∨ j = 10 by omega) with rfl | rfl | rfl | rfl | rfl | rfl | rfl | rfl | rfl | rfl | rfl <;> rfl) (Nat.le_of_ble_eq_true rfl) (Nat.le_of_ble_eq_true rfl) ?_
  obtain ⟨E15, hE15⟩ : ∃ z : Nat → va_E, z = eup E14 73 (.inr (4, [.null, .null, .null, .int 0, .int 0, .int 0, .int 0, .int 0, .int 0, .int 0, .int 0])) := ⟨_, rfl⟩
  refine VP_eqE hE15 ?_
  have f15 : E15 31 = .inr (3, [.ref (gb G + 32), .int 0, .int 0]) := by rw [hE15, eup_ne (by omega)]; exact f14
  have q15 : E15 32 = .inl (gcl G 2, 8, .inr (.inr (.inr (.inr a4)))) := by rw [hE15, eup_ne (by omega)]; exact q14
  refine VP_dup 32 C dX2_init_32 rfl ?_
  have g16 : E15 73 = .inr (4, [.null, .null, .null, .int 0, .int 0, .int 0, .int 0, .int 0, .int 0, .int 0, .int 0]) := by rw [hE15, eup_same]
  refine VP_callN (k := 73) (mc := 9) (ms := 71) 33 C CA (kX3_init hg (by rfl) g16) rfl wk_1_44 wk_1_2 wk_1_43 (by decide +kernel) wk_1_194 rfl dX2_init_33 rfl (Nat.le_of_ble_eq_true rfl) (Nat.le_of_ble_eq_true rfl) ?_
  obtain ⟨E16, hE16⟩ : ∃ z : Nat → va_E, z = inE G E15 73 10 := ⟨_, rfl⟩
  refine VP_eqE hE16 ?_
  have f16 : E16 31 = .inr (3, [.ref (gb G + 32), .int 0, .int 0]) := by rw [hE16, inE_ne (by omega)]; exact f15
  have q16 : E16 32 = .inl (gcl G 2, 8, .inr (.inr (.inr (.inr a4)))) := by rw [hE16, inE_ne (by omega)]; exact q15
  have v17 : E16 73 = .inr (4, F_X3 G 73 (M0 73)) := by rw [hE16, inE_in (by omega) (by omega), ceR_X3 (by rfl)]
  refine VP_aastO 36 C dX2_init_36 (by omega) q16 (by omega) v17 (by decide) ?_
  obtain ⟨a5, ha5⟩ : ∃ z : Nat → Option Nat, z = va_up a4 (4 : Int32).toNatClampNeg (some (gb G + 73)) := ⟨_, rfl⟩
  rw [← ha5]
  obtain ⟨E17, hE17⟩ : ∃ z : Nat → va_E, z = eup E16 32 (.inl (gcl G 2, 8, .inr (.inr (.inr (.inr a5))))) := ⟨_, rfl⟩
  refine VP_eqE hE17 ?_
  have f17 : E17 31 = .inr (3, [.ref (gb G + 32), .int 0, .int 0]) := by rw [hE17, eup_ne (by omega)]; exact f16
  have q17 : E17 32 = .inl (gcl G 2, 8, .inr (.inr (.inr (.inr a5)))) := by rw [hE17, eup_same]
  refine VP_iinc 37 C [(1, .int 5), (0, .ref (gb G + 31))] 0 5 dX2_init_37 rfl (by decide) rfl rfl ?_
  refine VP_goto 40 15 C dX2_init_40 (by decide) ?_
  refine VP_iload_n 15 C 0 dX2_init_15 rfl ?_
  refine VP_aload_n 16 C 1 dX2_init_16 rfl ?_
  refine VP_get (v := .ref (gb G + 32)) 17 C dX2_init_17 (by omega) f17 rfl inX2 0 rfl wk_1_195 rfl rfl ?_
  refine VP_alenO 20 C dX2_init_20 (by omega) q17 ?_
  refine VP_icmp_ge 21 43 C dX2_init_21 (by decide) (fun q => absurd q (by decide)) (fun _ => ?_)
  refine VP_aload_n 24 C 1 dX2_init_24 rfl ?_
  refine VP_get (v := .ref (gb G + 32)) 25 C dX2_init_25 (by omega) f17 rfl inX2 0 rfl wk_1_195 rfl rfl ?_
  refine VP_iload_n 28 C 0 dX2_init_28 rfl ?_
  refine VP_new (fs := [.null, .null, .null, .int 0, .int 0, .int 0, .int 0, .int 0, .int 0, .int 0, .int 0]) 29 C dX2_init_29 (ci := 4) rfl inX3 tyX3 tyX3_ok wk_1_192 wk_1_41 wk_1_2 (fun j hj => by rcases (show j = 0 ∨ j = 1 ∨ j = 2 ∨ j = 3 ∨ j = 4 ∨ j = 5 ∨ j = 6 ∨ j = 7 ∨ j = 8 ∨ j = 9 ∨ j = 10 by omega) with rfl | rfl | rfl | rfl | rfl | rfl | rfl | rfl | rfl | rfl | rfl <;> rfl) (Nat.le_of_ble_eq_true rfl) (Nat.le_of_ble_eq_true rfl) ?_
  obtain ⟨E18, hE18⟩ : ∃ z : Nat → va_E, z = eup E17 83 (.inr (4, [.null, .null, .null, .int 0, .int 0, .int 0, .int 0, .int 0, .int 0, .int 0, .int 0])) := ⟨_, rfl⟩
  refine VP_eqE hE18 ?_
  have f18 : E18 31 = .inr (3, [.ref (gb G + 32), .int 0, .int 0]) := by rw [hE18, eup_ne (by omega)]; exact f17
  have q18 : E18 32 = .inl (gcl G 2, 8, .inr (.inr (.inr (.inr a5)))) := by rw [hE18, eup_ne (by omega)]; exact q17
  refine VP_dup 32 C dX2_init_32 rfl ?_
  have g19 : E18 83 = .inr (4, [.null, .null, .null, .int 0, .int 0, .int 0, .int 0, .int 0, .int 0, .int 0, .int 0]) := by rw [hE18, eup_same]
  refine VP_callN (k := 83) (mc := 9) (ms := 71) 33 C CA (kX3_init hg (by rfl) g19) rfl wk_1_44 wk_1_2 wk_1_43 (by decide +kernel) wk_1_194 rfl dX2_init_33 rfl (Nat.le_of_ble_eq_true rfl) (Nat.le_of_ble_eq_true rfl) ?_
  obtain ⟨E19, hE19⟩ : ∃ z : Nat → va_E, z = inE G E18 83 10 := ⟨_, rfl⟩
  refine VP_eqE hE19 ?_
  have f19 : E19 31 = .inr (3, [.ref (gb G + 32), .int 0, .int 0]) := by rw [hE19, inE_ne (by omega)]; exact f18
  have q19 : E19 32 = .inl (gcl G 2, 8, .inr (.inr (.inr (.inr a5)))) := by rw [hE19, inE_ne (by omega)]; exact q18
  have v20 : E19 83 = .inr (4, F_X3 G 83 (M0 83)) := by rw [hE19, inE_in (by omega) (by omega), ceR_X3 (by rfl)]
  refine VP_aastO 36 C dX2_init_36 (by omega) q19 (by omega) v20 (by decide) ?_
  obtain ⟨a6, ha6⟩ : ∃ z : Nat → Option Nat, z = va_up a5 (5 : Int32).toNatClampNeg (some (gb G + 83)) := ⟨_, rfl⟩
  rw [← ha6]
  obtain ⟨E20, hE20⟩ : ∃ z : Nat → va_E, z = eup E19 32 (.inl (gcl G 2, 8, .inr (.inr (.inr (.inr a6))))) := ⟨_, rfl⟩
  refine VP_eqE hE20 ?_
  have f20 : E20 31 = .inr (3, [.ref (gb G + 32), .int 0, .int 0]) := by rw [hE20, eup_ne (by omega)]; exact f19
  have q20 : E20 32 = .inl (gcl G 2, 8, .inr (.inr (.inr (.inr a6)))) := by rw [hE20, eup_same]
  refine VP_iinc 37 C [(1, .int 6), (0, .ref (gb G + 31))] 0 6 dX2_init_37 rfl (by decide) rfl rfl ?_
  refine VP_goto 40 15 C dX2_init_40 (by decide) ?_
  refine VP_iload_n 15 C 0 dX2_init_15 rfl ?_
  refine VP_aload_n 16 C 1 dX2_init_16 rfl ?_
  refine VP_get (v := .ref (gb G + 32)) 17 C dX2_init_17 (by omega) f20 rfl inX2 0 rfl wk_1_195 rfl rfl ?_
  refine VP_alenO 20 C dX2_init_20 (by omega) q20 ?_
  refine VP_icmp_ge 21 43 C dX2_init_21 (by decide) (fun q => absurd q (by decide)) (fun _ => ?_)
  refine VP_aload_n 24 C 1 dX2_init_24 rfl ?_
  refine VP_get (v := .ref (gb G + 32)) 25 C dX2_init_25 (by omega) f20 rfl inX2 0 rfl wk_1_195 rfl rfl ?_
  refine VP_iload_n 28 C 0 dX2_init_28 rfl ?_
  refine VP_new (fs := [.null, .null, .null, .int 0, .int 0, .int 0, .int 0, .int 0, .int 0, .int 0, .int 0]) 29 C dX2_init_29 (ci := 4) rfl inX3 tyX3 tyX3_ok wk_1_192 wk_1_41 wk_1_2 (fun j hj => by rcases (show j = 0 ∨ j = 1 ∨ j = 2 ∨ j = 3 ∨ j = 4 ∨ j = 5 ∨ j = 6 ∨ j = 7 ∨ j = 8 ∨ j = 9 ∨ j = 10 by omega) with rfl | rfl | rfl | rfl | rfl | rfl | rfl | rfl | rfl | rfl | rfl <;> rfl) (Nat.le_of_ble_eq_true rfl) (Nat.le_of_ble_eq_true rfl) ?_
  obtain ⟨E21, hE21⟩ : ∃ z : Nat → va_E, z = eup E20 93 (.inr (4, [.null, .null, .null, .int 0, .int 0, .int 0, .int 0, .int 0, .int 0, .int 0, .int 0])) := ⟨_, rfl⟩
  refine VP_eqE hE21 ?_
  have f21 : E21 31 = .inr (3, [.ref (gb G + 32), .int 0, .int 0]) := by rw [hE21, eup_ne (by omega)]; exact f20
  have q21 : E21 32 = .inl (gcl G 2, 8, .inr (.inr (.inr (.inr a6)))) := by rw [hE21, eup_ne (by omega)]; exact q20
  refine VP_dup 32 C dX2_init_32 rfl ?_
  have g22 : E21 93 = .inr (4, [.null, .null, .null, .int 0, .int 0, .int 0, .int 0, .int 0, .int 0, .int 0, .int 0]) := by rw [hE21, eup_same]
  refine VP_callN (k := 93) (mc := 9) (ms := 71) 33 C CA (kX3_init hg (by rfl) g22) rfl wk_1_44 wk_1_2 wk_1_43 (by decide +kernel) wk_1_194 rfl dX2_init_33 rfl (Nat.le_of_ble_eq_true rfl) (Nat.le_of_ble_eq_true rfl) ?_
  obtain ⟨E22, hE22⟩ : ∃ z : Nat → va_E, z = inE G E21 93 10 := ⟨_, rfl⟩
  refine VP_eqE hE22 ?_
  have f22 : E22 31 = .inr (3, [.ref (gb G + 32), .int 0, .int 0]) := by rw [hE22, inE_ne (by omega)]; exact f21
  have q22 : E22 32 = .inl (gcl G 2, 8, .inr (.inr (.inr (.inr a6)))) := by rw [hE22, inE_ne (by omega)]; exact q21
  have v23 : E22 93 = .inr (4, F_X3 G 93 (M0 93)) := by rw [hE22, inE_in (by omega) (by omega), ceR_X3 (by rfl)]
  refine VP_aastO 36 C dX2_init_36 (by omega) q22 (by omega) v23 (by decide) ?_
  obtain ⟨a7, ha7⟩ : ∃ z : Nat → Option Nat, z = va_up a6 (6 : Int32).toNatClampNeg (some (gb G + 93)) := ⟨_, rfl⟩
  rw [← ha7]
  obtain ⟨E23, hE23⟩ : ∃ z : Nat → va_E, z = eup E22 32 (.inl (gcl G 2, 8, .inr (.inr (.inr (.inr a7))))) := ⟨_, rfl⟩
  refine VP_eqE hE23 ?_
  have f23 : E23 31 = .inr (3, [.ref (gb G + 32), .int 0, .int 0]) := by rw [hE23, eup_ne (by omega)]; exact f22
  have q23 : E23 32 = .inl (gcl G 2, 8, .inr (.inr (.inr (.inr a7)))) := by rw [hE23, eup_same]
  refine VP_iinc 37 C [(1, .int 7), (0, .ref (gb G + 31))] 0 7 dX2_init_37 rfl (by decide) rfl rfl ?_
  refine VP_goto 40 15 C dX2_init_40 (by decide) ?_
  refine VP_iload_n 15 C 0 dX2_init_15 rfl ?_
  refine VP_aload_n 16 C 1 dX2_init_16 rfl ?_
  refine VP_get (v := .ref (gb G + 32)) 17 C dX2_init_17 (by omega) f23 rfl inX2 0 rfl wk_1_195 rfl rfl ?_
  refine VP_alenO 20 C dX2_init_20 (by omega) q23 ?_
  refine VP_icmp_ge 21 43 C dX2_init_21 (by decide) (fun q => absurd q (by decide)) (fun _ => ?_)
  refine VP_aload_n 24 C 1 dX2_init_24 rfl ?_
  refine VP_get (v := .ref (gb G + 32)) 25 C dX2_init_25 (by omega) f23 rfl inX2 0 rfl wk_1_195 rfl rfl ?_
  refine VP_iload_n 28 C 0 dX2_init_28 rfl ?_
  refine VP_new (fs := [.null, .null, .null, .int 0, .int 0, .int 0, .int 0, .int 0, .int 0, .int 0, .int 0]) 29 C dX2_init_29 (ci := 4) rfl inX3 tyX3 tyX3_ok wk_1_192 wk_1_41 wk_1_2 (fun j hj => by rcases (show j = 0 ∨ j = 1 ∨ j = 2 ∨ j = 3 ∨ j = 4 ∨ j = 5 ∨ j = 6 ∨ j = 7 ∨ j = 8 ∨ j = 9 ∨ j = 10 by omega) with rfl | rfl | rfl | rfl | rfl | rfl | rfl | rfl | rfl | rfl | rfl <;> rfl) (Nat.le_of_ble_eq_true rfl) (Nat.le_of_ble_eq_true rfl) ?_
  obtain ⟨E24, hE24⟩ : ∃ z : Nat → va_E, z = eup E23 103 (.inr (4, [.null, .null, .null, .int 0, .int 0, .int 0, .int 0, .int 0, .int 0, .int 0, .int 0])) := ⟨_, rfl⟩
  refine VP_eqE hE24 ?_
  have f24 : E24 31 = .inr (3, [.ref (gb G + 32), .int 0, .int 0]) := by rw [hE24, eup_ne (by omega)]; exact f23
  have q24 : E24 32 = .inl (gcl G 2, 8, .inr (.inr (.inr (.inr a7)))) := by rw [hE24, eup_ne (by omega)]; exact q23
  refine VP_dup 32 C dX2_init_32 rfl ?_
  have g25 : E24 103 = .inr (4, [.null, .null, .null, .int 0, .int 0, .int 0, .int 0, .int 0, .int 0, .int 0, .int 0]) := by rw [hE24, eup_same]
  refine VP_callN (k := 103) (mc := 9) (ms := 71) 33 C CA (kX3_init hg (by rfl) g25) rfl wk_1_44 wk_1_2 wk_1_43 (by decide +kernel) wk_1_194 rfl dX2_init_33 rfl (Nat.le_of_ble_eq_true rfl) (Nat.le_of_ble_eq_true rfl) ?_
  obtain ⟨E25, hE25⟩ : ∃ z : Nat → va_E, z = inE G E24 103 10 := ⟨_, rfl⟩
  refine VP_eqE hE25 ?_
  have f25 : E25 31 = .inr (3, [.ref (gb G + 32), .int 0, .int 0]) := by rw [hE25, inE_ne (by omega)]; exact f24
  have q25 : E25 32 = .inl (gcl G 2, 8, .inr (.inr (.inr (.inr a7)))) := by rw [hE25, inE_ne (by omega)]; exact q24
  have v26 : E25 103 = .inr (4, F_X3 G 103 (M0 103)) := by rw [hE25, inE_in (by omega) (by omega), ceR_X3 (by rfl)]
  refine VP_aastO 36 C dX2_init_36 (by omega) q25 (by omega) v26 (by decide) ?_
  obtain ⟨a8, ha8⟩ : ∃ z : Nat → Option Nat, z = va_up a7 (7 : Int32).toNatClampNeg (some (gb G + 103)) := ⟨_, rfl⟩
  rw [← ha8]
  obtain ⟨E26, hE26⟩ : ∃ z : Nat → va_E, z = eup E25 32 (.inl (gcl G 2, 8, .inr (.inr (.inr (.inr a8))))) := ⟨_, rfl⟩
  refine VP_eqE hE26 ?_
  have f26 : E26 31 = .inr (3, [.ref (gb G + 32), .int 0, .int 0]) := by rw [hE26, eup_ne (by omega)]; exact f25
  have q26 : E26 32 = .inl (gcl G 2, 8, .inr (.inr (.inr (.inr a8)))) := by rw [hE26, eup_same]
  refine VP_iinc 37 C [(1, .int 8), (0, .ref (gb G + 31))] 0 8 dX2_init_37 rfl (by decide) rfl rfl ?_
  refine VP_goto 40 15 C dX2_init_40 (by decide) ?_
  refine VP_iload_n 15 C 0 dX2_init_15 rfl ?_
  refine VP_aload_n 16 C 1 dX2_init_16 rfl ?_
  refine VP_get (v := .ref (gb G + 32)) 17 C dX2_init_17 (by omega) f26 rfl inX2 0 rfl wk_1_195 rfl rfl ?_
  refine VP_alenO 20 C dX2_init_20 (by omega) q26 ?_
  refine VP_icmp_ge 21 43 C dX2_init_21 (by decide) (fun _ => ?_) (fun q => Not.elim q (by decide))
  refine VP_retA 43 C hQ rfl (fun j hj H hat => ?_) (Nat.le_of_ble_eq_true rfl) (Nat.le_of_ble_eq_true rfl) dX2_init_43
  rcases (show j < 31 ∨ j = 31 ∨ j = 32 ∨ j = 33 ∨ j = 34 ∨ j = 35 ∨ j = 36 ∨ j = 37 ∨ j = 38 ∨ j = 39 ∨ j = 40 ∨ j = 41 ∨ j = 42 ∨ j = 43 ∨ j = 44 ∨ j = 45 ∨ j = 46 ∨ j = 47 ∨ j = 48 ∨ j = 49 ∨ j = 50 ∨ j = 51 ∨ j = 52 ∨ j = 53 ∨ j = 54 ∨ j = 55 ∨ j = 56 ∨ j = 57 ∨ j = 58 ∨ j = 59 ∨ j = 60 ∨ j = 61 ∨ j = 62 ∨ j = 63 ∨ j = 64 ∨ j = 65 ∨ j = 66 ∨ j = 67 ∨ j = 68 ∨ j = 69 ∨ j = 70 ∨ j = 71 ∨ j = 72 ∨ j = 73 ∨ j = 74 ∨ j = 75 ∨ j = 76 ∨ j = 77 ∨ j = 78 ∨ j = 79 ∨ j = 80 ∨ j = 81 ∨ j = 82 ∨ j = 83 ∨ j = 84 ∨ j = 85 ∨ j = 86 ∨ j = 87 ∨ j = 88 ∨ j = 89 ∨ j = 90 ∨ j = 91 ∨ j = 92 ∨ j = 93 ∨ j = 94 ∨ j = 95 ∨ j = 96 ∨ j = 97 ∨ j = 98 ∨ j = 99 ∨ j = 100 ∨ j = 101 ∨ j = 102 ∨ j = 103 ∨ j = 104 ∨ j = 105 ∨ j = 106 ∨ j = 107 ∨ j = 108 ∨ j = 109 ∨ j = 110 ∨ j = 111 ∨ j = 112 by omega) with h | rfl | rfl | rfl | rfl | rfl | rfl | rfl | rfl | rfl | rfl | rfl | rfl | rfl | rfl | rfl | rfl | rfl | rfl | rfl | rfl | rfl | rfl | rfl | rfl | rfl | rfl | rfl | rfl | rfl | rfl | rfl | rfl | rfl | rfl | rfl | rfl | rfl | rfl | rfl | rfl | rfl | rfl | rfl | rfl | rfl | rfl | rfl | rfl | rfl | rfl | rfl | rfl | rfl | rfl | rfl | rfl | rfl | rfl | rfl | rfl | rfl | rfl | rfl | rfl | rfl | rfl | rfl | rfl | rfl | rfl | rfl | rfl | rfl | rfl | rfl | rfl | rfl | rfl | rfl | rfl | rfl | rfl
  · refine cast (congrArg (fun e => va_at (gD G) vwCl (_, e) H) (Eq.symm ?_)) hat
    rw [inE_ne (by omega)]
    simp only [hE1, hE2, hE3, hE4, hE5, hE6, hE7, hE8, hE9, hE10, hE11, hE12, hE13, hE14, hE15, hE16, hE17, hE18, hE19, hE20, hE21, hE22, hE23, hE24, hE25, hE26]
    first | rw [eup_ne (by omega)] | rw [inE_ne (by omega)]
    first | rw [eup_ne (by omega)] | rw [inE_ne (by omega)]
    first | rw [eup_ne (by omega)] | rw [inE_ne (by omega)]
    first | rw [eup_ne (by omega)] | rw [inE_ne (by omega)]
    first | rw [eup_ne (by omega)] | rw [inE_ne (by omega)]
    first | rw [eup_ne (by omega)] | rw [inE_ne (by omega)]
    first | rw [eup_ne (by omega)] | rw [inE_ne (by omega)]
    first | rw [eup_ne (by omega)] | rw [inE_ne (by omega)]
    first | rw [eup_ne (by omega)] | rw [inE_ne (by omega)]
    first | rw [eup_ne (by omega)] | rw [inE_ne (by omega)]
    first | rw [eup_ne (by omega)] | rw [inE_ne (by omega)]
    first | rw [eup_ne (by omega)] | rw [inE_ne (by omega)]
    first | rw [eup_ne (by omega)] | rw [inE_ne (by omega)]
    first | rw [eup_ne (by omega)] | rw [inE_ne (by omega)]
    first | rw [eup_ne (by omega)] | rw [inE_ne (by omega)]
    first | rw [eup_ne (by omega)] | rw [inE_ne (by omega)]
    first | rw [eup_ne (by omega)] | rw [inE_ne (by omega)]
    first | rw [eup_ne (by omega)] | rw [inE_ne (by omega)]
    first | rw [eup_ne (by omega)] | rw [inE_ne (by omega)]
    first | rw [eup_ne (by omega)] | rw [inE_ne (by omega)]
    first | rw [eup_ne (by omega)] | rw [inE_ne (by omega)]
    first | rw [eup_ne (by omega)] | rw [inE_ne (by omega)]
    first | rw [eup_ne (by omega)] | rw [inE_ne (by omega)]
    first | rw [eup_ne (by omega)] | rw [inE_ne (by omega)]
    first | rw [eup_ne (by omega)] | rw [inE_ne (by omega)]
    first | rw [eup_ne (by omega)] | rw [inE_ne (by omega)]
  · refine cast (congrArg (fun e => va_at (gD G) vwCl (_, e) H) (Eq.symm ?_)) hat
    rw [inE_in (by omega) (by omega), f26, ceR_X2 hb]
    simp [F_X2, hg, M0, hb, lay, layL]
  · rw [q26] at hat
    rw [inE_in (by omega) (by omega), ceR_OA (by rfl)]
    show H[gb G + 32]? = some (vp_cell _ _)
    rw [show H[gb G + 32]? = some (vp_cell _ _) from hat, vp_cell_q, vp_cell_q]
    refine congrArg some (arrV_congr fun q hq => ?_)
    rcases (show q = 0 ∨ q = 1 ∨ q = 2 ∨ q = 3 ∨ q = 4 ∨ q = 5 ∨ q = 6 ∨ q = 7 by omega) with rfl | rfl | rfl | rfl | rfl | rfl | rfl | rfl <;> (simp only [ha0, ha1, ha2, ha3, ha4, ha5, ha6, ha7, ha8, hg]; rfl)
  · refine cast (congrArg (fun e => va_at (gD G) vwCl (_, e) H) (Eq.symm ?_)) hat
    rw [inE_in (by omega) (by omega)]
    simp only [hE1, hE2, hE3, hE4, hE5, hE6, hE7, hE8, hE9, hE10, hE11, hE12, hE13, hE14, hE15, hE16, hE17, hE18, hE19, hE20, hE21, hE22, hE23, hE24, hE25, hE26]
    simp [eup, inE]
  · refine cast (congrArg (fun e => va_at (gD G) vwCl (_, e) H) (Eq.symm ?_)) hat
    rw [inE_in (by omega) (by omega)]
    simp only [hE1, hE2, hE3, hE4, hE5, hE6, hE7, hE8, hE9, hE10, hE11, hE12, hE13, hE14, hE15, hE16, hE17, hE18, hE19, hE20, hE21, hE22, hE23, hE24, hE25, hE26]
    simp [eup, inE]
  · refine cast (congrArg (fun e => va_at (gD G) vwCl (_, e) H) (Eq.symm ?_)) hat
    rw [inE_in (by omega) (by omega)]
    simp only [hE1, hE2, hE3, hE4, hE5, hE6, hE7, hE8, hE9, hE10, hE11, hE12, hE13, hE14, hE15, hE16, hE17, hE18, hE19, hE20, hE21, hE22, hE23, hE24, hE25, hE26]
    simp [eup, inE]
  · refine cast (congrArg (fun e => va_at (gD G) vwCl (_, e) H) (Eq.symm ?_)) hat
    rw [inE_in (by omega) (by omega)]
    simp only [hE1, hE2, hE3, hE4, hE5, hE6, hE7, hE8, hE9, hE10, hE11, hE12, hE13, hE14, hE15, hE16, hE17, hE18, hE19, hE20, hE21, hE22, hE23, hE24, hE25, hE26]
    simp [eup, inE]
  · refine cast (congrArg (fun e => va_at (gD G) vwCl (_, e) H) (Eq.symm ?_)) hat
    rw [inE_in (by omega) (by omega)]
    simp only [hE1, hE2, hE3, hE4, hE5, hE6, hE7, hE8, hE9, hE10, hE11, hE12, hE13, hE14, hE15, hE16, hE17, hE18, hE19, hE20, hE21, hE22, hE23, hE24, hE25, hE26]
    simp [eup, inE]
  · refine cast (congrArg (fun e => va_at (gD G) vwCl (_, e) H) (Eq.symm ?_)) hat
    rw [inE_in (by omega) (by omega)]
    simp only [hE1, hE2, hE3, hE4, hE5, hE6, hE7, hE8, hE9, hE10, hE11, hE12, hE13, hE14, hE15, hE16, hE17, hE18, hE19, hE20, hE21, hE22, hE23, hE24, hE25, hE26]
    simp [eup, inE]
  · refine cast (congrArg (fun e => va_at (gD G) vwCl (_, e) H) (Eq.symm ?_)) hat
    rw [inE_in (by omega) (by omega)]
    simp only [hE1, hE2, hE3, hE4, hE5, hE6, hE7, hE8, hE9, hE10, hE11, hE12, hE13, hE14, hE15, hE16, hE17, hE18, hE19, hE20, hE21, hE22, hE23, hE24, hE25, hE26]
    simp [eup, inE]
  · refine cast (congrArg (fun e => va_at (gD G) vwCl (_, e) H) (Eq.symm ?_)) hat
    rw [inE_in (by omega) (by omega)]
    simp only [hE1, hE2, hE3, hE4, hE5, hE6, hE7, hE8, hE9, hE10, hE11, hE12, hE13, hE14, hE15, hE16, hE17, hE18, hE19, hE20, hE21, hE22, hE23, hE24, hE25, hE26]
    simp [eup, inE]
  · refine cast (congrArg (fun e => va_at (gD G) vwCl (_, e) H) (Eq.symm ?_)) hat
    rw [inE_in (by omega) (by omega)]
    simp only [hE1, hE2, hE3, hE4, hE5, hE6, hE7, hE8, hE9, hE10, hE11, hE12, hE13, hE14, hE15, hE16, hE17, hE18, hE19, hE20, hE21, hE22, hE23, hE24, hE25, hE26]
    simp [eup, inE]
  · refine cast (congrArg (fun e => va_at (gD G) vwCl (_, e) H) (Eq.symm ?_)) hat
    rw [inE_in (by omega) (by omega)]
    simp only [hE1, hE2, hE3, hE4, hE5, hE6, hE7, hE8, hE9, hE10, hE11, hE12, hE13, hE14, hE15, hE16, hE17, hE18, hE19, hE20, hE21, hE22, hE23, hE24, hE25, hE26]
    simp [eup, inE]
  · refine cast (congrArg (fun e => va_at (gD G) vwCl (_, e) H) (Eq.symm ?_)) hat
    rw [inE_in (by omega) (by omega)]
    simp only [hE1, hE2, hE3, hE4, hE5, hE6, hE7, hE8, hE9, hE10, hE11, hE12, hE13, hE14, hE15, hE16, hE17, hE18, hE19, hE20, hE21, hE22, hE23, hE24, hE25, hE26]
    simp [eup, inE]
  · refine cast (congrArg (fun e => va_at (gD G) vwCl (_, e) H) (Eq.symm ?_)) hat
    rw [inE_in (by omega) (by omega)]
    simp only [hE1, hE2, hE3, hE4, hE5, hE6, hE7, hE8, hE9, hE10, hE11, hE12, hE13, hE14, hE15, hE16, hE17, hE18, hE19, hE20, hE21, hE22, hE23, hE24, hE25, hE26]
    simp [eup, inE]
  · refine cast (congrArg (fun e => va_at (gD G) vwCl (_, e) H) (Eq.symm ?_)) hat
    rw [inE_in (by omega) (by omega)]
    simp only [hE1, hE2, hE3, hE4, hE5, hE6, hE7, hE8, hE9, hE10, hE11, hE12, hE13, hE14, hE15, hE16, hE17, hE18, hE19, hE20, hE21, hE22, hE23, hE24, hE25, hE26]
    simp [eup, inE]
  · refine cast (congrArg (fun e => va_at (gD G) vwCl (_, e) H) (Eq.symm ?_)) hat
    rw [inE_in (by omega) (by omega)]
    simp only [hE1, hE2, hE3, hE4, hE5, hE6, hE7, hE8, hE9, hE10, hE11, hE12, hE13, hE14, hE15, hE16, hE17, hE18, hE19, hE20, hE21, hE22, hE23, hE24, hE25, hE26]
    simp [eup, inE]
  · refine cast (congrArg (fun e => va_at (gD G) vwCl (_, e) H) (Eq.symm ?_)) hat
    rw [inE_in (by omega) (by omega)]
    simp only [hE1, hE2, hE3, hE4, hE5, hE6, hE7, hE8, hE9, hE10, hE11, hE12, hE13, hE14, hE15, hE16, hE17, hE18, hE19, hE20, hE21, hE22, hE23, hE24, hE25, hE26]
    simp [eup, inE]
  · refine cast (congrArg (fun e => va_at (gD G) vwCl (_, e) H) (Eq.symm ?_)) hat
    rw [inE_in (by omega) (by omega)]
    simp only [hE1, hE2, hE3, hE4, hE5, hE6, hE7, hE8, hE9, hE10, hE11, hE12, hE13, hE14, hE15, hE16, hE17, hE18, hE19, hE20, hE21, hE22, hE23, hE24, hE25, hE26]
    simp [eup, inE]
  · refine cast (congrArg (fun e => va_at (gD G) vwCl (_, e) H) (Eq.symm ?_)) hat
    rw [inE_in (by omega) (by omega)]
    simp only [hE1, hE2, hE3, hE4, hE5, hE6, hE7, hE8, hE9, hE10, hE11, hE12, hE13, hE14, hE15, hE16, hE17, hE18, hE19, hE20, hE21, hE22, hE23, hE24, hE25, hE26]
    simp [eup, inE]
  · refine cast (congrArg (fun e => va_at (gD G) vwCl (_, e) H) (Eq.symm ?_)) hat
    rw [inE_in (by omega) (by omega)]
    simp only [hE1, hE2, hE3, hE4, hE5, hE6, hE7, hE8, hE9, hE10, hE11, hE12, hE13, hE14, hE15, hE16, hE17, hE18, hE19, hE20, hE21, hE22, hE23, hE24, hE25, hE26]
    simp [eup, inE]
  · refine cast (congrArg (fun e => va_at (gD G) vwCl (_, e) H) (Eq.symm ?_)) hat
    rw [inE_in (by omega) (by omega)]
    simp only [hE1, hE2, hE3, hE4, hE5, hE6, hE7, hE8, hE9, hE10, hE11, hE12, hE13, hE14, hE15, hE16, hE17, hE18, hE19, hE20, hE21, hE22, hE23, hE24, hE25, hE26]
    simp [eup, inE]
  · refine cast (congrArg (fun e => va_at (gD G) vwCl (_, e) H) (Eq.symm ?_)) hat
    rw [inE_in (by omega) (by omega)]
    simp only [hE1, hE2, hE3, hE4, hE5, hE6, hE7, hE8, hE9, hE10, hE11, hE12, hE13, hE14, hE15, hE16, hE17, hE18, hE19, hE20, hE21, hE22, hE23, hE24, hE25, hE26]
    simp [eup, inE]
  · refine cast (congrArg (fun e => va_at (gD G) vwCl (_, e) H) (Eq.symm ?_)) hat
    rw [inE_in (by omega) (by omega)]
    simp only [hE1, hE2, hE3, hE4, hE5, hE6, hE7, hE8, hE9, hE10, hE11, hE12, hE13, hE14, hE15, hE16, hE17, hE18, hE19, hE20, hE21, hE22, hE23, hE24, hE25, hE26]
    simp [eup, inE]
  · refine cast (congrArg (fun e => va_at (gD G) vwCl (_, e) H) (Eq.symm ?_)) hat
    rw [inE_in (by omega) (by omega)]
    simp only [hE1, hE2, hE3, hE4, hE5, hE6, hE7, hE8, hE9, hE10, hE11, hE12, hE13, hE14, hE15, hE16, hE17, hE18, hE19, hE20, hE21, hE22, hE23, hE24, hE25, hE26]
    simp [eup, inE]
  · refine cast (congrArg (fun e => va_at (gD G) vwCl (_, e) H) (Eq.symm ?_)) hat
    rw [inE_in (by omega) (by omega)]
    simp only [hE1, hE2, hE3, hE4, hE5, hE6, hE7, hE8, hE9, hE10, hE11, hE12, hE13, hE14, hE15, hE16, hE17, hE18, hE19, hE20, hE21, hE22, hE23, hE24, hE25, hE26]
    simp [eup, inE]
  · refine cast (congrArg (fun e => va_at (gD G) vwCl (_, e) H) (Eq.symm ?_)) hat
    rw [inE_in (by omega) (by omega)]
    simp only [hE1, hE2, hE3, hE4, hE5, hE6, hE7, hE8, hE9, hE10, hE11, hE12, hE13, hE14, hE15, hE16, hE17, hE18, hE19, hE20, hE21, hE22, hE23, hE24, hE25, hE26]
    simp [eup, inE]
  · refine cast (congrArg (fun e => va_at (gD G) vwCl (_, e) H) (Eq.symm ?_)) hat
    rw [inE_in (by omega) (by omega)]
    simp only [hE1, hE2, hE3, hE4, hE5, hE6, hE7, hE8, hE9, hE10, hE11, hE12, hE13, hE14, hE15, hE16, hE17, hE18, hE19, hE20, hE21, hE22, hE23, hE24, hE25, hE26]
    simp [eup, inE]
  · refine cast (congrArg (fun e => va_at (gD G) vwCl (_, e) H) (Eq.symm ?_)) hat
    rw [inE_in (by omega) (by omega)]
    simp only [hE1, hE2, hE3, hE4, hE5, hE6, hE7, hE8, hE9, hE10, hE11, hE12, hE13, hE14, hE15, hE16, hE17, hE18, hE19, hE20, hE21, hE22, hE23, hE24, hE25, hE26]
    simp [eup, inE]
  · refine cast (congrArg (fun e => va_at (gD G) vwCl (_, e) H) (Eq.symm ?_)) hat
    rw [inE_in (by omega) (by omega)]
    simp only [hE1, hE2, hE3, hE4, hE5, hE6, hE7, hE8, hE9, hE10, hE11, hE12, hE13, hE14, hE15, hE16, hE17, hE18, hE19, hE20, hE21, hE22, hE23, hE24, hE25, hE26]
    simp [eup, inE]
  · refine cast (congrArg (fun e => va_at (gD G) vwCl (_, e) H) (Eq.symm ?_)) hat
    rw [inE_in (by omega) (by omega)]
    simp only [hE1, hE2, hE3, hE4, hE5, hE6, hE7, hE8, hE9, hE10, hE11, hE12, hE13, hE14, hE15, hE16, hE17, hE18, hE19, hE20, hE21, hE22, hE23, hE24, hE25, hE26]
    simp [eup, inE]
  · refine cast (congrArg (fun e => va_at (gD G) vwCl (_, e) H) (Eq.symm ?_)) hat
    rw [inE_in (by omega) (by omega)]
    simp only [hE1, hE2, hE3, hE4, hE5, hE6, hE7, hE8, hE9, hE10, hE11, hE12, hE13, hE14, hE15, hE16, hE17, hE18, hE19, hE20, hE21, hE22, hE23, hE24, hE25, hE26]
    simp [eup, inE]
  · refine cast (congrArg (fun e => va_at (gD G) vwCl (_, e) H) (Eq.symm ?_)) hat
    rw [inE_in (by omega) (by omega)]
    simp only [hE1, hE2, hE3, hE4, hE5, hE6, hE7, hE8, hE9, hE10, hE11, hE12, hE13, hE14, hE15, hE16, hE17, hE18, hE19, hE20, hE21, hE22, hE23, hE24, hE25, hE26]
    simp [eup, inE]
  · refine cast (congrArg (fun e => va_at (gD G) vwCl (_, e) H) (Eq.symm ?_)) hat
    rw [inE_in (by omega) (by omega)]
    simp only [hE1, hE2, hE3, hE4, hE5, hE6, hE7, hE8, hE9, hE10, hE11, hE12, hE13, hE14, hE15, hE16, hE17, hE18, hE19, hE20, hE21, hE22, hE23, hE24, hE25, hE26]
    simp [eup, inE]
  · refine cast (congrArg (fun e => va_at (gD G) vwCl (_, e) H) (Eq.symm ?_)) hat
    rw [inE_in (by omega) (by omega)]
    simp only [hE1, hE2, hE3, hE4, hE5, hE6, hE7, hE8, hE9, hE10, hE11, hE12, hE13, hE14, hE15, hE16, hE17, hE18, hE19, hE20, hE21, hE22, hE23, hE24, hE25, hE26]
    simp [eup, inE]
  · refine cast (congrArg (fun e => va_at (gD G) vwCl (_, e) H) (Eq.symm ?_)) hat
    rw [inE_in (by omega) (by omega)]
    simp only [hE1, hE2, hE3, hE4, hE5, hE6, hE7, hE8, hE9, hE10, hE11, hE12, hE13, hE14, hE15, hE16, hE17, hE18, hE19, hE20, hE21, hE22, hE23, hE24, hE25, hE26]
    simp [eup, inE]
  · refine cast (congrArg (fun e => va_at (gD G) vwCl (_, e) H) (Eq.symm ?_)) hat
    rw [inE_in (by omega) (by omega)]
    simp only [hE1, hE2, hE3, hE4, hE5, hE6, hE7, hE8, hE9, hE10, hE11, hE12, hE13, hE14, hE15, hE16, hE17, hE18, hE19, hE20, hE21, hE22, hE23, hE24, hE25, hE26]
    simp [eup, inE]
  · refine cast (congrArg (fun e => va_at (gD G) vwCl (_, e) H) (Eq.symm ?_)) hat
    rw [inE_in (by omega) (by omega)]
    simp only [hE1, hE2, hE3, hE4, hE5, hE6, hE7, hE8, hE9, hE10, hE11, hE12, hE13, hE14, hE15, hE16, hE17, hE18, hE19, hE20, hE21, hE22, hE23, hE24, hE25, hE26]
    simp [eup, inE]
  · refine cast (congrArg (fun e => va_at (gD G) vwCl (_, e) H) (Eq.symm ?_)) hat
    rw [inE_in (by omega) (by omega)]
    simp only [hE1, hE2, hE3, hE4, hE5, hE6, hE7, hE8, hE9, hE10, hE11, hE12, hE13, hE14, hE15, hE16, hE17, hE18, hE19, hE20, hE21, hE22, hE23, hE24, hE25, hE26]
    simp [eup, inE]
  · refine cast (congrArg (fun e => va_at (gD G) vwCl (_, e) H) (Eq.symm ?_)) hat
    rw [inE_in (by omega) (by omega)]
    simp only [hE1, hE2, hE3, hE4, hE5, hE6, hE7, hE8, hE9, hE10, hE11, hE12, hE13, hE14, hE15, hE16, hE17, hE18, hE19, hE20, hE21, hE22, hE23, hE24, hE25, hE26]
    simp [eup, inE]
  · refine cast (congrArg (fun e => va_at (gD G) vwCl (_, e) H) (Eq.symm ?_)) hat
    rw [inE_in (by omega) (by omega)]
    simp only [hE1, hE2, hE3, hE4, hE5, hE6, hE7, hE8, hE9, hE10, hE11, hE12, hE13, hE14, hE15, hE16, hE17, hE18, hE19, hE20, hE21, hE22, hE23, hE24, hE25, hE26]
    simp [eup, inE]
  · refine cast (congrArg (fun e => va_at (gD G) vwCl (_, e) H) (Eq.symm ?_)) hat
    rw [inE_in (by omega) (by omega)]
    simp only [hE1, hE2, hE3, hE4, hE5, hE6, hE7, hE8, hE9, hE10, hE11, hE12, hE13, hE14, hE15, hE16, hE17, hE18, hE19, hE20, hE21, hE22, hE23, hE24, hE25, hE26]
    simp [eup, inE]
  · refine cast (congrArg (fun e => va_at (gD G) vwCl (_, e) H) (Eq.symm ?_)) hat
    rw [inE_in (by omega) (by omega)]
    simp only [hE1, hE2, hE3, hE4, hE5, hE6, hE7, hE8, hE9, hE10, hE11, hE12, hE13, hE14, hE15, hE16, hE17, hE18, hE19, hE20, hE21, hE22, hE23, hE24, hE25, hE26]
    simp [eup, inE]
  · refine cast (congrArg (fun e => va_at (gD G) vwCl (_, e) H) (Eq.symm ?_)) hat
    rw [inE_in (by omega) (by omega)]
    simp only [hE1, hE2, hE3, hE4, hE5, hE6, hE7, hE8, hE9, hE10, hE11, hE12, hE13, hE14, hE15, hE16, hE17, hE18, hE19, hE20, hE21, hE22, hE23, hE24, hE25, hE26]
    simp [eup, inE]
  · refine cast (congrArg (fun e => va_at (gD G) vwCl (_, e) H) (Eq.symm ?_)) hat
    rw [inE_in (by omega) (by omega)]
    simp only [hE1, hE2, hE3, hE4, hE5, hE6, hE7, hE8, hE9, hE10, hE11, hE12, hE13, hE14, hE15, hE16, hE17, hE18, hE19, hE20, hE21, hE22, hE23, hE24, hE25, hE26]
    simp [eup, inE]
  · refine cast (congrArg (fun e => va_at (gD G) vwCl (_, e) H) (Eq.symm ?_)) hat
    rw [inE_in (by omega) (by omega)]
    simp only [hE1, hE2, hE3, hE4, hE5, hE6, hE7, hE8, hE9, hE10, hE11, hE12, hE13, hE14, hE15, hE16, hE17, hE18, hE19, hE20, hE21, hE22, hE23, hE24, hE25, hE26]
    simp [eup, inE]
  · refine cast (congrArg (fun e => va_at (gD G) vwCl (_, e) H) (Eq.symm ?_)) hat
    rw [inE_in (by omega) (by omega)]
    simp only [hE1, hE2, hE3, hE4, hE5, hE6, hE7, hE8, hE9, hE10, hE11, hE12, hE13, hE14, hE15, hE16, hE17, hE18, hE19, hE20, hE21, hE22, hE23, hE24, hE25, hE26]
    simp [eup, inE]
  · refine cast (congrArg (fun e => va_at (gD G) vwCl (_, e) H) (Eq.symm ?_)) hat
    rw [inE_in (by omega) (by omega)]
    simp only [hE1, hE2, hE3, hE4, hE5, hE6, hE7, hE8, hE9, hE10, hE11, hE12, hE13, hE14, hE15, hE16, hE17, hE18, hE19, hE20, hE21, hE22, hE23, hE24, hE25, hE26]
    simp [eup, inE]
  · refine cast (congrArg (fun e => va_at (gD G) vwCl (_, e) H) (Eq.symm ?_)) hat
    rw [inE_in (by omega) (by omega)]
    simp only [hE1, hE2, hE3, hE4, hE5, hE6, hE7, hE8, hE9, hE10, hE11, hE12, hE13, hE14, hE15, hE16, hE17, hE18, hE19, hE20, hE21, hE22, hE23, hE24, hE25, hE26]
    simp [eup, inE]
  · refine cast (congrArg (fun e => va_at (gD G) vwCl (_, e) H) (Eq.symm ?_)) hat
    rw [inE_in (by omega) (by omega)]
    simp only [hE1, hE2, hE3, hE4, hE5, hE6, hE7, hE8, hE9, hE10, hE11, hE12, hE13, hE14, hE15, hE16, hE17, hE18, hE19, hE20, hE21, hE22, hE23, hE24, hE25, hE26]
    simp [eup, inE]
  · refine cast (congrArg (fun e => va_at (gD G) vwCl (_, e) H) (Eq.symm ?_)) hat
    rw [inE_in (by omega) (by omega)]
    simp only [hE1, hE2, hE3, hE4, hE5, hE6, hE7, hE8, hE9, hE10, hE11, hE12, hE13, hE14, hE15, hE16, hE17, hE18, hE19, hE20, hE21, hE22, hE23, hE24, hE25, hE26]
    simp [eup, inE]
  · refine cast (congrArg (fun e => va_at (gD G) vwCl (_, e) H) (Eq.symm ?_)) hat
    rw [inE_in (by omega) (by omega)]
    simp only [hE1, hE2, hE3, hE4, hE5, hE6, hE7, hE8, hE9, hE10, hE11, hE12, hE13, hE14, hE15, hE16, hE17, hE18, hE19, hE20, hE21, hE22, hE23, hE24, hE25, hE26]
    simp [eup, inE]
  · refine cast (congrArg (fun e => va_at (gD G) vwCl (_, e) H) (Eq.symm ?_)) hat
    rw [inE_in (by omega) (by omega)]
    simp only [hE1, hE2, hE3, hE4, hE5, hE6, hE7, hE8, hE9, hE10, hE11, hE12, hE13, hE14, hE15, hE16, hE17, hE18, hE19, hE20, hE21, hE22, hE23, hE24, hE25, hE26]
    simp [eup, inE]
  · refine cast (congrArg (fun e => va_at (gD G) vwCl (_, e) H) (Eq.symm ?_)) hat
    rw [inE_in (by omega) (by omega)]
    simp only [hE1, hE2, hE3, hE4, hE5, hE6, hE7, hE8, hE9, hE10, hE11, hE12, hE13, hE14, hE15, hE16, hE17, hE18, hE19, hE20, hE21, hE22, hE23, hE24, hE25, hE26]
    simp [eup, inE]
  · refine cast (congrArg (fun e => va_at (gD G) vwCl (_, e) H) (Eq.symm ?_)) hat
    rw [inE_in (by omega) (by omega)]
    simp only [hE1, hE2, hE3, hE4, hE5, hE6, hE7, hE8, hE9, hE10, hE11, hE12, hE13, hE14, hE15, hE16, hE17, hE18, hE19, hE20, hE21, hE22, hE23, hE24, hE25, hE26]
    simp [eup, inE]
  · refine cast (congrArg (fun e => va_at (gD G) vwCl (_, e) H) (Eq.symm ?_)) hat
    rw [inE_in (by omega) (by omega)]
    simp only [hE1, hE2, hE3, hE4, hE5, hE6, hE7, hE8, hE9, hE10, hE11, hE12, hE13, hE14, hE15, hE16, hE17, hE18, hE19, hE20, hE21, hE22, hE23, hE24, hE25, hE26]
    simp [eup, inE]
  · refine cast (congrArg (fun e => va_at (gD G) vwCl (_, e) H) (Eq.symm ?_)) hat
    rw [inE_in (by omega) (by omega)]
    simp only [hE1, hE2, hE3, hE4, hE5, hE6, hE7, hE8, hE9, hE10, hE11, hE12, hE13, hE14, hE15, hE16, hE17, hE18, hE19, hE20, hE21, hE22, hE23, hE24, hE25, hE26]
    simp [eup, inE]
  · refine cast (congrArg (fun e => va_at (gD G) vwCl (_, e) H) (Eq.symm ?_)) hat
    rw [inE_in (by omega) (by omega)]
    simp only [hE1, hE2, hE3, hE4, hE5, hE6, hE7, hE8, hE9, hE10, hE11, hE12, hE13, hE14, hE15, hE16, hE17, hE18, hE19, hE20, hE21, hE22, hE23, hE24, hE25, hE26]
    simp [eup, inE]
  · refine cast (congrArg (fun e => va_at (gD G) vwCl (_, e) H) (Eq.symm ?_)) hat
    rw [inE_in (by omega) (by omega)]
    simp only [hE1, hE2, hE3, hE4, hE5, hE6, hE7, hE8, hE9, hE10, hE11, hE12, hE13, hE14, hE15, hE16, hE17, hE18, hE19, hE20, hE21, hE22, hE23, hE24, hE25, hE26]
    simp [eup, inE]
  · refine cast (congrArg (fun e => va_at (gD G) vwCl (_, e) H) (Eq.symm ?_)) hat
    rw [inE_in (by omega) (by omega)]
    simp only [hE1, hE2, hE3, hE4, hE5, hE6, hE7, hE8, hE9, hE10, hE11, hE12, hE13, hE14, hE15, hE16, hE17, hE18, hE19, hE20, hE21, hE22, hE23, hE24, hE25, hE26]
    simp [eup, inE]
  · refine cast (congrArg (fun e => va_at (gD G) vwCl (_, e) H) (Eq.symm ?_)) hat
    rw [inE_in (by omega) (by omega)]
    simp only [hE1, hE2, hE3, hE4, hE5, hE6, hE7, hE8, hE9, hE10, hE11, hE12, hE13, hE14, hE15, hE16, hE17, hE18, hE19, hE20, hE21, hE22, hE23, hE24, hE25, hE26]
    simp [eup, inE]
  · refine cast (congrArg (fun e => va_at (gD G) vwCl (_, e) H) (Eq.symm ?_)) hat
    rw [inE_in (by omega) (by omega)]
    simp only [hE1, hE2, hE3, hE4, hE5, hE6, hE7, hE8, hE9, hE10, hE11, hE12, hE13, hE14, hE15, hE16, hE17, hE18, hE19, hE20, hE21, hE22, hE23, hE24, hE25, hE26]
    simp [eup, inE]
  · refine cast (congrArg (fun e => va_at (gD G) vwCl (_, e) H) (Eq.symm ?_)) hat
    rw [inE_in (by omega) (by omega)]
    simp only [hE1, hE2, hE3, hE4, hE5, hE6, hE7, hE8, hE9, hE10, hE11, hE12, hE13, hE14, hE15, hE16, hE17, hE18, hE19, hE20, hE21, hE22, hE23, hE24, hE25, hE26]
    simp [eup, inE]
  · refine cast (congrArg (fun e => va_at (gD G) vwCl (_, e) H) (Eq.symm ?_)) hat
    rw [inE_in (by omega) (by omega)]
    simp only [hE1, hE2, hE3, hE4, hE5, hE6, hE7, hE8, hE9, hE10, hE11, hE12, hE13, hE14, hE15, hE16, hE17, hE18, hE19, hE20, hE21, hE22, hE23, hE24, hE25, hE26]
    simp [eup, inE]
  · refine cast (congrArg (fun e => va_at (gD G) vwCl (_, e) H) (Eq.symm ?_)) hat
    rw [inE_in (by omega) (by omega)]
    simp only [hE1, hE2, hE3, hE4, hE5, hE6, hE7, hE8, hE9, hE10, hE11, hE12, hE13, hE14, hE15, hE16, hE17, hE18, hE19, hE20, hE21, hE22, hE23, hE24, hE25, hE26]
    simp [eup, inE]
  · refine cast (congrArg (fun e => va_at (gD G) vwCl (_, e) H) (Eq.symm ?_)) hat
    rw [inE_in (by omega) (by omega)]
    simp only [hE1, hE2, hE3, hE4, hE5, hE6, hE7, hE8, hE9, hE10, hE11, hE12, hE13, hE14, hE15, hE16, hE17, hE18, hE19, hE20, hE21, hE22, hE23, hE24, hE25, hE26]
    simp [eup, inE]
  · refine cast (congrArg (fun e => va_at (gD G) vwCl (_, e) H) (Eq.symm ?_)) hat
    rw [inE_in (by omega) (by omega)]
    simp only [hE1, hE2, hE3, hE4, hE5, hE6, hE7, hE8, hE9, hE10, hE11, hE12, hE13, hE14, hE15, hE16, hE17, hE18, hE19, hE20, hE21, hE22, hE23, hE24, hE25, hE26]
    simp [eup, inE]
  · refine cast (congrArg (fun e => va_at (gD G) vwCl (_, e) H) (Eq.symm ?_)) hat
    rw [inE_in (by omega) (by omega)]
    simp only [hE1, hE2, hE3, hE4, hE5, hE6, hE7, hE8, hE9, hE10, hE11, hE12, hE13, hE14, hE15, hE16, hE17, hE18, hE19, hE20, hE21, hE22, hE23, hE24, hE25, hE26]
    simp [eup, inE]
  · refine cast (congrArg (fun e => va_at (gD G) vwCl (_, e) H) (Eq.symm ?_)) hat
    rw [inE_in (by omega) (by omega)]
    simp only [hE1, hE2, hE3, hE4, hE5, hE6, hE7, hE8, hE9, hE10, hE11, hE12, hE13, hE14, hE15, hE16, hE17, hE18, hE19, hE20, hE21, hE22, hE23, hE24, hE25, hE26]
    simp [eup, inE]
  · refine cast (congrArg (fun e => va_at (gD G) vwCl (_, e) H) (Eq.symm ?_)) hat
    rw [inE_in (by omega) (by omega)]
    simp only [hE1, hE2, hE3, hE4, hE5, hE6, hE7, hE8, hE9, hE10, hE11, hE12, hE13, hE14, hE15, hE16, hE17, hE18, hE19, hE20, hE21, hE22, hE23, hE24, hE25, hE26]
    simp [eup, inE]
  · refine cast (congrArg (fun e => va_at (gD G) vwCl (_, e) H) (Eq.symm ?_)) hat
    rw [inE_in (by omega) (by omega)]
    simp only [hE1, hE2, hE3, hE4, hE5, hE6, hE7, hE8, hE9, hE10, hE11, hE12, hE13, hE14, hE15, hE16, hE17, hE18, hE19, hE20, hE21, hE22, hE23, hE24, hE25, hE26]
    simp [eup, inE]
  · refine cast (congrArg (fun e => va_at (gD G) vwCl (_, e) H) (Eq.symm ?_)) hat
    rw [inE_in (by omega) (by omega)]
    simp only [hE1, hE2, hE3, hE4, hE5, hE6, hE7, hE8, hE9, hE10, hE11, hE12, hE13, hE14, hE15, hE16, hE17, hE18, hE19, hE20, hE21, hE22, hE23, hE24, hE25, hE26]
    simp [eup, inE]
  · refine cast (congrArg (fun e => va_at (gD G) vwCl (_, e) H) (Eq.symm ?_)) hat
    rw [inE_in (by omega) (by omega)]
    simp only [hE1, hE2, hE3, hE4, hE5, hE6, hE7, hE8, hE9, hE10, hE11, hE12, hE13, hE14, hE15, hE16, hE17, hE18, hE19, hE20, hE21, hE22, hE23, hE24, hE25, hE26]
    simp [eup, inE]
  · refine cast (congrArg (fun e => va_at (gD G) vwCl (_, e) H) (Eq.symm ?_)) hat
    rw [inE_in (by omega) (by omega)]
    simp only [hE1, hE2, hE3, hE4, hE5, hE6, hE7, hE8, hE9, hE10, hE11, hE12, hE13, hE14, hE15, hE16, hE17, hE18, hE19, hE20, hE21, hE22, hE23, hE24, hE25, hE26]
    simp [eup, inE]
  · refine cast (congrArg (fun e => va_at (gD G) vwCl (_, e) H) (Eq.symm ?_)) hat
    rw [inE_in (by omega) (by omega)]
    simp only [hE1, hE2, hE3, hE4, hE5, hE6, hE7, hE8, hE9, hE10, hE11, hE12, hE13, hE14, hE15, hE16, hE17, hE18, hE19, hE20, hE21, hE22, hE23, hE24, hE25, hE26]
    simp [eup, inE]
  · refine cast (congrArg (fun e => va_at (gD G) vwCl (_, e) H) (Eq.symm ?_)) hat
    rw [inE_in (by omega) (by omega)]
    simp only [hE1, hE2, hE3, hE4, hE5, hE6, hE7, hE8, hE9, hE10, hE11, hE12, hE13, hE14, hE15, hE16, hE17, hE18, hE19, hE20, hE21, hE22, hE23, hE24, hE25, hE26]
    simp [eup, inE]
  · refine cast (congrArg (fun e => va_at (gD G) vwCl (_, e) H) (Eq.symm ?_)) hat
    rw [inE_in (by omega) (by omega)]
    simp only [hE1, hE2, hE3, hE4, hE5, hE6, hE7, hE8, hE9, hE10, hE11, hE12, hE13, hE14, hE15, hE16, hE17, hE18, hE19, hE20, hE21, hE22, hE23, hE24, hE25, hE26]
    simp [eup, inE]
  · refine cast (congrArg (fun e => va_at (gD G) vwCl (_, e) H) (Eq.symm ?_)) hat
    rw [inE_in (by omega) (by omega)]
    simp only [hE1, hE2, hE3, hE4, hE5, hE6, hE7, hE8, hE9, hE10, hE11, hE12, hE13, hE14, hE15, hE16, hE17, hE18, hE19, hE20, hE21, hE22, hE23, hE24, hE25, hE26]
    simp [eup, inE]
  · refine cast (congrArg (fun e => va_at (gD G) vwCl (_, e) H) (Eq.symm ?_)) hat
    rw [inE_in (by omega) (by omega)]
    simp only [hE1, hE2, hE3, hE4, hE5, hE6, hE7, hE8, hE9, hE10, hE11, hE12, hE13, hE14, hE15, hE16, hE17, hE18, hE19, hE20, hE21, hE22, hE23, hE24, hE25, hE26]
    simp [eup, inE]
  · refine cast (congrArg (fun e => va_at (gD G) vwCl (_, e) H) (Eq.symm ?_)) hat
    rw [inE_in (by omega) (by omega)]
    simp only [hE1, hE2, hE3, hE4, hE5, hE6, hE7, hE8, hE9, hE10, hE11, hE12, hE13, hE14, hE15, hE16, hE17, hE18, hE19, hE20, hE21, hE22, hE23, hE24, hE25, hE26]
    simp [eup, inE]
  · refine cast (congrArg (fun e => va_at (gD G) vwCl (_, e) H) (Eq.symm ?_)) hat
    rw [inE_in (by omega) (by omega)]
    simp only [hE1, hE2, hE3, hE4, hE5, hE6, hE7, hE8, hE9, hE10, hE11, hE12, hE13, hE14, hE15, hE16, hE17, hE18, hE19, hE20, hE21, hE22, hE23, hE24, hE25, hE26]
    simp [eup, inE]
  · refine cast (congrArg (fun e => va_at (gD G) vwCl (_, e) H) (Eq.symm ?_)) hat
    rw [inE_in (by omega) (by omega)]
    simp only [hE1, hE2, hE3, hE4, hE5, hE6, hE7, hE8, hE9, hE10, hE11, hE12, hE13, hE14, hE15, hE16, hE17, hE18, hE19, hE20, hE21, hE22, hE23, hE24, hE25, hE26]
    simp [eup, inE]
  · refine cast (congrArg (fun e => va_at (gD G) vwCl (_, e) H) (Eq.symm ?_)) hat
    rw [inE_in (by omega) (by omega)]
    simp only [hE1, hE2, hE3, hE4, hE5, hE6, hE7, hE8, hE9, hE10, hE11, hE12, hE13, hE14, hE15, hE16, hE17, hE18, hE19, hE20, hE21, hE22, hE23, hE24, hE25, hE26]
    simp [eup, inE]
def rmIX11 : Room := { frames := 4, cells := 118, slots := 1191, locals := 73 }
set_option maxHeartbeats 4000000 in
theorem kX11_init {G : GG} {l : Launch} (hg : ∀ k, gad G k = gb G + k) (hb : lay 0 = 0) {E : Nat → va_E} (hk0 : E 0 = .inr (10, [.null, .null, .null, .int 0, .null, .null, .null, .null, .int 0, .int 0, .int 0, .int 0])) : ConE G l yX11_init cX11_init 1 rmIX11 0 E (inE G E 0 119) 1 119 118 1191 := by
  refine conE_of pnX11 rfl (by decide) (fun κ C CI CA hQ => ?_)
  refine VP_aload_n 0 C 0 dX11_init_0 rfl ?_
  refine VP_obj 1 C dX11_init_1 wk_1_37 wk_1_38 wk_1_39 rfl ?_
  refine VP_aload_n 4 C 0 dX11_init_4 rfl ?_
  refine VP_new (fs := [.null, .null, .null, .int 0, .int 0, .int 0, .int 0, .int 0, .int 0, .int 0, .int 0]) 5 C dX11_init_5 (ci := 4) rfl inX3 tyX3 tyX3_ok wk_1_40 wk_1_41 wk_1_2 (fun j hj => by rcases (show j = 0 ∨ j = 1 ∨ j = 2 ∨ j = 3 ∨ j = 4 ∨ j = 5 ∨ j = 6 ∨ j = 7 ∨ j = 8 ∨ j = 9 ∨ j = 10 by omega) with rfl | rfl | rfl | rfl | rfl | rfl | rfl | rfl | rfl | rfl | rfl <;> rfl) (Nat.le_of_ble_eq_true rfl) (Nat.le_of_ble_eq_true rfl) ?_
  obtain ⟨E1, hE1⟩ : ∃ z : Nat → va_E, z = eup E 1 (.inr (4, [.null, .null, .null, .int 0, .int 0, .int 0, .int 0, .int 0, .int 0, .int 0, .int 0])) := ⟨_, rfl⟩
  refine VP_eqE hE1 ?_
  have f1 : E1 0 = .inr (10, [.null, .null, .null, .int 0, .null, .null, .null, .null, .int 0, .int 0, .int 0, .int 0]) := by rw [hE1, eup_ne (by omega)]; exact hk0
  refine VP_dup 8 C dX11_init_8 rfl ?_
  have g2 : E1 1 = .inr (4, [.null, .null, .null, .int 0, .int 0, .int 0, .int 0, .int 0, .int 0, .int 0, .int 0]) := by rw [hE1, eup_same]
  refine VP_callN (k := 1) (mc := 9) (ms := 71) 9 C CA (kX3_init hg (by rfl) g2) rfl wk_1_44 wk_1_2 wk_1_43 (by decide +kernel) wk_1_42 rfl dX11_init_9 rfl (Nat.le_of_ble_eq_true rfl) (Nat.le_of_ble_eq_true rfl) ?_
  obtain ⟨E2, hE2⟩ : ∃ z : Nat → va_E, z = inE G E1 1 10 := ⟨_, rfl⟩
  refine VP_eqE hE2 ?_
  have f2 : E2 0 = .inr (10, [.null, .null, .null, .int 0, .null, .null, .null, .null, .int 0, .int 0, .int 0, .int 0]) := by rw [hE2, inE_ne (by omega)]; exact f1
  refine VP_put (ty := .object "LarderPatrol$Larder") 12 C CI dX11_init_12 (by omega) f2 rfl inX11 tyX11 tyX11_ok nmX11 0 rfl wk_2_27 rfl rfl rfl rfl rfl rfl ?_
  obtain ⟨E3, hE3⟩ : ∃ z : Nat → va_E, z = eup E2 0 (.inr (10, [.ref (gb G + 1), .null, .null, .int 0, .null, .null, .null, .null, .int 0, .int 0, .int 0, .int 0])) := ⟨_, rfl⟩
  refine VP_eqE hE3 ?_
  have f3 : E3 0 = .inr (10, [.ref (gb G + 1), .null, .null, .int 0, .null, .null, .null, .null, .int 0, .int 0, .int 0, .int 0]) := by rw [hE3, eup_same]
  refine VP_aload_n 15 C 0 dX11_init_15 rfl ?_
  refine VP_new (fs := [.null, .null, .null, .int 0, .int 0, .int 0, .int 0, .int 0, .int 0, .int 0, .int 0]) 16 C dX11_init_16 (ci := 4) rfl inX3 tyX3 tyX3_ok wk_1_40 wk_1_41 wk_1_2 (fun j hj => by rcases (show j = 0 ∨ j = 1 ∨ j = 2 ∨ j = 3 ∨ j = 4 ∨ j = 5 ∨ j = 6 ∨ j = 7 ∨ j = 8 ∨ j = 9 ∨ j = 10 by omega) with rfl | rfl | rfl | rfl | rfl | rfl | rfl | rfl | rfl | rfl | rfl <;> rfl) (Nat.le_of_ble_eq_true rfl) (Nat.le_of_ble_eq_true rfl) ?_
  obtain ⟨E4, hE4⟩ : ∃ z : Nat → va_E, z = eup E3 11 (.inr (4, [.null, .null, .null, .int 0, .int 0, .int 0, .int 0, .int 0, .int 0, .int 0, .int 0])) := ⟨_, rfl⟩
  refine VP_eqE hE4 ?_
  have f4 : E4 0 = .inr (10, [.ref (gb G + 1), .null, .null, .int 0, .null, .null, .null, .null, .int 0, .int 0, .int 0, .int 0]) := by rw [hE4, eup_ne (by omega)]; exact f3
  refine VP_dup 19 C dX11_init_19 rfl ?_
  have g5 : E4 11 = .inr (4, [.null, .null, .null, .int 0, .int 0, .int 0, .int 0, .int 0, .int 0, .int 0, .int 0]) := by rw [hE4, eup_same]
  refine VP_callN (k := 11) (mc := 9) (ms := 71) 20 C CA (kX3_init hg (by rfl) g5) rfl wk_1_44 wk_1_2 wk_1_43 (by decide +kernel) wk_1_42 rfl dX11_init_20 rfl (Nat.le_of_ble_eq_true rfl) (Nat.le_of_ble_eq_true rfl) ?_
  obtain ⟨E5, hE5⟩ : ∃ z : Nat → va_E, z = inE G E4 11 10 := ⟨_, rfl⟩
  refine VP_eqE hE5 ?_
  have f5 : E5 0 = .inr (10, [.ref (gb G + 1), .null, .null, .int 0, .null, .null, .null, .null, .int 0, .int 0, .int 0, .int 0]) := by rw [hE5, inE_ne (by omega)]; exact f4
  refine VP_put (ty := .object "LarderPatrol$Larder") 23 C CI dX11_init_23 (by omega) f5 rfl inX11 tyX11 tyX11_ok nmX11 1 rfl wk_2_28 rfl rfl rfl rfl rfl rfl ?_
  obtain ⟨E6, hE6⟩ : ∃ z : Nat → va_E, z = eup E5 0 (.inr (10, [.ref (gb G + 1), .ref (gb G + 11), .null, .int 0, .null, .null, .null, .null, .int 0, .int 0, .int 0, .int 0])) := ⟨_, rfl⟩
  refine VP_eqE hE6 ?_
  have f6 : E6 0 = .inr (10, [.ref (gb G + 1), .ref (gb G + 11), .null, .int 0, .null, .null, .null, .null, .int 0, .int 0, .int 0, .int 0]) := by rw [hE6, eup_same]
  refine VP_aload_n 26 C 0 dX11_init_26 rfl ?_
  refine VP_new (fs := [.null, .null, .null, .int 0, .int 0, .int 0, .int 0, .int 0, .int 0, .int 0, .int 0]) 27 C dX11_init_27 (ci := 4) rfl inX3 tyX3 tyX3_ok wk_1_40 wk_1_41 wk_1_2 (fun j hj => by rcases (show j = 0 ∨ j = 1 ∨ j = 2 ∨ j = 3 ∨ j = 4 ∨ j = 5 ∨ j = 6 ∨ j = 7 ∨ j = 8 ∨ j = 9 ∨ j = 10 by omega) with rfl | rfl | rfl | rfl | rfl | rfl | rfl | rfl | rfl | rfl | rfl <;> rfl) (Nat.le_of_ble_eq_true rfl) (Nat.le_of_ble_eq_true rfl) ?_
  obtain ⟨E7, hE7⟩ : ∃ z : Nat → va_E, z = eup E6 21 (.inr (4, [.null, .null, .null, .int 0, .int 0, .int 0, .int 0, .int 0, .int 0, .int 0, .int 0])) := ⟨_, rfl⟩
  refine VP_eqE hE7 ?_
  have f7 : E7 0 = .inr (10, [.ref (gb G + 1), .ref (gb G + 11), .null, .int 0, .null, .null, .null, .null, .int 0, .int 0, .int 0, .int 0]) := by rw [hE7, eup_ne (by omega)]; exact f6
  refine VP_dup 30 C dX11_init_30 rfl ?_
  have g8 : E7 21 = .inr (4, [.null, .null, .null, .int 0, .int 0, .int 0, .int 0, .int 0, .int 0, .int 0, .int 0]) := by rw [hE7, eup_same]
  refine VP_callN (k := 21) (mc := 9) (ms := 71) 31 C CA (kX3_init hg (by rfl) g8) rfl wk_1_44 wk_1_2 wk_1_43 (by decide +kernel) wk_1_42 rfl dX11_init_31 rfl (Nat.le_of_ble_eq_true rfl) (Nat.le_of_ble_eq_true rfl) ?_
  obtain ⟨E8, hE8⟩ : ∃ z : Nat → va_E, z = inE G E7 21 10 := ⟨_, rfl⟩
  refine VP_eqE hE8 ?_
  have f8 : E8 0 = .inr (10, [.ref (gb G + 1), .ref (gb G + 11), .null, .int 0, .null, .null, .null, .null, .int 0, .int 0, .int 0, .int 0]) := by rw [hE8, inE_ne (by omega)]; exact f7
  refine VP_put (ty := .object "LarderPatrol$Larder") 34 C CI dX11_init_34 (by omega) f8 rfl inX11 tyX11 tyX11_ok nmX11 2 rfl wk_2_29 rfl rfl rfl rfl rfl rfl ?_
  obtain ⟨E9, hE9⟩ : ∃ z : Nat → va_E, z = eup E8 0 (.inr (10, [.ref (gb G + 1), .ref (gb G + 11), .ref (gb G + 21), .int 0, .null, .null, .null, .null, .int 0, .int 0, .int 0, .int 0])) := ⟨_, rfl⟩
  refine VP_eqE hE9 ?_
  have f9 : E9 0 = .inr (10, [.ref (gb G + 1), .ref (gb G + 11), .ref (gb G + 21), .int 0, .null, .null, .null, .null, .int 0, .int 0, .int 0, .int 0]) := by rw [hE9, eup_same]
  refine VP_aload_n 37 C 0 dX11_init_37 rfl ?_
  refine VP_new (fs := [.null, .int 0, .int 0]) 38 C dX11_init_38 (ci := 3) rfl inX2 tyX2 tyX2_ok wk_1_186 wk_1_187 wk_1_6 (fun j hj => by rcases (show j = 0 ∨ j = 1 ∨ j = 2 by omega) with rfl | rfl | rfl <;> rfl) (Nat.le_of_ble_eq_true rfl) (Nat.le_of_ble_eq_true rfl) ?_
  obtain ⟨E10, hE10⟩ : ∃ z : Nat → va_E, z = eup E9 31 (.inr (3, [.null, .int 0, .int 0])) := ⟨_, rfl⟩
  refine VP_eqE hE10 ?_
  have f10 : E10 0 = .inr (10, [.ref (gb G + 1), .ref (gb G + 11), .ref (gb G + 21), .int 0, .null, .null, .null, .null, .int 0, .int 0, .int 0, .int 0]) := by rw [hE10, eup_ne (by omega)]; exact f9
  refine VP_dup 41 C dX11_init_41 rfl ?_
  have g11 : E10 31 = .inr (3, [.null, .int 0, .int 0]) := by rw [hE10, eup_same]
  refine VP_callN (k := 31) (mc := 81) (ms := 664) 42 C CA (kX2_init hg (by rfl) g11) rfl wk_1_190 wk_1_6 wk_1_189 (by decide +kernel) wk_1_188 rfl dX11_init_42 rfl (Nat.le_of_ble_eq_true rfl) (Nat.le_of_ble_eq_true rfl) ?_
  obtain ⟨E11, hE11⟩ : ∃ z : Nat → va_E, z = inE G E10 31 82 := ⟨_, rfl⟩
  refine VP_eqE hE11 ?_
  have f11 : E11 0 = .inr (10, [.ref (gb G + 1), .ref (gb G + 11), .ref (gb G + 21), .int 0, .null, .null, .null, .null, .int 0, .int 0, .int 0, .int 0]) := by rw [hE11, inE_ne (by omega)]; exact f10
  refine VP_put (ty := .object "LarderPatrol$History") 45 C CI dX11_init_45 (by omega) f11 rfl inX11 tyX11 tyX11_ok nmX11 4 rfl wk_2_31 rfl rfl rfl rfl rfl rfl ?_
  obtain ⟨E12, hE12⟩ : ∃ z : Nat → va_E, z = eup E11 0 (.inr (10, [.ref (gb G + 1), .ref (gb G + 11), .ref (gb G + 21), .int 0, .ref (gb G + 31), .null, .null, .null, .int 0, .int 0, .int 0, .int 0])) := ⟨_, rfl⟩
  refine VP_eqE hE12 ?_
  have f12 : E12 0 = .inr (10, [.ref (gb G + 1), .ref (gb G + 11), .ref (gb G + 21), .int 0, .ref (gb G + 31), .null, .null, .null, .int 0, .int 0, .int 0, .int 0]) := by rw [hE12, eup_same]
  refine VP_aload_n 48 C 0 dX11_init_48 rfl ?_
  refine VP_new (fs := [.null]) 49 C dX11_init_49 (ci := 2) rfl inX1 tyX1 tyX1_ok wk_1_206 wk_1_207 wk_1_7 (fun j hj => by rcases (show j = 0 by omega) with rfl <;> rfl) (Nat.le_of_ble_eq_true rfl) (Nat.le_of_ble_eq_true rfl) ?_
  obtain ⟨E13, hE13⟩ : ∃ z : Nat → va_E, z = eup E12 113 (.inr (2, [.null])) := ⟨_, rfl⟩
  refine VP_eqE hE13 ?_
  have f13 : E13 0 = .inr (10, [.ref (gb G + 1), .ref (gb G + 11), .ref (gb G + 21), .int 0, .ref (gb G + 31), .null, .null, .null, .int 0, .int 0, .int 0, .int 0]) := by rw [hE13, eup_ne (by omega)]; exact f12
  refine VP_dup 52 C dX11_init_52 rfl ?_
  have g14 : E13 113 = .inr (2, [.null]) := by rw [hE13, eup_same]
  refine VP_callN (k := 113) (mc := 1) (ms := 144) 53 C CA (kX1_init hg (by rfl) g14) rfl wk_1_210 wk_1_7 wk_1_209 (by decide +kernel) wk_1_208 rfl dX11_init_53 rfl (Nat.le_of_ble_eq_true rfl) (Nat.le_of_ble_eq_true rfl) ?_
  obtain ⟨E14, hE14⟩ : ∃ z : Nat → va_E, z = inE G E13 113 2 := ⟨_, rfl⟩
  refine VP_eqE hE14 ?_
  have f14 : E14 0 = .inr (10, [.ref (gb G + 1), .ref (gb G + 11), .ref (gb G + 21), .int 0, .ref (gb G + 31), .null, .null, .null, .int 0, .int 0, .int 0, .int 0]) := by rw [hE14, inE_ne (by omega)]; exact f13
  refine VP_put (ty := .object "LarderPatrol$DistanceTable") 56 C CI dX11_init_56 (by omega) f14 rfl inX11 tyX11 tyX11_ok nmX11 5 rfl wk_2_32 rfl rfl rfl rfl rfl rfl ?_
  obtain ⟨E15, hE15⟩ : ∃ z : Nat → va_E, z = eup E14 0 (.inr (10, [.ref (gb G + 1), .ref (gb G + 11), .ref (gb G + 21), .int 0, .ref (gb G + 31), .ref (gb G + 113), .null, .null, .int 0, .int 0, .int 0, .int 0])) := ⟨_, rfl⟩
  refine VP_eqE hE15 ?_
  have f15 : E15 0 = .inr (10, [.ref (gb G + 1), .ref (gb G + 11), .ref (gb G + 21), .int 0, .ref (gb G + 31), .ref (gb G + 113), .null, .null, .int 0, .int 0, .int 0, .int 0]) := by rw [hE15, eup_same]
  refine VP_aload_n 59 C 0 dX11_init_59 rfl ?_
  refine VP_new (fs := [.null, .int 0, .int 0, .int 0, .null, .int 0, .int 0]) 60 C dX11_init_60 (ci := 8) rfl inX8 tyX8 tyX8_ok wk_1_216 wk_1_217 wk_1_8 (fun j hj => by rcases (show j = 0 ∨ j = 1 ∨ j = 2 ∨ j = 3 ∨ j = 4 ∨ j = 5 ∨ j = 6 by omega) with rfl | rfl | rfl | rfl | rfl | rfl | rfl <;> rfl) (Nat.le_of_ble_eq_true rfl) (Nat.le_of_ble_eq_true rfl) ?_
  obtain ⟨E16, hE16⟩ : ∃ z : Nat → va_E, z = eup E15 115 (.inr (8, [.null, .int 0, .int 0, .int 0, .null, .int 0, .int 0])) := ⟨_, rfl⟩
  refine VP_eqE hE16 ?_
  have f16 : E16 0 = .inr (10, [.ref (gb G + 1), .ref (gb G + 11), .ref (gb G + 21), .int 0, .ref (gb G + 31), .ref (gb G + 113), .null, .null, .int 0, .int 0, .int 0, .int 0]) := by rw [hE16, eup_ne (by omega)]; exact f15
  refine VP_dup 63 C dX11_init_63 rfl ?_
  have g17 : E16 115 = .inr (8, [.null, .int 0, .int 0, .int 0, .null, .int 0, .int 0]) := by rw [hE16, eup_same]
  refine VP_callN (k := 115) (mc := 1) (ms := 60) 64 C CA (kX8_init hg (by rfl) g17) rfl wk_1_220 wk_1_8 wk_1_219 (by decide +kernel) wk_1_218 rfl dX11_init_64 rfl (Nat.le_of_ble_eq_true rfl) (Nat.le_of_ble_eq_true rfl) ?_
  obtain ⟨E17, hE17⟩ : ∃ z : Nat → va_E, z = inE G E16 115 2 := ⟨_, rfl⟩
  refine VP_eqE hE17 ?_
  have f17 : E17 0 = .inr (10, [.ref (gb G + 1), .ref (gb G + 11), .ref (gb G + 21), .int 0, .ref (gb G + 31), .ref (gb G + 113), .null, .null, .int 0, .int 0, .int 0, .int 0]) := by rw [hE17, inE_ne (by omega)]; exact f16
  refine VP_put (ty := .object "LarderPatrol$Script") 67 C CI dX11_init_67 (by omega) f17 rfl inX11 tyX11 tyX11_ok nmX11 6 rfl wk_2_33 rfl rfl rfl rfl rfl rfl ?_
  obtain ⟨E18, hE18⟩ : ∃ z : Nat → va_E, z = eup E17 0 (.inr (10, [.ref (gb G + 1), .ref (gb G + 11), .ref (gb G + 21), .int 0, .ref (gb G + 31), .ref (gb G + 113), .ref (gb G + 115), .null, .int 0, .int 0, .int 0, .int 0])) := ⟨_, rfl⟩
  refine VP_eqE hE18 ?_
  have f18 : E18 0 = .inr (10, [.ref (gb G + 1), .ref (gb G + 11), .ref (gb G + 21), .int 0, .ref (gb G + 31), .ref (gb G + 113), .ref (gb G + 115), .null, .int 0, .int 0, .int 0, .int 0]) := by rw [hE18, eup_same]
  refine VP_aload_n 70 C 0 dX11_init_70 rfl ?_
  refine VP_new (fs := [.null, .int 0]) 71 C dX11_init_71 (ci := 5) rfl inX4 tyX4 tyX4_ok wk_2_12 wk_2_13 wk_1_11 (fun j hj => by rcases (show j = 0 ∨ j = 1 by omega) with rfl | rfl <;> rfl) (Nat.le_of_ble_eq_true rfl) (Nat.le_of_ble_eq_true rfl) ?_
  obtain ⟨E19, hE19⟩ : ∃ z : Nat → va_E, z = eup E18 117 (.inr (5, [.null, .int 0])) := ⟨_, rfl⟩
  refine VP_eqE hE19 ?_
  have f19 : E19 0 = .inr (10, [.ref (gb G + 1), .ref (gb G + 11), .ref (gb G + 21), .int 0, .ref (gb G + 31), .ref (gb G + 113), .ref (gb G + 115), .null, .int 0, .int 0, .int 0, .int 0]) := by rw [hE19, eup_ne (by omega)]; exact f18
  refine VP_dup 74 C dX11_init_74 rfl ?_
  have g20 : E19 117 = .inr (5, [.null, .int 0]) := by rw [hE19, eup_same]
  refine VP_callN (k := 117) (mc := 1) (ms := 64) 75 C CA (kX4_init hg (by rfl) g20) rfl wk_2_16 wk_1_11 wk_2_15 (by decide +kernel) wk_2_14 rfl dX11_init_75 rfl (Nat.le_of_ble_eq_true rfl) (Nat.le_of_ble_eq_true rfl) ?_
  obtain ⟨E20, hE20⟩ : ∃ z : Nat → va_E, z = inE G E19 117 2 := ⟨_, rfl⟩
  refine VP_eqE hE20 ?_
  have f20 : E20 0 = .inr (10, [.ref (gb G + 1), .ref (gb G + 11), .ref (gb G + 21), .int 0, .ref (gb G + 31), .ref (gb G + 113), .ref (gb G + 115), .null, .int 0, .int 0, .int 0, .int 0]) := by rw [hE20, inE_ne (by omega)]; exact f19
  refine VP_put (ty := .object "LarderPatrol$Line") 78 C CI dX11_init_78 (by omega) f20 rfl inX11 tyX11 tyX11_ok nmX11 7 rfl wk_2_34 rfl rfl rfl rfl rfl rfl ?_
  obtain ⟨E21, hE21⟩ : ∃ z : Nat → va_E, z = eup E20 0 (.inr (10, [.ref (gb G + 1), .ref (gb G + 11), .ref (gb G + 21), .int 0, .ref (gb G + 31), .ref (gb G + 113), .ref (gb G + 115), .ref (gb G + 117), .int 0, .int 0, .int 0, .int 0])) := ⟨_, rfl⟩
  refine VP_eqE hE21 ?_
  have f21 : E21 0 = .inr (10, [.ref (gb G + 1), .ref (gb G + 11), .ref (gb G + 21), .int 0, .ref (gb G + 31), .ref (gb G + 113), .ref (gb G + 115), .ref (gb G + 117), .int 0, .int 0, .int 0, .int 0]) := by rw [hE21, eup_same]
  refine VP_aload_n 81 C 0 dX11_init_81 rfl ?_
  refine VP_iconst 82 C dX11_init_82 icm1 ?_
  refine VP_put (ty := .int) 83 C CI dX11_init_83 (by omega) f21 rfl inX11 tyX11 tyX11_ok nmX11 8 rfl wk_2_35 rfl rfl rfl rfl rfl rfl ?_
  obtain ⟨E22, hE22⟩ : ∃ z : Nat → va_E, z = eup E21 0 (.inr (10, [.ref (gb G + 1), .ref (gb G + 11), .ref (gb G + 21), .int 0, .ref (gb G + 31), .ref (gb G + 113), .ref (gb G + 115), .ref (gb G + 117), .int (-1), .int 0, .int 0, .int 0])) := ⟨_, rfl⟩
  refine VP_eqE hE22 ?_
  have f22 : E22 0 = .inr (10, [.ref (gb G + 1), .ref (gb G + 11), .ref (gb G + 21), .int 0, .ref (gb G + 31), .ref (gb G + 113), .ref (gb G + 115), .ref (gb G + 117), .int (-1), .int 0, .int 0, .int 0]) := by rw [hE22, eup_same]
  refine VP_aload_n 86 C 0 dX11_init_86 rfl ?_
  refine VP_iconst 87 C dX11_init_87 icm1 ?_
  refine VP_put (ty := .int) 88 C CI dX11_init_88 (by omega) f22 rfl inX11 tyX11 tyX11_ok nmX11 9 rfl wk_2_36 rfl rfl rfl rfl rfl rfl ?_
  obtain ⟨E23, hE23⟩ : ∃ z : Nat → va_E, z = eup E22 0 (.inr (10, [.ref (gb G + 1), .ref (gb G + 11), .ref (gb G + 21), .int 0, .ref (gb G + 31), .ref (gb G + 113), .ref (gb G + 115), .ref (gb G + 117), .int (-1), .int (-1), .int 0, .int 0])) := ⟨_, rfl⟩
  refine VP_eqE hE23 ?_
  have f23 : E23 0 = .inr (10, [.ref (gb G + 1), .ref (gb G + 11), .ref (gb G + 21), .int 0, .ref (gb G + 31), .ref (gb G + 113), .ref (gb G + 115), .ref (gb G + 117), .int (-1), .int (-1), .int 0, .int 0]) := by rw [hE23, eup_same]
  refine VP_aload_n 91 C 0 dX11_init_91 rfl ?_
  refine VP_iconst 92 C dX11_init_92 icm1 ?_
  refine VP_put (ty := .int) 93 C CI dX11_init_93 (by omega) f23 rfl inX11 tyX11 tyX11_ok nmX11 11 rfl wk_2_38 rfl rfl rfl rfl rfl rfl ?_
  obtain ⟨E24, hE24⟩ : ∃ z : Nat → va_E, z = eup E23 0 (.inr (10, [.ref (gb G + 1), .ref (gb G + 11), .ref (gb G + 21), .int 0, .ref (gb G + 31), .ref (gb G + 113), .ref (gb G + 115), .ref (gb G + 117), .int (-1), .int (-1), .int 0, .int (-1)])) := ⟨_, rfl⟩
  refine VP_eqE hE24 ?_
  have f24 : E24 0 = .inr (10, [.ref (gb G + 1), .ref (gb G + 11), .ref (gb G + 21), .int 0, .ref (gb G + 31), .ref (gb G + 113), .ref (gb G + 115), .ref (gb G + 117), .int (-1), .int (-1), .int 0, .int (-1)]) := by rw [hE24, eup_same]
  refine VP_ret 96 C hQ rfl (fun j hj => ?_) (Nat.le_of_ble_eq_true rfl) (Nat.le_of_ble_eq_true rfl) dX11_init_96
  rcases (show j = 0 ∨ j = 1 ∨ j = 2 ∨ j = 3 ∨ j = 4 ∨ j = 5 ∨ j = 6 ∨ j = 7 ∨ j = 8 ∨ j = 9 ∨ j = 10 ∨ j = 11 ∨ j = 12 ∨ j = 13 ∨ j = 14 ∨ j = 15 ∨ j = 16 ∨ j = 17 ∨ j = 18 ∨ j = 19 ∨ j = 20 ∨ j = 21 ∨ j = 22 ∨ j = 23 ∨ j = 24 ∨ j = 25 ∨ j = 26 ∨ j = 27 ∨ j = 28 ∨ j = 29 ∨ j = 30 ∨ j = 31 ∨ j = 32 ∨ j = 33 ∨ j = 34 ∨ j = 35 ∨ j = 36 ∨ j = 37 ∨ j = 38 ∨ j = 39 ∨ j = 40 ∨ j = 41 ∨ j = 42 ∨ j = 43 ∨ j = 44 ∨ j = 45 ∨ j = 46 ∨ j = 47 ∨ j = 48 ∨ j = 49 ∨ j = 50 ∨ j = 51 ∨ j = 52 ∨ j = 53 ∨ j = 54 ∨ j = 55 ∨ j = 56 ∨ j = 57 ∨ j = 58 ∨ j = 59 ∨ j = 60 ∨ j = 61 ∨ j = 62 ∨ j = 63 ∨ j = 64 ∨ j = 65 ∨ j = 66 ∨ j = 67 ∨ j = 68 ∨ j = 69 ∨ j = 70 ∨ j = 71 ∨ j = 72 ∨ j = 73 ∨ j = 74 ∨ j = 75 ∨ j = 76 ∨ j = 77 ∨ j = 78 ∨ j = 79 ∨ j = 80 ∨ j = 81 ∨ j = 82 ∨ j = 83 ∨ j = 84 ∨ j = 85 ∨ j = 86 ∨ j = 87 ∨ j = 88 ∨ j = 89 ∨ j = 90 ∨ j = 91 ∨ j = 92 ∨ j = 93 ∨ j = 94 ∨ j = 95 ∨ j = 96 ∨ j = 97 ∨ j = 98 ∨ j = 99 ∨ j = 100 ∨ j = 101 ∨ j = 102 ∨ j = 103 ∨ j = 104 ∨ j = 105 ∨ j = 106 ∨ j = 107 ∨ j = 108 ∨ j = 109 ∨ j = 110 ∨ j = 111 ∨ j = 112 ∨ j = 113 ∨ j = 114 ∨ j = 115 ∨ j = 116 ∨ j = 117 ∨ j = 118 by omega) with rfl | rfl | rfl | rfl | rfl | rfl | rfl | rfl | rfl | rfl | rfl | rfl | rfl | rfl | rfl | rfl | rfl | rfl | rfl | rfl | rfl | rfl | rfl | rfl | rfl | rfl | rfl | rfl | rfl | rfl | rfl | rfl | rfl | rfl | rfl | rfl | rfl | rfl | rfl | rfl | rfl | rfl | rfl | rfl | rfl | rfl | rfl | rfl | rfl | rfl | rfl | rfl | rfl | rfl | rfl | rfl | rfl | rfl | rfl | rfl | rfl | rfl | rfl | rfl | rfl | rfl | rfl | rfl | rfl | rfl | rfl | rfl | rfl | rfl | rfl | rfl | rfl | rfl | rfl | rfl | rfl | rfl | rfl | rfl | rfl | rfl | rfl | rfl | rfl | rfl | rfl | rfl | rfl | rfl | rfl | rfl | rfl | rfl | rfl | rfl | rfl | rfl | rfl | rfl | rfl | rfl | rfl | rfl | rfl | rfl | rfl | rfl | rfl | rfl | rfl | rfl | rfl | rfl | rfl
  · rw [inE_in (by omega) (by omega), f24, ceR_X11 hb]
    simp [F_X11, hg, M0, hb, lay, layL]
  · rw [inE_in (by omega) (by omega)]
    simp only [hE1, hE2, hE3, hE4, hE5, hE6, hE7, hE8, hE9, hE10, hE11, hE12, hE13, hE14, hE15, hE16, hE17, hE18, hE19, hE20, hE21, hE22, hE23, hE24]
    simp [eup, inE]
  · rw [inE_in (by omega) (by omega)]
    simp only [hE1, hE2, hE3, hE4, hE5, hE6, hE7, hE8, hE9, hE10, hE11, hE12, hE13, hE14, hE15, hE16, hE17, hE18, hE19, hE20, hE21, hE22, hE23, hE24]
    simp [eup, inE]
  · rw [inE_in (by omega) (by omega)]
    simp only [hE1, hE2, hE3, hE4, hE5, hE6, hE7, hE8, hE9, hE10, hE11, hE12, hE13, hE14, hE15, hE16, hE17, hE18, hE19, hE20, hE21, hE22, hE23, hE24]
    simp [eup, inE]
  · rw [inE_in (by omega) (by omega)]
    simp only [hE1, hE2, hE3, hE4, hE5, hE6, hE7, hE8, hE9, hE10, hE11, hE12, hE13, hE14, hE15, hE16, hE17, hE18, hE19, hE20, hE21, hE22, hE23, hE24]
    simp [eup, inE]
  · rw [inE_in (by omega) (by omega)]
    simp only [hE1, hE2, hE3, hE4, hE5, hE6, hE7, hE8, hE9, hE10, hE11, hE12, hE13, hE14, hE15, hE16, hE17, hE18, hE19, hE20, hE21, hE22, hE23, hE24]
    simp [eup, inE]
  · rw [inE_in (by omega) (by omega)]
    simp only [hE1, hE2, hE3, hE4, hE5, hE6, hE7, hE8, hE9, hE10, hE11, hE12, hE13, hE14, hE15, hE16, hE17, hE18, hE19, hE20, hE21, hE22, hE23, hE24]
    simp [eup, inE]
  · rw [inE_in (by omega) (by omega)]
    simp only [hE1, hE2, hE3, hE4, hE5, hE6, hE7, hE8, hE9, hE10, hE11, hE12, hE13, hE14, hE15, hE16, hE17, hE18, hE19, hE20, hE21, hE22, hE23, hE24]
    simp [eup, inE]
  · rw [inE_in (by omega) (by omega)]
    simp only [hE1, hE2, hE3, hE4, hE5, hE6, hE7, hE8, hE9, hE10, hE11, hE12, hE13, hE14, hE15, hE16, hE17, hE18, hE19, hE20, hE21, hE22, hE23, hE24]
    simp [eup, inE]
  · rw [inE_in (by omega) (by omega)]
    simp only [hE1, hE2, hE3, hE4, hE5, hE6, hE7, hE8, hE9, hE10, hE11, hE12, hE13, hE14, hE15, hE16, hE17, hE18, hE19, hE20, hE21, hE22, hE23, hE24]
    simp [eup, inE]
  · rw [inE_in (by omega) (by omega)]
    simp only [hE1, hE2, hE3, hE4, hE5, hE6, hE7, hE8, hE9, hE10, hE11, hE12, hE13, hE14, hE15, hE16, hE17, hE18, hE19, hE20, hE21, hE22, hE23, hE24]
    simp [eup, inE]
  · rw [inE_in (by omega) (by omega)]
    simp only [hE1, hE2, hE3, hE4, hE5, hE6, hE7, hE8, hE9, hE10, hE11, hE12, hE13, hE14, hE15, hE16, hE17, hE18, hE19, hE20, hE21, hE22, hE23, hE24]
    simp [eup, inE]
  · rw [inE_in (by omega) (by omega)]
    simp only [hE1, hE2, hE3, hE4, hE5, hE6, hE7, hE8, hE9, hE10, hE11, hE12, hE13, hE14, hE15, hE16, hE17, hE18, hE19, hE20, hE21, hE22, hE23, hE24]
    simp [eup, inE]
  · rw [inE_in (by omega) (by omega)]
    simp only [hE1, hE2, hE3, hE4, hE5, hE6, hE7, hE8, hE9, hE10, hE11, hE12, hE13, hE14, hE15, hE16, hE17, hE18, hE19, hE20, hE21, hE22, hE23, hE24]
    simp [eup, inE]
  · rw [inE_in (by omega) (by omega)]
    simp only [hE1, hE2, hE3, hE4, hE5, hE6, hE7, hE8, hE9, hE10, hE11, hE12, hE13, hE14, hE15, hE16, hE17, hE18, hE19, hE20, hE21, hE22, hE23, hE24]
    simp [eup, inE]
  · rw [inE_in (by omega) (by omega)]
    simp only [hE1, hE2, hE3, hE4, hE5, hE6, hE7, hE8, hE9, hE10, hE11, hE12, hE13, hE14, hE15, hE16, hE17, hE18, hE19, hE20, hE21, hE22, hE23, hE24]
    simp [eup, inE]
  · rw [inE_in (by omega) (by omega)]
    simp only [hE1, hE2, hE3, hE4, hE5, hE6, hE7, hE8, hE9, hE10, hE11, hE12, hE13, hE14, hE15, hE16, hE17, hE18, hE19, hE20, hE21, hE22, hE23, hE24]
    simp [eup, inE]
  · rw [inE_in (by omega) (by omega)]
    simp only [hE1, hE2, hE3, hE4, hE5, hE6, hE7, hE8, hE9, hE10, hE11, hE12, hE13, hE14, hE15, hE16, hE17, hE18, hE19, hE20, hE21, hE22, hE23, hE24]
    simp [eup, inE]
  · rw [inE_in (by omega) (by omega)]
    simp only [hE1, hE2, hE3, hE4, hE5, hE6, hE7, hE8, hE9, hE10, hE11, hE12, hE13, hE14, hE15, hE16, hE17, hE18, hE19, hE20, hE21, hE22, hE23, hE24]
    simp [eup, inE]
  · rw [inE_in (by omega) (by omega)]
    simp only [hE1, hE2, hE3, hE4, hE5, hE6, hE7, hE8, hE9, hE10, hE11, hE12, hE13, hE14, hE15, hE16, hE17, hE18, hE19, hE20, hE21, hE22, hE23, hE24]
    simp [eup, inE]
  · rw [inE_in (by omega) (by omega)]
    simp only [hE1, hE2, hE3, hE4, hE5, hE6, hE7, hE8, hE9, hE10, hE11, hE12, hE13, hE14, hE15, hE16, hE17, hE18, hE19, hE20, hE21, hE22, hE23, hE24]
    simp [eup, inE]
  · rw [inE_in (by omega) (by omega)]
    simp only [hE1, hE2, hE3, hE4, hE5, hE6, hE7, hE8, hE9, hE10, hE11, hE12, hE13, hE14, hE15, hE16, hE17, hE18, hE19, hE20, hE21, hE22, hE23, hE24]
    simp [eup, inE]
  · rw [inE_in (by omega) (by omega)]
    simp only [hE1, hE2, hE3, hE4, hE5, hE6, hE7, hE8, hE9, hE10, hE11, hE12, hE13, hE14, hE15, hE16, hE17, hE18, hE19, hE20, hE21, hE22, hE23, hE24]
    simp [eup, inE]
  · rw [inE_in (by omega) (by omega)]
    simp only [hE1, hE2, hE3, hE4, hE5, hE6, hE7, hE8, hE9, hE10, hE11, hE12, hE13, hE14, hE15, hE16, hE17, hE18, hE19, hE20, hE21, hE22, hE23, hE24]
    simp [eup, inE]
  · rw [inE_in (by omega) (by omega)]
    simp only [hE1, hE2, hE3, hE4, hE5, hE6, hE7, hE8, hE9, hE10, hE11, hE12, hE13, hE14, hE15, hE16, hE17, hE18, hE19, hE20, hE21, hE22, hE23, hE24]
    simp [eup, inE]
  · rw [inE_in (by omega) (by omega)]
    simp only [hE1, hE2, hE3, hE4, hE5, hE6, hE7, hE8, hE9, hE10, hE11, hE12, hE13, hE14, hE15, hE16, hE17, hE18, hE19, hE20, hE21, hE22, hE23, hE24]
    simp [eup, inE]
  · rw [inE_in (by omega) (by omega)]
    simp only [hE1, hE2, hE3, hE4, hE5, hE6, hE7, hE8, hE9, hE10, hE11, hE12, hE13, hE14, hE15, hE16, hE17, hE18, hE19, hE20, hE21, hE22, hE23, hE24]
    simp [eup, inE]
  · rw [inE_in (by omega) (by omega)]
    simp only [hE1, hE2, hE3, hE4, hE5, hE6, hE7, hE8, hE9, hE10, hE11, hE12, hE13, hE14, hE15, hE16, hE17, hE18, hE19, hE20, hE21, hE22, hE23, hE24]
    simp [eup, inE]
  · rw [inE_in (by omega) (by omega)]
    simp only [hE1, hE2, hE3, hE4, hE5, hE6, hE7, hE8, hE9, hE10, hE11, hE12, hE13, hE14, hE15, hE16, hE17, hE18, hE19, hE20, hE21, hE22, hE23, hE24]
    simp [eup, inE]
  · rw [inE_in (by omega) (by omega)]
    simp only [hE1, hE2, hE3, hE4, hE5, hE6, hE7, hE8, hE9, hE10, hE11, hE12, hE13, hE14, hE15, hE16, hE17, hE18, hE19, hE20, hE21, hE22, hE23, hE24]
    simp [eup, inE]
  · rw [inE_in (by omega) (by omega)]
    simp only [hE1, hE2, hE3, hE4, hE5, hE6, hE7, hE8, hE9, hE10, hE11, hE12, hE13, hE14, hE15, hE16, hE17, hE18, hE19, hE20, hE21, hE22, hE23, hE24]
    simp [eup, inE]
  · rw [inE_in (by omega) (by omega)]
    simp only [hE1, hE2, hE3, hE4, hE5, hE6, hE7, hE8, hE9, hE10, hE11, hE12, hE13, hE14, hE15, hE16, hE17, hE18, hE19, hE20, hE21, hE22, hE23, hE24]
    simp [eup, inE]
  · rw [inE_in (by omega) (by omega)]
    simp only [hE1, hE2, hE3, hE4, hE5, hE6, hE7, hE8, hE9, hE10, hE11, hE12, hE13, hE14, hE15, hE16, hE17, hE18, hE19, hE20, hE21, hE22, hE23, hE24]
    simp [eup, inE]
  · rw [inE_in (by omega) (by omega)]
    simp only [hE1, hE2, hE3, hE4, hE5, hE6, hE7, hE8, hE9, hE10, hE11, hE12, hE13, hE14, hE15, hE16, hE17, hE18, hE19, hE20, hE21, hE22, hE23, hE24]
    simp [eup, inE]
  · rw [inE_in (by omega) (by omega)]
    simp only [hE1, hE2, hE3, hE4, hE5, hE6, hE7, hE8, hE9, hE10, hE11, hE12, hE13, hE14, hE15, hE16, hE17, hE18, hE19, hE20, hE21, hE22, hE23, hE24]
    simp [eup, inE]
  · rw [inE_in (by omega) (by omega)]
    simp only [hE1, hE2, hE3, hE4, hE5, hE6, hE7, hE8, hE9, hE10, hE11, hE12, hE13, hE14, hE15, hE16, hE17, hE18, hE19, hE20, hE21, hE22, hE23, hE24]
    simp [eup, inE]
  · rw [inE_in (by omega) (by omega)]
    simp only [hE1, hE2, hE3, hE4, hE5, hE6, hE7, hE8, hE9, hE10, hE11, hE12, hE13, hE14, hE15, hE16, hE17, hE18, hE19, hE20, hE21, hE22, hE23, hE24]
    simp [eup, inE]
  · rw [inE_in (by omega) (by omega)]
    simp only [hE1, hE2, hE3, hE4, hE5, hE6, hE7, hE8, hE9, hE10, hE11, hE12, hE13, hE14, hE15, hE16, hE17, hE18, hE19, hE20, hE21, hE22, hE23, hE24]
    simp [eup, inE]
  · rw [inE_in (by omega) (by omega)]
    simp only [hE1, hE2, hE3, hE4, hE5, hE6, hE7, hE8, hE9, hE10, hE11, hE12, hE13, hE14, hE15, hE16, hE17, hE18, hE19, hE20, hE21, hE22, hE23, hE24]
    simp [eup, inE]
  · rw [inE_in (by omega) (by omega)]
    simp only [hE1, hE2, hE3, hE4, hE5, hE6, hE7, hE8, hE9, hE10, hE11, hE12, hE13, hE14, hE15, hE16, hE17, hE18, hE19, hE20, hE21, hE22, hE23, hE24]
    simp [eup, inE]
  · rw [inE_in (by omega) (by omega)]
    simp only [hE1, hE2, hE3, hE4, hE5, hE6, hE7, hE8, hE9, hE10, hE11, hE12, hE13, hE14, hE15, hE16, hE17, hE18, hE19, hE20, hE21, hE22, hE23, hE24]
    simp [eup, inE]
  · rw [inE_in (by omega) (by omega)]
    simp only [hE1, hE2, hE3, hE4, hE5, hE6, hE7, hE8, hE9, hE10, hE11, hE12, hE13, hE14, hE15, hE16, hE17, hE18, hE19, hE20, hE21, hE22, hE23, hE24]
    simp [eup, inE]
  · rw [inE_in (by omega) (by omega)]
    simp only [hE1, hE2, hE3, hE4, hE5, hE6, hE7, hE8, hE9, hE10, hE11, hE12, hE13, hE14, hE15, hE16, hE17, hE18, hE19, hE20, hE21, hE22, hE23, hE24]
    simp [eup, inE]
  · rw [inE_in (by omega) (by omega)]
    simp only [hE1, hE2, hE3, hE4, hE5, hE6, hE7, hE8, hE9, hE10, hE11, hE12, hE13, hE14, hE15, hE16, hE17, hE18, hE19, hE20, hE21, hE22, hE23, hE24]
    simp [eup, inE]
  · rw [inE_in (by omega) (by omega)]
    simp only [hE1, hE2, hE3, hE4, hE5, hE6, hE7, hE8, hE9, hE10, hE11, hE12, hE13, hE14, hE15, hE16, hE17, hE18, hE19, hE20, hE21, hE22, hE23, hE24]
    simp [eup, inE]
  · rw [inE_in (by omega) (by omega)]
    simp only [hE1, hE2, hE3, hE4, hE5, hE6, hE7, hE8, hE9, hE10, hE11, hE12, hE13, hE14, hE15, hE16, hE17, hE18, hE19, hE20, hE21, hE22, hE23, hE24]
    simp [eup, inE]
  · rw [inE_in (by omega) (by omega)]
    simp only [hE1, hE2, hE3, hE4, hE5, hE6, hE7, hE8, hE9, hE10, hE11, hE12, hE13, hE14, hE15, hE16, hE17, hE18, hE19, hE20, hE21, hE22, hE23, hE24]
    simp [eup, inE]
  · rw [inE_in (by omega) (by omega)]
    simp only [hE1, hE2, hE3, hE4, hE5, hE6, hE7, hE8, hE9, hE10, hE11, hE12, hE13, hE14, hE15, hE16, hE17, hE18, hE19, hE20, hE21, hE22, hE23, hE24]
    simp [eup, inE]
  · rw [inE_in (by omega) (by omega)]
    simp only [hE1, hE2, hE3, hE4, hE5, hE6, hE7, hE8, hE9, hE10, hE11, hE12, hE13, hE14, hE15, hE16, hE17, hE18, hE19, hE20, hE21, hE22, hE23, hE24]
    simp [eup, inE]
  · rw [inE_in (by omega) (by omega)]
    simp only [hE1, hE2, hE3, hE4, hE5, hE6, hE7, hE8, hE9, hE10, hE11, hE12, hE13, hE14, hE15, hE16, hE17, hE18, hE19, hE20, hE21, hE22, hE23, hE24]
    simp [eup, inE]
  · rw [inE_in (by omega) (by omega)]
    simp only [hE1, hE2, hE3, hE4, hE5, hE6, hE7, hE8, hE9, hE10, hE11, hE12, hE13, hE14, hE15, hE16, hE17, hE18, hE19, hE20, hE21, hE22, hE23, hE24]
    simp [eup, inE]
  · rw [inE_in (by omega) (by omega)]
    simp only [hE1, hE2, hE3, hE4, hE5, hE6, hE7, hE8, hE9, hE10, hE11, hE12, hE13, hE14, hE15, hE16, hE17, hE18, hE19, hE20, hE21, hE22, hE23, hE24]
    simp [eup, inE]
  · rw [inE_in (by omega) (by omega)]
    simp only [hE1, hE2, hE3, hE4, hE5, hE6, hE7, hE8, hE9, hE10, hE11, hE12, hE13, hE14, hE15, hE16, hE17, hE18, hE19, hE20, hE21, hE22, hE23, hE24]
    simp [eup, inE]
  · rw [inE_in (by omega) (by omega)]
    simp only [hE1, hE2, hE3, hE4, hE5, hE6, hE7, hE8, hE9, hE10, hE11, hE12, hE13, hE14, hE15, hE16, hE17, hE18, hE19, hE20, hE21, hE22, hE23, hE24]
    simp [eup, inE]
  · rw [inE_in (by omega) (by omega)]
    simp only [hE1, hE2, hE3, hE4, hE5, hE6, hE7, hE8, hE9, hE10, hE11, hE12, hE13, hE14, hE15, hE16, hE17, hE18, hE19, hE20, hE21, hE22, hE23, hE24]
    simp [eup, inE]
  · rw [inE_in (by omega) (by omega)]
    simp only [hE1, hE2, hE3, hE4, hE5, hE6, hE7, hE8, hE9, hE10, hE11, hE12, hE13, hE14, hE15, hE16, hE17, hE18, hE19, hE20, hE21, hE22, hE23, hE24]
    simp [eup, inE]
  · rw [inE_in (by omega) (by omega)]
    simp only [hE1, hE2, hE3, hE4, hE5, hE6, hE7, hE8, hE9, hE10, hE11, hE12, hE13, hE14, hE15, hE16, hE17, hE18, hE19, hE20, hE21, hE22, hE23, hE24]
    simp [eup, inE]
  · rw [inE_in (by omega) (by omega)]
    simp only [hE1, hE2, hE3, hE4, hE5, hE6, hE7, hE8, hE9, hE10, hE11, hE12, hE13, hE14, hE15, hE16, hE17, hE18, hE19, hE20, hE21, hE22, hE23, hE24]
    simp [eup, inE]
  · rw [inE_in (by omega) (by omega)]
    simp only [hE1, hE2, hE3, hE4, hE5, hE6, hE7, hE8, hE9, hE10, hE11, hE12, hE13, hE14, hE15, hE16, hE17, hE18, hE19, hE20, hE21, hE22, hE23, hE24]
    simp [eup, inE]
  · rw [inE_in (by omega) (by omega)]
    simp only [hE1, hE2, hE3, hE4, hE5, hE6, hE7, hE8, hE9, hE10, hE11, hE12, hE13, hE14, hE15, hE16, hE17, hE18, hE19, hE20, hE21, hE22, hE23, hE24]
    simp [eup, inE]
  · rw [inE_in (by omega) (by omega)]
    simp only [hE1, hE2, hE3, hE4, hE5, hE6, hE7, hE8, hE9, hE10, hE11, hE12, hE13, hE14, hE15, hE16, hE17, hE18, hE19, hE20, hE21, hE22, hE23, hE24]
    simp [eup, inE]
  · rw [inE_in (by omega) (by omega)]
    simp only [hE1, hE2, hE3, hE4, hE5, hE6, hE7, hE8, hE9, hE10, hE11, hE12, hE13, hE14, hE15, hE16, hE17, hE18, hE19, hE20, hE21, hE22, hE23, hE24]
    simp [eup, inE]
  · rw [inE_in (by omega) (by omega)]
    simp only [hE1, hE2, hE3, hE4, hE5, hE6, hE7, hE8, hE9, hE10, hE11, hE12, hE13, hE14, hE15, hE16, hE17, hE18, hE19, hE20, hE21, hE22, hE23, hE24]
    simp [eup, inE]
  · rw [inE_in (by omega) (by omega)]
    simp only [hE1, hE2, hE3, hE4, hE5, hE6, hE7, hE8, hE9, hE10, hE11, hE12, hE13, hE14, hE15, hE16, hE17, hE18, hE19, hE20, hE21, hE22, hE23, hE24]
    simp [eup, inE]
  · rw [inE_in (by omega) (by omega)]
    simp only [hE1, hE2, hE3, hE4, hE5, hE6, hE7, hE8, hE9, hE10, hE11, hE12, hE13, hE14, hE15, hE16, hE17, hE18, hE19, hE20, hE21, hE22, hE23, hE24]
    simp [eup, inE]
  · rw [inE_in (by omega) (by omega)]
    simp only [hE1, hE2, hE3, hE4, hE5, hE6, hE7, hE8, hE9, hE10, hE11, hE12, hE13, hE14, hE15, hE16, hE17, hE18, hE19, hE20, hE21, hE22, hE23, hE24]
    simp [eup, inE]
  · rw [inE_in (by omega) (by omega)]
    simp only [hE1, hE2, hE3, hE4, hE5, hE6, hE7, hE8, hE9, hE10, hE11, hE12, hE13, hE14, hE15, hE16, hE17, hE18, hE19, hE20, hE21, hE22, hE23, hE24]
    simp [eup, inE]
  · rw [inE_in (by omega) (by omega)]
    simp only [hE1, hE2, hE3, hE4, hE5, hE6, hE7, hE8, hE9, hE10, hE11, hE12, hE13, hE14, hE15, hE16, hE17, hE18, hE19, hE20, hE21, hE22, hE23, hE24]
    simp [eup, inE]
  · rw [inE_in (by omega) (by omega)]
    simp only [hE1, hE2, hE3, hE4, hE5, hE6, hE7, hE8, hE9, hE10, hE11, hE12, hE13, hE14, hE15, hE16, hE17, hE18, hE19, hE20, hE21, hE22, hE23, hE24]
    simp [eup, inE]
  · rw [inE_in (by omega) (by omega)]
    simp only [hE1, hE2, hE3, hE4, hE5, hE6, hE7, hE8, hE9, hE10, hE11, hE12, hE13, hE14, hE15, hE16, hE17, hE18, hE19, hE20, hE21, hE22, hE23, hE24]
    simp [eup, inE]
  · rw [inE_in (by omega) (by omega)]
    simp only [hE1, hE2, hE3, hE4, hE5, hE6, hE7, hE8, hE9, hE10, hE11, hE12, hE13, hE14, hE15, hE16, hE17, hE18, hE19, hE20, hE21, hE22, hE23, hE24]
    simp [eup, inE]
  · rw [inE_in (by omega) (by omega)]
    simp only [hE1, hE2, hE3, hE4, hE5, hE6, hE7, hE8, hE9, hE10, hE11, hE12, hE13, hE14, hE15, hE16, hE17, hE18, hE19, hE20, hE21, hE22, hE23, hE24]
    simp [eup, inE]
  · rw [inE_in (by omega) (by omega)]
    simp only [hE1, hE2, hE3, hE4, hE5, hE6, hE7, hE8, hE9, hE10, hE11, hE12, hE13, hE14, hE15, hE16, hE17, hE18, hE19, hE20, hE21, hE22, hE23, hE24]
    simp [eup, inE]
  · rw [inE_in (by omega) (by omega)]
    simp only [hE1, hE2, hE3, hE4, hE5, hE6, hE7, hE8, hE9, hE10, hE11, hE12, hE13, hE14, hE15, hE16, hE17, hE18, hE19, hE20, hE21, hE22, hE23, hE24]
    simp [eup, inE]
  · rw [inE_in (by omega) (by omega)]
    simp only [hE1, hE2, hE3, hE4, hE5, hE6, hE7, hE8, hE9, hE10, hE11, hE12, hE13, hE14, hE15, hE16, hE17, hE18, hE19, hE20, hE21, hE22, hE23, hE24]
    simp [eup, inE]
  · rw [inE_in (by omega) (by omega)]
    simp only [hE1, hE2, hE3, hE4, hE5, hE6, hE7, hE8, hE9, hE10, hE11, hE12, hE13, hE14, hE15, hE16, hE17, hE18, hE19, hE20, hE21, hE22, hE23, hE24]
    simp [eup, inE]
  · rw [inE_in (by omega) (by omega)]
    simp only [hE1, hE2, hE3, hE4, hE5, hE6, hE7, hE8, hE9, hE10, hE11, hE12, hE13, hE14, hE15, hE16, hE17, hE18, hE19, hE20, hE21, hE22, hE23, hE24]
    simp [eup, inE]
  · rw [inE_in (by omega) (by omega)]
    simp only [hE1, hE2, hE3, hE4, hE5, hE6, hE7, hE8, hE9, hE10, hE11, hE12, hE13, hE14, hE15, hE16, hE17, hE18, hE19, hE20, hE21, hE22, hE23, hE24]
    simp [eup, inE]
  · rw [inE_in (by omega) (by omega)]
    simp only [hE1, hE2, hE3, hE4, hE5, hE6, hE7, hE8, hE9, hE10, hE11, hE12, hE13, hE14, hE15, hE16, hE17, hE18, hE19, hE20, hE21, hE22, hE23, hE24]
    simp [eup, inE]
  · rw [inE_in (by omega) (by omega)]
    simp only [hE1, hE2, hE3, hE4, hE5, hE6, hE7, hE8, hE9, hE10, hE11, hE12, hE13, hE14, hE15, hE16, hE17, hE18, hE19, hE20, hE21, hE22, hE23, hE24]
    simp [eup, inE]
  · rw [inE_in (by omega) (by omega)]
    simp only [hE1, hE2, hE3, hE4, hE5, hE6, hE7, hE8, hE9, hE10, hE11, hE12, hE13, hE14, hE15, hE16, hE17, hE18, hE19, hE20, hE21, hE22, hE23, hE24]
    simp [eup, inE]
  · rw [inE_in (by omega) (by omega)]
    simp only [hE1, hE2, hE3, hE4, hE5, hE6, hE7, hE8, hE9, hE10, hE11, hE12, hE13, hE14, hE15, hE16, hE17, hE18, hE19, hE20, hE21, hE22, hE23, hE24]
    simp [eup, inE]
  · rw [inE_in (by omega) (by omega)]
    simp only [hE1, hE2, hE3, hE4, hE5, hE6, hE7, hE8, hE9, hE10, hE11, hE12, hE13, hE14, hE15, hE16, hE17, hE18, hE19, hE20, hE21, hE22, hE23, hE24]
    simp [eup, inE]
  · rw [inE_in (by omega) (by omega)]
    simp only [hE1, hE2, hE3, hE4, hE5, hE6, hE7, hE8, hE9, hE10, hE11, hE12, hE13, hE14, hE15, hE16, hE17, hE18, hE19, hE20, hE21, hE22, hE23, hE24]
    simp [eup, inE]
  · rw [inE_in (by omega) (by omega)]
    simp only [hE1, hE2, hE3, hE4, hE5, hE6, hE7, hE8, hE9, hE10, hE11, hE12, hE13, hE14, hE15, hE16, hE17, hE18, hE19, hE20, hE21, hE22, hE23, hE24]
    simp [eup, inE]
  · rw [inE_in (by omega) (by omega)]
    simp only [hE1, hE2, hE3, hE4, hE5, hE6, hE7, hE8, hE9, hE10, hE11, hE12, hE13, hE14, hE15, hE16, hE17, hE18, hE19, hE20, hE21, hE22, hE23, hE24]
    simp [eup, inE]
  · rw [inE_in (by omega) (by omega)]
    simp only [hE1, hE2, hE3, hE4, hE5, hE6, hE7, hE8, hE9, hE10, hE11, hE12, hE13, hE14, hE15, hE16, hE17, hE18, hE19, hE20, hE21, hE22, hE23, hE24]
    simp [eup, inE]
  · rw [inE_in (by omega) (by omega)]
    simp only [hE1, hE2, hE3, hE4, hE5, hE6, hE7, hE8, hE9, hE10, hE11, hE12, hE13, hE14, hE15, hE16, hE17, hE18, hE19, hE20, hE21, hE22, hE23, hE24]
    simp [eup, inE]
  · rw [inE_in (by omega) (by omega)]
    simp only [hE1, hE2, hE3, hE4, hE5, hE6, hE7, hE8, hE9, hE10, hE11, hE12, hE13, hE14, hE15, hE16, hE17, hE18, hE19, hE20, hE21, hE22, hE23, hE24]
    simp [eup, inE]
  · rw [inE_in (by omega) (by omega)]
    simp only [hE1, hE2, hE3, hE4, hE5, hE6, hE7, hE8, hE9, hE10, hE11, hE12, hE13, hE14, hE15, hE16, hE17, hE18, hE19, hE20, hE21, hE22, hE23, hE24]
    simp [eup, inE]
  · rw [inE_in (by omega) (by omega)]
    simp only [hE1, hE2, hE3, hE4, hE5, hE6, hE7, hE8, hE9, hE10, hE11, hE12, hE13, hE14, hE15, hE16, hE17, hE18, hE19, hE20, hE21, hE22, hE23, hE24]
    simp [eup, inE]
  · rw [inE_in (by omega) (by omega)]
    simp only [hE1, hE2, hE3, hE4, hE5, hE6, hE7, hE8, hE9, hE10, hE11, hE12, hE13, hE14, hE15, hE16, hE17, hE18, hE19, hE20, hE21, hE22, hE23, hE24]
    simp [eup, inE]
  · rw [inE_in (by omega) (by omega)]
    simp only [hE1, hE2, hE3, hE4, hE5, hE6, hE7, hE8, hE9, hE10, hE11, hE12, hE13, hE14, hE15, hE16, hE17, hE18, hE19, hE20, hE21, hE22, hE23, hE24]
    simp [eup, inE]
  · rw [inE_in (by omega) (by omega)]
    simp only [hE1, hE2, hE3, hE4, hE5, hE6, hE7, hE8, hE9, hE10, hE11, hE12, hE13, hE14, hE15, hE16, hE17, hE18, hE19, hE20, hE21, hE22, hE23, hE24]
    simp [eup, inE]
  · rw [inE_in (by omega) (by omega)]
    simp only [hE1, hE2, hE3, hE4, hE5, hE6, hE7, hE8, hE9, hE10, hE11, hE12, hE13, hE14, hE15, hE16, hE17, hE18, hE19, hE20, hE21, hE22, hE23, hE24]
    simp [eup, inE]
  · rw [inE_in (by omega) (by omega)]
    simp only [hE1, hE2, hE3, hE4, hE5, hE6, hE7, hE8, hE9, hE10, hE11, hE12, hE13, hE14, hE15, hE16, hE17, hE18, hE19, hE20, hE21, hE22, hE23, hE24]
    simp [eup, inE]
  · rw [inE_in (by omega) (by omega)]
    simp only [hE1, hE2, hE3, hE4, hE5, hE6, hE7, hE8, hE9, hE10, hE11, hE12, hE13, hE14, hE15, hE16, hE17, hE18, hE19, hE20, hE21, hE22, hE23, hE24]
    simp [eup, inE]
  · rw [inE_in (by omega) (by omega)]
    simp only [hE1, hE2, hE3, hE4, hE5, hE6, hE7, hE8, hE9, hE10, hE11, hE12, hE13, hE14, hE15, hE16, hE17, hE18, hE19, hE20, hE21, hE22, hE23, hE24]
    simp [eup, inE]
  · rw [inE_in (by omega) (by omega)]
    simp only [hE1, hE2, hE3, hE4, hE5, hE6, hE7, hE8, hE9, hE10, hE11, hE12, hE13, hE14, hE15, hE16, hE17, hE18, hE19, hE20, hE21, hE22, hE23, hE24]
    simp [eup, inE]
  · rw [inE_in (by omega) (by omega)]
    simp only [hE1, hE2, hE3, hE4, hE5, hE6, hE7, hE8, hE9, hE10, hE11, hE12, hE13, hE14, hE15, hE16, hE17, hE18, hE19, hE20, hE21, hE22, hE23, hE24]
    simp [eup, inE]
  · rw [inE_in (by omega) (by omega)]
    simp only [hE1, hE2, hE3, hE4, hE5, hE6, hE7, hE8, hE9, hE10, hE11, hE12, hE13, hE14, hE15, hE16, hE17, hE18, hE19, hE20, hE21, hE22, hE23, hE24]
    simp [eup, inE]
  · rw [inE_in (by omega) (by omega)]
    simp only [hE1, hE2, hE3, hE4, hE5, hE6, hE7, hE8, hE9, hE10, hE11, hE12, hE13, hE14, hE15, hE16, hE17, hE18, hE19, hE20, hE21, hE22, hE23, hE24]
    simp [eup, inE]
  · rw [inE_in (by omega) (by omega)]
    simp only [hE1, hE2, hE3, hE4, hE5, hE6, hE7, hE8, hE9, hE10, hE11, hE12, hE13, hE14, hE15, hE16, hE17, hE18, hE19, hE20, hE21, hE22, hE23, hE24]
    simp [eup, inE]
  · rw [inE_in (by omega) (by omega)]
    simp only [hE1, hE2, hE3, hE4, hE5, hE6, hE7, hE8, hE9, hE10, hE11, hE12, hE13, hE14, hE15, hE16, hE17, hE18, hE19, hE20, hE21, hE22, hE23, hE24]
    simp [eup, inE]
  · rw [inE_in (by omega) (by omega)]
    simp only [hE1, hE2, hE3, hE4, hE5, hE6, hE7, hE8, hE9, hE10, hE11, hE12, hE13, hE14, hE15, hE16, hE17, hE18, hE19, hE20, hE21, hE22, hE23, hE24]
    simp [eup, inE]
  · rw [inE_in (by omega) (by omega)]
    simp only [hE1, hE2, hE3, hE4, hE5, hE6, hE7, hE8, hE9, hE10, hE11, hE12, hE13, hE14, hE15, hE16, hE17, hE18, hE19, hE20, hE21, hE22, hE23, hE24]
    simp [eup, inE]
  · rw [inE_in (by omega) (by omega)]
    simp only [hE1, hE2, hE3, hE4, hE5, hE6, hE7, hE8, hE9, hE10, hE11, hE12, hE13, hE14, hE15, hE16, hE17, hE18, hE19, hE20, hE21, hE22, hE23, hE24]
    simp [eup, inE]
  · rw [inE_in (by omega) (by omega)]
    simp only [hE1, hE2, hE3, hE4, hE5, hE6, hE7, hE8, hE9, hE10, hE11, hE12, hE13, hE14, hE15, hE16, hE17, hE18, hE19, hE20, hE21, hE22, hE23, hE24]
    simp [eup, inE]
  · rw [inE_in (by omega) (by omega)]
    simp only [hE1, hE2, hE3, hE4, hE5, hE6, hE7, hE8, hE9, hE10, hE11, hE12, hE13, hE14, hE15, hE16, hE17, hE18, hE19, hE20, hE21, hE22, hE23, hE24]
    simp [eup, inE]
  · rw [inE_in (by omega) (by omega)]
    simp only [hE1, hE2, hE3, hE4, hE5, hE6, hE7, hE8, hE9, hE10, hE11, hE12, hE13, hE14, hE15, hE16, hE17, hE18, hE19, hE20, hE21, hE22, hE23, hE24]
    simp [eup, inE]
  · rw [inE_in (by omega) (by omega)]
    simp only [hE1, hE2, hE3, hE4, hE5, hE6, hE7, hE8, hE9, hE10, hE11, hE12, hE13, hE14, hE15, hE16, hE17, hE18, hE19, hE20, hE21, hE22, hE23, hE24]
    simp [eup, inE]
  · rw [inE_in (by omega) (by omega)]
    simp only [hE1, hE2, hE3, hE4, hE5, hE6, hE7, hE8, hE9, hE10, hE11, hE12, hE13, hE14, hE15, hE16, hE17, hE18, hE19, hE20, hE21, hE22, hE23, hE24]
    simp [eup, inE]
  · rw [inE_in (by omega) (by omega)]
    simp only [hE1, hE2, hE3, hE4, hE5, hE6, hE7, hE8, hE9, hE10, hE11, hE12, hE13, hE14, hE15, hE16, hE17, hE18, hE19, hE20, hE21, hE22, hE23, hE24]
    simp [eup, inE]
  · rw [inE_in (by omega) (by omega)]
    simp only [hE1, hE2, hE3, hE4, hE5, hE6, hE7, hE8, hE9, hE10, hE11, hE12, hE13, hE14, hE15, hE16, hE17, hE18, hE19, hE20, hE21, hE22, hE23, hE24]
    simp [eup, inE]
  · rw [inE_in (by omega) (by omega)]
    simp only [hE1, hE2, hE3, hE4, hE5, hE6, hE7, hE8, hE9, hE10, hE11, hE12, hE13, hE14, hE15, hE16, hE17, hE18, hE19, hE20, hE21, hE22, hE23, hE24]
    simp [eup, inE]
  · rw [inE_in (by omega) (by omega)]
    simp only [hE1, hE2, hE3, hE4, hE5, hE6, hE7, hE8, hE9, hE10, hE11, hE12, hE13, hE14, hE15, hE16, hE17, hE18, hE19, hE20, hE21, hE22, hE23, hE24]
    simp [eup, inE]
  · rw [inE_in (by omega) (by omega)]
    simp only [hE1, hE2, hE3, hE4, hE5, hE6, hE7, hE8, hE9, hE10, hE11, hE12, hE13, hE14, hE15, hE16, hE17, hE18, hE19, hE20, hE21, hE22, hE23, hE24]
    simp [eup, inE]
  · rw [inE_in (by omega) (by omega)]
    simp only [hE1, hE2, hE3, hE4, hE5, hE6, hE7, hE8, hE9, hE10, hE11, hE12, hE13, hE14, hE15, hE16, hE17, hE18, hE19, hE20, hE21, hE22, hE23, hE24]
    simp [eup, inE]
  · rw [inE_in (by omega) (by omega)]
    simp only [hE1, hE2, hE3, hE4, hE5, hE6, hE7, hE8, hE9, hE10, hE11, hE12, hE13, hE14, hE15, hE16, hE17, hE18, hE19, hE20, hE21, hE22, hE23, hE24]
    simp [eup, inE]
