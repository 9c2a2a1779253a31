section
variable {p : Program} {l : Launch} {e : Env} {R : Room} {s : State} {m : MethodId} {args : Array Value} {below : List Frame} {meth : Method} {c : Code} {H : Heap} {locs : List Loc} {cells slots : Nat} {Q : State → Prop} {pc : Nat} {ls : Array Slot} {rest : List Value} {cc : ByteArray} {D : va_G} {cl : List vw_C} {tys : List (ClassId × FieldType)} {ws : va_W} {A : Nat → Prop} {H0 : Heap} {a : Nat}
/-- as va_put, va_putF of the kit, with the heap's size kept -/
theorem va_putFz (hexec : p.tables.exec = Jvm.exec) (hb : c.code = cc) {own ref C : String} {T : u_T} {N ci index : Nat} {Ts : List Cond} (hts : ∀ w ∈ Ts, w.before args s = true) (hin : ∀ w ∈ u_ws C T N, w ∈ Ts) (ty0 : Nat → FieldType) (hty : ∀ k, k < N → parseFieldDescriptor (T k).2.2.1 = some (ty0 k)) (hnm : ∀ a, a < N → ∀ b, b < N → a ≠ b → (T a).2.1 ≠ (T b).2.1) (hown : s.vm.findClass own = some m.cls) (hK : va_K D cl tys s) (hP : va_P D cl ws H) (hD : va_D A ws) (hS0 : va_S A H0 H locs) (q0 : Nat) {fs : List Value} (he : ws[q0]? = some (a, .inr (ci, fs))) (hc : cl[ci]? = some (C, T, N)) (k : Nat) (hk : k < N) (hlink : (Cond.fieldLink own index ref (T k).2.1 (T k).2.2.1).before args s = true) (hsame : ∀ x, s.fieldFound? (T k).1 (T k).2.1 (T k).2.2.1 = some x → s.fieldFound? ref (T k).2.1 (T k).2.2.1 = some x) (hfn : (T k).2.2.2 = false ∨ ((T k).2.2.2 = true ∧ meth.name = "<init>" ∧ (T k).1 = own)) {ty : FieldType} {v : Value} (hd : parseFieldDescriptor (T k).2.2.1 = some ty) (hn : narrow ty v = v) (hfit : fits ty v = true) (hl : k < fs.length)
    (hdg : decode cc pc = .ok (.putfield index, 3)) (kk : ∀ (H1 : Heap) (locs1 : List Loc), H1.size = H.size → va_P D cl (ws.set q0 (a, .inr (ci, fs.set k v))) H1 → va_D A (ws.set q0 (a, .inr (ci, fs.set k v))) → va_S A H0 H1 locs1 → W p l e R s m args below meth c H1 locs1 cells slots Q (F0 m (pc + 3) ls rest)) : W p l e R s m args below meth c H locs cells slots Q (F0 m pc ls (v :: .ref a :: rest)) := by
  have hap := va_apart (own := own) hts hin ty0 hty hnm hK hc
  obtain ⟨r, h1, cell, q1, q2, q3, q4⟩ := hP q0 _ he
  have hr : r = (C, T, N) := Option.some.inj (h1.symm.trans hc)
  subst hr
  obtain ⟨hS, hfc, kC, hkC, hkind⟩ := hK.1 ci _ hc
  obtain ⟨cf, kf, fi, f, hi, hsl⟩ := hS k hk
  have hlay := hts _ (hin _ (u_in_lay hk))
  unfold u_lay at hlay
  have hst := (u_facts hfc hkC (u_lays hts hin hk) hi).1
  rcases hfn with hfin | ⟨hfin, hin2, hdecl⟩
  · rw [if_neg (by rw [hfin]; decide)] at hlay
    have h6 := u_store hfc hkC hkind hlay hi hd hn hfit
    refine W.putK hexec hb (f := f) ⟨hown, hlink, ⟨_, _, _, hsame _ hi⟩, hst⟩ (by rw [q2]; exact h6) q1 q3 (by rw [hsl]; exact k2_hasslot (q4 k hk)) rfl rfl hdg fun H' e1 e2 e3 => ?_
    rw [hsl] at e1 ⊢
    exact kk H' _ e2 (hP.set hD he ⟨_, hc, t_OB.to (V := updV (vp_V fs) k v) ⟨_, e1, q2, q3, t_set q4 hap hk v⟩ (fun j _ => vp_updV_set hl v j)⟩ e3) (hD.set he) (hS0.put e2 e3 (hD.2 q0 _ he))
  · rw [if_pos hfin] at hlay
    have hcf : m.cls = cf := by
      obtain ⟨_, _, c', _, _, _, -, -, hf', -, -, -, hown2, -⟩ := Cond.laysFinal_spec hlay
      have e1 : c' = cf := by have := hi.symm.trans hf'; simp at this; exact this.1.symm
      rw [hdecl] at hown2
      rw [← e1]; exact Option.some.inj (hown.symm.trans hown2)
    have h6 := u_fits hfc hkC hkind (Or.inr hlay) hi hd hn hfit
    refine W.putFinK hexec hb hown hlink (hsame _ hi) hst hcf hin2 (by rw [q2]; exact h6) q1 q3 (by rw [hsl]; exact k2_hasslot (q4 k hk)) rfl rfl hdg fun H' e1 e2 e3 => ?_
    rw [hsl] at e1 ⊢
    exact kk H' _ e2 (hP.set hD he ⟨_, hc, t_OB.to (V := updV (vp_V fs) k v) ⟨_, e1, q2, q3, t_set q4 hap hk v⟩ (fun j _ => vp_updV_set hl v j)⟩ e3) (hD.set he) (hS0.put e2 e3 (hD.2 q0 _ he))
end
def eup (E : Nat → va_E) (k : Nat) (e : va_E) : Nat → va_E := fun j => if j = k then e else E j
theorem eup_same (E : Nat → va_E) (k : Nat) (e : va_E) : eup E k e k = e := by simp [eup]
theorem eup_ne {E : Nat → va_E} {k : Nat} {e : va_E} {j : Nat} (h : j ≠ k) : eup E k e j = E j := by simp [eup, h]
def wlE (G : GG) (E : Nat → va_E) (N : Nat) : va_W := (List.range N).map (fun k => (gb G + k, E k))
def EP (G : GG) (E : Nat → va_E) (N : Nat) (H : Heap) : Prop := va_P (gD G) vwCl (wlE G E N) H ∧ H.size = gb G + N
theorem wlE_at {G : GG} {E : Nat → va_E} {N k : Nat} (h : k < N) : (wlE G E N)[k]? = some (gb G + k, E k) := by simp [wlE, h]
theorem wlE_lt {G : GG} {E : Nat → va_E} {N k : Nat} {q : Nat × va_E} (h : (wlE G E N)[k]? = some q) : k < N ∧ q = (gb G + k, E k) := by
  have hk : k < N := by
    have := (List.getElem?_eq_some_iff.mp h).1
    simpa [wlE] using this
  rw [wlE_at hk] at h
  exact ⟨hk, (Option.some.inj h).symm⟩
theorem wlE_D {G : GG} (E : Nat → va_E) (N : Nat) : va_D (gA G) (wlE G E N) := by
  refine ⟨fun i j p q hp hq e => ?_, fun i p hp => ?_⟩
  · obtain ⟨-, rfl⟩ := wlE_lt hp
    obtain ⟨-, rfl⟩ := wlE_lt hq
    dsimp only at e
    omega
  · obtain ⟨-, rfl⟩ := wlE_lt hp
    exact Nat.le_add_right _ _
theorem wlE_set {G : GG} {E : Nat → va_E} {N k : Nat} {e : va_E} : (wlE G E N).set k (gb G + k, e) = wlE G (eup E k e) N := by
  apply List.ext_getElem?
  intro j
  unfold wlE
  rw [List.getElem?_set]
  by_cases h : k = j
  · subst h
    by_cases hk : k < N
    · simp [hk, eup]
    · simp [hk]
  · rw [if_neg h]
    by_cases hj : j < N
    · have h2 : ¬ j = k := fun q => h q.symm
      simp [hj, eup, h2]
    · simp [hj]
theorem EP.congr {G : GG} {E E1 : Nat → va_E} {N : Nat} {H : Heap} (h : EP G E N H) (he : ∀ j, j < N → E1 j = E j) : EP G E1 N H := by
  refine ⟨fun k q hq => ?_, h.2⟩
  obtain ⟨hk, rfl⟩ := wlE_lt hq
  rw [he k hk]
  exact h.1 k _ (wlE_at hk)
theorem EP.push {G : GG} {E : Nat → va_E} {N : Nat} {H H1 : Heap} {e : va_E} (h : EP G E N H) (hz : H1.size = H.size + 1) (ho : ∀ q, q < H.size → H1[q]? = H[q]?) (he : va_at (gD G) vwCl (gb G + N, e) H1) : EP G (eup E N e) (N + 1) H1 := by
  refine ⟨fun k q hq => ?_, by rw [hz, h.2]; omega⟩
  obtain ⟨hk, rfl⟩ := wlE_lt hq
  by_cases hkN : k = N
  · subst hkN
    rw [eup_same]; exact he
  · rw [eup_ne hkN]
    exact va_at_ext (h.1 k _ (wlE_at (by omega))) (fun a ha => ho a ha)
def VP (G : GG) (κ : KK) (nL cells slots : Nat) (Pr : Heap → Prop) (pc : Nat) (L : List (Nat × Value)) (st : List Value) : Prop := match κ with
  | (p, l, e, R, s, m, args, below, meth, c, Q) => ∀ (H : Heap) (locs : List Loc) (ls : Array Slot), lv_has ls nL L → Pr H → va_S (gA G) s.heap H locs → W p l e R s m args below meth c H locs cells slots Q (F0 m pc ls st)
def CxI (κ : KK) : Prop := match κ with
  | (_, _, _, _, _, _, _, _, meth, _, _) => meth.name = "<init>"
def CxA (κ : KK) : Prop := match κ with
  | (_, _, _, _, s, _, args, _, _, _, _) => (Cond.arrayClass .int).before args s = true ∧ (Cond.arrayClass .char).before args s = true ∧ va_AO "LarderPatrol$Larder" s
section
variable {G : GG} {κ : KK} {cc : ByteArray} {own : String} {ret : Option FieldType} {nL cells slots : Nat} {rm : Room} {Pr : Heap → Prop} {L : List (Nat × Value)} {st rest : List Value}
theorem VP_iconst (pc : Nat) (C : Cx G κ cc own ret nL rm) {n : Int} {v : Int32} (d : decode cc pc = .ok (.iconst n, 1)) (hv : Int32.ofInt n = v) (k : VP G κ nL cells slots Pr (pc + 1) L (.int v :: st)) : VP G κ nL cells slots Pr pc L (st) := by
  obtain ⟨p, l, e, R, s, m, args, below, meth, c, Q⟩ := κ
  intro H locs ls hl hP hS
  exact lv_iconst C.1 C.2.1 d hv (k H locs ls hl hP hS)
theorem VP_bipush (pc : Nat) (C : Cx G κ cc own ret nL rm) {n : Int} {v : Int32} (d : decode cc pc = .ok (.bipush n, 2)) (hv : (Int8.ofInt n).toInt32 = v) (k : VP G κ nL cells slots Pr (pc + 2) L (.int v :: st)) : VP G κ nL cells slots Pr pc L (st) := by
  obtain ⟨p, l, e, R, s, m, args, below, meth, c, Q⟩ := κ
  intro H locs ls hl hP hS
  exact lv_bipush C.1 C.2.1 d hv (k H locs ls hl hP hS)
theorem VP_sipush (pc : Nat) (C : Cx G κ cc own ret nL rm) {n : Int} {v : Int32} (d : decode cc pc = .ok (.sipush n, 3)) (hv : (Int16.ofInt n).toInt32 = v) (k : VP G κ nL cells slots Pr (pc + 3) L (.int v :: st)) : VP G κ nL cells slots Pr pc L (st) := by
  obtain ⟨p, l, e, R, s, m, args, below, meth, c, Q⟩ := κ
  intro H locs ls hl hP hS
  exact lv_sipush C.1 C.2.1 d hv (k H locs ls hl hP hS)
theorem VP_iload_n (pc : Nat) (C : Cx G κ cc own ret nL rm) (j : Nat) {i : Fin 4} {x : Int32} (d : decode cc pc = .ok (.iload_n i, 1)) (hk : L[j]? = some ((i : Nat), .int x)) (k : VP G κ nL cells slots Pr (pc + 1) L (.int x :: st)) : VP G κ nL cells slots Pr pc L (st) := by
  obtain ⟨p, l, e, R, s, m, args, below, meth, c, Q⟩ := κ
  intro H locs ls hl hP hS
  exact lv_iload_n C.1 C.2.1 d rfl (lv_at hl j hk) (k H locs ls hl hP hS)
theorem VP_aload_n (pc : Nat) (C : Cx G κ cc own ret nL rm) (j : Nat) {i : Fin 4} {x : Nat} (d : decode cc pc = .ok (.aload_n i, 1)) (hk : L[j]? = some ((i : Nat), .ref x)) (k : VP G κ nL cells slots Pr (pc + 1) L (.ref x :: st)) : VP G κ nL cells slots Pr pc L (st) := by
  obtain ⟨p, l, e, R, s, m, args, below, meth, c, Q⟩ := κ
  intro H locs ls hl hP hS
  exact lv_aload_n C.1 C.2.1 d rfl (lv_at hl j hk) (k H locs ls hl hP hS)
theorem VP_dup (pc : Nat) (C : Cx G κ cc own ret nL rm) {v : Value} (d : decode cc pc = .ok (.dup, 1)) (hv : v.category = 1) (k : VP G κ nL cells slots Pr (pc + 1) L (v :: v :: st)) : VP G κ nL cells slots Pr pc L (v :: st) := by
  obtain ⟨p, l, e, R, s, m, args, below, meth, c, Q⟩ := κ
  intro H locs ls hl hP hS
  exact lv_dup C.1 C.2.1 d hv (k H locs ls hl hP hS)
theorem VP_istore_n (pc : Nat) (C : Cx G κ cc own ret nL rm) (L1 : List (Nat × Value)) {i : Nat} {j : Fin 4} {x : Int32} (d : decode cc pc = .ok (.istore_n j, 1)) (hj : (j : Nat) = i) (hn : Nat.blt i nL = true) (hL : (i, Value.int x) :: L.filter (fun q => !(q.1 == i) && !(q.1 + 1 == i && q.2.category == 2)) = L1) (k : VP G κ nL cells slots Pr (pc + 1) L1 st) : VP G κ nL cells slots Pr pc L (.int x :: st) := by
  obtain ⟨p, l, e, R, s, m, args, below, meth, c, Q⟩ := κ
  intro H locs ls hl hP hS
  exact lv_istore_n C.1 C.2.1 d hj hl (Nat.le_of_ble_eq_true hn) hL (fun ls1 hl1 => k H locs ls1 hl1 hP hS)
theorem VP_istore (pc : Nat) (C : Cx G κ cc own ret nL rm) (L1 : List (Nat × Value)) {i : Nat} {x : Int32} (d : decode cc pc = .ok (.istore i, 2)) (hn : Nat.blt i nL = true) (hL : (i, Value.int x) :: L.filter (fun q => !(q.1 == i) && !(q.1 + 1 == i && q.2.category == 2)) = L1) (k : VP G κ nL cells slots Pr (pc + 2) L1 st) : VP G κ nL cells slots Pr pc L (.int x :: st) := by
  obtain ⟨p, l, e, R, s, m, args, below, meth, c, Q⟩ := κ
  intro H locs ls hl hP hS
  exact lv_istore C.1 C.2.1 d hl (Nat.le_of_ble_eq_true hn) hL (fun ls1 hl1 => k H locs ls1 hl1 hP hS)
theorem VP_astore_n (pc : Nat) (C : Cx G κ cc own ret nL rm) (L1 : List (Nat × Value)) {i : Nat} {j : Fin 4} {x : Nat} (d : decode cc pc = .ok (.astore_n j, 1)) (hj : (j : Nat) = i) (hn : Nat.blt i nL = true) (hL : (i, Value.ref x) :: L.filter (fun q => !(q.1 == i) && !(q.1 + 1 == i && q.2.category == 2)) = L1) (k : VP G κ nL cells slots Pr (pc + 1) L1 st) : VP G κ nL cells slots Pr pc L (.ref x :: st) := by
  obtain ⟨p, l, e, R, s, m, args, below, meth, c, Q⟩ := κ
  intro H locs ls hl hP hS
  exact lv_astore_n C.1 C.2.1 d hj hl (Nat.le_of_ble_eq_true hn) hL (fun ls1 hl1 => k H locs ls1 hl1 hP hS)
theorem VP_astore (pc : Nat) (C : Cx G κ cc own ret nL rm) (L1 : List (Nat × Value)) {i : Nat} {x : Nat} (d : decode cc pc = .ok (.astore i, 2)) (hn : Nat.blt i nL = true) (hL : (i, Value.ref x) :: L.filter (fun q => !(q.1 == i) && !(q.1 + 1 == i && q.2.category == 2)) = L1) (k : VP G κ nL cells slots Pr (pc + 2) L1 st) : VP G κ nL cells slots Pr pc L (.ref x :: st) := by
  obtain ⟨p, l, e, R, s, m, args, below, meth, c, Q⟩ := κ
  intro H locs ls hl hP hS
  exact lv_astore C.1 C.2.1 d hl (Nat.le_of_ble_eq_true hn) hL (fun ls1 hl1 => k H locs ls1 hl1 hP hS)
theorem VP_iinc (pc : Nat) (C : Cx G κ cc own ret nL rm) (L1 : List (Nat × Value)) (j : Nat) {i : Nat} {n : Int} {x : Int32} (v : Int32) (d : decode cc pc = .ok (.iinc i n, 3)) (hk : L[j]? = some (i, .int x)) (hv : x + Int32.ofInt n = v) (hn : Nat.blt i nL = true) (hL : (i, Value.int v) :: L.filter (fun q => !(q.1 == i) && !(q.1 + 1 == i && q.2.category == 2)) = L1) (k : VP G κ nL cells slots Pr (pc + 3) L1 st) : VP G κ nL cells slots Pr pc L st := by
  obtain ⟨p, l, e, R, s, m, args, below, meth, c, Q⟩ := κ
  intro H locs ls hl hP hS
  exact lv_iinc C.1 C.2.1 d hl hk hv (Nat.le_of_ble_eq_true hn) hL (fun ls1 hl1 => k H locs ls1 hl1 hP hS)
theorem VP_icmp_ge (pc tgt : Nat) (C : Cx G κ cc own ret nL rm) {x y : Int32} {off : Int} (d : decode cc pc = .ok (.if_icmp .ge off, 3)) (ht : (pc : Int) + off = (tgt : Int)) (kt : y ≤ x → VP G κ nL cells slots Pr tgt L st) (kf : ¬ y ≤ x → VP G κ nL cells slots Pr (pc + 3) L st) : VP G κ nL cells slots Pr pc L (.int y :: .int x :: st) := by
  obtain ⟨p, l, e, R, s, m, args, below, meth, c, Q⟩ := κ
  intro H locs ls hl hP hS
  exact lv_icmp_ge C.1 C.2.1 d ht (fun h => kt h H locs ls hl hP hS) (fun h => kf h H locs ls hl hP hS)
theorem VP_goto (pc tgt : Nat) (C : Cx G κ cc own ret nL rm) {off : Int} (d : decode cc pc = .ok (.goto off, 3)) (ht : (pc : Int) + off = (tgt : Int)) (k : VP G κ nL cells slots Pr tgt L st) : VP G κ nL cells slots Pr pc L st := by
  obtain ⟨p, l, e, R, s, m, args, below, meth, c, Q⟩ := κ
  intro H locs ls hl hP hS
  exact lv_goto C.1 C.2.1 d ht (k H locs ls hl hP hS)
theorem VP_obj (pc : Nat) (C : Cx G κ cc own ret nL rm) {idx a : Nat} (d : decode cc pc = .ok (.invokespecial idx, 3)) (hlk : Cond.methodLink own idx Lib.objectInit ∈ lw_tbl) (hin : Cond.instanceMethod Lib.objectInit ∈ lw_tbl) (hcd : Cond.code Lib.objectInit ⟨#[0xb1]⟩ 1 none ∈ lw_tbl) (hR : (Nat.ble 1 rm.frames && Nat.ble ((st.map fun v => v.category).sum + 12) rm.locals) = true) (k : VP G κ nL cells slots Pr (pc + 3) L st) : VP G κ nL cells slots Pr pc L (.ref a :: st) := by
  obtain ⟨p, l, e, R, s, m, args, below, meth, c, Q⟩ := κ
  intro H locs ls hl hP hS
  simp only [Bool.and_eq_true, Nat.ble_eq] at hR
  obtain ⟨hx, hb, -, hml, hown, -, hRm, hWS⟩ := id C
  subst hRm
  refine W.objInit hx hb hown (wd C hlk rfl) (wd C hin rfl) (wd C hcd rfl) rfl (by show ls.size = _; rw [hml]; exact hl.1) rfl d hR.1 (by show 2 * 0 + _ + 12 ≤ _; omega) ?_
  exact W.eq (g2 := F0 m (pc + 3) ls st) rfl (k H locs ls hl hP hS)
theorem VP_put (pc : Nat) (C : Cx G κ cc own ret nL rm) (CI : CxI κ) {ref Cn : String} {T : u_T} {N ci index k N9 : Nat} {E : Nat → va_E} {fs : List Value} (d : decode cc pc = .ok (.putfield index, 3)) (hk : k < N9) (hce : E k = .inr (ci, fs)) (hcl : vwCl[ci]? = some (Cn, T, N)) (hin : ∀ w ∈ u_ws Cn T N, w ∈ lw_tbl) (ty0 : Nat → FieldType) (hty : ∀ k, k < N → parseFieldDescriptor (T k).2.2.1 = some (ty0 k)) (hnm : ∀ a, a < N → ∀ b, b < N → a ≠ b → (T a).2.1 ≠ (T b).2.1) (j : Nat) (hj : Nat.blt j N = true) (hw : Cond.fieldLink own index ref (T j).2.1 (T j).2.2.1 ∈ lw_tbl) (hsame : (T j).1 = ref) (hown : (T j).1 = own) {ty : FieldType} {v : Value} (hty2 : ty0 j = ty) (hnr : narrow ty v = v) (hfit : fits ty v = true) (hlen : Nat.blt j fs.length = true) (kk : VP G κ nL cells slots (EP G (eup E k (.inr (ci, fs.set j v))) N9) (pc + 3) L st) : VP G κ nL cells slots (EP G E N9) pc L (v :: .ref (gb G + k) :: st) := by
  obtain ⟨p, l, e, R, s, m, args, below, meth, c, Q⟩ := κ
  intro H locs ls hl hP hS
  have h9 : ∀ (H1 : Heap) (locs1 : List Loc), H1.size = H.size → va_P (gD G) vwCl ((wlE G E N9).set k (gb G + k, .inr (ci, fs.set j v))) H1 → va_D (gA G) ((wlE G E N9).set k (gb G + k, .inr (ci, fs.set j v))) → va_S (gA G) s.heap H1 locs1 → W p l e R s m args below meth c H1 locs1 cells slots Q (F0 m (pc + 3) ls st) := fun H1 locs1 hz hP1 hD1 hS1 => by
    rw [wlE_set] at hP1
    exact kk H1 locs1 ls hl ⟨hP1, hz.trans hP.2⟩ hS1
  cases hfin : (T j).2.2.2 with
  | true => exact va_putFz (C := Cn) (T := T) (N := N) (Ts := u_ws Cn T N) (ty := ty) C.1 C.2.1 (fun w h => wd C (hin w h) (u_ws_good w h)) (fun _ h => h) ty0 hty hnm C.2.2.2.2.1 C.2.2.2.2.2.2.2.1 hP.1 (wlE_D E N9) hS k (by rw [wlE_at hk, hce]) hcl j (Nat.le_of_ble_eq_true hj) (wd C hw rfl) (fun x h => by rw [← hsame]; exact h) (Or.inr ⟨hfin, CI, hown⟩) (by rw [hty j (Nat.le_of_ble_eq_true hj), hty2]) hnr hfit (Nat.le_of_ble_eq_true hlen) d h9
  | false => exact va_putFz (C := Cn) (T := T) (N := N) (Ts := u_ws Cn T N) (ty := ty) C.1 C.2.1 (fun w h => wd C (hin w h) (u_ws_good w h)) (fun _ h => h) ty0 hty hnm C.2.2.2.2.1 C.2.2.2.2.2.2.2.1 hP.1 (wlE_D E N9) hS k (by rw [wlE_at hk, hce]) hcl j (Nat.le_of_ble_eq_true hj) (wd C hw rfl) (fun x h => by rw [← hsame]; exact h) (Or.inl hfin) (by rw [hty j (Nat.le_of_ble_eq_true hj), hty2]) hnr hfit (Nat.le_of_ble_eq_true hlen) d h9

theorem VP_newarr (pc : Nat) (C : Cx G κ cc own ret nL rm) {atype : ArrayType} {ty : FieldType} {t0 : Nat} {N9 n : Nat} {E : Nat → va_E} {x : Int32} (d : decode cc pc = .ok (.newarray atype, 2)) (hty : newarray.typeOf atype = ty) (ht : (tysG G)[t0]? = some (gcl G t0, ty)) (harr : match κ with | (_, _, _, _, s, _, args, _, _, _, _) => (Cond.arrayClass ty).before args s = true) (a0 : vp_A) (ha : ∀ cA : ClassId, vp_cell cA a0 = arrV cA n (fun _ => defaultValue ty)) (hn : ¬ x < 0) (hx : x.toNatClampNeg = n) (hbytes : Nat.ble (n * componentBytes ty) 536870912 = true) (hc : cells + 1 ≤ rm.cells) (hs : slots + n ≤ rm.slots) (kk : VP G κ nL (cells + 1) (slots + n) (EP G (eup E N9 (.inl (gcl G t0, a0))) (N9 + 1)) (pc + 2) L (.ref (gb G + N9) :: st)) : VP G κ nL cells slots (EP G E N9) pc L (.int x :: st) := by
  obtain ⟨p, l, e, R, s, m, args, below, meth, c, Q⟩ := κ
  intro H locs ls hl hP hS
  subst hty
  obtain ⟨hx9, hb, -, hml, hown, -, hRm, hWS⟩ := id C
  subst hRm
  refine va_newaK hx9 hb harr rfl d rfl hn hx (Nat.le_of_ble_eq_true hbytes) hc hs rfl fun H1 cA e1 z1 o1 hAr hNm => ?_
  have hcA : cA = gcl G t0 := by
    have h1 := (hWS.1.2 t0 _ ht).2
    cases atype <;> first | exact Option.some.inj (hNm.symm.trans h1)
  refine W.eq (g2 := F0 m (pc + 2) ls (.ref (gb G + N9) :: st)) (by show F0 m (pc + 2) ls (.ref H.size :: st) = _; rw [hP.2]) ?_
  refine kk H1 locs ls hl (hP.push z1 o1 ?_) ⟨Nat.le_trans hS.1 (by omega), fun q h1 h2 => by rw [o1 q (Nat.lt_of_lt_of_le h1 hS.1)]; exact hS.2.1 q h1 h2, hS.2.2⟩
  show H1[gb G + N9]? = some (vp_cell _ _)
  rw [ha, ← hP.2, ← hcA]
  exact e1
theorem VP_newI (pc : Nat) (C : Cx G κ cc own ret nL rm) (CA : CxA κ) {N9 n : Nat} {E : Nat → va_E} {x : Int32} (d : decode cc pc = .ok (.newarray .int, 2)) (hn : ¬ x < 0) (hx : x.toNatClampNeg = n) (hbytes : Nat.ble (n * 4) 536870912 = true) (hc : cells + 1 ≤ rm.cells) (hs : slots + n ≤ rm.slots) (kk : VP G κ nL (cells + 1) (slots + n) (EP G (eup E N9 (.inl (gcl G 0, n, .inl (fun _ => 0)))) (N9 + 1)) (pc + 2) L (.ref (gb G + N9) :: st)) : VP G κ nL cells slots (EP G E N9) pc L (.int x :: st) :=
  VP_newarr (t0 := 0) pc C d rfl rfl (by obtain ⟨p, l, e, R, s, m, args, below, meth, c, Q⟩ := κ; exact CA.1) (n, .inl (fun _ => 0)) (fun cA => vp_cell_i cA n _) hn hx hbytes hc hs kk
theorem VP_newC (pc : Nat) (C : Cx G κ cc own ret nL rm) (CA : CxA κ) {N9 n : Nat} {E : Nat → va_E} {x : Int32} (d : decode cc pc = .ok (.newarray .char, 2)) (hn : ¬ x < 0) (hx : x.toNatClampNeg = n) (hbytes : Nat.ble (n * 2) 536870912 = true) (hc : cells + 1 ≤ rm.cells) (hs : slots + n ≤ rm.slots) (kk : VP G κ nL (cells + 1) (slots + n) (EP G (eup E N9 (.inl (gcl G 1, n, .inl (fun _ => 0)))) (N9 + 1)) (pc + 2) L (.ref (gb G + N9) :: st)) : VP G κ nL cells slots (EP G E N9) pc L (.int x :: st) :=
  VP_newarr (t0 := 1) pc C d rfl rfl (by obtain ⟨p, l, e, R, s, m, args, below, meth, c, Q⟩ := κ; exact CA.2.1) (n, .inl (fun _ => 0)) (fun cA => vp_cell_i cA n _) hn hx hbytes hc hs kk
def QE (G : GG) (E : Nat → va_E) (N : Nat) : Array Value → State → Outcome → State → Prop := va_Qv (fun (_ : Unit) => True) (fun _ t => EP G E N t.heap) (gA G)
abbrev ConE (G : GG) (l : Launch) (y : MethodName) (b : ByteArray) (maxL : Nat) (rm : Room) (k : Nat) (E E1 : Nat → va_E) (N N1 mc ms : Nat) : Prop :=
  Met l y [.code y b maxL none, .arrayClass .int, .arrayClass .char] rm (va_Pc [.ref (gb G + k)] (fun U => WS G U ∧ va_AO "LarderPatrol$Larder" U ∧ EP G E N U.heap)) (QE G E1 N1) mc ms (gA G)
theorem EP_blind {G : GG} {E : Nat → va_E} {N : Nat} {vs : List Value} : FrameBlind (va_Pc vs (fun U => WS G U ∧ va_AO "LarderPatrol$Larder" U ∧ EP G E N U.heap)) := by
  intro a U g mk h
  obtain ⟨h0, ⟨a1, b1, c1, d1, e1, f1, g1⟩, hao, h2⟩ := h
  exact ⟨h0, ⟨va_K.moved (u := U) (U := U.calling g mk a) (Vm.Alike.refl U.vm) a1, fun w hw hg => gnw_same (u := U) (U := U.calling g mk a) hg rfl (b1 w hw hg), c1, d1, SH.moved (u := U) (U := U.calling g mk a) (Vm.Alike.refl U.vm) e1, fun q hq => (f1 q hq).elim fun sa h => ⟨sa, vk_R.same (u := U) (U := U.calling g mk a) rfl h⟩, fun q hq => va_Nc.moved (u := U) (U := U.calling g mk a) (Vm.Alike.refl U.vm) (g1 q hq)⟩, va_AO.moved (u := U) (U := U.calling g mk a) (Vm.Alike.refl U.vm) hao, h2⟩
theorem conE_of {l : Launch} {y : MethodName} {b : ByteArray} {maxL k : Nat} {E E1 : Nat → va_E} {N N1 mc ms : Nat} (hy : plainName y.cls = true) (hi : y.name = "<init>") (hm : 1 ≤ maxL)
    (body : ∀ κ, Cx G κ b y.cls none maxL rm → CxI κ → CxA κ → HQ G κ (QE G E1 N1) mc ms → VP G κ maxL 0 0 (EP G E N) 0 [(0, .ref (gb G + k))] []) : ConE G l y b maxL rm k E E1 N N1 mc ms := by
  refine Met.ofW (cc := b) (maxL := maxL) (ret := none) hy rfl ?_
  intro p e s m args below meth c s₁ B hml hv
  obtain ⟨rfl, hWS, hAO, hP⟩ := hv
  have hts := atoms_spec (ws := [.code y b maxL none, .arrayClass .int, .arrayClass .char]) B.pre
  have h1 := body (p, l, e, (headSpec [.code y b maxL none, .arrayClass .int, .arrayClass .char] rm).room, s, m, ([.ref (gb G + k)] : List Value).toArray, below, meth, c, MQ below (QE G E1 N1) ([.ref (gb G + k)] : List Value).toArray s mc ms (gA G)) ⟨B.exec, B.bytes, B.returns, hml, findClass_of_methodNamed B.named, B.notSynchronized, rfl, hWS⟩ ((name_of_methodNamed B.named B.method).1.trans hi) ⟨hts _ (List.mem_cons_of_mem _ List.mem_cons_self), hts _ (List.mem_cons_of_mem _ (List.mem_cons_of_mem _ List.mem_cons_self)), hAO⟩ rfl
  rw [lg_entry_eq]
  exact h1 s.heap [] _ (lv_entry [.ref (gb G + k)] hm) hP va_S.rf
theorem VP_ret (pc : Nat) (C : Cx G κ cc own none nL rm) {E E1 : Nat → va_E} {N N1 mc ms : Nat} (hQ : HQ G κ (QE G E1 N1) mc ms) (hN : N = N1) (he : ∀ j, j < N → E1 j = E j) (hc : cells ≤ mc) (hs : slots ≤ ms) (d : decode cc pc = .ok (.return_, 1)) : VP G κ nL cells slots (EP G E N) pc L [] := by
  subst hN
  obtain ⟨p, l, e, R, s, m, args, below, meth, c, Q⟩ := κ
  intro H locs ls hl hP hS
  rw [show Q = _ from hQ]
  refine W.widen hc hs ?_
  exact W.vret C.1 C.2.1 C.2.2.1 (fun t ht hW => ⟨⟨(), rfl, trivial, by subst ht; exact hP.congr he⟩, hS.F ht⟩) hS.2.2 d C.2.2.2.2.2.1
theorem EP.congrA {G : GG} {E E1 : Nat → va_E} {N : Nat} {H : Heap} (h : EP G E N H) (he : ∀ j, j < N → va_at (gD G) vwCl (gb G + j, E j) H → va_at (gD G) vwCl (gb G + j, E1 j) H) : EP G E1 N H := by
  refine ⟨fun k q hq => ?_, h.2⟩
  obtain ⟨hk, rfl⟩ := wlE_lt hq
  exact he k hk (h.1 k _ (wlE_at hk))
theorem VP_retA (pc : Nat) (C : Cx G κ cc own none nL rm) {E E1 : Nat → va_E} {N N1 mc ms : Nat} (hQ : HQ G κ (QE G E1 N1) mc ms) (hN : N = N1) (he : ∀ j, j < N → ∀ H, va_at (gD G) vwCl (gb G + j, E j) H → va_at (gD G) vwCl (gb G + j, E1 j) H) (hc : cells ≤ mc) (hs : slots ≤ ms) (d : decode cc pc = .ok (.return_, 1)) : VP G κ nL cells slots (EP G E N) pc L [] := by
  subst hN
  obtain ⟨p, l, e, R, s, m, args, below, meth, c, Q⟩ := κ
  intro H locs ls hl hP hS
  rw [show Q = _ from hQ]
  refine W.widen hc hs ?_
  exact W.vret C.1 C.2.1 C.2.2.1 (fun t ht hW => ⟨⟨(), rfl, trivial, by subst ht; exact hP.congrA (fun j hj => he j hj _)⟩, hS.F ht⟩) hS.2.2 d C.2.2.2.2.2.1
theorem arrV_congr {c : ClassId} {n : Nat} {f g : Nat → Value} (h : ∀ q, q < n → f q = g q) : arrV c n f = arrV c n g := by
  unfold arrV
  congr 1
  exact congrArg Array.ofFn (funext fun j => h j.1 j.2)
theorem VP_alenO (pc : Nat) (C : Cx G κ cc own ret nL rm) {k N9 : Nat} {E : Nat → va_E} {f : Nat → Option Nat} (d : decode cc pc = .ok (.arraylength, 1)) (hk : k < N9) (hce : E k = .inl (gcl G 2, 8, .inr (.inr (.inr (.inr f))))) (kk : VP G κ nL cells slots (EP G E N9) (pc + 1) L (.int 8 :: st)) : VP G κ nL cells slots (EP G E N9) pc L (.ref (gb G + k) :: st) := by
  obtain ⟨p, l, e, R, s, m, args, below, meth, c, Q⟩ := κ
  intro H locs ls hl hP hS
  exact va_alen (ty := .object "LarderPatrol$Larder") (x := (8, .inr (.inr (.inr (.inr f))))) C.1 C.2.1 C.2.2.2.2.2.2.2.1 hP.1 k 2 (by rw [wlE_at hk, hce]) rfl (v := 8) (show Int32.ofNat 8 = 8 by decide) d (kk H locs ls hl hP hS)
theorem VP_anew (pc : Nat) (C : Cx G κ cc own ret nL rm) (CA : CxA κ) {idx N9 n : Nat} {E : Nat → va_E} {x : Int32} (d : decode cc pc = .ok (.anewarray idx, 3)) (hlk : Cond.classLink own idx "LarderPatrol$Larder" ∈ lw_tbl) (hn : ¬ x < 0) (hx : x.toNatClampNeg = n) (hbytes : Nat.ble (n * 4) 536870912 = true) (hc : cells + 1 ≤ rm.cells) (hs : slots + n ≤ rm.slots) (kk : VP G κ nL (cells + 1) (slots + n) (EP G (eup E N9 (.inl (gcl G 2, n, .inr (.inr (.inr (.inr (fun _ => none))))))) (N9 + 1)) (pc + 3) L (.ref (gb G + N9) :: st)) : VP G κ nL cells slots (EP G E N9) pc L (.int x :: st) := by
  obtain ⟨p, l, e, R, s, m, args, below, meth, c, Q⟩ := κ
  intro H locs ls hl hP hS
  subst hx
  obtain ⟨hx9, hb, -, hml, hown, -, hRm, hWS⟩ := id C
  subst hRm
  refine W.anew hx9 hb hown (wd C hlk rfl) (va_AO.use CA.2.2) rfl d rfl hn (Nat.le_of_ble_eq_true hbytes) hc hs fun cA kA comp f1 f2 f3 f4 => ?_
  generalize hH1 : H.push ({ cls := cA, slots := Array.replicate x.toNatClampNeg .null, vm := .none } : Cell) = H1
  have z1 : H1.size = H.size + 1 := by rw [← hH1, Array.size_push]
  have e1 : H1[H.size]? = some (arrV cA x.toNatClampNeg (fun _ => .null)) := by rw [← hH1, Array.getElem?_push_size, ← arrV_new]
  have o1 : ∀ q : Nat, q < H.size → H1[q]? = H[q]? := fun q hq => by rw [← hH1, Array.getElem?_push, if_neg (Nat.ne_of_lt hq)]
  have hcA : cA = gcl G 2 := by
    obtain ⟨kA2, comp2, h1, h2, h3, h4⟩ := (hWS.1.2 2 _ rfl).2
    exact Option.some.inj (f1.symm.trans h4)
  refine W.eq (g2 := F0 m (pc + 3) ls (.ref (gb G + N9) :: st)) (by show F0 m (pc + 3) ls (.ref H.size :: st) = _; rw [hP.2]) ?_
  refine kk H1 locs ls hl (hP.push z1 o1 ?_) ⟨Nat.le_trans hS.1 (by omega), fun q h1 h2 => by rw [o1 q (Nat.lt_of_lt_of_le h1 hS.1)]; exact hS.2.1 q h1 h2, hS.2.2⟩
  show H1[gb G + N9]? = some (vp_cell _ _)
  rw [vp_cell_q, ← hP.2, ← hcA]
  exact e1
theorem VP_aastO (pc : Nat) (C : Cx G κ cc own ret nL rm) {k v N9 : Nat} {E : Nat → va_E} {f : Nat → Option Nat} {vs : List Value} {i : Int32} (d : decode cc pc = .ok (.aastore, 1)) (hk : k < N9) (hce : E k = .inl (gcl G 2, 8, .inr (.inr (.inr (.inr f))))) (hv : v < N9) (hcv : E v = .inr (4, vs)) (hi : inb i 8 = true) (kk : VP G κ nL cells slots (EP G (eup E k (.inl (gcl G 2, 8, .inr (.inr (.inr (.inr (va_up f i.toNatClampNeg (some (gb G + v)))))))) ) N9) (pc + 1) L st) : VP G κ nL cells slots (EP G E N9) pc L (.ref (gb G + v) :: .int i :: .ref (gb G + k) :: st) := by
  obtain ⟨p, l, e, R, s, m, args, below, meth, c, Q⟩ := κ
  intro H locs ls hl hP hS
  obtain ⟨hx9, hb, -, hml, hown, -, hRm, hWS⟩ := id C
  have hin := inb_in hi
  have hlt : i.toNatClampNeg < 8 := inb_lt hi
  have h0 : ¬ i < 0 := inb_lo hi
  have hat : (wlE G E N9)[k]? = some (gb G + k, .inl (gcl G 2, 8, .inr (.inr (.inr (.inr f))))) := by rw [wlE_at hk, hce]
  have hav : (wlE G E N9)[v]? = some (gb G + v, .inr (4, vs)) := by rw [wlE_at hv, hcv]
  obtain ⟨r', hr', cellV, g1, g2, g3, -⟩ := hP.1 v _ hav
  have hcls := (hWS.1.1 4 _ rfl).2
  obtain ⟨kA, comp, k1, k2, k3, -⟩ := (hWS.1.2 2 _ rfl).2
  have hcomp : comp = (gD G).1 4 := Option.some.inj (k3.symm.trans hcls.1)
  subst hcomp
  obtain ⟨kC, hkC, -⟩ := hcls.2
  refine W.aast hx9 hb (hP.1 k _ hat) (fun q h => by cases h) (fun h => by cases h) k1 k2 rfl hkC ⟨h0, by show _ < (arrV _ _ _).slots.size; rw [arrV_size]; exact hlt⟩ g1 (fun q h => by rw [g3] at h; cases h) (by rw [g2]; exact hkC) (by rw [g2]; exact va_assign hcls) rfl rfl d fun H1 e1 z oq => ?_
  have hP1 : va_P (gD G) vwCl ((wlE G E N9).set k (gb G + k, .inl (gcl G 2, 8, .inr (.inr (.inr (.inr (va_up f i.toNatClampNeg (some (gb G + v))))))))) H1 := by
    refine hP.1.set (wlE_D E N9) hat ?_ oq
    show H1[gb G + k]? = some (vp_cell _ _)
    rw [e1]
    rw [vp_cell_q, vp_cell_q, arrV_store]
    congr 2
    funext q
    by_cases hq : q = i.toNatClampNeg
    · subst hq
      simp [updV, va_up, va_rf]
    · simp [updV, va_up, hq]
  rw [wlE_set] at hP1
  exact kk H1 _ ls hl ⟨hP1, z.trans hP.2⟩ (hS.put z oq (Nat.le_add_right _ _))
theorem VP_eqE {pc N : Nat} {E1 E2 : Nat → va_E} (e : E1 = E2) (k : VP G κ nL cells slots (EP G E1 N) pc L st) : VP G κ nL cells slots (EP G E2 N) pc L st := e ▸ k
theorem VP_call (pc : Nat) (C : Cx G κ cc own ret nL rm) (CA : CxA κ) {y : MethodName} {b : ByteArray} {maxL idx k mc ms N N1 : Nat} {E E1 : Nat → va_E} {rm' : Room} (hM : ConE G κ.2.1 y b maxL rm' k E E1 N N1 mc ms) (hi : y.name = "<init>") (hcd : Cond.code y b maxL none ∈ lw_tbl) (hini : Cond.initialized y.cls ∈ lw_tbl) (hin : Cond.instanceMethod y ∈ lw_tbl) (hpl : y.cls ≠ "java/lang/invoke/MethodHandle" ∧ y.cls ≠ "java/lang/invoke/VarHandle" ∧ (parseMethodDescriptor y.desc).map (fun d => d.parameters.length) = some 0) (hlk : Cond.methodLink own idx y ∈ lw_tbl) (hR : rmOkX rm' rm maxL mc ms = true) (d : decode cc pc = .ok (.invokespecial idx, 3)) (hcat : Nat.ble (st.map fun v => v.category).sum 8 = true) (hc : cells + mc ≤ rm.cells) (hs : slots + ms ≤ rm.slots) (kk : VP G κ nL (cells + mc) (slots + ms) (EP G E1 N1) (pc + 3) L st) : VP G κ nL cells slots (EP G E N) pc L (.ref (gb G + k) :: st) := by
  obtain ⟨p, l, e, R, s, m, args, below, meth, c, Q⟩ := κ
  intro H locs ls hl hP hS
  obtain ⟨hx, hb, -, hml, hown, -, hRm, hWS⟩ := id C
  subst hRm
  obtain ⟨hR1, hR2, hR3⟩ := rmOkX_of hR
  have hts : ∀ w ∈ [Cond.code y b maxL none, .arrayClass .int, .arrayClass .char], w.before args s = true := by
    intro w hw
    simp only [List.mem_cons, List.not_mem_nil, or_false] at hw
    rcases hw with rfl | rfl | rfl
    · exact wd C hcd rfl
    · exact CA.1
    · exact CA.2.1
  have hG : GoodIn [Cond.code y b maxL none, .arrayClass .int, .arrayClass .char] [Cond.code y b maxL none, .arrayClass .int, .arrayClass .char] := by
    intro w hw
    refine ⟨hw, ?_⟩
    simp only [List.mem_cons, List.not_mem_nil, or_false] at hw
    rcases hw with rfl | rfl | rfl
    · exact Or.inl rfl
    · exact Or.inr ⟨_, rfl⟩
    · exact Or.inr ⟨_, rfl⟩
  refine va_callv (va_runI (Ts := [Cond.code y b maxL none, .arrayClass .int, .arrayClass .char]) (As := []) (rest := st) ⟨hx, hb, hml, hown, hts⟩ hM ⟨callB_of 0 hts hG rfl hR2 hR3 (wd C hini rfl) (wd C hlk rfl) hpl hR1, hi, wd C hin rfl⟩ ⟨EP_blind, fun U hU hW => ⟨rfl, hWS.to hS hU hW, va_AO.moved hW.alike CA.2.2, by rw [hU]; exact hP⟩⟩ rfl rfl hl.1 rfl (lv_room (Nat.le_of_ble_eq_true hcat)) d ⟨hc, hs⟩) hS (fun q _ h => h) (fun q h => h) (fun u t H1 locs1 ht hvm hw hB hz1 hk1 hS1 => ?_)
  exact kk H1 locs1 ls hl (by rw [← ht]; exact hB) hS1
theorem VP_callN (pc : Nat) (C : Cx G κ cc own ret nL rm) (CA : CxA κ) {y : MethodName} {b : ByteArray} {maxL idx k mc ms N N1 : Nat} {E E1 : Nat → va_E} {rm' : Room} {host : String} (hM : ConE G κ.2.1 y b maxL rm' k E E1 N N1 mc ms) (hi : y.name = "<init>") (hcd : Cond.code y b maxL none ∈ lw_tbl) (hini : Cond.initialized y.cls ∈ lw_tbl) (hin : Cond.instanceMethod y ∈ lw_tbl) (hpl : y.cls ≠ "java/lang/invoke/MethodHandle" ∧ y.cls ≠ "java/lang/invoke/VarHandle" ∧ (parseMethodDescriptor y.desc).map (fun d => d.parameters.length) = some 0) (hlk : Cond.methodLinkNest own idx y host ∈ lw_tbl) (hR : rmOkX rm' rm maxL mc ms = true) (d : decode cc pc = .ok (.invokespecial idx, 3)) (hcat : Nat.ble (st.map fun v => v.category).sum 8 = true) (hc : cells + mc ≤ rm.cells) (hs : slots + ms ≤ rm.slots) (kk : VP G κ nL (cells + mc) (slots + ms) (EP G E1 N1) (pc + 3) L st) : VP G κ nL cells slots (EP G E N) pc L (.ref (gb G + k) :: st) := by
  obtain ⟨p, l, e, R, s, m, args, below, meth, c, Q⟩ := κ
  intro H locs ls hl hP hS
  obtain ⟨hx, hb, -, hml, hown, -, hRm, hWS⟩ := id C
  subst hRm
  obtain ⟨hR1, hR2, hR3⟩ := rmOkX_of hR
  have hts : ∀ w ∈ [Cond.code y b maxL none, .arrayClass .int, .arrayClass .char], w.before args s = true := by
    intro w hw
    simp only [List.mem_cons, List.not_mem_nil, or_false] at hw
    rcases hw with rfl | rfl | rfl
    · exact wd C hcd rfl
    · exact CA.1
    · exact CA.2.1
  have hG : GoodIn [Cond.code y b maxL none, .arrayClass .int, .arrayClass .char] [Cond.code y b maxL none, .arrayClass .int, .arrayClass .char] := by
    intro w hw
    refine ⟨hw, ?_⟩
    simp only [List.mem_cons, List.not_mem_nil, or_false] at hw
    rcases hw with rfl | rfl | rfl
    · exact Or.inl rfl
    · exact Or.inr ⟨_, rfl⟩
    · exact Or.inr ⟨_, rfl⟩
  refine va_callv (va_runIN (Ts := [Cond.code y b maxL none, .arrayClass .int, .arrayClass .char]) (As := []) (rest := st) ⟨hx, hb, hml, hown, hts⟩ hM ⟨va_cnB 0 hts hG rfl hR2 hR3 (va_Nw.of rfl (wd C hlk rfl)) (wd C hini rfl) hpl hR1, hi, wd C hin rfl⟩ ⟨EP_blind, fun U hU hW => ⟨rfl, hWS.to hS hU hW, va_AO.moved hW.alike CA.2.2, by rw [hU]; exact hP⟩⟩ rfl rfl hl.1 rfl (lv_room (Nat.le_of_ble_eq_true hcat)) d ⟨hc, hs⟩) hS (fun q _ h => h) (fun q h => h) (fun u t H1 locs1 ht hvm hw hB hz1 hk1 hS1 => ?_)
  exact kk H1 locs1 ls hl (by rw [← ht]; exact hB) hS1
theorem VP_new (pc : Nat) (C : Cx G κ cc own ret nL rm) {Cn : String} {T : u_T} {N ci idx N9 : Nat} {E : Nat → va_E} {fs : List Value} (d : decode cc pc = .ok (.new idx, 3)) (hcl : vwCl[ci]? = some (Cn, T, N)) (hin : ∀ w ∈ u_ws Cn T N, w ∈ lw_tbl) (ty : Nat → FieldType) (hty : ∀ k, k < N → parseFieldDescriptor (T k).2.2.1 = some (ty k)) (hlk : Cond.classLink own idx Cn ∈ lw_tbl) (hins : Cond.instantiable Cn N ∈ lw_tbl) (hini : Cond.initialized Cn ∈ lw_tbl) (hfs : ∀ j, j < N → defaultValue (ty j) = vp_V fs j) (hc : cells + 1 ≤ rm.cells) (hs : slots + N ≤ rm.slots) (kk : VP G κ nL (cells + 1) (slots + N) (EP G (eup E N9 (.inr (ci, fs))) (N9 + 1)) (pc + 3) L (.ref (gb G + N9) :: st)) : VP G κ nL cells slots (EP G E N9) pc L st := by
  obtain ⟨p, l, e, R, s, m, args, below, meth, c, Q⟩ := κ
  intro H locs ls hl hP hS
  obtain ⟨hx9, hb, -, hml, hown, -, hRm, hWS⟩ := id C
  subst hRm
  have hKn := hWS.1.1 ci _ hcl
  have hts : ∀ w ∈ u_ws Cn T N, w.before args s = true := fun w h => wd C (hin w h) (u_ws_good w h)
  refine W.newcK hx9 hb hown (wd C hlk rfl) (wd C hins rfl) (wd C hini rfl) rfl d hc hs hKn.2.1 rfl fun H1 kC hkC e1 z1 o1 => ?_
  refine W.eq (g2 := F0 m (pc + 3) ls (.ref (gb G + N9) :: st)) (by show F0 m (pc + 3) ls (.ref H.size :: st) = _; rw [hP.2]) ?_
  refine kk H1 locs ls hl (hP.push z1 o1 ?_) ⟨Nat.le_trans hS.1 (by omega), fun q h1 h2 => by rw [o1 q (Nat.lt_of_lt_of_le h1 hS.1)]; exact hS.2.1 q h1 h2, hS.2.2⟩
  rw [← hP.2]
  exact ⟨_, hcl, (u_born ty hts (fun _ h => h) hKn hkC e1 hty).to hfs⟩
end
