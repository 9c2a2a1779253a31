section
variable {G : GG} {κ : KK} {cc : ByteArray} {own : String} {ret : Option FieldType} {nL cells slots : Nat} {rm : Room} {M : Mem} {L : List (Nat × Value)} {st rest : List Value}
theorem cxS {p : Program} {l : Launch} {e : Env} {R : Room} {s : State} {m : MethodId} {args : Array Value} {below : List Frame} {meth : Method} {c : Code} {Q : State → Prop} (C : Cx G (p, l, e, R, s, m, args, below, meth, c, Q) cc own ret nL rm) : SH G s s.heap := C.2.2.2.2.2.2.2.2.2.2.2.1

theorem V_gsv (pc : Nat) (C : Cx G κ cc own ret nL rm) {idx : Nat} (d : decode cc pc = .ok (.getstatic idx, 3)) (i : Nat) {nm : String} (hi : vN[i]? = some nm) (hw : Cond.fieldLink own idx "LarderPatrol$Verb" nm "LLarderPatrol$Verb;" ∈ lw_tbl) (k : V G κ nL cells slots M (pc + 3) L (.ref (gv G i) :: st)) : V G κ nL cells slots M pc L st := by
  obtain ⟨p, l, e, R, s, m, args, below, meth, c, Q⟩ := κ
  intro H locs ls hl hP hS
  have hlen : i < vN.length := (List.getElem?_eq_some_iff.mp hi).1
  have hn : vN.getD i "" = nm := by rw [List.getD_eq_getElem?_getD, hi]; rfl
  have hZ := ((cxS C).1.1 i hlen).1
  rw [hn] at hZ
  exact va_gets C.1 C.2.1 hZ hS C.2.2.2.2.1 (wd C hw rfl) (fun _ h => h) d (k H locs ls hl hP hS)
theorem V_gsr (pc : Nat) (C : Cx G κ cc own ret nL rm) {idx : Nat} (d : decode cc pc = .ok (.getstatic idx, 3)) (i : Nat) {nm : String} (hi : rN[i]? = some nm) (hw : Cond.fieldLink own idx "LarderPatrol$Refusal" nm "LLarderPatrol$Refusal;" ∈ lw_tbl) (k : V G κ nL cells slots M (pc + 3) L (.ref (gr G i) :: st)) : V G κ nL cells slots M pc L st := by
  obtain ⟨p, l, e, R, s, m, args, below, meth, c, Q⟩ := κ
  intro H locs ls hl hP hS
  have hlen : i < rN.length := (List.getElem?_eq_some_iff.mp hi).1
  have hn : rN.getD i "" = nm := by rw [List.getD_eq_getElem?_getD, hi]; rfl
  have hZ := ((cxS C).2.1.1 i hlen).1
  rw [hn] at hZ
  exact va_gets C.1 C.2.1 hZ hS C.2.2.2.2.1 (wd C hw rfl) (fun _ h => h) d (k H locs ls hl hP hS)
theorem V_gsm0 (pc : Nat) (C : Cx G κ cc own ret nL rm) {idx : Nat} (d : decode cc pc = .ok (.getstatic idx, 3)) (hw : Cond.fieldLink own idx "LarderPatrol$1" "$SwitchMap$LarderPatrol$Verb" "[I" ∈ lw_tbl) (k : V G κ nL cells slots M (pc + 3) L (.ref (gs G 0) :: st)) : V G κ nL cells slots M pc L st := by
  obtain ⟨p, l, e, R, s, m, args, below, meth, c, Q⟩ := κ
  intro H locs ls hl hP hS
  exact va_gets C.1 C.2.1 (cxS C).2.2.2.2.1 hS C.2.2.2.2.1 (wd C hw rfl) (fun _ h => h) d (k H locs ls hl hP hS)
theorem V_gsm1 (pc : Nat) (C : Cx G κ cc own ret nL rm) {idx : Nat} (d : decode cc pc = .ok (.getstatic idx, 3)) (hw : Cond.fieldLink own idx "LarderPatrol$1" "$SwitchMap$LarderPatrol$Refusal" "[I" ∈ lw_tbl) (k : V G κ nL cells slots M (pc + 3) L (.ref (gs G 1) :: st)) : V G κ nL cells slots M pc L st := by
  obtain ⟨p, l, e, R, s, m, args, below, meth, c, Q⟩ := κ
  intro H locs ls hl hP hS
  exact va_gets C.1 C.2.1 (cxS C).2.2.2.2.2.2.1 hS C.2.2.2.2.1 (wd C hw rfl) (fun _ h => h) d (k H locs ls hl hP hS)
theorem V_gsV (pc : Nat) (C : Cx G κ cc own ret nL rm) {idx : Nat} (d : decode cc pc = .ok (.getstatic idx, 3)) (hw : Cond.fieldLink own idx "LarderPatrol$Script" "VERBS" "[LLarderPatrol$Verb;" ∈ lw_tbl) (k : V G κ nL cells slots M (pc + 3) L (.ref (gs G 2) :: st)) : V G κ nL cells slots M pc L st := by
  obtain ⟨p, l, e, R, s, m, args, below, meth, c, Q⟩ := κ
  intro H locs ls hl hP hS
  exact va_gets C.1 C.2.1 (cxS C).2.2.2.2.2.2.2.2.1 hS C.2.2.2.2.1 (wd C hw rfl) (fun _ h => h) d (k H locs ls hl hP hS)
theorem V_smap0 (pc : Nat) (C : Cx G κ cc own ret nL rm) {i v : Int32} (d : decode cc pc = .ok (.iaload, 1)) (hi : inb i 11 = true) (hv : mV.getD i.toNatClampNeg 0 = v) (k : V G κ nL cells slots M (pc + 1) L (.int v :: st)) : V G κ nL cells slots M pc L (.int i :: .ref (gs G 0) :: st) := by
  obtain ⟨p, l, e, R, s, m, args, below, meth, c, Q⟩ := κ
  intro H locs ls hl hP hS
  exact va_ti C.1 C.2.1 (cxS C).2.2.2.2.2.1 hS (inb_in hi) (by rw [hv]) d (k H locs ls hl hP hS)
theorem V_smap1 (pc : Nat) (C : Cx G κ cc own ret nL rm) {i v : Int32} (d : decode cc pc = .ok (.iaload, 1)) (hi : inb i 8 = true) (hv : mR.getD i.toNatClampNeg 0 = v) (k : V G κ nL cells slots M (pc + 1) L (.int v :: st)) : V G κ nL cells slots M pc L (.int i :: .ref (gs G 1) :: st) := by
  obtain ⟨p, l, e, R, s, m, args, below, meth, c, Q⟩ := κ
  intro H locs ls hl hP hS
  exact va_ti C.1 C.2.1 (cxS C).2.2.2.2.2.2.2.1 hS (inb_in hi) (by rw [hv]) d (k H locs ls hl hP hS)
theorem V_vald (pc : Nat) (C : Cx G κ cc own ret nL rm) {i : Int32} (d : decode cc pc = .ok (.aaload, 1)) (hi : inb i 11 = true) (k : V G κ nL cells slots M (pc + 1) L (.ref (gv G i.toNatClampNeg) :: st)) : V G κ nL cells slots M pc L (.int i :: .ref (gs G 2) :: st) := by
  obtain ⟨p, l, e, R, s, m, args, below, meth, c, Q⟩ := κ
  intro H locs ls hl hP hS
  exact vb_tq C.1 C.2.1 (cxS C).2.2.2.2.2.2.2.2.2.1 hS (inb_in hi) rfl d (k H locs ls hl hP hS)
theorem V_vlen (pc : Nat) (C : Cx G κ cc own ret nL rm) (d : decode cc pc = .ok (.arraylength, 1)) (k : V G κ nL cells slots M (pc + 1) L (.int 11 :: st)) : V G κ nL cells slots M pc L (.ref (gs G 2) :: st) := by
  obtain ⟨p, l, e, R, s, m, args, below, meth, c, Q⟩ := κ
  intro H locs ls hl hP hS
  exact va_tlen C.1 C.2.1 (cxS C).2.2.2.2.2.2.2.2.2.1 hS (v := 11) (by decide) d (k H locs ls hl hP hS)
theorem V_tswIn (pc tgt : Nat) (C : Cx G κ cc own ret nL rm) {dflt lo hi : Int} {offs : Array Int} {len : Nat} {x : Int32} {off : Int} (d : decode cc pc = .ok (.tableswitch dflt lo hi offs, len)) (h1 : ¬ x.toInt < lo) (h2 : ¬ hi < x.toInt) (ho : offs[(x.toInt - lo).toNat]? = some off) (ht : (pc : Int) + off = (tgt : Int)) (k : V G κ nL cells slots M tgt L st) : V G κ nL cells slots M pc L (.int x :: st) := by
  obtain ⟨p, l, e, R, s, m, args, below, meth, c, Q⟩ := κ
  intro H locs ls hl hP hS
  exact lv_tableIn C.1 C.2.1 d h1 h2 ho ht (k H locs ls hl hP hS)
theorem V_tswOut (pc tgt : Nat) (C : Cx G κ cc own ret nL rm) {dflt lo hi : Int} {offs : Array Int} {len : Nat} {x : Int32} (d : decode cc pc = .ok (.tableswitch dflt lo hi offs, len)) (h1 : x.toInt < lo ∨ hi < x.toInt) (ht : (pc : Int) + dflt = (tgt : Int)) (k : V G κ nL cells slots M tgt L st) : V G κ nL cells slots M pc L (.int x :: st) := by
  obtain ⟨p, l, e, R, s, m, args, below, meth, c, Q⟩ := κ
  intro H locs ls hl hP hS
  exact lv_tableOut C.1 C.2.1 d h1 ht (k H locs ls hl hP hS)
theorem V_acmpeq_v (pc tgt : Nat) (C : Cx G κ cc own ret nL rm) {a b : Nat} {off : Int} (d : decode cc pc = .ok (.if_acmp .eq off, 3)) (ht : (pc : Int) + off = (tgt : Int)) (ha : a < 11) (hb : b < 11) (kt : a = b → V G κ nL cells slots M tgt L st) (kf : ¬ a = b → V G κ nL cells slots M (pc + 3) L st) : V G κ nL cells slots M pc L (.ref (gv G b) :: .ref (gv G a) :: st) := by
  obtain ⟨p, l, e, R, s, m, args, below, meth, c, Q⟩ := κ
  intro H locs ls hl hP hS
  have inj : some (gv G a) = some (gv G b) ↔ a = b := ⟨fun h => (cxS C).1.2 a b ha hb (Option.some.inj h), fun h => by rw [h]⟩
  exact lv_acmp_eq (rx := some (gv G a)) (ry := some (gv G b)) C.1 C.2.1 d ht (fun h => kt (inj.mp h) H locs ls hl hP hS) (fun h => kf (fun q => h (inj.mpr q)) H locs ls hl hP hS)
theorem V_acmpne_v (pc tgt : Nat) (C : Cx G κ cc own ret nL rm) {a b : Nat} {off : Int} (d : decode cc pc = .ok (.if_acmp .ne off, 3)) (ht : (pc : Int) + off = (tgt : Int)) (ha : a < 11) (hb : b < 11) (kt : ¬ a = b → V G κ nL cells slots M tgt L st) (kf : a = b → V G κ nL cells slots M (pc + 3) L st) : V G κ nL cells slots M pc L (.ref (gv G b) :: .ref (gv G a) :: st) := by
  obtain ⟨p, l, e, R, s, m, args, below, meth, c, Q⟩ := κ
  intro H locs ls hl hP hS
  have inj : some (gv G a) = some (gv G b) ↔ a = b := ⟨fun h => (cxS C).1.2 a b ha hb (Option.some.inj h), fun h => by rw [h]⟩
  exact lv_acmp_ne (rx := some (gv G a)) (ry := some (gv G b)) C.1 C.2.1 d ht (fun h => kt (fun q => h (inj.mpr q)) H locs ls hl hP hS) (fun h => kf (inj.mp h) H locs ls hl hP hS)
theorem V_acmpeq_r (pc tgt : Nat) (C : Cx G κ cc own ret nL rm) {a b : Nat} {off : Int} (d : decode cc pc = .ok (.if_acmp .eq off, 3)) (ht : (pc : Int) + off = (tgt : Int)) (ha : a < 8) (hb : b < 8) (kt : a = b → V G κ nL cells slots M tgt L st) (kf : ¬ a = b → V G κ nL cells slots M (pc + 3) L st) : V G κ nL cells slots M pc L (.ref (gr G b) :: .ref (gr G a) :: st) := by
  obtain ⟨p, l, e, R, s, m, args, below, meth, c, Q⟩ := κ
  intro H locs ls hl hP hS
  have inj : some (gr G a) = some (gr G b) ↔ a = b := ⟨fun h => (cxS C).2.1.2 a b ha hb (Option.some.inj h), fun h => by rw [h]⟩
  exact lv_acmp_eq (rx := some (gr G a)) (ry := some (gr G b)) C.1 C.2.1 d ht (fun h => kt (inj.mp h) H locs ls hl hP hS) (fun h => kf (fun q => h (inj.mpr q)) H locs ls hl hP hS)
theorem V_acmpne_r (pc tgt : Nat) (C : Cx G κ cc own ret nL rm) {a b : Nat} {off : Int} (d : decode cc pc = .ok (.if_acmp .ne off, 3)) (ht : (pc : Int) + off = (tgt : Int)) (ha : a < 8) (hb : b < 8) (kt : ¬ a = b → V G κ nL cells slots M tgt L st) (kf : a = b → V G κ nL cells slots M (pc + 3) L st) : V G κ nL cells slots M pc L (.ref (gr G b) :: .ref (gr G a) :: st) := by
  obtain ⟨p, l, e, R, s, m, args, below, meth, c, Q⟩ := κ
  intro H locs ls hl hP hS
  have inj : some (gr G a) = some (gr G b) ↔ a = b := ⟨fun h => (cxS C).2.1.2 a b ha hb (Option.some.inj h), fun h => by rw [h]⟩
  exact lv_acmp_ne (rx := some (gr G a)) (ry := some (gr G b)) C.1 C.2.1 d ht (fun h => kt (fun q => h (inj.mpr q)) H locs ls hl hP hS) (fun h => kf (inj.mp h) H locs ls hl hP hS)
theorem V_patN (pc : Nat) (C : Cx G κ cc own ret nL rm) {idx v : Nat} {host : String} (d : decode cc pc = .ok (.getfield idx, 3)) (hw : Cond.fieldLinkNest own idx "LarderPatrol$Verb" "pattern" "Ljava/lang/String;" host ∈ lw_tbl) (hv : v < 11) (k : V G κ nL cells slots M (pc + 3) L (.ref (gk G v) :: st)) : V G κ nL cells slots M pc L (.ref (gv G v) :: st) := by
  obtain ⟨p, l, e, R, s, m, args, below, meth, c, Q⟩ := κ
  intro H locs ls hl hP hS
  obtain ⟨cf, kc, fi, f, cell, h1, h2, h3, h4, h5, h6⟩ := ((cxS C).2.2.1 v hv).kept hS.2.1
  exact va_Wgetf C.1 C.2.1 C.2.2.2.2.1 (wd C hw rfl) h1 h2 h3 h4 (v := .ref (gk G v)) h5 rfl rfl d (k H locs ls hl hP hS)
theorem V_limN (pc : Nat) (C : Cx G κ cc own ret nL rm) {idx v : Nat} {host : String} (d : decode cc pc = .ok (.getfield idx, 3)) (hw : Cond.fieldLinkNest own idx "LarderPatrol$Verb" "limit" "I" host ∈ lw_tbl) (hv : v < 11) (k : V G κ nL cells slots M (pc + 3) L (.int (vlim v) :: st)) : V G κ nL cells slots M pc L (.ref (gv G v) :: st) := by
  obtain ⟨p, l, e, R, s, m, args, below, meth, c, Q⟩ := κ
  intro H locs ls hl hP hS
  obtain ⟨cf, kc, fi, f, cell, h1, h2, h3, h4, h5, h6⟩ := ((((cxS C).1.1 v hv).2.2) _ (List.mem_cons_of_mem _ List.mem_cons_self)).kept hS.2.1
  exact va_Wgetf C.1 C.2.1 C.2.2.2.2.1 (wd C hw rfl) h1 h2 h3 h4 (v := .int (vlim v)) h5 rfl rfl d (k H locs ls hl hP hS)
theorem V_numN (pc : Nat) (C : Cx G κ cc own ret nL rm) {idx v : Nat} {host : String} (d : decode cc pc = .ok (.getfield idx, 3)) (hw : Cond.fieldLinkNest own idx "LarderPatrol$Refusal" "number" "I" host ∈ lw_tbl) (hv : v < 8) (k : V G κ nL cells slots M (pc + 3) L (.int (rnum v) :: st)) : V G κ nL cells slots M pc L (.ref (gr G v) :: st) := by
  obtain ⟨p, l, e, R, s, m, args, below, meth, c, Q⟩ := κ
  intro H locs ls hl hP hS
  obtain ⟨cf, kc, fi, f, cell, h1, h2, h3, h4, h5, h6⟩ := ((((cxS C).2.1.1 v hv).2.2) _ (List.mem_cons_of_mem _ List.mem_cons_self)).kept hS.2.1
  exact va_Wgetf C.1 C.2.1 C.2.2.2.2.1 (wd C hw rfl) h1 h2 h3 h4 (v := .int (rnum v)) h5 rfl rfl d (k H locs ls hl hP hS)
theorem V_aald (pc : Nat) (C : Cx G κ cc own ret nL rm) {k : Nat} {i : Int32} (d : decode cc pc = .ok (.aaload, 1)) (ha : lay k = 30) (hi : inb i 8 = true) (kk : V G κ nL cells slots M (pc + 1) L (va_rf ((some (33 + 10 * i.toNatClampNeg)).map (gad G)) :: st)) : V G κ nL cells slots M pc L (.int i :: .ref (gad G k) :: st) := by
  obtain ⟨p, l, e, R, s, m, args, below, meth, c, Q⟩ := κ
  intro H locs ls hl hP hS
  exact va_aldq C.1 C.2.1 C.2.2.2.2.2.2.2.1 hP k 2 (by rw [wld_at (ltl ha rfl), ceR_OA ha]) rfl (inb_in hi) d (kk H locs ls hl hP hS)
theorem V_alenO (pc : Nat) (C : Cx G κ cc own ret nL rm) {k : Nat} (d : decode cc pc = .ok (.arraylength, 1)) (ha : lay k = 30) (kk : V G κ nL cells slots M (pc + 1) L (.int 8 :: st)) : V G κ nL cells slots M pc L (.ref (gad G k) :: st) := by
  obtain ⟨p, l, e, R, s, m, args, below, meth, c, Q⟩ := κ
  intro H locs ls hl hP hS
  exact va_alen (ty := .object "LarderPatrol$Larder") (x := (8, .inr (.inr (.inr (.inr (fun i => some (gad G (33 + 10 * i)))))))) C.1 C.2.1 C.2.2.2.2.2.2.2.1 hP k 2 (by rw [wld_at (ltl ha rfl), ceR_OA ha]) rfl (v := 8) (show Int32.ofNat 8 = 8 by decide) d (kk H locs ls hl hP hS)
theorem V_ifnullN (pc tgt : Nat) (C : Cx G κ cc own ret nL rm) {off : Int} (d : decode cc pc = .ok (.ifnull off, 3)) (ht : (pc : Int) + off = (tgt : Int)) (k : V G κ nL cells slots M tgt L st) : V G κ nL cells slots M pc L (.null :: st) := by
  obtain ⟨p, l, e, R, s, m, args, below, meth, c, Q⟩ := κ
  intro H locs ls hl hP hS
  exact lv_ifnullN C.1 C.2.1 d ht (k H locs ls hl hP hS)
theorem V_ifnullS (pc tgt : Nat) (C : Cx G κ cc own ret nL rm) {a : Nat} {off : Int} (d : decode cc pc = .ok (.ifnull off, 3)) (ht : (pc : Int) + off = (tgt : Int)) (k : V G κ nL cells slots M (pc + 3) L st) : V G κ nL cells slots M pc L (.ref a :: st) := by
  obtain ⟨p, l, e, R, s, m, args, below, meth, c, Q⟩ := κ
  intro H locs ls hl hP hS
  exact lv_ifnull C.1 C.2.1 d (k H locs ls hl hP hS)
theorem V_aloadQ (pc : Nat) (C : Cx G κ cc own ret nL rm) (j : Nat) {i : Nat} {x : Option Nat} (d : decode cc pc = .ok (.aload i, 2)) (hk : L[j]? = some (i, va_rf x)) (k : V G κ nL cells slots M (pc + 2) L (va_rf x :: st)) : V G κ nL cells slots M pc L st := by
  obtain ⟨p, l, e, R, s, m, args, below, meth, c, Q⟩ := κ
  intro H locs ls hl hP hS
  cases x with
  | none => exact lv_aloadN C.1 C.2.1 d (lv_at hl j hk) (k H locs ls hl hP hS)
  | some x => exact lv_aload C.1 C.2.1 d (lv_at hl j hk) (k H locs ls hl hP hS)
theorem V_aloadQ_n (pc : Nat) (C : Cx G κ cc own ret nL rm) (j : Nat) {i : Fin 4} {x : Option Nat} (d : decode cc pc = .ok (.aload_n i, 1)) (hk : L[j]? = some ((i : Nat), va_rf x)) (k : V G κ nL cells slots M (pc + 1) L (va_rf x :: st)) : V G κ nL cells slots M pc L st := by
  obtain ⟨p, l, e, R, s, m, args, below, meth, c, Q⟩ := κ
  intro H locs ls hl hP hS
  cases x with
  | none => exact lv_aload_nN C.1 C.2.1 d rfl (lv_at hl j hk) (k H locs ls hl hP hS)
  | some x => exact lv_aload_n C.1 C.2.1 d rfl (lv_at hl j hk) (k H locs ls hl hP hS)
theorem V_astoreQ_n (pc : Nat) (C : Cx G κ cc own ret nL rm) (L1 : List (Nat × Value)) {i : Nat} {j : Fin 4} {x : Option Nat} (d : decode cc pc = .ok (.astore_n j, 1)) (hj : (j : Nat) = i) (hn : Nat.blt i nL = true) (hL : (i, va_rf x) :: L.filter (fun q => !(q.1 == i) && !(q.1 + 1 == i && q.2.category == 2)) = L1) (k : V G κ nL cells slots M (pc + 1) L1 st) : V G κ nL cells slots M pc L (va_rf x :: st) := by
  obtain ⟨p, l, e, R, s, m, args, below, meth, c, Q⟩ := κ
  intro H locs ls hl hP hS
  cases x with
  | none => exact lv_astore_nN C.1 C.2.1 d hj hl (Nat.le_of_ble_eq_true hn) hL (fun ls1 hl1 => k H locs ls1 hl1 hP hS)
  | some x => exact lv_astore_n C.1 C.2.1 d hj hl (Nat.le_of_ble_eq_true hn) hL (fun ls1 hl1 => k H locs ls1 hl1 hP hS)
theorem V_qret (pc : Nat) (C : Cx G κ cc own ret nL rm) {n : String} (hret : ret = some (.object n)) {a : Option Nat} (hQ : HQ G κ (QQ G a M) 0 0) (d : decode cc pc = .ok (.areturn, 1)) : V G κ nL 0 0 M pc L [va_rf a] := by
  obtain ⟨p, l, e, R, s, m, args, below, meth, c, Q⟩ := κ
  intro H locs ls hl hP hS
  rw [show Q = _ from hQ]
  exact W.aret (v := va_rf a) (rt := .object n) C.1 C.2.1 (C.2.2.1.trans hret) (Or.inl ⟨n, rfl⟩) (by cases a <;> first | exact Or.inl rfl | exact Or.inr ⟨_, rfl⟩) (fun t ht hW => ⟨⟨a, (), rfl, rfl, by subst ht; exact hP⟩, hS.F ht⟩) hS.2.2 d C.2.2.2.2.2.1
theorem V_qreth (pc : Nat) (C : Cx G κ cc own ret nL rm) {n : String} (hret : ret = some (.object n)) {v r : Option Nat} {M' : Mem} (hQ : HQ G κ (QQ G (r.map (gad G)) M') 0 0) (h : some (v, M) = some (r, M')) (d : decode cc pc = .ok (.areturn, 1)) : V G κ nL 0 0 M pc L [va_rf (v.map (gad G))] := by
  cases h
  exact V_qret pc C hret hQ d
theorem F_verb {G : GG} {k v : Nat} {row : Nat → Int32} (hv : v < 11) : F_X8 G k (upd row 4 (nI v)) = (F_X8 G k row).set 4 (.ref (gv G v)) := by
  rcases cases11 hv with rfl | rfl | rfl | rfl | rfl | rfl | rfl | rfl | rfl | rfl | rfl <;> rfl
theorem V_mn (pc : Nat) (C : Cx G κ cc own ret nL rm) {idx : Nat} {x y : Int32} (d : decode cc pc = .ok (.invokestatic idx, 3)) (hw : Cond.methodLink own idx Lib.Math.min.name ∈ lw_tbl) (hs : Cond.static Lib.Math.min.name ∈ lw_tbl) (hi : Cond.initialized "java/lang/Math" ∈ lw_tbl) (hcd : Cond.code Lib.Math.min.name Lib.Math.min.code 2 (some .int) ∈ lw_tbl) (hR : (Nat.ble 1 rm.frames && Nat.ble ((st.map fun v => v.category).sum + 13) rm.locals && Nat.ble cells rm.cells && Nat.ble slots rm.slots) = true) (k : V G κ nL cells slots M (pc + 3) L (.int (imn x y) :: st)) : V G κ nL cells slots M pc L (.int y :: .int x :: st) := by
  obtain ⟨p, l, e, R, s, m, args, below, meth, c, Q⟩ := κ
  intro H locs ls hl hP hS
  simp only [Bool.and_eq_true, Nat.ble_eq] at hR
  obtain ⟨hx, hb, -, hml, hown, -, hRm, hWS⟩ := id C
  subst hRm
  exact va_mmin hx hb (hml.trans hl.1.symm) hown (wd C hw rfl) (wd C hs rfl) (wd C hi rfl) (wd C hcd rfl) hR.1.1.1 hR.1.1.2 hR.1.2 hR.2 d (k H locs ls hl hP hS)
theorem V_mx (pc : Nat) (C : Cx G κ cc own ret nL rm) {idx : Nat} {x y : Int32} (d : decode cc pc = .ok (.invokestatic idx, 3)) (hw : Cond.methodLink own idx Lib.Math.max.name ∈ lw_tbl) (hs : Cond.static Lib.Math.max.name ∈ lw_tbl) (hi : Cond.initialized "java/lang/Math" ∈ lw_tbl) (hcd : Cond.code Lib.Math.max.name Lib.Math.max.code 2 (some .int) ∈ lw_tbl) (hR : (Nat.ble 1 rm.frames && Nat.ble ((st.map fun v => v.category).sum + 13) rm.locals && Nat.ble cells rm.cells && Nat.ble slots rm.slots) = true) (k : V G κ nL cells slots M (pc + 3) L (.int (imx x y) :: st)) : V G κ nL cells slots M pc L (.int y :: .int x :: st) := by
  obtain ⟨p, l, e, R, s, m, args, below, meth, c, Q⟩ := κ
  intro H locs ls hl hP hS
  simp only [Bool.and_eq_true, Nat.ble_eq] at hR
  obtain ⟨hx, hb, -, hml, hown, -, hRm, hWS⟩ := id C
  subst hRm
  exact va_mmax hx hb (hml.trans hl.1.symm) hown (wd C hw rfl) (wd C hs rfl) (wd C hi rfl) (wd C hcd rfl) hR.1.1.1 hR.1.1.2 hR.1.2 hR.2 d (k H locs ls hl hP hS)
theorem V_acp (pc : Nat) (C : Cx G κ cc own ret nL rm) {idx : Nat} {k1 k2 n1 n2 : Nat} {n : Int32} (d : decode cc pc = .ok (.invokestatic idx, 3)) (hw : Cond.methodLink own idx arraycopyName ∈ lw_tbl) (hs : Cond.static arraycopyName ∈ lw_tbl) (hi : Cond.initialized "java/lang/System" ∈ lw_tbl) (hnt : Cond.native arraycopyName ∈ lw_tbl) (hR : (Nat.ble 1 rm.frames && Nat.ble ((st.map fun v => v.category).sum + (nativeFrameWords "java/lang/System" "arraycopy" 5 + 11)) rm.locals) = true) (a1 : ak k1 = 1) (a2 : ak k2 = 1) (e1 : alen k1 = n1) (e2 : alen k2 = n2) (hc : cpok n n1 n2 = true) (k : V G κ nL cells slots (cpM M k1 k2 n) (pc + 3) L st) : V G κ nL cells slots M pc L (.int n :: .int 0 :: .ref (gad G k2) :: .int 0 :: .ref (gad G k1) :: st) := by
  obtain ⟨p, l, e, R, s, m, args, below, meth, c, Q⟩ := κ
  intro H locs ls hl hP hS
  simp only [Bool.and_eq_true, Nat.ble_eq] at hR
  obtain ⟨hx, hb, -, hml, hown, -, hRm, hWS⟩ := id C
  subst hRm; subst e1; subst e2
  unfold cpok at hc
  simp only [Bool.and_eq_true, decide_eq_true_eq] at hc
  refine va_copyi hx hb (hml.trans hl.1.symm) hown (wd C hw rfl) (wd C hnt rfl) (wd C hs rfl) (wd C hi rfl) hWS.1 hP (wld_D hWS.2.2.1 M) hS k1 k2 0 0 (by rw [wld_at (ak_lt (Or.inl a1)), ceR_I a1]) (by rw [wld_at (ak_lt (Or.inl a2)), ceR_I a2]) rfl rfl rfl (by decide) (by decide) (Int32.not_lt.mpr hc.1.1) (by rw [show (0 : Int32).toNatClampNeg = 0 from rfl]; omega) (by rw [show (0 : Int32).toNatClampNeg = 0 from rfl]; omega) (fun _ _ => rfl) hR.1 hR.2 d ?_
  intro H1 locs1 hP1 hD1 hS1
  rw [wld_set (M' := cpM M k1 k2 n) (by rw [ceR_I a2]; unfold cpM; rw [if_pos rfl]; rfl) (fun i hi => by unfold cpM; rw [if_neg hi])] at hP1
  exact k H1 locs1 ls hl hP1 hS1
end
