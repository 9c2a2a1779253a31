def xn (e : Nat) : String := match e with
  | 1 => "java/lang/IndexOutOfBoundsException"
  | 2 => "java/lang/IllegalArgumentException"
  | 3 => "java/lang/UnsupportedOperationException"
  | 4 => "java/util/NoSuchElementException"
  | 5 => "java/lang/IllegalStateException"
  | 6 => "java/lang/ArithmeticException"
  | _ => ""
theorem atS1 : ∀ w ∈ vx_atS RX11 169 (xn 1) ["java/lang/RuntimeException", "java/lang/Exception"], w ∈ lw_tbl ∧ gnw w = true := by decide +kernel
theorem fitS1 : Bundle.fit (xn 1) = true := by decide
theorem xi_1 : Cond.initialized (xn 1) ∈ lw_tbl := tm1 18 (by decide +kernel)
theorem atS2 : ∀ w ∈ vx_atS RX11 199 (xn 2) ["java/lang/RuntimeException", "java/lang/Exception"], w ∈ lw_tbl ∧ gnw w = true := by decide +kernel
theorem fitS2 : Bundle.fit (xn 2) = true := by decide
theorem xi_2 : Cond.initialized (xn 2) ∈ lw_tbl := tm1 19 (by decide +kernel)
theorem atS3 : ∀ w ∈ vx_atS RX11 292 (xn 3) ["java/lang/RuntimeException", "java/lang/Exception"], w ∈ lw_tbl ∧ gnw w = true := by decide +kernel
theorem fitS3 : Bundle.fit (xn 3) = true := by decide
theorem xi_3 : Cond.initialized (xn 3) ∈ lw_tbl := tm1 20 (by decide +kernel)
theorem atS4 : ∀ w ∈ nx_at RX11 133 (xn 4) ["java/lang/RuntimeException", "java/lang/Exception"], w ∈ lw_tbl ∧ gnw w = true := by decide +kernel
theorem fitS4 : Bundle.fit (xn 4) = true := by decide
theorem xi_4 : Cond.initialized (xn 4) ∈ lw_tbl := tm1 26 (by decide +kernel)
theorem atS5 : ∀ w ∈ vx_atS RX11 271 (xn 5) ["java/lang/RuntimeException", "java/lang/Exception"], w ∈ lw_tbl ∧ gnw w = true := by decide +kernel
theorem fitS5 : Bundle.fit (xn 5) = true := by decide
theorem xi_5 : Cond.initialized (xn 5) ∈ lw_tbl := tm1 28 (by decide +kernel)
theorem atS6 : ∀ w ∈ vx_atS RX11 261 (xn 6) ["java/lang/RuntimeException", "java/lang/Exception"], w ∈ lw_tbl ∧ gnw w = true := by decide +kernel
theorem fitS6 : Bundle.fit (xn 6) = true := by decide
theorem xi_6 : Cond.initialized (xn 6) ∈ lw_tbl := tm1 27 (by decide +kernel)
theorem xk_1 : Cond.classLink RX11 165 (xn 1) ∈ lw_tbl := tm3 46 (by decide +kernel)
theorem xk_2 : Cond.classLink RX11 195 (xn 2) ∈ lw_tbl := tm3 119 (by decide +kernel)
theorem xk_3 : Cond.classLink RX11 288 (xn 3) ∈ lw_tbl := tm3 151 (by decide +kernel)
theorem xk_4 : Cond.classLink RX11 129 (xn 4) ∈ lw_tbl := tm4 152 (by decide +kernel)
theorem xk_6 : Cond.classLink RX11 257 (xn 6) ∈ lw_tbl := tm5 135 (by decide +kernel)
theorem xk_5 : Cond.classLink RX11 267 (xn 5) ∈ lw_tbl := tm5 153 (by decide +kernel)
theorem fitN : ∀ n ∈ ["java/lang/RuntimeException", "java/lang/Exception"], Bundle.fit n = true := by decide
theorem gnw_ot {w : Cond} (h : gnw w = true) : vx_ot w = true := by
  rcases gnw_or h with q | q
  · unfold vx_ot; rw [(Bool.and_eq_true _ _ |>.mp q).1]; rfl
  · rcases isNest_or q with ⟨_, _, _, _, _, _, rfl⟩ | ⟨_, _, _, _, rfl⟩ | ⟨_, rfl⟩ | ⟨_, _, rfl⟩ <;> rfl
def CxT (κ : KK) : Prop := match κ with
  | (_, l, _, _, _, _, _, _, _, c, _) => l.stackTraces = false ∧ ∀ x ∈ c.exceptionTable.toList, False
theorem cxL {κ : KK} (T : CxT κ) : κ.2.1.stackTraces = false := by
  obtain ⟨p, l, e, R, s, m, args, below, meth, c, Q⟩ := κ
  exact T.1
def HX (G : GG) (κ : KK) (Qc : Array Value → State → Outcome → State → Prop) (XC : String → State → State → Prop) (mc ms : Nat) : Prop := match κ with
  | (_, _, _, _, s, _, args, below, _, _, Q) => Q = vx_MQ below Qc XC args s mc ms (gA G)
def QEX {α : Type} (G : GG) (enc : α → Int32) (res : α ⊕ Nat) (M' : Mem) : Array Value → State → Outcome → State → Prop := va_Qi (fun (x : Int32) (_ : Unit) => ∃ a, res = .inl a ∧ x = enc a) (fun _ t => va_P (gD G) vwCl (wld G M') t.heap) (gA G)
def QVX (G : GG) (res : Unit ⊕ Nat) (M' : Mem) : Array Value → State → Outcome → State → Prop := va_Qv (fun (_ : Unit) => res = .inl ()) (fun _ t => va_P (gD G) vwCl (wld G M') t.heap) (gA G)
def XIX {α : Type} (G : GG) (res : α ⊕ Nat) (M' : Mem) : String → State → State → Prop := vx_X (fun (_ : Unit) => True) (fun E _ t => (∃ e, res = .inr e ∧ E = xn e) ∧ va_P (gD G) vwCl (wld G M') t.heap) (gA G)
abbrev ConX (G : GG) (l : Launch) (y : MethodName) (b : ByteArray) (maxL : Nat) (ret : Option FieldType) (rm : Room) (vs : List Value) (M : Mem) (Qc : Array Value → State → Outcome → State → Prop) (XC : String → State → State → Prop) (mc ms : Nat) : Prop :=
  vx_Met l y [.code y b maxL ret] rm (va_Pc vs (WP G M)) Qc XC mc ms (gA G)
theorem conX_of {G : GG} {l : Launch} {y : MethodName} {b : ByteArray} {maxL : Nat} {ret : Option FieldType} {rm : Room} {vs : List Value} {M : Mem} {Qc : Array Value → State → Outcome → State → Prop} {XC : String → State → State → Prop} {mc ms : Nat} (hl : l.stackTraces = false) (hy : plainName y.cls = true) (hm : (lg_sl vs).length ≤ maxL)
    (body : ∀ κ, Cx G κ b y.cls ret maxL rm → CxT κ → HX G κ Qc XC mc ms → V G κ maxL 0 0 M 0 (lv_args 0 vs) []) : ConX G l y b maxL ret rm vs M Qc XC mc ms := by
  refine vx_ofW (cc := b) (maxL := maxL) (ret := ret) hy rfl ?_
  intro p e s m args below meth c s₁ B hml hex hv
  obtain ⟨rfl, hWS, hP⟩ := hv
  have h1 := body (p, l, e, (headSpec [.code y b maxL ret] rm).room, s, m, vs.toArray, below, meth, c, vx_MQ below Qc XC vs.toArray s mc ms (gA G)) ⟨B.exec, B.bytes, B.returns, hml, findClass_of_methodNamed B.named, B.notSynchronized, rfl, hWS⟩ ⟨hl, hex⟩ rfl
  rw [lg_entry_eq]
  exact h1 s.heap [] _ (lv_entry vs hm) hP va_S.rf
def bindX {α β : Type} (x : Option ((α ⊕ Nat) × Mem)) (k : α → Mem → Option ((β ⊕ Nat) × Mem)) : Option ((β ⊕ Nat) × Mem) := match x with
  | none => none
  | some (.inl r, M) => k r M
  | some (.inr e, M) => some (.inr e, M)
theorem bindX_some {α β : Type} {x : Option ((α ⊕ Nat) × Mem)} {k : α → Mem → Option ((β ⊕ Nat) × Mem)} {res : β ⊕ Nat} {M' : Mem} (h : bindX x k = some (res, M')) : ∃ res1 M1, x = some (res1, M1) ∧ (∀ e, res1 = .inr e → res = .inr e ∧ M1 = M') ∧ ∀ r, res1 = .inl r → k r M1 = some (res, M') := by
  unfold bindX at h
  split at h
  · cases h
  · exact ⟨_, _, rfl, fun e he => (by cases he), fun r hr => (by cases hr; exact h)⟩
  · cases h
    exact ⟨_, _, rfl, fun e he => (by cases he; exact ⟨rfl, rfl⟩), fun r hr => (by cases hr)⟩
/-- the callee's room within the caller's, with what it makes -/
def rmOkX (rm' rm : Room) (maxL mc ms : Nat) : Bool := Nat.ble (rm'.frames + 1) rm.frames && Nat.ble (8 + (maxL + 11) + rm'.locals) rm.locals && (rm'.cells == mc) && (rm'.slots == ms)
theorem rmOkX_of {rm' rm : Room} {maxL mc ms : Nat} (h : rmOkX rm' rm maxL mc ms = true) : (rm'.frames + 1 ≤ rm.frames ∧ 8 + (maxL + 11) + rm'.locals ≤ rm.locals) ∧ rm'.cells = mc ∧ rm'.slots = ms := by
  unfold rmOkX at h
  simp only [Bool.and_eq_true, Nat.ble_eq, beq_iff_eq] at h
  exact ⟨⟨h.1.1.1, h.1.1.2⟩, h.1.2, h.2⟩
def RunX (G : GG) (κ : KK) (nL cells slots mc ms : Nat) (M : Mem) (pc : Nat) (L : List (Nat × Value)) (st rest : List Value) (Qa : State → Outcome → State → Prop) (XC : String → State → State → Prop) : Prop := match κ with
  | (p, l, e, R, s, m, args, below, meth, c, _) => ∀ (H : Heap) (locs : List Loc) (ls : Array Slot), lv_has ls nL L → va_P (gD G) vwCl (wld G M) H → va_S (gA G) s.heap H locs → vx_Run p l e R s m args below meth c H locs cells slots mc ms (F0 m pc ls st) rest Qa XC (gA G)
section
variable {G : GG} {κ : KK} {cc : ByteArray} {own : String} {ret : Option FieldType} {nL cells slots : Nat} {rm : Room} {M : Mem} {L : List (Nat × Value)} {st rest : List Value}
theorem runXO (pc : Nat) (C : Cx G κ cc own ret nL rm) {y : MethodName} {b : ByteArray} {maxL n idx mc ms : Nat} {ret' : Option FieldType} {rm' : Room} {As : List Value} {Qc : Array Value → State → Outcome → State → Prop} {XC : String → State → State → Prop} {k ci : Nat} {q : vw_C} {fs : List Value} (hM : ConX G κ.2.1 y b maxL ret' rm' (.ref (gad G k) :: As) M Qc XC mc ms) (hf : Cv y b maxL ret' n) (hl : Cond.methodLink own idx y ∈ lw_tbl) (hk : k < NC) (hce : ceR G (M k) k = .inr (ci, fs)) (hcl : vwCl[ci]? = some q) (hq : q.1 = y.cls) (hn : As.length = n) (hR : rmOkX rm' rm maxL mc ms = true) (d : decode cc pc = .ok (.invokevirtual idx, 3)) (hst : st = As.reverse ++ .ref (gad G k) :: rest) (hcat : Nat.ble (rest.map fun v => v.category).sum 8 = true) (hc : cells + mc ≤ rm.cells) (hs : slots + ms ≤ rm.slots) : RunX G κ nL cells slots mc ms M pc L st rest (Qc (Value.ref (gad G k) :: As).toArray) XC := by
  obtain ⟨p, l, e, R, s, m, args, below, meth, c, Q⟩ := κ
  intro H locs ls hlv hP hS
  obtain ⟨hx, hb, -, hml, hown, -, hRm, hWS⟩ := id C
  subst hRm
  obtain ⟨hR1, hR2, hR3⟩ := rmOkX_of hR
  obtain ⟨f1, f2, f3, f5, f4⟩ := hf
  have hts : ∀ w ∈ [Cond.code y b maxL ret'], w.before args s = true := fun w hw => by rw [List.mem_singleton.mp hw]; exact wd C f1 rfl
  have hG : GoodIn [Cond.code y b maxL ret'] [Cond.code y b maxL ret'] := fun w hw => ⟨hw, by rw [List.mem_singleton.mp hw]; exact Or.inl rfl⟩
  have hrv := va_recv hWS.1 hP hcl (q0 := k) (by rw [wld_at hk, hce])
  rw [hq] at hrv
  exact vx_runV (Ts := [Cond.code y b maxL ret']) (C := y.cls) ⟨hx, hb, hml, hown, hts⟩ hM ⟨callB_of n hts hG rfl hR2 hR3 (wd C f2 rfl) (wd C hl rfl) f4 hR1, wd C f3 rfl, wd C f5 rfl⟩ ⟨WP_blind, hrv, fun U hU hW => ⟨rfl, hWS.to hS hU hW, by rw [hU]; exact hP⟩⟩ rfl hn hlv.1 hst (lv_room (Nat.le_of_ble_eq_true hcat)) d ⟨hc, hs⟩
theorem V_callXI {α β : Type} (pc : Nat) (C : Cx G κ cc own ret nL rm) (T : CxT κ) {mc ms mc1 ms1 : Nat} {Qc : Array Value → State → Outcome → State → Prop} {res : β ⊕ Nat} {M' : Mem} (hQ : HX G κ Qc (XIX G res M') mc ms) {a : Array Value} {enc : α → Int32} {res1 : α ⊕ Nat} {M1 : Mem} (hr : RunX G κ nL cells slots mc1 ms1 M pc L st rest (QEX G enc res1 M1 a) (XIX G res1 M1)) (hx : ∀ e, res1 = .inr e → res = .inr e ∧ M1 = M') (hmc : Nat.ble (cells + mc1) mc = true) (hms : Nat.ble (slots + ms1) ms = true) (k : ∀ r, res1 = .inl r → V G κ nL (cells + mc1) (slots + ms1) M1 (pc + 3) L (.int (enc r) :: rest)) : V G κ nL cells slots M pc L st := by
  obtain ⟨p, l, e, R, s, m, args, below, meth, c, Q⟩ := κ
  intro H locs ls hlv hP hS
  refine vx_calli (hr H locs ls hlv hP hS) hS (fun q _ h => h) (fun q h => h) (fun q _ h => h) (fun E ce q9 u t H1 locs1 ht hvm hpx hB hz hk hS1 hc9 hv9 hcl9 => ?_) (fun r u t H1 locs1 ht hvm hw hB hz1 hk1 hS1 => ?_)
  · obtain ⟨⟨e9, he, hE⟩, hP1⟩ := hB
    obtain ⟨h1, h2⟩ := hx e9 he
    rw [show Q = _ from hQ]
    subst ht
    exact vx_out (fun x hx => (T.2 x hx).elim) C.2.2.2.2.2.1 hc9 hv9 hcl9 (fun t2 ht2 _ => ⟨(), trivial, ⟨⟨e9, h1, hE⟩, by rw [ht2, ← h2]; exact hP1⟩, hS1.F ht2⟩) hS1.2.2 (Nat.le_of_ble_eq_true hmc) (Nat.le_of_ble_eq_true hms)
  · obtain ⟨r1, hr1, rfl⟩ := hw
    exact k r1 hr1 H1 locs1 ls hlv (by rw [← ht]; exact hB) hS1
theorem V_callXV {β : Type} (pc : Nat) (C : Cx G κ cc own ret nL rm) (T : CxT κ) {mc ms mc1 ms1 : Nat} {Qc : Array Value → State → Outcome → State → Prop} {res : β ⊕ Nat} {M' : Mem} (hQ : HX G κ Qc (XIX G res M') mc ms) {a : Array Value} {res1 : Unit ⊕ Nat} {M1 : Mem} (hr : RunX G κ nL cells slots mc1 ms1 M pc L st rest (QVX G res1 M1 a) (XIX G res1 M1)) (hx : ∀ e, res1 = .inr e → res = .inr e ∧ M1 = M') (hmc : Nat.ble (cells + mc1) mc = true) (hms : Nat.ble (slots + ms1) ms = true) (k : ∀ r, res1 = .inl r → V G κ nL (cells + mc1) (slots + ms1) M1 (pc + 3) L rest) : V G κ nL cells slots M pc L st := by
  obtain ⟨p, l, e, R, s, m, args, below, meth, c, Q⟩ := κ
  intro H locs ls hlv hP hS
  refine vx_callv (hr H locs ls hlv hP hS) hS (fun q _ h => h) (fun q h => h) (fun q _ h => h) (fun E ce q9 u t H1 locs1 ht hvm hpx hB hz hk hS1 hc9 hv9 hcl9 => ?_) (fun u t H1 locs1 ht hvm hw hB hz1 hk1 hS1 => ?_)
  · obtain ⟨⟨e9, he, hE⟩, hP1⟩ := hB
    obtain ⟨h1, h2⟩ := hx e9 he
    rw [show Q = _ from hQ]
    subst ht
    exact vx_out (fun x hx => (T.2 x hx).elim) C.2.2.2.2.2.1 hc9 hv9 hcl9 (fun t2 ht2 _ => ⟨(), trivial, ⟨⟨e9, h1, hE⟩, by rw [ht2, ← h2]; exact hP1⟩, hS1.F ht2⟩) hS1.2.2 (Nat.le_of_ble_eq_true hmc) (Nat.le_of_ble_eq_true hms)
  · exact k () hw H1 locs1 ls hlv (by rw [← ht]; exact hB) hS1
theorem V_iretX (pc : Nat) (C : Cx G κ cc own (some .int) nL rm) {v : Int32} {res : Int32 ⊕ Nat} {M' : Mem} {XC : String → State → State → Prop} {mc ms : Nat} (hQ : HX G κ (QEX G id res M') XC mc ms) (h : some (Sum.inl v, M) = some (res, M')) (hc : Nat.ble cells mc = true) (hs : Nat.ble slots ms = true) (d : decode cc pc = .ok (.ireturn, 1)) : V G κ nL cells slots M pc L [.int v] := by
  cases h
  obtain ⟨p, l, e, R, s, m, args, below, meth, c, Q⟩ := κ
  intro H locs ls hl hP hS
  rw [show Q = _ from hQ]
  refine W.widen (Nat.le_of_ble_eq_true hc) (Nat.le_of_ble_eq_true hs) (vx_ret ?_)
  exact W.iret C.1 C.2.1 C.2.2.1 (fun t ht hW => ⟨⟨v, (), rfl, ⟨v, rfl, rfl⟩, by subst ht; exact hP⟩, hS.F ht⟩) hS.2.2 d C.2.2.2.2.2.1
theorem V_zretX (pc : Nat) (C : Cx G κ cc own (some .boolean) nL rm) {v : Bool} {res : Bool ⊕ Nat} {M' : Mem} {XC : String → State → State → Prop} {mc ms : Nat} (hQ : HX G κ (QEX G b2i res M') XC mc ms) (h : some (Sum.inl v, M) = some (res, M')) (hc : Nat.ble cells mc = true) (hs : Nat.ble slots ms = true) (d : decode cc pc = .ok (.ireturn, 1)) : V G κ nL cells slots M pc L [.int (b2i v)] := by
  cases h
  obtain ⟨p, l, e, R, s, m, args, below, meth, c, Q⟩ := κ
  intro H locs ls hl hP hS
  rw [show Q = _ from hQ]
  refine W.widen (Nat.le_of_ble_eq_true hc) (Nat.le_of_ble_eq_true hs) (vx_ret ?_)
  exact W.zret (ty := .boolean) C.1 C.2.1 C.2.2.1 (by cases v <;> rfl) (fun t ht hW => ⟨⟨b2i v, (), rfl, ⟨v, rfl, rfl⟩, by subst ht; exact hP⟩, hS.F ht⟩) hS.2.2 d C.2.2.2.2.2.1
theorem V_cretX (pc : Nat) (C : Cx G κ cc own (some .char) nL rm) {v : Int32} {res : Int32 ⊕ Nat} {M' : Mem} {XC : String → State → State → Prop} {mc ms : Nat} (hQ : HX G κ (QEX G id res M') XC mc ms) (h : some (Sum.inl v, M) = some (res, M')) (hc : Nat.ble cells mc = true) (hs : Nat.ble slots ms = true) (d : decode cc pc = .ok (.ireturn, 1)) (hn : nrc v = true) : V G κ nL cells slots M pc L [.int v] := by
  cases h
  obtain ⟨p, l, e, R, s, m, args, below, meth, c, Q⟩ := κ
  intro H locs ls hl hP hS
  rw [show Q = _ from hQ]
  have h2 : vp_nar .char v = v := of_decide_eq_true hn
  refine W.widen (Nat.le_of_ble_eq_true hc) (Nat.le_of_ble_eq_true hs) (vx_ret ?_)
  exact W.zret (ty := .char) C.1 C.2.1 C.2.2.1 (by rw [nar_c, h2]) (fun t ht hW => ⟨⟨v, (), rfl, ⟨v, rfl, rfl⟩, by subst ht; exact hP⟩, hS.F ht⟩) hS.2.2 d C.2.2.2.2.2.1
theorem V_vretX (pc : Nat) (C : Cx G κ cc own none nL rm) {res : Unit ⊕ Nat} {M' : Mem} {XC : String → State → State → Prop} {mc ms : Nat} (hQ : HX G κ (QVX G res M') XC mc ms) (h : some (Sum.inl (), M) = some (res, M')) (hc : Nat.ble cells mc = true) (hs : Nat.ble slots ms = true) (d : decode cc pc = .ok (.return_, 1)) : V G κ nL cells slots M pc L [] := by
  cases h
  obtain ⟨p, l, e, R, s, m, args, below, meth, c, Q⟩ := κ
  intro H locs ls hl hP hS
  rw [show Q = _ from hQ]
  refine W.widen (Nat.le_of_ble_eq_true hc) (Nat.le_of_ble_eq_true hs) (vx_ret ?_)
  exact W.vret C.1 C.2.1 C.2.2.1 (fun t ht hW => ⟨⟨(), rfl, rfl, by subst ht; exact hP⟩, hS.F ht⟩) hS.2.2 d C.2.2.2.2.2.1
theorem va_at_ext {D : va_G} {cl : List vw_C} {q : Nat × va_E} {H H1 : Heap} (h : va_at D cl q H) (hx : ∀ a : Nat, a < H.size → H1[a]? = H[a]?) : va_at D cl q H1 := by
  unfold va_at at h ⊢
  cases hq : q.2 with
  | inl a =>
    rw [hq] at h
    dsimp only at h ⊢
    rw [hx _ (Array.getElem?_eq_some_iff.mp h).1]; exact h
  | inr o =>
    rw [hq] at h
    dsimp only at h ⊢
    obtain ⟨r, h1, cell, h2, h3⟩ := h
    exact ⟨r, h1, cell, by rw [hx _ (Array.getElem?_eq_some_iff.mp h2).1]; exact h2, h3⟩
def thOk (rm : Room) (cells slots mc ms : Nat) (rest : List Value) : Bool := Nat.blt 5 rm.frames && Nat.ble ((rest.map fun v => v.category).sum + 82) rm.locals && Nat.ble (cells + 1) rm.cells && Nat.ble (slots + 6) rm.slots && Nat.ble (cells + 1) mc && Nat.ble (slots + 6) ms
theorem V_thrW {β : Type} (pc : Nat) (C : Cx G κ cc RX11 ret nL rm) (T : CxT κ) {mc ms : Nat} {Qc : Array Value → State → Outcome → State → Prop} {res : β ⊕ Nat} {M' : Mem} (hQ : HX G κ Qc (XIX G res M') mc ms) {ik is ic : Nat} (e9 : Nat) {text : String} (h : some (Sum.inr e9, M) = some (res, M')) (hm : (is, text) ∈ msgs) (hk : Cond.classLink RX11 ik (xn e9) ∈ lw_tbl) (hini : Cond.initialized (xn e9) ∈ lw_tbl) (hat : ∀ w ∈ vx_atS RX11 ic (xn e9) ["java/lang/RuntimeException", "java/lang/Exception"], w ∈ lw_tbl ∧ gnw w = true) (hfit : Bundle.fit (xn e9) = true) (d0 : decode cc pc = .ok (.new ik, 3)) (d3 : decode cc (pc + 3) = .ok (.dup, 1)) (d4 : decode cc (pc + 4) = .ok (.ldc_w is, 3)) (d7 : decode cc (pc + 7) = .ok (.invokespecial ic, 3)) (d10 : decode cc (pc + 10) = .ok (.athrow, 1)) (hok : thOk rm cells slots mc ms st = true) : V G κ nL cells slots M pc L st := by
  cases h
  obtain ⟨p, l, e, R, s, m, args, below, meth, c, Q⟩ := κ
  intro H locs ls hl hP hS
  rw [show Q = _ from hQ]
  obtain ⟨hx, hb, hr, hml, hown, hlk, hRm, hWS⟩ := id C
  subst hRm
  unfold thOk at hok
  simp only [Bool.and_eq_true, Nat.ble_eq, Nat.blt_eq] at hok
  obtain ⟨⟨⟨⟨⟨k1, k2⟩, k3⟩, k4⟩, k5⟩, k6⟩ := hok
  obtain ⟨sa, hstr⟩ := hWS.2.2.2.2.2.1 (is, text) hm
  refine vx_throwSW (A := gA G) (mc := mc) (ms := ms) hx hb T.1 hown hfit fitN (wd C hk rfl) (wd C hini rfl) hstr (fun w hw => wd C (hat w hw).1 (hat w hw).2) (fun w hw => ?_) (cxS C).2.2.2.2.2.2.2.2.2.2.2.2.1 (cxS C).2.2.2.2.2.2.2.2.2.2.2.2.2 hS (hl.1.trans hml.symm) d0 d3 d4 d7 d10 (fun x hx => (T.2 x hx).elim) k1 k2 k3 k4 hlk (fun t hvm hz hk9 => ⟨(), trivial, ⟨⟨e9, rfl, rfl⟩, fun j q hq => va_at_ext (hP j q hq) hk9⟩, ?_⟩) hS.2.2 k5 k6
  · rcases List.mem_cons.mp hw with rfl | hw
    · rfl
    · rcases List.mem_cons.mp hw with rfl | hw
      · rfl
      · exact gnw_ot (hat w hw).2
  · exact ⟨Nat.le_trans hS.1 hz, fun q h1 h2 => by rw [hk9 q (Nat.lt_of_lt_of_le h1 hS.1)]; exact hS.2.1 q h1 h2⟩
theorem V_thr {β : Type} (pc : Nat) (C : Cx G κ cc RX11 ret nL rm) (T : CxT κ) {mc ms : Nat} {Qc : Array Value → State → Outcome → State → Prop} {res : β ⊕ Nat} {M' : Mem} (hQ : HX G κ Qc (XIX G res M') mc ms) {ik is ic : Nat} (e9 : Nat) {text : String} (h : some (Sum.inr e9, M) = some (res, M')) (hm : (is, text) ∈ msgs) (hk : Cond.classLink RX11 ik (xn e9) ∈ lw_tbl) (hini : Cond.initialized (xn e9) ∈ lw_tbl) (hat : ∀ w ∈ vx_atS RX11 ic (xn e9) ["java/lang/RuntimeException", "java/lang/Exception"], w ∈ lw_tbl ∧ gnw w = true) (hfit : Bundle.fit (xn e9) = true) (d0 : decode cc pc = .ok (.new ik, 3)) (d3 : decode cc (pc + 3) = .ok (.dup, 1)) (d4 : decode cc (pc + 4) = .ok (.ldc is, 2)) (d7 : decode cc (pc + 6) = .ok (.invokespecial ic, 3)) (d10 : decode cc (pc + 9) = .ok (.athrow, 1)) (hok : thOk rm cells slots mc ms st = true) : V G κ nL cells slots M pc L st := by
  cases h
  obtain ⟨p, l, e, R, s, m, args, below, meth, c, Q⟩ := κ
  intro H locs ls hl hP hS
  rw [show Q = _ from hQ]
  obtain ⟨hx, hb, hr, hml, hown, hlk, hRm, hWS⟩ := id C
  subst hRm
  unfold thOk at hok
  simp only [Bool.and_eq_true, Nat.ble_eq, Nat.blt_eq] at hok
  obtain ⟨⟨⟨⟨⟨k1, k2⟩, k3⟩, k4⟩, k5⟩, k6⟩ := hok
  obtain ⟨sa, hstr⟩ := hWS.2.2.2.2.2.1 (is, text) hm
  refine vx_throwS (A := gA G) (mc := mc) (ms := ms) hx hb T.1 hown hfit fitN (wd C hk rfl) (wd C hini rfl) hstr (fun w hw => wd C (hat w hw).1 (hat w hw).2) (fun w hw => ?_) (cxS C).2.2.2.2.2.2.2.2.2.2.2.2.1 (cxS C).2.2.2.2.2.2.2.2.2.2.2.2.2 hS (hl.1.trans hml.symm) d0 d3 d4 d7 d10 (fun x hx => (T.2 x hx).elim) k1 k2 k3 k4 hlk (fun t hvm hz hk9 => ⟨(), trivial, ⟨⟨e9, rfl, rfl⟩, fun j q hq => va_at_ext (hP j q hq) hk9⟩, ?_⟩) hS.2.2 k5 k6
  · rcases List.mem_cons.mp hw with rfl | hw
    · rfl
    · rcases List.mem_cons.mp hw with rfl | hw
      · rfl
      · exact gnw_ot (hat w hw).2
  · exact ⟨Nat.le_trans hS.1 hz, fun q h1 h2 => by rw [hk9 q (Nat.lt_of_lt_of_le h1 hS.1)]; exact hS.2.1 q h1 h2⟩
theorem V_thrNW {β : Type} (pc : Nat) (C : Cx G κ cc RX11 ret nL rm) (T : CxT κ) {mc ms : Nat} {Qc : Array Value → State → Outcome → State → Prop} {res : β ⊕ Nat} {M' : Mem} (hQ : HX G κ Qc (XIX G res M') mc ms) {ik is ic : Nat} (e9 : Nat) {text : String} (h : some (Sum.inr e9, M) = some (res, M')) (hm : (is, text) ∈ msgs) (hk : Cond.classLink RX11 ik (xn e9) ∈ lw_tbl) (hini : Cond.initialized (xn e9) ∈ lw_tbl) (hat : ∀ w ∈ nx_at RX11 ic (xn e9) ["java/lang/RuntimeException", "java/lang/Exception"], w ∈ lw_tbl ∧ gnw w = true) (hfit : Bundle.fit (xn e9) = true) (d0 : decode cc pc = .ok (.new ik, 3)) (d3 : decode cc (pc + 3) = .ok (.dup, 1)) (d4 : decode cc (pc + 4) = .ok (.ldc_w is, 3)) (d7 : decode cc (pc + 7) = .ok (.invokespecial ic, 3)) (d10 : decode cc (pc + 10) = .ok (.athrow, 1)) (hok : thOk rm cells slots mc ms st = true) : V G κ nL cells slots M pc L st := by
  cases h
  obtain ⟨p, l, e, R, s, m, args, below, meth, c, Q⟩ := κ
  intro H locs ls hl hP hS
  rw [show Q = _ from hQ]
  obtain ⟨hx, hb, hr, hml, hown, hlk, hRm, hWS⟩ := id C
  subst hRm
  unfold thOk at hok
  simp only [Bool.and_eq_true, Nat.ble_eq, Nat.blt_eq] at hok
  obtain ⟨⟨⟨⟨⟨k1, k2⟩, k3⟩, k4⟩, k5⟩, k6⟩ := hok
  obtain ⟨sa, hstr⟩ := hWS.2.2.2.2.2.1 (is, text) hm
  refine nx_throwSW (A := gA G) (mc := mc) (ms := ms) hx hb T.1 hown hfit fitN (wd C hk rfl) (wd C hini rfl) hstr (fun w hw => wd C (hat w hw).1 (hat w hw).2) (fun w hw => ?_) (cxS C).2.2.2.2.2.2.2.2.2.2.2.2.1 (cxS C).2.2.2.2.2.2.2.2.2.2.2.2.2 hS (hl.1.trans hml.symm) d0 d3 d4 d7 d10 (fun x hx => (T.2 x hx).elim) k1 k2 k3 k4 hlk (fun t hvm hz hk9 => ⟨(), trivial, ⟨⟨e9, rfl, rfl⟩, fun j q hq => va_at_ext (hP j q hq) hk9⟩, ?_⟩) hS.2.2 k5 k6
  · rcases List.mem_cons.mp hw with rfl | hw
    · rfl
    · rcases List.mem_cons.mp hw with rfl | hw
      · rfl
      · exact gnw_ot (hat w hw).2
  · exact ⟨Nat.le_trans hS.1 hz, fun q h1 h2 => by rw [hk9 q (Nat.lt_of_lt_of_le h1 hS.1)]; exact hS.2.1 q h1 h2⟩
theorem V_thrN {β : Type} (pc : Nat) (C : Cx G κ cc RX11 ret nL rm) (T : CxT κ) {mc ms : Nat} {Qc : Array Value → State → Outcome → State → Prop} {res : β ⊕ Nat} {M' : Mem} (hQ : HX G κ Qc (XIX G res M') mc ms) {ik is ic : Nat} (e9 : Nat) {text : String} (h : some (Sum.inr e9, M) = some (res, M')) (hm : (is, text) ∈ msgs) (hk : Cond.classLink RX11 ik (xn e9) ∈ lw_tbl) (hini : Cond.initialized (xn e9) ∈ lw_tbl) (hat : ∀ w ∈ nx_at RX11 ic (xn e9) ["java/lang/RuntimeException", "java/lang/Exception"], w ∈ lw_tbl ∧ gnw w = true) (hfit : Bundle.fit (xn e9) = true) (d0 : decode cc pc = .ok (.new ik, 3)) (d3 : decode cc (pc + 3) = .ok (.dup, 1)) (d4 : decode cc (pc + 4) = .ok (.ldc is, 2)) (d7 : decode cc (pc + 6) = .ok (.invokespecial ic, 3)) (d10 : decode cc (pc + 9) = .ok (.athrow, 1)) (hok : thOk rm cells slots mc ms st = true) : V G κ nL cells slots M pc L st := by
  cases h
  obtain ⟨p, l, e, R, s, m, args, below, meth, c, Q⟩ := κ
  intro H locs ls hl hP hS
  rw [show Q = _ from hQ]
  obtain ⟨hx, hb, hr, hml, hown, hlk, hRm, hWS⟩ := id C
  subst hRm
  unfold thOk at hok
  simp only [Bool.and_eq_true, Nat.ble_eq, Nat.blt_eq] at hok
  obtain ⟨⟨⟨⟨⟨k1, k2⟩, k3⟩, k4⟩, k5⟩, k6⟩ := hok
  obtain ⟨sa, hstr⟩ := hWS.2.2.2.2.2.1 (is, text) hm
  refine nx_throwS (A := gA G) (mc := mc) (ms := ms) hx hb T.1 hown hfit fitN (wd C hk rfl) (wd C hini rfl) hstr (fun w hw => wd C (hat w hw).1 (hat w hw).2) (fun w hw => ?_) (cxS C).2.2.2.2.2.2.2.2.2.2.2.2.1 (cxS C).2.2.2.2.2.2.2.2.2.2.2.2.2 hS (hl.1.trans hml.symm) d0 d3 d4 d7 d10 (fun x hx => (T.2 x hx).elim) k1 k2 k3 k4 hlk (fun t hvm hz hk9 => ⟨(), trivial, ⟨⟨e9, rfl, rfl⟩, fun j q hq => va_at_ext (hP j q hq) hk9⟩, ?_⟩) hS.2.2 k5 k6
  · rcases List.mem_cons.mp hw with rfl | hw
    · rfl
    · rcases List.mem_cons.mp hw with rfl | hw
      · rfl
      · exact gnw_ot (hat w hw).2
  · exact ⟨Nat.le_trans hS.1 hz, fun q h1 h2 => by rw [hk9 q (Nat.lt_of_lt_of_le h1 hS.1)]; exact hS.2.1 q h1 h2⟩
theorem V_bcX (pc : Nat) (C : Cx G κ cc own ret nL rm) {idx : Nat} {x : Int32} (d : decode cc pc = .ok (.invokestatic idx, 3)) (hlk : Cond.methodLink own idx yJ6_bitCount_0f7a4 ∈ lw_tbl) (hR : rmOk jr0 rm 1 = true) (hcat : Nat.ble (st.map fun v => v.category).sum 8 = true) (hc : cells ≤ rm.cells) (hs : slots ≤ rm.slots) (k : V G κ nL cells slots M (pc + 3) L (.int (bcnt x) :: st)) : V G κ nL cells slots M pc L (.int x :: st) :=
  V_callI pc (runSO (rest := st) pc C kbitc cf_J6_bitCount_0f7a4 hlk rfl hR d rfl hcat hc hs) k
end
