section
variable {G : GG} {κ : KK} {cc : ByteArray} {own : String} {ret : Option FieldType} {nL cells slots : Nat} {rm : Room} {M : Mem} {L : List (Nat × Value)} {st rest : List Value}
def lcm (x y : Int32) : Int32 := lg_cmp x.toInt64 y.toInt64
def hi32 (x : UInt64) : Int32 := (x >>> 32).toUInt32.toInt32
def lo32 (x : UInt64) : Int32 := x.toUInt32.toInt32
theorem u32_rt (u : UInt32) : u.toInt32.toUInt32 = u := rfl
theorem mk64_hl (x : UInt64) : mk64 (hi32 x) (lo32 x) = x := by
  unfold mk64 hi32 lo32
  apply UInt64.toNat_inj.mp
  simp only [UInt64.toNat_or, UInt64.toNat_shiftLeft, u32_rt, UInt32.toNat_toUInt64, UInt64.toNat_toUInt32, UInt64.toNat_shiftRight]
  have h1 : (32 : UInt64).toNat = 32 := rfl
  rw [h1]
  have h2 := x.toNat_lt
  have h3 : x.toNat >>> (32 % 64) = x.toNat / 2 ^ 32 := Nat.shiftRight_eq_div_pow _ _
  rw [h3]
  have h4 : x.toNat / 2 ^ 32 % 2 ^ 32 = x.toNat / 2 ^ 32 := Nat.mod_eq_of_lt (by omega)
  rw [h4]
  have h5 : (x.toNat / 2 ^ 32) <<< (32 % 64) = x.toNat / 2 ^ 32 * 2 ^ 32 := Nat.shiftLeft_eq _ _
  rw [h5, Nat.mod_eq_of_lt (by omega)]
  have h6 := Nat.shiftLeft_add_eq_or_of_lt (a := x.toNat / 2 ^ 32) (b := x.toNat % 2 ^ 32) (i := 32) (Nat.mod_lt _ (by decide))
  rw [Nat.shiftLeft_eq] at h6
  rw [← h6]
  omega
theorem V_i2l (pc : Nat) (C : Cx G κ cc own ret nL rm) {x : Int32} (d : decode cc pc = .ok (.i2l, 1)) (k : V G κ nL cells slots M (pc + 1) L (.long x.toInt64 :: st)) : V G κ nL cells slots M pc L (.int x :: st) := by
  obtain ⟨p, l, e, R, s, m, args, below, meth, c, Q⟩ := κ
  intro H locs ls hl hP hS
  exact lv_i2l C.1 C.2.1 d rfl (k H locs ls hl hP hS)
theorem V_lconst (pc : Nat) (C : Cx G κ cc own ret nL rm) {n : Fin 2} (x : Int32) (d : decode cc pc = .ok (.lconst n, 1)) (hv : Int64.ofNat (n : Nat) = x.toInt64) (k : V G κ nL cells slots M (pc + 1) L (.long x.toInt64 :: st)) : V G κ nL cells slots M pc L (st) := by
  obtain ⟨p, l, e, R, s, m, args, below, meth, c, Q⟩ := κ
  intro H locs ls hl hP hS
  exact lv_lconst C.1 C.2.1 d hv (k H locs ls hl hP hS)
theorem V_lcmp (pc : Nat) (C : Cx G κ cc own ret nL rm) {x y : Int32} (d : decode cc pc = .ok (.lcmp, 1)) (k : V G κ nL cells slots M (pc + 1) L (.int (lcm x y) :: st)) : V G κ nL cells slots M pc L (.long y.toInt64 :: .long x.toInt64 :: st) := by
  obtain ⟨p, l, e, R, s, m, args, below, meth, c, Q⟩ := κ
  intro H locs ls hl hP hS
  exact W.lcmp C.1 C.2.1 d (k H locs ls hl hP hS)
theorem V_i2d (pc : Nat) (C : Cx G κ cc own ret nL rm) {x : Int32} (d : decode cc pc = .ok (.i2d, 1)) (k : V G κ nL cells slots M (pc + 1) L (.double (FP.i2d x) :: st)) : V G κ nL cells slots M pc L (.int x :: st) := by
  obtain ⟨p, l, e, R, s, m, args, below, meth, c, Q⟩ := κ
  intro H locs ls hl hP hS
  exact lv_i2d C.1 C.2.1 d (k H locs ls hl hP hS)
theorem V_i2f (pc : Nat) (C : Cx G κ cc own ret nL rm) {x : Int32} (d : decode cc pc = .ok (.i2f, 1)) (k : V G κ nL cells slots M (pc + 1) L (.float (FP.i2f x) :: st)) : V G κ nL cells slots M pc L (.int x :: st) := by
  obtain ⟨p, l, e, R, s, m, args, below, meth, c, Q⟩ := κ
  intro H locs ls hl hP hS
  exact lv_i2f C.1 C.2.1 d (k H locs ls hl hP hS)
def nn64 (x : UInt64) : Bool := decide (x &&& 0x7fffffffffffffff ≤ 0x7ff0000000000000)
def nn32 (x : UInt32) : Bool := decide (x &&& 0x7fffffff ≤ 0x7f800000)
theorem nn64_of {x : UInt64} (h : nn64 x = true) : vf_n64 x := by
  unfold nn64 at h
  have h2 := of_decide_eq_true h
  exact h2
theorem nn32_of {x : UInt32} (h : nn32 x = true) : vf_n32 x := by
  unfold nn32 at h
  have h2 := of_decide_eq_true h
  exact h2
theorem V_ddiv (pc : Nat) (C : Cx G κ cc own ret nL rm) {x y : UInt64} (d : decode cc pc = .ok (.ddiv, 1)) (hn : nn64 (FP.ddiv x y) = true) (k : V G κ nL cells slots M (pc + 1) L (.double (FP.ddiv x y) :: st)) : V G κ nL cells slots M pc L (.double y :: .double x :: st) := by
  obtain ⟨p, l, e, R, s, m, args, below, meth, c, Q⟩ := κ
  intro H locs ls hl hP hS
  exact lv_ddiv C.1 C.2.1 d (nn64_of hn) (k H locs ls hl hP hS)
theorem V_fdiv (pc : Nat) (C : Cx G κ cc own ret nL rm) {x y : UInt32} (d : decode cc pc = .ok (.fdiv, 1)) (hn : nn32 (FP.fdiv x y) = true) (k : V G κ nL cells slots M (pc + 1) L (.float (FP.fdiv x y) :: st)) : V G κ nL cells slots M pc L (.float y :: .float x :: st) := by
  obtain ⟨p, l, e, R, s, m, args, below, meth, c, Q⟩ := κ
  intro H locs ls hl hP hS
  exact lv_fdiv C.1 C.2.1 d (nn32_of hn) (k H locs ls hl hP hS)
theorem V_f2d (pc : Nat) (C : Cx G κ cc own ret nL rm) {x : UInt32} (d : decode cc pc = .ok (.f2d, 1)) (hn : nn64 (FP.f2d x) = true) (k : V G κ nL cells slots M (pc + 1) L (.double (FP.f2d x) :: st)) : V G κ nL cells slots M pc L (.float x :: st) := by
  obtain ⟨p, l, e, R, s, m, args, below, meth, c, Q⟩ := κ
  intro H locs ls hl hP hS
  exact lv_f2d C.1 C.2.1 d (nn64_of hn) (k H locs ls hl hP hS)
def dcm (x y : UInt64) : Int32 := Op.cmpValue (FP.dcmp x y) .l
theorem V_dcmpl (pc : Nat) (C : Cx G κ cc own ret nL rm) {x y : UInt64} (d : decode cc pc = .ok (.dcmp .l, 1)) (k : V G κ nL cells slots M (pc + 1) L (.int (dcm x y) :: st)) : V G κ nL cells slots M pc L (.double y :: .double x :: st) := by
  obtain ⟨p, l, e, R, s, m, args, below, meth, c, Q⟩ := κ
  intro H locs ls hl hP hS
  exact lv_dcmp C.1 C.2.1 d (k H locs ls hl hP hS)
theorem V_fload (pc : Nat) (C : Cx G κ cc own ret nL rm) (j : Nat) {i : Nat} {x : UInt32} (d : decode cc pc = .ok (.fload i, 2)) (hk : L[j]? = some (i, .float x)) (k : V G κ nL cells slots M (pc + 2) L (.float x :: st)) : V G κ nL cells slots M pc L (st) := by
  obtain ⟨p, l, e, R, s, m, args, below, meth, c, Q⟩ := κ
  intro H locs ls hl hP hS
  exact lv_fload C.1 C.2.1 d (lv_at hl j hk) (k H locs ls hl hP hS)
theorem V_dload (pc : Nat) (C : Cx G κ cc own ret nL rm) (j : Nat) {i : Nat} {x : UInt64} (d : decode cc pc = .ok (.dload i, 2)) (hk : L[j]? = some (i, .double x)) (k : V G κ nL cells slots M (pc + 2) L (.double x :: st)) : V G κ nL cells slots M pc L (st) := by
  obtain ⟨p, l, e, R, s, m, args, below, meth, c, Q⟩ := κ
  intro H locs ls hl hP hS
  exact lv_dload C.1 C.2.1 d (lv_at hl j hk) (k H locs ls hl hP hS)
theorem V_fstore (pc : Nat) (C : Cx G κ cc own ret nL rm) (L1 : List (Nat × Value)) {i : Nat} {x : UInt32} (d : decode cc pc = .ok (.fstore i, 2)) (hn : Nat.blt i nL = true) (hL : (i, Value.float x) :: L.filter (fun q => !(q.1 == i) && !(q.1 + 1 == i && q.2.category == 2)) = L1) (k : V G κ nL cells slots M (pc + 2) L1 st) : V G κ nL cells slots M pc L (.float x :: st) := by
  obtain ⟨p, l, e, R, s, m, args, below, meth, c, Q⟩ := κ
  intro H locs ls hl hP hS
  exact lv_fstore C.1 C.2.1 d hl (Nat.le_of_ble_eq_true hn) hL (fun ls1 hl1 => k H locs ls1 hl1 hP hS)
theorem V_dstore (pc : Nat) (C : Cx G κ cc own ret nL rm) (L1 : List (Nat × Value)) {i : Nat} {x : UInt64} (d : decode cc pc = .ok (.dstore i, 2)) (hn : Nat.blt (i + 1) nL = true) (hL : (i, Value.double x) :: L.filter (fun q => !(q.1 == i) && (!(q.1 == i + 1) && !(q.1 + 1 == i && q.2.category == 2))) = L1) (k : V G κ nL cells slots M (pc + 2) L1 st) : V G κ nL cells slots M pc L (.double x :: st) := by
  obtain ⟨p, l, e, R, s, m, args, below, meth, c, Q⟩ := κ
  intro H locs ls hl hP hS
  exact lv_dstore C.1 C.2.1 d hl (Nat.le_of_ble_eq_true hn) hL (fun ls1 hl1 => k H locs ls1 hl1 hP hS)
theorem V_lald (pc : Nat) (C : Cx G κ cc own ret nL rm) {k : Nat} (d : decode cc pc = .ok (.laload, 1)) (ha : lay k = 31) (kk : V G κ nL cells slots M (pc + 1) L (.long (M k 0).toInt64 :: st)) : V G κ nL cells slots M pc L (.int 0 :: .ref (gad G k) :: st) := by
  obtain ⟨p, l, e, R, s, m, args, below, meth, c, Q⟩ := κ
  intro H locs ls hl hP hS
  exact va_lald (n := 1) (f := fun i => (M k i).toInt64) C.1 C.2.1 C.2.2.2.2.2.2.2.1 hP k 3 (by rw [wld_at (ltl ha rfl), ceR_J ha]) rfl (by unfold vp_in; decide) d (kk H locs ls hl hP hS)
theorem V_last (pc : Nat) (C : Cx G κ cc own ret nL rm) {k : Nat} {x : Int32} (d : decode cc pc = .ok (.lastore, 1)) (ha : lay k = 31) (kk : V G κ nL cells slots (up2 M k 0 x) (pc + 1) L st) : V G κ nL cells slots M pc L (.long x.toInt64 :: .int 0 :: .ref (gad G k) :: st) := by
  obtain ⟨p, l, e, R, s, m, args, below, meth, c, Q⟩ := κ
  intro H locs ls hl hP hS
  refine va_last (n := 1) (f := fun i => (M k i).toInt64) C.1 C.2.1 C.2.2.2.2.2.2.2.1 hP (wld_D C.2.2.2.2.2.2.2.2.2.1 M) hS k 3 (by rw [wld_at (ltl ha rfl), ceR_J ha]) rfl (by unfold vp_in; decide) d (fun H1 locs1 hP1 hD1 hS1 => ?_)
  rw [wld_set (M' := up2 M k 0 x) (by
    rw [up2_same, ceR_J ha]
    have hf : (fun i => ((upd (M k) 0 x) i).toInt64) = vp_updL (fun i => (M k i).toInt64) (0 : Int32).toNatClampNeg x.toInt64 := by
      funext i
      show ((if i = 0 then x else M k i)).toInt64 = if i = (0 : Int32).toNatClampNeg then x.toInt64 else (M k i).toInt64
      rw [show (0 : Int32).toNatClampNeg = 0 from rfl]
      split <;> rfl
    rw [hf]) (fun i hi => up2_ne hi)] at hP1
  exact kk H1 locs1 ls hl hP1 hS1
theorem V_dald (pc : Nat) (C : Cx G κ cc own ret nL rm) {k : Nat} (d : decode cc pc = .ok (.daload, 1)) (ha : lay k = 32) (kk : V G κ nL cells slots M (pc + 1) L (.double (mk64 (M k 0) (M k 1)) :: st)) : V G κ nL cells slots M pc L (.int 0 :: .ref (gad G k) :: st) := by
  obtain ⟨p, l, e, R, s, m, args, below, meth, c, Q⟩ := κ
  intro H locs ls hl hP hS
  exact va_dald (n := 1) (f := fun i => mk64 (M k (2 * i)) (M k (2 * i + 1))) C.1 C.2.1 C.2.2.2.2.2.2.2.1 hP k 4 (by rw [wld_at (ltl ha rfl), ceR_Z ha]) rfl (by unfold vp_in; decide) d (kk H locs ls hl hP hS)
theorem V_dast (pc : Nat) (C : Cx G κ cc own ret nL rm) {k : Nat} {x : UInt64} (d : decode cc pc = .ok (.dastore, 1)) (ha : lay k = 32) (kk : V G κ nL cells slots (up2 (up2 M k 0 (hi32 x)) k 1 (lo32 x)) (pc + 1) L st) : V G κ nL cells slots M pc L (.double x :: .int 0 :: .ref (gad G k) :: st) := by
  obtain ⟨p, l, e, R, s, m, args, below, meth, c, Q⟩ := κ
  intro H locs ls hl hP hS
  refine va_dast (n := 1) (f := fun i => mk64 (M k (2 * i)) (M k (2 * i + 1))) C.1 C.2.1 C.2.2.2.2.2.2.2.1 hP (wld_D C.2.2.2.2.2.2.2.2.2.1 M) hS k 4 (by rw [wld_at (ltl ha rfl), ceR_Z ha]) rfl (by unfold vp_in; decide) d (fun H1 locs1 hP1 hD1 hS1 => ?_)
  rw [wld_set (M' := up2 (up2 M k 0 (hi32 x)) k 1 (lo32 x)) (by
    rw [up2_same, up2_same, ceR_Z ha]
    have hf : (fun i => mk64 (upd (upd (M k) 0 (hi32 x)) 1 (lo32 x) (2 * i)) (upd (upd (M k) 0 (hi32 x)) 1 (lo32 x) (2 * i + 1))) = vf_upd (fun i => mk64 (M k (2 * i)) (M k (2 * i + 1))) (0 : Int32).toNatClampNeg x := by
      funext i
      rw [show (0 : Int32).toNatClampNeg = 0 from rfl]
      unfold vf_upd
      by_cases hi : i = 0
      · subst hi
        exact mk64_hl x
      · rw [if_neg hi]
        have e1 : upd (upd (M k) 0 (hi32 x)) 1 (lo32 x) (2 * i) = M k (2 * i) := by unfold upd; rw [if_neg (by omega), if_neg (by omega)]
        have e2 : upd (upd (M k) 0 (hi32 x)) 1 (lo32 x) (2 * i + 1) = M k (2 * i + 1) := by unfold upd; rw [if_neg (by omega), if_neg (by omega)]
        rw [e1, e2]
    rw [hf]) (fun i hi => by rw [up2_ne hi, up2_ne hi])] at hP1
  exact kk H1 locs1 ls hl hP1 hS1
def QD (G : GG) (r : UInt64) (M' : Mem) : Array Value → State → Outcome → State → Prop := va_Qd (fun (x : UInt64) (_ : Unit) => x = r) (fun _ t => va_P (gD G) vwCl (wld G M') t.heap) (gA G)
def QF (G : GG) (r : UInt32) (M' : Mem) : Array Value → State → Outcome → State → Prop := va_Qf (fun (x : UInt32) (_ : Unit) => x = r) (fun _ t => va_P (gD G) vwCl (wld G M') t.heap) (gA G)
def QDX (G : GG) (res : UInt64 ⊕ Nat) (M' : Mem) : Array Value → State → Outcome → State → Prop := va_Qd (fun (x : UInt64) (_ : Unit) => res = .inl x) (fun _ t => va_P (gD G) vwCl (wld G M') t.heap) (gA G)
def QFX (G : GG) (res : UInt32 ⊕ Nat) (M' : Mem) : Array Value → State → Outcome → State → Prop := va_Qf (fun (x : UInt32) (_ : Unit) => res = .inl x) (fun _ t => va_P (gD G) vwCl (wld G M') t.heap) (gA G)
theorem V_dreth (pc : Nat) (C : Cx G κ cc own (some .double) nL rm) {v r : UInt64} {M' : Mem} (hQ : HQ G κ (QD G r M') 0 0) (h : some (v, M) = some (r, M')) (d : decode cc pc = .ok (.dreturn, 1)) : V G κ nL 0 0 M pc L [.double v] := by
  cases h
  obtain ⟨p, l, e, R, s, m, args, below, meth, c, Q⟩ := κ
  intro H locs ls hl hP hS
  rw [show Q = _ from hQ]
  exact W.dret C.1 C.2.1 C.2.2.1 (fun t ht hW => ⟨⟨v, (), rfl, rfl, by subst ht; exact hP⟩, hS.F ht⟩) hS.2.2 d C.2.2.2.2.2.1
theorem V_dretX (pc : Nat) (C : Cx G κ cc own (some .double) nL rm) {v : UInt64} {res : UInt64 ⊕ Nat} {M' : Mem} {XC : String → State → State → Prop} {mc ms : Nat} (hQ : HX G κ (QDX G res M') XC mc ms) (h : some (Sum.inl v, M) = some (res, M')) (hc : Nat.ble cells mc = true) (hs : Nat.ble slots ms = true) (d : decode cc pc = .ok (.dreturn, 1)) : V G κ nL cells slots M pc L [.double v] := by
  cases h
  obtain ⟨p, l, e, R, s, m, args, below, meth, c, Q⟩ := κ
  intro H locs ls hl hP hS
  rw [show Q = _ from hQ]
  refine W.widen (Nat.le_of_ble_eq_true hc) (Nat.le_of_ble_eq_true hs) (vx_ret ?_)
  exact W.dret C.1 C.2.1 C.2.2.1 (fun t ht hW => ⟨⟨v, (), rfl, rfl, by subst ht; exact hP⟩, hS.F ht⟩) hS.2.2 d C.2.2.2.2.2.1
theorem V_callD (pc : Nat) {a : Array Value} {r : UInt64} {M1 : Mem} (hr : RunC G κ nL cells slots M pc L st rest (QD G r M1 a)) (k : V G κ nL cells slots M1 (pc + 3) L (.double r :: rest)) : V G κ nL cells slots M pc L st := by
  obtain ⟨p, l, e, R, s, m, args, below, meth, c, Q⟩ := κ
  intro H locs ls hlv hP hS
  refine va_calld (hr H locs ls hlv hP hS) hS (fun q _ h => h) (fun q h => h) (fun r1 u t H1 locs1 ht hvm hw hB hz1 hk1 hS1 => ?_)
  subst hw
  exact k H1 locs1 ls hlv (by rw [← ht]; exact hB) hS1
theorem V_freth (pc : Nat) (C : Cx G κ cc own (some .float) nL rm) {v r : UInt32} {M' : Mem} (hQ : HQ G κ (QF G r M') 0 0) (h : some (v, M) = some (r, M')) (d : decode cc pc = .ok (.freturn, 1)) : V G κ nL 0 0 M pc L [.float v] := by
  cases h
  obtain ⟨p, l, e, R, s, m, args, below, meth, c, Q⟩ := κ
  intro H locs ls hl hP hS
  rw [show Q = _ from hQ]
  exact W.fret C.1 C.2.1 C.2.2.1 (fun t ht hW => ⟨⟨v, (), rfl, rfl, by subst ht; exact hP⟩, hS.F ht⟩) hS.2.2 d C.2.2.2.2.2.1
theorem V_fretX (pc : Nat) (C : Cx G κ cc own (some .float) nL rm) {v : UInt32} {res : UInt32 ⊕ Nat} {M' : Mem} {XC : String → State → State → Prop} {mc ms : Nat} (hQ : HX G κ (QFX G res M') XC mc ms) (h : some (Sum.inl v, M) = some (res, M')) (hc : Nat.ble cells mc = true) (hs : Nat.ble slots ms = true) (d : decode cc pc = .ok (.freturn, 1)) : V G κ nL cells slots M pc L [.float v] := by
  cases h
  obtain ⟨p, l, e, R, s, m, args, below, meth, c, Q⟩ := κ
  intro H locs ls hl hP hS
  rw [show Q = _ from hQ]
  refine W.widen (Nat.le_of_ble_eq_true hc) (Nat.le_of_ble_eq_true hs) (vx_ret ?_)
  exact W.fret C.1 C.2.1 C.2.2.1 (fun t ht hW => ⟨⟨v, (), rfl, rfl, by subst ht; exact hP⟩, hS.F ht⟩) hS.2.2 d C.2.2.2.2.2.1
theorem V_callF (pc : Nat) {a : Array Value} {r : UInt32} {M1 : Mem} (hr : RunC G κ nL cells slots M pc L st rest (QF G r M1 a)) (k : V G κ nL cells slots M1 (pc + 3) L (.float r :: rest)) : V G κ nL cells slots M pc L st := by
  obtain ⟨p, l, e, R, s, m, args, below, meth, c, Q⟩ := κ
  intro H locs ls hlv hP hS
  refine va_callf (hr H locs ls hlv hP hS) hS (fun q _ h => h) (fun q h => h) (fun r1 u t H1 locs1 ht hvm hw hB hz1 hk1 hS1 => ?_)
  subst hw
  exact k H1 locs1 ls hlv (by rw [← ht]; exact hB) hS1
/-- an exception of the class E stands over the frame -/
def VX (G : GG) (κ : KK) (nL cells slots : Nat) (M : Mem) (pc : Nat) (L : List (Nat × Value)) (E : String) : Prop := match κ with
  | (p, l, e, R, s, m, args, below, meth, c, Q) => ∀ (H : Heap) (locs : List Loc) (ls : Array Slot) (rest : List Value) (q : Addr) (ce : Cell), lv_has ls nL L → va_P (gD G) vwCl (wld G M) H → va_S (gA G) s.heap H locs → H[q]? = some ce → ce.vm = .none → s.vm.findClass E = some ce.cls → vx_W p l e R s m args below meth c H locs cells slots Q (F0 m pc ls rest) q
def CxH (κ : KK) (hh : List (Nat × Nat × Nat × Nat)) : Prop := match κ with
  | (_, l, _, _, _, _, _, _, _, c, _) => l.stackTraces = false ∧ c.exceptionTable.toList = tableOf hh
theorem cxHL {κ : KK} {hh : List (Nat × Nat × Nat × Nat)} (T : CxH κ hh) : κ.2.1.stackTraces = false := by
  obtain ⟨p, l, e, R, s, m, args, below, meth, c, Q⟩ := κ
  exact T.1
def XF : String → State → State → Prop := vx_X (fun (_ : Unit) => False) (fun _ _ _ => False) (fun _ => False)
abbrev ConH (G : GG) (l : Launch) (y : MethodName) (b : ByteArray) (maxL : Nat) (ret : Option FieldType) (hh : List (Nat × Nat × Nat × Nat)) (rm : Room) (vs : List Value) (M : Mem) (Qc : Array Value → State → Outcome → State → Prop) (mc ms : Nat) : Prop :=
  vx_Met l y [.codeWith y b maxL ret hh] rm (va_Pc vs (WP G M)) Qc XF mc ms (gA G)
theorem conH_of {l : Launch} {y : MethodName} {b : ByteArray} {maxL : Nat} {hh : List (Nat × Nat × Nat × Nat)} {vs : List Value} {Qc : Array Value → State → Outcome → State → Prop} {mc ms : Nat} (hl : l.stackTraces = false) (hy : plainName y.cls = true) (hm : (lg_sl vs).length ≤ maxL)
    (body : ∀ κ, Cx G κ b y.cls ret maxL rm → CxH κ hh → HX G κ Qc XF mc ms → V G κ maxL 0 0 M 0 (lv_args 0 vs) []) : ConH G l y b maxL ret hh rm vs M Qc mc ms := by
  refine vx_ofWH (cc := b) (maxL := maxL) (ret := ret) (hh := hh) hy rfl ?_
  intro p e s m args below meth c s₁ BB hml hv
  obtain ⟨rfl, hWS, hP⟩ := hv
  have hts := atoms_spec (ws := [Cond.codeWith y b maxL ret hh]) BB.pre
  have h1 := body (p, l, e, (headSpec [.codeWith y b maxL ret hh] rm).room, s, m, vs.toArray, below, meth, c, vx_MQ below Qc XF vs.toArray s mc ms (gA G)) ⟨BB.exec, BB.bytes, BB.returns, hml, findClass_of_methodNamed BB.named, BB.notSynchronized, rfl, hWS⟩ ⟨hl, vx_table (x := y) BB (hts _ List.mem_cons_self)⟩ rfl
  rw [lg_entry_eq]
  exact h1 s.heap [] _ (lv_entry vs hm) hP va_S.rf
theorem V_catch (C : Cx G κ cc own ret nL rm) {hh : List (Nat × Nat × Nat × Nat)} (T : CxH κ hh) {pc : Nat} {E name : String} (pre : List ExceptionTableEntry) (x : ExceptionTableEntry) (suf : List ExceptionTableEntry) (hsplit : tableOf hh = pre ++ x :: suf) (hpass : ∀ z ∈ pre, z.catchType ≠ 0 ∧ ∃ nm : String, Cond.classLink own z.catchType nm ∈ lw_tbl ∧ (E, nm) ∈ ncl) (hx : covers x pc = true) (h0 : x.catchType ≠ 0) (hlink : Cond.classLink own x.catchType name ∈ lw_tbl) (hcast : Cond.castable E name ∈ lw_tbl) (k : ∀ q : Nat, V G κ nL cells slots M x.handlerPc L [.ref q]) : VX G κ nL cells slots M pc L E := by
  obtain ⟨p, l, e, R, s, m, args, below, meth, c, Q⟩ := κ
  intro H locs ls rest q ce hl hP hS hc9 hv9 hcl9
  exact vx_catch C.2.2.2.2.1 pre x suf (T.2.trans hsplit) (fun z hz => Or.inr ⟨(hpass z hz).1, (hpass z hz).2.elim fun nm h => ⟨nm, wd C h.1 rfl, C.2.2.2.2.2.2.2.2.2.2.2.2.2 (E, nm) h.2⟩⟩) hx h0 (wd C hlink rfl) (wd C hcast rfl) hc9 hv9 hcl9 (k q H locs ls hl hP hS)
def bindH {α β : Type} (x : Option ((α ⊕ Nat) × Mem)) (k : α → Mem → Option β) (kh : Nat → Mem → Option β) : Option β := match x with
  | none => none
  | some (.inl r, M) => k r M
  | some (.inr e, M) => kh e M
theorem bindH_some {α β : Type} {x : Option ((α ⊕ Nat) × Mem)} {k : α → Mem → Option β} {kh : Nat → Mem → Option β} {y : β} (h : bindH x k kh = some y) : ∃ res1 M1, x = some (res1, M1) ∧ (∀ e, res1 = .inr e → kh e M1 = some y) ∧ ∀ r, res1 = .inl r → k r M1 = some y := by
  unfold bindH at h
  split at h
  · cases h
  · exact ⟨_, _, rfl, fun e he => (by cases he), fun r hr => (by cases hr; exact h)⟩
  · exact ⟨_, _, rfl, fun e he => (by cases he; exact h), fun r hr => (by cases hr)⟩
theorem V_callHI {α : Type} (pc : Nat) {mc1 ms1 : Nat} {a : Array Value} {enc : α → Int32} {res1 : α ⊕ Nat} {M1 : Mem} (hr : RunX G κ nL cells slots mc1 ms1 M pc L st rest (QEX G enc res1 M1 a) (XIX G res1 M1)) (kx : ∀ e, res1 = .inr e → VX G κ nL (cells + mc1) (slots + ms1) M1 pc L (xn e)) (k : ∀ r, res1 = .inl r → V G κ nL (cells + mc1) (slots + ms1) M1 (pc + 3) L (.int (enc r) :: rest)) : V G κ nL cells slots M pc L st := by
  obtain ⟨p, l, e, R, s, m, args, below, meth, c, Q⟩ := κ
  intro H locs ls hlv hP hS
  refine vx_calli (hr H locs ls hlv hP hS) hS (fun q _ h => h) (fun q h => h) (fun q _ h => h) (fun E ce q9 u t H1 locs1 ht hvm hpx hB hz hk hS1 hc9 hv9 hcl9 => ?_) (fun r u t H1 locs1 ht hvm hw hB hz1 hk1 hS1 => ?_)
  · obtain ⟨⟨e9, he, rfl⟩, hP1⟩ := hB
    exact kx e9 he H1 locs1 ls rest q9 ce hlv (by rw [← ht]; exact hP1) hS1 hc9 hv9 hcl9
  · obtain ⟨r1, hr1, rfl⟩ := hw
    exact k r1 hr1 H1 locs1 ls hlv (by rw [← ht]; exact hB) hS1
theorem V_callHD (pc : Nat) {mc1 ms1 : Nat} {a : Array Value} {res1 : UInt64 ⊕ Nat} {M1 : Mem} (hr : RunX G κ nL cells slots mc1 ms1 M pc L st rest (QDX G res1 M1 a) (XIX G res1 M1)) (kx : ∀ e, res1 = .inr e → VX G κ nL (cells + mc1) (slots + ms1) M1 pc L (xn e)) (k : ∀ r, res1 = .inl r → V G κ nL (cells + mc1) (slots + ms1) M1 (pc + 3) L (.double r :: rest)) : V G κ nL cells slots M pc L st := by
  obtain ⟨p, l, e, R, s, m, args, below, meth, c, Q⟩ := κ
  intro H locs ls hlv hP hS
  refine vx_calld (hr H locs ls hlv hP hS) hS (fun q _ h => h) (fun q h => h) (fun q _ h => h) (fun E ce q9 u t H1 locs1 ht hvm hpx hB hz hk hS1 hc9 hv9 hcl9 => ?_) (fun r u t H1 locs1 ht hvm hw hB hz1 hk1 hS1 => ?_)
  · obtain ⟨⟨e9, he, rfl⟩, hP1⟩ := hB
    exact kx e9 he H1 locs1 ls rest q9 ce hlv (by rw [← ht]; exact hP1) hS1 hc9 hv9 hcl9
  · exact k r hw H1 locs1 ls hlv (by rw [← ht]; exact hB) hS1
theorem V_callHF (pc : Nat) {mc1 ms1 : Nat} {a : Array Value} {res1 : UInt32 ⊕ Nat} {M1 : Mem} (hr : RunX G κ nL cells slots mc1 ms1 M pc L st rest (QFX G res1 M1 a) (XIX G res1 M1)) (kx : ∀ e, res1 = .inr e → VX G κ nL (cells + mc1) (slots + ms1) M1 pc L (xn e)) (k : ∀ r, res1 = .inl r → V G κ nL (cells + mc1) (slots + ms1) M1 (pc + 3) L (.float r :: rest)) : V G κ nL cells slots M pc L st := by
  obtain ⟨p, l, e, R, s, m, args, below, meth, c, Q⟩ := κ
  intro H locs ls hlv hP hS
  refine vx_callf (hr H locs ls hlv hP hS) hS (fun q _ h => h) (fun q h => h) (fun q _ h => h) (fun E ce q9 u t H1 locs1 ht hvm hpx hB hz hk hS1 hc9 hv9 hcl9 => ?_) (fun r u t H1 locs1 ht hvm hw hB hz1 hk1 hS1 => ?_)
  · obtain ⟨⟨e9, he, rfl⟩, hP1⟩ := hB
    exact kx e9 he H1 locs1 ls rest q9 ce hlv (by rw [← ht]; exact hP1) hS1 hc9 hv9 hcl9
  · exact k r hw H1 locs1 ls hlv (by rw [← ht]; exact hB) hS1
theorem V_iretH (pc : Nat) (C : Cx G κ cc own (some .int) nL rm) {v r : Int32} {M' : Mem} {mc ms : Nat} (hQ : HX G κ (QI G r M') XF mc ms) (h : some (v, M) = some (r, M')) (hc : Nat.ble cells mc = true) (hs : Nat.ble slots ms = true) (d : decode cc pc = .ok (.ireturn, 1)) : V G κ nL cells slots M pc L [.int v] := by
  cases h
  obtain ⟨p, l, e, R, s, m, args, below, meth, c, Q⟩ := κ
  intro H locs ls hl hP hS
  rw [show Q = _ from hQ]
  refine W.widen (Nat.le_of_ble_eq_true hc) (Nat.le_of_ble_eq_true hs) (vx_ret ?_)
  exact W.iret C.1 C.2.1 C.2.2.1 (fun t ht hW => ⟨⟨v, (), rfl, rfl, by subst ht; exact hP⟩, hS.F ht⟩) hS.2.2 d C.2.2.2.2.2.1
def Ch (y : MethodName) (b : ByteArray) (maxL : Nat) (ret : Option FieldType) (hh : List (Nat × Nat × Nat × Nat)) (n : Nat) : Prop := Cond.codeWith y b maxL ret hh ∈ lw_tbl ∧ Cond.initialized y.cls ∈ lw_tbl ∧ Cond.static y ∈ lw_tbl ∧ (y.cls ≠ "java/lang/invoke/MethodHandle" ∧ y.cls ≠ "java/lang/invoke/VarHandle" ∧ (parseMethodDescriptor y.desc).map (fun d => d.parameters.length) = some n)
theorem V_callH (pc : Nat) (C : Cx G κ cc own ret nL rm) {y : MethodName} {b : ByteArray} {maxL n idx mc ms : Nat} {hh : List (Nat × Nat × Nat × Nat)} {ret' : Option FieldType} {rm' : Room} {As : List Value} {r : Int32} {M1 : Mem} (hM : ConH G κ.2.1 y b maxL ret' hh rm' As M (QI G r M1) mc ms) (hf : Ch y b maxL ret' hh n) (hl : Cond.methodLink own idx y ∈ lw_tbl) (hn : As.length = n) (hR : rmOkX rm' rm maxL mc ms = true) (d : decode cc pc = .ok (.invokestatic idx, 3)) (hst : st = As.reverse ++ rest) (hcat : Nat.ble (rest.map fun v => v.category).sum 8 = true) (hc : cells + mc ≤ rm.cells) (hs : slots + ms ≤ rm.slots) (k : V G κ nL (cells + mc) (slots + ms) M1 (pc + 3) L (.int r :: rest)) : V G κ nL cells slots M pc L st := by
  obtain ⟨p, l, e, R, s, m, args, below, meth, c, Q⟩ := κ
  intro H locs ls hlv hP hS
  obtain ⟨hx, hb, -, hml, hown, -, hRm, hWS⟩ := id C
  subst hRm
  obtain ⟨hR1, hR2, hR3⟩ := rmOkX_of hR
  obtain ⟨f1, f2, f3, f4⟩ := hf
  have hts : ∀ w ∈ [Cond.codeWith y b maxL ret' hh], w.before args s = true := fun w hw => by rw [List.mem_singleton.mp hw]; exact wd C f1 rfl
  have hG : GoodIn [Cond.codeWith y b maxL ret' hh] [Cond.codeWith y b maxL ret' hh] := fun w hw => ⟨hw, by rw [List.mem_singleton.mp hw]; exact Or.inl rfl⟩
  have hrun := vx_runSX (e := e) (below := below) (meth := meth) (locs := locs) (Ts := [Cond.codeWith y b maxL ret' hh]) (cells := cells) (slots := slots) (g := F0 m pc ls st) (rest := rest) ⟨hx, hb, hml, hown, hts⟩ hM ⟨⟨hR2, hR3, hR1.1, hR1.2, pay_in hts hG, List.mem_cons_self⟩, wd C f1 rfl, wd C f2 rfl, ⟨f4.1, f4.2.1⟩, fun sig h => (by have h2 := f4.2.2; rw [h] at h2; exact (Option.some.inj h2).symm), wd C hl rfl, wd C f3 rfl⟩ ⟨WP_blind, fun U hU hW => ⟨rfl, hWS.to hS hU hW, by rw [hU]; exact hP⟩⟩ rfl hn hlv.1 hst (lv_room (Nat.le_of_ble_eq_true hcat)) d ⟨hc, hs⟩
  refine vx_calli hrun hS (fun q _ h => h) (fun q h => h) (fun q _ h => h.elim) (fun E ce q9 u t H1 locs1 ht hvm hpx hB hz hk hS1 hc9 hv9 hcl9 => hpx.elim) (fun r1 u t H1 locs1 ht hvm hw hB hz1 hk1 hS1 => ?_)
  subst hw
  exact k H1 locs1 ls hlv (by rw [← ht]; exact hB) hS1
theorem V_wide {c1 s1 : Nat} {pc : Nat} (hc : cells ≤ c1) (hs : slots ≤ s1) (k : V G κ nL c1 s1 M pc L st) : V G κ nL cells slots M pc L st := by
  obtain ⟨p, l, e, R, s, m, args, below, meth, c, Q⟩ := κ
  intro H locs ls hl hP hS
  exact W.widen hc hs (k H locs ls hl hP hS)
end
