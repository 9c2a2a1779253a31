abbrev Mem : Type := Nat → Nat → Int32
def up2 (M : Mem) (k i : Nat) (v : Int32) : Mem := fun a => if a = k then upd (M a) i v else M a
theorem up2_same (M : Mem) (k i : Nat) (v : Int32) : up2 M k i v k = upd (M k) i v := by simp [up2]
theorem up2_ne {M : Mem} {k i : Nat} {v : Int32} {j : Nat} (h : j ≠ k) : up2 M k i v j = M j := by simp [up2, h]
/-- what is fixed from the objects' making on: the cells' addresses, classes, array classes, the enum constants' addresses (verbs, refusals), strings, other statics, the base -/
abbrev GG : Type := (Nat → Nat) × va_G × (Nat → ClassId) × (Nat → Nat) × (Nat → Nat) × (Nat → Nat) × (Nat → Nat) × (Nat → Nat) × Nat
def gad (G : GG) : Nat → Nat := G.1
def gD (G : GG) : va_G := G.2.1
def gcl (G : GG) : Nat → ClassId := G.2.2.1
def gv (G : GG) : Nat → Nat := G.2.2.2.1
def gr (G : GG) : Nat → Nat := G.2.2.2.2.1
def gk (G : GG) : Nat → Nat := G.2.2.2.2.2.1
def gw (G : GG) : Nat → Nat := G.2.2.2.2.2.2.1
def gs (G : GG) : Nat → Nat := G.2.2.2.2.2.2.2.1
def gb (G : GG) : Nat := G.2.2.2.2.2.2.2.2
def gA (G : GG) : Nat → Prop := fun q => gb G ≤ q
def tysG (G : GG) : List (ClassId × FieldType) := [(gcl G 0, .int), (gcl G 1, .char), (gcl G 2, .object "LarderPatrol$Larder"), (gcl G 3, .long), (gcl G 4, .double)]
/-- the kind of each cell, by its place -/
def layL : List Nat := [0, 1, 2, 20, 20, 3, 21, 4, 22, 22, 22, 1, 2, 20, 20, 3, 21, 4, 22, 22, 22, 1, 2, 20, 20, 3, 21, 4, 22, 22, 22, 5, 30, 1, 2, 20, 20, 3, 21, 4, 22, 22, 22, 1, 2, 20, 20, 3, 21, 4, 22, 22, 22, 1, 2, 20, 20, 3, 21, 4, 22, 22, 22, 1, 2, 20, 20, 3, 21, 4, 22, 22, 22, 1, 2, 20, 20, 3, 21, 4, 22, 22, 22, 1, 2, 20, 20, 3, 21, 4, 22, 22, 22, 1, 2, 20, 20, 3, 21, 4, 22, 22, 22, 1, 2, 20, 20, 3, 21, 4, 22, 22, 22, 6, 23, 7, 24, 8, 25, 9, 26, 27, 26, 26, 26, 20, 28, 24, 29, 31, 32]
def lay (k : Nat) : Nat := layL.getD k 99
def NC : Nat := 131
theorem lay_lt {k : Nat} (h : lay k < 99) : k < NC := by
  rcases Nat.lt_or_ge k NC with q | q
  · exact q
  · have h1 : lay k = 99 := by unfold lay; rw [List.getD_eq_getElem?_getD, List.getElem?_eq_none (by exact q)]; rfl
    omega
def alk (k : Nat) : Nat := match k with
  | 20 => 12
  | 21 => 10
  | 22 => 8
  | 23 => 144
  | 24 => 60
  | 25 => 64
  | 26 => 216
  | 27 => 1728
  | 28 => 80
  | 29 => 2
  | 30 => 8
  | 31 => 1
  | 32 => 1
  | _ => 0
def alen (k : Nat) : Nat := alk (lay k)
/-- 1: an int array, 2: a char array -/
def akk (k : Nat) : Nat := match k with
  | 20 => 1
  | 21 => 1
  | 22 => 1
  | 23 => 1
  | 26 => 1
  | 27 => 1
  | 29 => 1
  | 24 => 2
  | 25 => 2
  | 28 => 2
  | _ => 0
def ak (k : Nat) : Nat := akk (lay k)
def F_X11 (G : GG) (k : Nat) (row : Nat → Int32) : List Value := [.ref (gad G (k + 1)), .ref (gad G (k + 11)), .ref (gad G (k + 21)), .int (row 3), .ref (gad G (k + 31)), .ref (gad G (k + 113)), .ref (gad G (k + 115)), .ref (gad G (k + 117)), .int (row 8), .int (row 9), .int (row 10), .int (row 11)]
def F_X3 (G : GG) (k : Nat) (row : Nat → Int32) : List Value := [.ref (gad G (k + 1)), .ref (gad G (k + 4)), .ref (gad G (k + 6)), .int (row 3), .int (row 4), .int (row 5), .int (row 6), .int (row 7), .int (row 8), .int (row 9), .int (row 10)]
def F_X9 (G : GG) (k : Nat) (row : Nat → Int32) : List Value := [.ref (gad G (k + 1)), .ref (gad G (k + 2)), .int (row 2), .int (row 3), .int (row 4)]
def F_X6 (G : GG) (k : Nat) (row : Nat → Int32) : List Value := [.ref (gad G (k + 1)), .int (row 1), .int (row 2), .int (row 3)]
def F_X5 (G : GG) (k : Nat) (row : Nat → Int32) : List Value := [.ref (gad G (k + 1)), .ref (gad G (k + 2)), .ref (gad G (k + 3)), .int (row 3)]
def F_X2 (G : GG) (k : Nat) (row : Nat → Int32) : List Value := [.ref (gad G (k + 1)), .int (row 1), .int (row 2)]
def F_X1 (G : GG) (k : Nat) (row : Nat → Int32) : List Value := [.ref (gad G (k + 1))]
def F_X8 (G : GG) (k : Nat) (row : Nat → Int32) : List Value := [.ref (gad G (k + 1)), .int (row 1), .int (row 2), .int (row 3), .ref (gv G (row 4).toNatClampNeg), .int (row 5), .int (row 6)]
def F_X4 (G : GG) (k : Nat) (row : Nat → Int32) : List Value := [.ref (gad G (k + 1)), .int (row 1)]
def F_X12 (G : GG) (k : Nat) (row : Nat → Int32) : List Value := [.int (row 0), .int (row 1), .int (row 2), .int (row 3), .int (row 4), .int (row 5), .ref (gad G (k + 1)), .ref (gad G (k + 2)), .ref (gad G (k + 3)), .ref (gad G (k + 4)), .ref (gad G (k + 5)), .int (row 11), .int (row 12), .int (row 13), .ref (gad G (k + 6)), .ref (gad G (k + 7)), .int (row 16), .ref (gad G (k + 8)), .int (row 18), .int (row 19), .int (row 20), .ref (gad G (k + 9)), .int (row 22), .int (row 23)]
def mk64 (a b : Int32) : UInt64 := (a.toUInt32.toUInt64 <<< 32) ||| b.toUInt32.toUInt64
def ceR (G : GG) (row : Nat → Int32) (k : Nat) : va_E := match lay k with
  | 0 => .inr (10, F_X11 G k row)
  | 1 => .inr (4, F_X3 G k row)
  | 2 => .inr (9, F_X9 G k row)
  | 3 => .inr (7, F_X6 G k row)
  | 4 => .inr (6, F_X5 G k row)
  | 5 => .inr (3, F_X2 G k row)
  | 6 => .inr (2, F_X1 G k row)
  | 7 => .inr (8, F_X8 G k row)
  | 8 => .inr (5, F_X4 G k row)
  | 9 => .inr (11, F_X12 G k row)
  | 20 => .inl (gcl G 0, 12, .inl row)
  | 21 => .inl (gcl G 0, 10, .inl row)
  | 22 => .inl (gcl G 0, 8, .inl row)
  | 23 => .inl (gcl G 0, 144, .inl row)
  | 24 => .inl (gcl G 1, 60, .inl row)
  | 25 => .inl (gcl G 1, 64, .inl row)
  | 26 => .inl (gcl G 0, 216, .inl row)
  | 27 => .inl (gcl G 0, 1728, .inl row)
  | 28 => .inl (gcl G 1, 80, .inl row)
  | 29 => .inl (gcl G 0, 2, .inl row)
  | 30 => .inl (gcl G 2, 8, .inr (.inr (.inr (.inr (fun i => some (gad G (33 + 10 * i)))))))
  | 31 => .inl (gcl G 3, 1, .inr (.inl (fun i => (row i).toInt64)))
  | 32 => .inl (gcl G 4, 1, .inr (.inr (.inr (.inl (fun i => mk64 (row (2 * i)) (row (2 * i + 1)))))))
  | _ => .inr (0, [])
theorem ceR_X11 {G : GG} {row : Nat → Int32} {k : Nat} (h : lay k = 0) : ceR G row k = .inr (10, F_X11 G k row) := by unfold ceR; rw [h]; rfl
theorem ceR_X3 {G : GG} {row : Nat → Int32} {k : Nat} (h : lay k = 1) : ceR G row k = .inr (4, F_X3 G k row) := by unfold ceR; rw [h]; rfl
theorem ceR_X9 {G : GG} {row : Nat → Int32} {k : Nat} (h : lay k = 2) : ceR G row k = .inr (9, F_X9 G k row) := by unfold ceR; rw [h]; rfl
theorem ceR_X6 {G : GG} {row : Nat → Int32} {k : Nat} (h : lay k = 3) : ceR G row k = .inr (7, F_X6 G k row) := by unfold ceR; rw [h]; rfl
theorem ceR_X5 {G : GG} {row : Nat → Int32} {k : Nat} (h : lay k = 4) : ceR G row k = .inr (6, F_X5 G k row) := by unfold ceR; rw [h]; rfl
theorem ceR_X2 {G : GG} {row : Nat → Int32} {k : Nat} (h : lay k = 5) : ceR G row k = .inr (3, F_X2 G k row) := by unfold ceR; rw [h]; rfl
theorem ceR_X1 {G : GG} {row : Nat → Int32} {k : Nat} (h : lay k = 6) : ceR G row k = .inr (2, F_X1 G k row) := by unfold ceR; rw [h]; rfl
theorem ceR_X8 {G : GG} {row : Nat → Int32} {k : Nat} (h : lay k = 7) : ceR G row k = .inr (8, F_X8 G k row) := by unfold ceR; rw [h]; rfl
theorem ceR_X4 {G : GG} {row : Nat → Int32} {k : Nat} (h : lay k = 8) : ceR G row k = .inr (5, F_X4 G k row) := by unfold ceR; rw [h]; rfl
theorem ceR_X12 {G : GG} {row : Nat → Int32} {k : Nat} (h : lay k = 9) : ceR G row k = .inr (11, F_X12 G k row) := by unfold ceR; rw [h]; rfl
theorem ceR_I {G : GG} {row : Nat → Int32} {k : Nat} (h : ak k = 1) : ceR G row k = .inl (gcl G 0, alen k, .inl row) := by
  unfold ak at h; unfold ceR alen
  generalize lay k = z at h ⊢
  unfold akk at h
  split at h <;> first | rfl | cases h
theorem ceR_C {G : GG} {row : Nat → Int32} {k : Nat} (h : ak k = 2) : ceR G row k = .inl (gcl G 1, alen k, .inl row) := by
  unfold ak at h; unfold ceR alen
  generalize lay k = z at h ⊢
  unfold akk at h
  split at h <;> first | rfl | cases h
theorem ak_lt {k : Nat} (h : ak k = 1 ∨ ak k = 2) : k < NC := by
  apply lay_lt
  unfold ak at h
  rcases Nat.lt_or_ge (lay k) 99 with q | q
  · exact q
  · have h1 : akk (lay k) = 0 := by unfold akk; split <;> first | rfl | omega
    omega
theorem ceR_OA {G : GG} {row : Nat → Int32} {k : Nat} (h : lay k = 30) : ceR G row k = .inl (gcl G 2, 8, .inr (.inr (.inr (.inr (fun i => some (gad G (33 + 10 * i))))))) := by unfold ceR; rw [h]; rfl
theorem ceR_J {G : GG} {row : Nat → Int32} {k : Nat} (h : lay k = 31) : ceR G row k = .inl (gcl G 3, 1, .inr (.inl (fun i => (row i).toInt64))) := by unfold ceR; rw [h]; rfl
theorem ceR_Z {G : GG} {row : Nat → Int32} {k : Nat} (h : lay k = 32) : ceR G row k = .inl (gcl G 4, 1, .inr (.inr (.inr (.inl (fun i => mk64 (row (2 * i)) (row (2 * i + 1))))))) := by unfold ceR; rw [h]; rfl
def wld (G : GG) (M : Mem) : va_W := (List.range NC).map (fun k => (gad G k, ceR G (M k) k))
theorem wld_at {G : GG} {M : Mem} {k : Nat} (h : k < NC) : (wld G M)[k]? = some (gad G k, ceR G (M k) k) := by
  simp [wld, h]
theorem wld_set {G : GG} {M M' : Mem} {k : Nat} {e : va_E} (he : ceR G (M' k) k = e) (ho : ∀ j, j ≠ k → M' j = M j) : (wld G M).set k (gad G k, e) = wld G M' := by
  subst he
  apply List.ext_getElem?
  intro j
  unfold wld
  rw [List.getElem?_set]
  by_cases h : k = j
  · subst h
    by_cases hk : k < NC
    · simp [hk]
    · simp [hk]
  · rw [if_neg h]
    by_cases hj : j < NC
    · simp [hj, ho j (fun q => h q.symm)]
    · simp [hj]
def gok (G : GG) : Prop := (∀ i j, i < NC → j < NC → gad G i = gad G j → i = j) ∧ ∀ i, i < NC → gb G ≤ gad G i
theorem wld_D {G : GG} (h : gok G) (M : Mem) : va_D (gA G) (wld G M) := by
  refine ⟨fun i j p q hp hq e => ?_, fun i p hp => ?_⟩
  · have hi : i < NC := by
      have := (List.getElem?_eq_some_iff.mp hp).1
      simpa [wld] using this
    have hj : j < NC := by
      have := (List.getElem?_eq_some_iff.mp hq).1
      simpa [wld] using this
    rw [wld_at hi] at hp
    rw [wld_at hj] at hq
    cases hp; cases hq
    exact h.1 i j hi hj e
  · have hi : i < NC := by
      have := (List.getElem?_eq_some_iff.mp hp).1
      simpa [wld] using this
    rw [wld_at hi] at hp
    cases hp
    exact h.2 i hi
/-- words that hold in every warmed state -/
def isNest : Cond → Bool
  | .fieldLinkNest _ _ _ _ _ _ => true
  | .methodLinkNest _ _ _ _ => true
  | .declares _ => true
  | .castable _ _ => true
  | _ => false
theorem isNest_or {w : Cond} (h : isNest w = true) : (∃ a i b n d k, w = .fieldLinkNest a i b n d k) ∨ (∃ a i x k, w = .methodLinkNest a i x k) ∨ (∃ x, w = .declares x) ∨ ∃ x y, w = .castable x y := by
  cases w <;> first | exact Or.inl ⟨_, _, _, _, _, _, rfl⟩ | exact Or.inr (Or.inl ⟨_, _, _, _, rfl⟩) | exact Or.inr (Or.inr (Or.inl ⟨_, rfl⟩)) | exact Or.inr (Or.inr (Or.inr ⟨_, _, rfl⟩)) | cases h
def gnw (w : Cond) : Bool := (w.onTables && w.keeps) || isNest w
theorem gnw_or {w : Cond} (h : gnw w = true) : (w.onTables && w.keeps) = true ∨ isNest w = true := by
  unfold gnw at h
  exact Bool.or_eq_true _ _ |>.mp h
theorem gnw_same {w : Cond} (h : gnw w = true) {A A' : Array Value} {u U : State} (hv : u.vm = U.vm) (hb : w.before A u = true) : w.before A' U = true := by
  rcases gnw_or h with q | q
  · exact va_tabs (Bool.and_eq_true _ _ |>.mp q).1 hv hb
  · rcases isNest_or q with ⟨_, _, _, _, _, _, rfl⟩ | ⟨_, _, _, _, rfl⟩ | ⟨_, rfl⟩ | ⟨_, _, rfl⟩ <;> exact va_tabs rfl hv hb
theorem gnw_warm {w : Cond} (h : gnw w = true) {A A' : Array Value} {s U : State} (hW : s.WarmedH U.vm) (hb : w.before A s = true) : w.before A' U = true := by
  rcases gnw_or h with q | q
  · exact word_at hW (Or.inl q) hb
  · rcases isNest_or q with ⟨_, _, _, _, _, _, rfl⟩ | ⟨_, _, _, _, rfl⟩ | ⟨_, rfl⟩ | ⟨_, _, rfl⟩
    · exact va_Nw.use rfl (va_Nw.warmF hW (va_Nw.of rfl hb))
    · exact va_Nw.use rfl (va_Nw.warmM hW (va_Nw.of rfl hb))
    · exact va_Nw.use rfl (va_Nw.warmD hW (va_Nw.of rfl hb))
    · exact va_tabs rfl (rfl : (s.setVm U.vm).vm = U.vm) (by rw [Cond.castable_setVm hW.alike]; exact hb)

def vN : List String := ["SHELF", "LINK", "CUT", "HIDE", "SHOW", "FILL", "STOP", "DROP", "RATE", "SEED", "WAIT"]
def vF : List (String × String × String × List Int32) := [("java/lang/Enum", "ordinal", "I", [0, 1, 2, 3, 4, 5, 6, 7, 8, 9, 10]), ("LarderPatrol$Verb", "limit", "I", [12, 20, 0, 0, 0, 99, 10, 0, 0, 0, 0])]
def rN : List String := ["NOTHING", "LIMIT", "SAME_SHELF", "CONNECTED", "NOT_CONNECTED", "PRESENT_VALUE", "NO_SUCH_INDEX", "OUT_OF_RANGE"]
def rF : List (String × String × String × List Int32) := [("java/lang/Enum", "ordinal", "I", [0, 1, 2, 3, 4, 5, 6, 7]), ("LarderPatrol$Refusal", "number", "I", [0, 1, 2, 3, 4, 5, 7, 7])]
/-- the patterns' texts -/
def pLen : List Nat := [7, 8, 7, 6, 6, 8, 6, 6, 6, 6, 6]
def pByt : List (List Int32) := [[115, 104, 101, 108, 102, 32, 78], [108, 105, 110, 107, 32, 78, 45, 78], [99, 117, 116, 32, 78, 45, 78], [104, 105, 100, 101, 32, 78], [115, 104, 111, 119, 32, 78], [102, 105, 108, 108, 32, 78, 32, 78], [115, 116, 111, 112, 32, 78], [100, 114, 111, 112, 32, 68], [114, 97, 116, 101, 32, 78], [115, 101, 101, 100, 32, 76], [119, 97, 105, 116, 32, 78]]
theorem u_ws_good {Cn : String} {T : u_T} {N : Nat} (w : Cond) (h : w ∈ u_ws Cn T N) : gnw w = true := by
  unfold u_ws at h
  obtain ⟨k, -, rfl⟩ := List.mem_map.mp h
  unfold u_lay
  split <;> rfl
def mV : List Int32 := [1, 2, 3, 4, 5, 6, 7, 8, 9, 10, 0]
def mR : List Int32 := [0, 1, 2, 0, 0, 3, 0, 0]
/-- what lies below the base: enum constants, switch tables, strings, other statics -/
def SH (G : GG) (U : State) (H : Heap) : Prop :=
  va_En "LarderPatrol$Verb" "LLarderPatrol$Verb;" vN vF (gv G) (gA G) U H ∧
  va_En "LarderPatrol$Refusal" "LLarderPatrol$Refusal;" rN rF (gr G) (gA G) U H ∧
  va_Ef 11 "LarderPatrol$Verb" "pattern" "Ljava/lang/String;" (fun i => .ref (gk G i)) (gv G) (gA G) U H ∧
  vk_S 11 pLen pByt (gk G) (gw G) (gA G) U H ∧
  va_Z "LarderPatrol$1" "$SwitchMap$LarderPatrol$Verb" "[I" (.ref (gs G 0)) (gA G) U H ∧ va_T .int (gs G 0) 11 (fun i => .int (mV.getD i 0)) (gA G) U H ∧
  va_Z "LarderPatrol$1" "$SwitchMap$LarderPatrol$Refusal" "[I" (.ref (gs G 1)) (gA G) U H ∧ va_T .int (gs G 1) 8 (fun i => .int (mR.getD i 0)) (gA G) U H ∧
  va_Z "LarderPatrol$Script" "VERBS" "[LLarderPatrol$Verb;" (.ref (gs G 2)) (gA G) U H ∧ va_T (.object "LarderPatrol$Verb") (gs G 2) 11 (fun i => .ref (gv G i)) (gA G) U H ∧
  va_Z "java/lang/String" "COMPACT_STRINGS" "Z" (.int 1) (gA G) U H ∧ va_Zq "jdk/internal/util/Preconditions" "SIOOBE_FORMATTER" "Ljava/util/function/BiFunction;" (gA G) U H ∧
  vx_Zq Bundle.tN "UNASSIGNED_STACK" Bundle.steD (gA G) U H ∧ vx_Zq Bundle.tN "SUPPRESSED_SENTINEL" Bundle.listD (gA G) U H
theorem SH.moved {G : GG} {u U : State} {H : Heap} (hvm : u.vm.Alike U.vm) (h : SH G u H) : SH G U H := by
  obtain ⟨a, b, c, d, e, f, g, i, j, k, m, n, o, q⟩ := h
  exact ⟨va_En.moved hvm a, va_En.moved hvm b, va_Ef.moved hvm c, vk_S.moved hvm d, va_Z.moved hvm e, va_T.moved hvm f, va_Z.moved hvm g, va_T.moved hvm i, va_Z.moved hvm j, va_T.moved hvm k, va_Z.moved hvm m, va_Zq.moved hvm n, vx_Zq.moved hvm o, vx_Zq.moved hvm q⟩
theorem SH.kept {G : GG} {U : State} {H H1 : Heap} (h : SH G U H) (hq : ∀ a : Nat, a < H.size → ¬ gA G a → H1[a]? = H[a]?) : SH G U H1 := by
  obtain ⟨a, b, c, d, e, f, g, i, j, k, m, n, o, q⟩ := h
  exact ⟨va_En.kept a hq, va_En.kept b hq, va_Ef.kept c hq, vk_S.kept d hq, va_Z.kept e hq, va_T.kept f hq, va_Z.kept g hq, va_T.kept i hq, va_Z.kept j hq, va_T.kept k hq, va_Z.kept m hq, va_Zq.kept n hq, vx_Zq.kept o hq, vx_Zq.kept q hq⟩
def msgs : List (Nat × String) := [(350, "there is no such shelf or stop"), (355, "a value is out of range"), (371, "denied"), (394, "there is no such shelf"), (131, "no way leads from one shelf to the other"), (146, "there is no such rank"), (167, "there is no such stop"), (259, "there are no shelves"), (179, "there are no stops"), (190, "no way leads from a stop to the next one"), (197, "the number of minutes is out of range"), (396, "there is no such mouse"), (262, "no mouse was caught or has left"), (269, "the text buffer is full"), (282, "the text does not match the grammar"), (290, "a command of the text failed"), (299, "no fault position was kept yet"), (313, "there is no such index"), (398, "nothing was denied yet"), (325, "there is no denial with a cause"), (328, "there is no change to undo"), (337, "there is no snapshot")]
def ncl : List (String × String) := [("java/lang/IndexOutOfBoundsException", "java/lang/IllegalArgumentException"), ("java/lang/UnsupportedOperationException", "java/lang/IllegalArgumentException"), ("java/lang/ArrayIndexOutOfBoundsException", "java/lang/IllegalArgumentException"), ("java/util/NoSuchElementException", "java/lang/IllegalArgumentException"), ("java/lang/ArithmeticException", "java/lang/IllegalArgumentException"), ("java/lang/IllegalStateException", "java/lang/IllegalArgumentException"), ("java/lang/IndexOutOfBoundsException", "java/lang/UnsupportedOperationException"), ("java/lang/IllegalArgumentException", "java/lang/UnsupportedOperationException"), ("java/lang/ArrayIndexOutOfBoundsException", "java/lang/UnsupportedOperationException"), ("java/util/NoSuchElementException", "java/lang/UnsupportedOperationException"), ("java/lang/ArithmeticException", "java/lang/UnsupportedOperationException"), ("java/lang/IllegalStateException", "java/lang/UnsupportedOperationException"), ("java/lang/IllegalArgumentException", "java/lang/IndexOutOfBoundsException"), ("java/lang/UnsupportedOperationException", "java/lang/IndexOutOfBoundsException"), ("java/util/NoSuchElementException", "java/lang/IndexOutOfBoundsException"), ("java/lang/ArithmeticException", "java/lang/IndexOutOfBoundsException"), ("java/lang/IllegalStateException", "java/lang/IndexOutOfBoundsException"), ("java/lang/IndexOutOfBoundsException", "java/util/NoSuchElementException"), ("java/lang/IllegalArgumentException", "java/util/NoSuchElementException"), ("java/lang/UnsupportedOperationException", "java/util/NoSuchElementException"), ("java/lang/ArrayIndexOutOfBoundsException", "java/util/NoSuchElementException"), ("java/lang/ArithmeticException", "java/util/NoSuchElementException"), ("java/lang/IllegalStateException", "java/util/NoSuchElementException"), ("java/lang/IndexOutOfBoundsException", "java/lang/ArithmeticException"), ("java/lang/IllegalArgumentException", "java/lang/ArithmeticException"), ("java/lang/UnsupportedOperationException", "java/lang/ArithmeticException"), ("java/lang/ArrayIndexOutOfBoundsException", "java/lang/ArithmeticException"), ("java/util/NoSuchElementException", "java/lang/ArithmeticException"), ("java/lang/IllegalStateException", "java/lang/ArithmeticException"), ("java/lang/IndexOutOfBoundsException", "java/lang/IllegalStateException"), ("java/lang/IllegalArgumentException", "java/lang/IllegalStateException"), ("java/lang/UnsupportedOperationException", "java/lang/IllegalStateException"), ("java/lang/ArrayIndexOutOfBoundsException", "java/lang/IllegalStateException"), ("java/util/NoSuchElementException", "java/lang/IllegalStateException"), ("java/lang/ArithmeticException", "java/lang/IllegalStateException")]
def WS (G : GG) (U : State) : Prop := va_K (gD G) vwCl (tysG G) U ∧ (∀ w ∈ lw_tbl, gnw w = true → w.before #[] U = true) ∧ gok G ∧ gb G ≤ U.heap.size ∧ SH G U U.heap ∧ (∀ q ∈ msgs, ∃ sa, vk_R "LarderPatrol" q.1 q.2 sa U) ∧ ∀ q ∈ ncl, va_Nc q.1 q.2 U
theorem WS.to {G : GG} {s U : State} {H : Heap} {locs : List Loc} (h : WS G s) (hS : va_S (gA G) s.heap H locs) (hH : U.heap = H) (hW : s.WarmedH U.vm) : WS G U := by
  obtain ⟨a, b, c, d, e, f, g⟩ := h
  subst hH
  exact ⟨va_K.moved hW.alike a, fun w hw hg => gnw_warm hg hW (b w hw hg), c, Nat.le_trans d hS.1, SH.moved hW.alike (SH.kept e hS.2.1), fun q hq => (f q hq).elim fun sa h => ⟨sa, vk_R.warm hW h⟩, fun q hq => va_Nc.moved hW.alike (g q hq)⟩
def WP (G : GG) (M : Mem) (U : State) : Prop := WS G U ∧ va_P (gD G) vwCl (wld G M) U.heap
theorem WP_blind {G : GG} {M : Mem} {vs : List Value} : FrameBlind (va_Pc vs (WP G M)) := by
  intro a U g mk h
  obtain ⟨h0, ⟨a1, b1, c1, d1, e1, f1, g1⟩, h2⟩ := h
  exact ⟨h0, ⟨va_K.moved (u := U) (U := U.calling g mk a) (Vm.Alike.refl U.vm) a1, fun w hw hg => gnw_same (u := U) (U := U.calling g mk a) hg rfl (b1 w hw hg), c1, d1, SH.moved (u := U) (U := U.calling g mk a) (Vm.Alike.refl U.vm) e1, fun q hq => (f1 q hq).elim fun sa h => ⟨sa, vk_R.same (u := U) (U := U.calling g mk a) rfl h⟩, fun q hq => va_Nc.moved (u := U) (U := U.calling g mk a) (Vm.Alike.refl U.vm) (g1 q hq)⟩, h2⟩
abbrev KK : Type := Program × Launch × Env × Room × State × MethodId × Array Value × List Frame × Method × Code × (State → Prop)
/-- the machine goes on from here, whatever the heap that holds the memory M -/
def V (G : GG) (κ : KK) (nL cells slots : Nat) (M : Mem) (pc : Nat) (L : List (Nat × Value)) (st : List Value) : Prop := match κ with
  | (p, l, e, R, s, m, args, below, meth, c, Q) => ∀ (H : Heap) (locs : List Loc) (ls : Array Slot), lv_has ls nL L → va_P (gD G) vwCl (wld G M) H → va_S (gA G) s.heap H locs → W p l e R s m args below meth c H locs cells slots Q (F0 m pc ls st)
def Cx (G : GG) (κ : KK) (cc : ByteArray) (own : String) (ret : Option FieldType) (nL : Nat) (rm : Room) : Prop := match κ with
  | (p, _, _, R, s, m, _, _, meth, c, _) => p.tables.exec = Jvm.exec ∧ c.code = cc ∧ meth.sig.returnType = ret ∧ c.maxLocals = nL ∧ s.vm.findClass own = some m.cls ∧ meth.locks = false ∧ R = rm ∧ WS G s
def HQ (G : GG) (κ : KK) (Qc : Array Value → State → Outcome → State → Prop) (mc ms : Nat) : Prop := match κ with
  | (_, _, _, _, s, _, args, below, _, _, Q) => Q = MQ below Qc args s mc ms (gA G)
def QI (G : GG) (r : Int32) (M' : Mem) : Array Value → State → Outcome → State → Prop := va_Qi (fun (x : Int32) (_ : Unit) => x = r) (fun _ t => va_P (gD G) vwCl (wld G M') t.heap) (gA G)
def QV (G : GG) (M' : Mem) : Array Value → State → Outcome → State → Prop := va_Qv (fun (_ : Unit) => True) (fun _ t => va_P (gD G) vwCl (wld G M') t.heap) (gA G)
def QR (G : GG) (a : Nat) (M' : Mem) : Array Value → State → Outcome → State → Prop := va_Qr (fun (_ : Unit) => True) (fun _ ra t => ra = a ∧ va_P (gD G) vwCl (wld G M') t.heap) (gA G)
def QQ (G : GG) (a : Option Nat) (M' : Mem) : Array Value → State → Outcome → State → Prop := va_Qq (fun (x : Option Nat) (_ : Unit) => x = a) (fun _ t => va_P (gD G) vwCl (wld G M') t.heap) (gA G)
abbrev Con (G : GG) (l : Launch) (y : MethodName) (b : ByteArray) (maxL : Nat) (ret : Option FieldType) (rm : Room) (vs : List Value) (M : Mem) (Qc : Array Value → State → Outcome → State → Prop) : Prop :=
  Met l y [.code y b maxL ret] rm (va_Pc vs (WP G M)) Qc 0 0 (gA G)
theorem con_of {G : GG} {l : Launch} {y : MethodName} {b : ByteArray} {maxL : Nat} {ret : Option FieldType} {rm : Room} {vs : List Value} {M : Mem} {Qc : Array Value → State → Outcome → State → Prop} (hy : plainName y.cls = true) (hm : (lg_sl vs).length ≤ maxL)
    (body : ∀ κ, Cx G κ b y.cls ret maxL rm → HQ G κ Qc 0 0 → V G κ maxL 0 0 M 0 (lv_args 0 vs) []) : Con G l y b maxL ret rm vs M Qc := by
  refine Met.ofW (cc := b) (maxL := maxL) (ret := ret) hy rfl ?_
  intro p e s m args below meth c s₁ B hml hv
  obtain ⟨rfl, hWS, hP⟩ := hv
  have h1 := body (p, l, e, (headSpec [.code y b maxL ret] rm).room, s, m, vs.toArray, below, meth, c, MQ below Qc vs.toArray s 0 0 (gA G)) ⟨B.exec, B.bytes, B.returns, hml, findClass_of_methodNamed B.named, B.notSynchronized, rfl, hWS⟩ rfl
  rw [lg_entry_eq]
  exact h1 s.heap [] _ (lv_entry vs hm) hP va_S.rf
def b2i (b : Bool) : Int32 := if b then 1 else 0
def inb (i : Int32) (n : Nat) : Bool := decide (0 ≤ i) && decide (i.toNatClampNeg < n)
theorem inb_in {i : Int32} {n : Nat} (h : inb i n = true) : vp_in i n := by
  unfold inb at h
  have h2 := Bool.and_eq_true _ _ |>.mp h
  have h3 : 0 ≤ i := of_decide_eq_true h2.1
  have h4 := of_decide_eq_true h2.2
  rintro (q | q)
  · exact Int32.not_lt.mpr h3 q
  · omega
def chk {α : Type} (c : Bool) (x : Option α) : Option α := if c then x else none
theorem chk_some {α : Type} {c : Bool} {x : Option α} {y : α} (h : chk c x = some y) : c = true ∧ x = some y := by
  unfold chk at h
  by_cases q : c = true
  · exact ⟨q, by rw [if_pos q] at h; exact h⟩
  · rw [if_neg q] at h; cases h
def Cs (y : MethodName) (b : ByteArray) (maxL : Nat) (ret : Option FieldType) (n : Nat) : Prop := Cond.code y b maxL ret ∈ lw_tbl ∧ Cond.initialized y.cls ∈ lw_tbl ∧ Cond.static y ∈ lw_tbl ∧ (y.cls ≠ "java/lang/invoke/MethodHandle" ∧ y.cls ≠ "java/lang/invoke/VarHandle" ∧ (parseMethodDescriptor y.desc).map (fun d => d.parameters.length) = some n)
def Cv (y : MethodName) (b : ByteArray) (maxL : Nat) (ret : Option FieldType) (n : Nat) : Prop := Cond.code y b maxL ret ∈ lw_tbl ∧ Cond.initialized y.cls ∈ lw_tbl ∧ Cond.instanceMethod y ∈ lw_tbl ∧ Cond.selects y.cls y y ∈ lw_tbl ∧ (y.cls ≠ "java/lang/invoke/MethodHandle" ∧ y.cls ≠ "java/lang/invoke/VarHandle" ∧ (parseMethodDescriptor y.desc).map (fun d => d.parameters.length) = some n)
/-- the callee's room within the caller's -/
def rmOk (rm' rm : Room) (maxL : Nat) : Bool := Nat.ble (rm'.frames + 1) rm.frames && Nat.ble (8 + (maxL + 11) + rm'.locals) rm.locals && (rm'.cells == 0) && (rm'.slots == 0)
theorem rmOk_of {rm' rm : Room} {maxL : Nat} (h : rmOk rm' rm maxL = true) : (rm'.frames + 1 ≤ rm.frames ∧ 8 + (maxL + 11) + rm'.locals ≤ rm.locals) ∧ rm'.cells = 0 ∧ rm'.slots = 0 := by
  unfold rmOk at h
  simp only [Bool.and_eq_true, Nat.ble_eq, beq_iff_eq] at h
  exact ⟨⟨h.1.1.1, h.1.1.2⟩, h.1.2, h.2⟩
def RunC (G : GG) (κ : KK) (nL cells slots : Nat) (M : Mem) (pc : Nat) (L : List (Nat × Value)) (st rest : List Value) (Qa : State → Outcome → State → Prop) : Prop := match κ with
  | (p, l, e, R, s, m, args, below, meth, c, _) => ∀ (H : Heap) (locs : List Loc) (ls : Array Slot), lv_has ls nL L → va_P (gD G) vwCl (wld G M) H → va_S (gA G) s.heap H locs → va_Run p l e R s m args below meth c H locs cells slots 0 0 (F0 m pc ls st) rest Qa (gA G)
section
variable {G : GG} {κ : KK} {cc : ByteArray} {own : String} {ret : Option FieldType} {nL cells slots : Nat} {rm : Room} {M : Mem} {L : List (Nat × Value)} {st rest : List Value}
theorem wd {p : Program} {l : Launch} {e : Env} {R : Room} {s : State} {m : MethodId} {args : Array Value} {below : List Frame} {meth : Method} {c : Code} {Q : State → Prop} (C : Cx G (p, l, e, R, s, m, args, below, meth, c, Q) cc own ret nL rm) {w : Cond} (hw : w ∈ lw_tbl) (hg : gnw w = true) : w.before args s = true :=
  gnw_same hg rfl (C.2.2.2.2.2.2.2.2.1 w hw hg)
theorem cxA {p : Program} {l : Launch} {e : Env} {R : Room} {s : State} {m : MethodId} {args : Array Value} {below : List Frame} {meth : Method} {c : Code} {Q : State → Prop} (C : Cx G (p, l, e, R, s, m, args, below, meth, c, Q) cc own ret nL rm) : ∀ q : Nat, s.heap.size ≤ q → gA G q := fun _ h => Nat.le_trans C.2.2.2.2.2.2.2.2.2.2.1 h
theorem runSN (pc : Nat) (C : Cx G κ cc own ret nL rm) {y : MethodName} {b : ByteArray} {maxL n idx : Nat} {ret' : Option FieldType} {rm' : Room} {As : List Value} {host : String} {Qc : Array Value → State → Outcome → State → Prop} (hM : Con G κ.2.1 y b maxL ret' rm' As M Qc) (hf : Cs y b maxL ret' n) (hl : Cond.methodLinkNest own idx y host ∈ lw_tbl) (hn : As.length = n) (hR : rmOk rm' rm maxL = true) (d : decode cc pc = .ok (.invokestatic idx, 3)) (hst : st = As.reverse ++ rest) (hcat : Nat.ble (rest.map fun v => v.category).sum 8 = true) (hc : cells ≤ rm.cells) (hs : slots ≤ rm.slots) : RunC G κ nL cells slots M pc L st rest (Qc As.toArray) := by
  obtain ⟨p, l, e, R, s, m, args, below, meth, c, Q⟩ := κ
  intro H locs ls hlv hP hS
  obtain ⟨hx, hb, -, hml, hown, -, hRm, hWS⟩ := id C
  subst hRm
  obtain ⟨hR1, hR2, hR3⟩ := rmOk_of hR
  obtain ⟨f1, f2, f3, f4⟩ := hf
  have hts : ∀ w ∈ [Cond.code y b maxL ret'], w.before args s = true := fun w hw => by rw [List.mem_singleton.mp hw]; exact wd C f1 rfl
  have hG : GoodIn [Cond.code y b maxL ret'] [Cond.code y b maxL ret'] := fun w hw => ⟨hw, by rw [List.mem_singleton.mp hw]; exact Or.inl rfl⟩
  exact va_runSN (Ts := [Cond.code y b maxL ret']) ⟨hx, hb, hml, hown, hts⟩ hM ⟨va_cnB n hts hG rfl hR2 hR3 (va_Nw.of rfl (wd C hl rfl)) (wd C f2 rfl) f4 hR1, wd C f3 rfl, trivial⟩ ⟨WP_blind, fun U hU hW => ⟨rfl, hWS.to hS hU hW, by rw [hU]; exact hP⟩⟩ rfl hn hlv.1 hst (lv_room (Nat.le_of_ble_eq_true hcat)) d ⟨hc, hs⟩
theorem runSO (pc : Nat) (C : Cx G κ cc own ret nL rm) {y : MethodName} {b : ByteArray} {maxL n idx : Nat} {ret' : Option FieldType} {rm' : Room} {As : List Value} {Qc : Array Value → State → Outcome → State → Prop} (hM : Con G κ.2.1 y b maxL ret' rm' As M Qc) (hf : Cs y b maxL ret' n) (hl : Cond.methodLink own idx y ∈ lw_tbl) (hn : As.length = n) (hR : rmOk rm' rm maxL = true) (d : decode cc pc = .ok (.invokestatic idx, 3)) (hst : st = As.reverse ++ rest) (hcat : Nat.ble (rest.map fun v => v.category).sum 8 = true) (hc : cells ≤ rm.cells) (hs : slots ≤ rm.slots) : RunC G κ nL cells slots M pc L st rest (Qc As.toArray) := by
  obtain ⟨p, l, e, R, s, m, args, below, meth, c, Q⟩ := κ
  intro H locs ls hlv hP hS
  obtain ⟨hx, hb, -, hml, hown, -, hRm, hWS⟩ := id C
  subst hRm
  obtain ⟨hR1, hR2, hR3⟩ := rmOk_of hR
  obtain ⟨f1, f2, f3, f4⟩ := hf
  have hts : ∀ w ∈ [Cond.code y b maxL ret'], w.before args s = true := fun w hw => by rw [List.mem_singleton.mp hw]; exact wd C f1 rfl
  have hG : GoodIn [Cond.code y b maxL ret'] [Cond.code y b maxL ret'] := fun w hw => ⟨hw, by rw [List.mem_singleton.mp hw]; exact Or.inl rfl⟩
  exact va_runS (Ts := [Cond.code y b maxL ret']) ⟨hx, hb, hml, hown, hts⟩ hM ⟨callB_of n hts hG rfl hR2 hR3 (wd C f2 rfl) (wd C hl rfl) f4 hR1, wd C f3 rfl⟩ ⟨WP_blind, fun U hU hW => ⟨rfl, hWS.to hS hU hW, by rw [hU]; exact hP⟩⟩ rfl hn hlv.1 hst (lv_room (Nat.le_of_ble_eq_true hcat)) d ⟨hc, hs⟩
theorem runVN (pc : Nat) (C : Cx G κ cc own ret nL rm) {y : MethodName} {b : ByteArray} {maxL n idx : Nat} {ret' : Option FieldType} {rm' : Room} {As : List Value} {host : String} {Qc : Array Value → State → Outcome → State → Prop} {k ci : Nat} {q : vw_C} {fs : List Value} (hM : Con G κ.2.1 y b maxL ret' rm' (.ref (gad G k) :: As) M Qc) (hf : Cv y b maxL ret' n) (hl : Cond.methodLinkNest own idx y host ∈ lw_tbl) (hk : k < NC) (hce : ceR G (M k) k = .inr (ci, fs)) (hcl : vwCl[ci]? = some q) (hq : q.1 = y.cls) (hn : As.length = n) (hR : rmOk rm' rm maxL = true) (d : decode cc pc = .ok (.invokevirtual idx, 3)) (hst : st = As.reverse ++ .ref (gad G k) :: rest) (hcat : Nat.ble (rest.map fun v => v.category).sum 8 = true) (hc : cells ≤ rm.cells) (hs : slots ≤ rm.slots) : RunC G κ nL cells slots M pc L st rest (Qc (Value.ref (gad G k) :: As).toArray) := by
  obtain ⟨p, l, e, R, s, m, args, below, meth, c, Q⟩ := κ
  intro H locs ls hlv hP hS
  obtain ⟨hx, hb, -, hml, hown, -, hRm, hWS⟩ := id C
  subst hRm
  obtain ⟨hR1, hR2, hR3⟩ := rmOk_of hR
  obtain ⟨f1, f2, f3, f5, f4⟩ := hf
  have hts : ∀ w ∈ [Cond.code y b maxL ret'], w.before args s = true := fun w hw => by rw [List.mem_singleton.mp hw]; exact wd C f1 rfl
  have hG : GoodIn [Cond.code y b maxL ret'] [Cond.code y b maxL ret'] := fun w hw => ⟨hw, by rw [List.mem_singleton.mp hw]; exact Or.inl rfl⟩
  have hrv := va_recv hWS.1 hP hcl (q0 := k) (by rw [wld_at hk, hce])
  rw [hq] at hrv
  exact va_runVN (Ts := [Cond.code y b maxL ret']) (C := y.cls) ⟨hx, hb, hml, hown, hts⟩ hM ⟨va_cnB n hts hG rfl hR2 hR3 (va_Nw.of rfl (wd C hl rfl)) (wd C f2 rfl) f4 hR1, wd C f3 rfl, wd C f5 rfl⟩ ⟨WP_blind, hrv, fun U hU hW => ⟨rfl, hWS.to hS hU hW, by rw [hU]; exact hP⟩⟩ rfl hn hlv.1 hst (lv_room (Nat.le_of_ble_eq_true hcat)) d ⟨hc, hs⟩
theorem runVO (pc : Nat) (C : Cx G κ cc own ret nL rm) {y : MethodName} {b : ByteArray} {maxL n idx : Nat} {ret' : Option FieldType} {rm' : Room} {As : List Value} {Qc : Array Value → State → Outcome → State → Prop} {k ci : Nat} {q : vw_C} {fs : List Value} (hM : Con G κ.2.1 y b maxL ret' rm' (.ref (gad G k) :: As) M Qc) (hf : Cv y b maxL ret' n) (hl : Cond.methodLink own idx y ∈ lw_tbl) (hk : k < NC) (hce : ceR G (M k) k = .inr (ci, fs)) (hcl : vwCl[ci]? = some q) (hq : q.1 = y.cls) (hn : As.length = n) (hR : rmOk rm' rm maxL = true) (d : decode cc pc = .ok (.invokevirtual idx, 3)) (hst : st = As.reverse ++ .ref (gad G k) :: rest) (hcat : Nat.ble (rest.map fun v => v.category).sum 8 = true) (hc : cells ≤ rm.cells) (hs : slots ≤ rm.slots) : RunC G κ nL cells slots M pc L st rest (Qc (Value.ref (gad G k) :: As).toArray) := by
  obtain ⟨p, l, e, R, s, m, args, below, meth, c, Q⟩ := κ
  intro H locs ls hlv hP hS
  obtain ⟨hx, hb, -, hml, hown, -, hRm, hWS⟩ := id C
  subst hRm
  obtain ⟨hR1, hR2, hR3⟩ := rmOk_of hR
  obtain ⟨f1, f2, f3, f5, f4⟩ := hf
  have hts : ∀ w ∈ [Cond.code y b maxL ret'], w.before args s = true := fun w hw => by rw [List.mem_singleton.mp hw]; exact wd C f1 rfl
  have hG : GoodIn [Cond.code y b maxL ret'] [Cond.code y b maxL ret'] := fun w hw => ⟨hw, by rw [List.mem_singleton.mp hw]; exact Or.inl rfl⟩
  have hrv := va_recv hWS.1 hP hcl (q0 := k) (by rw [wld_at hk, hce])
  rw [hq] at hrv
  exact va_runV (Ts := [Cond.code y b maxL ret']) (C := y.cls) ⟨hx, hb, hml, hown, hts⟩ hM ⟨callB_of n hts hG rfl hR2 hR3 (wd C f2 rfl) (wd C hl rfl) f4 hR1, wd C f3 rfl, wd C f5 rfl⟩ ⟨WP_blind, hrv, fun U hU hW => ⟨rfl, hWS.to hS hU hW, by rw [hU]; exact hP⟩⟩ rfl hn hlv.1 hst (lv_room (Nat.le_of_ble_eq_true hcat)) d ⟨hc, hs⟩
theorem V_callI (pc : Nat) {a : Array Value} {r : Int32} {M1 : Mem} (hr : RunC G κ nL cells slots M pc L st rest (QI G r M1 a)) (k : V G κ nL cells slots M1 (pc + 3) L (.int r :: rest)) : V G κ nL cells slots M pc L st := by
  obtain ⟨p, l, e, R, s, m, args, below, meth, c, Q⟩ := κ
  intro H locs ls hlv hP hS
  refine va_calli (hr H locs ls hlv hP hS) hS (fun q _ h => h) (fun q h => h) (fun r1 u t H1 locs1 ht hvm hw hB hz1 hk1 hS1 => ?_)
  subst hw
  exact k H1 locs1 ls hlv (by rw [← ht]; exact hB) hS1
theorem V_callV (pc : Nat) {a : Array Value} {M1 : Mem} (hr : RunC G κ nL cells slots M pc L st rest (QV G M1 a)) (k : V G κ nL cells slots M1 (pc + 3) L rest) : V G κ nL cells slots M pc L st := by
  obtain ⟨p, l, e, R, s, m, args, below, meth, c, Q⟩ := κ
  intro H locs ls hlv hP hS
  refine va_callv (hr H locs ls hlv hP hS) hS (fun q _ h => h) (fun q h => h) (fun u t H1 locs1 ht hvm hw hB hz1 hk1 hS1 => ?_)
  exact k H1 locs1 ls hlv (by rw [← ht]; exact hB) hS1
theorem V_callR (pc : Nat) {a : Array Value} {ra : Nat} {M1 : Mem} (hr : RunC G κ nL cells slots M pc L st rest (QR G ra M1 a)) (k : V G κ nL cells slots M1 (pc + 3) L (.ref ra :: rest)) : V G κ nL cells slots M pc L st := by
  obtain ⟨p, l, e, R, s, m, args, below, meth, c, Q⟩ := κ
  intro H locs ls hlv hP hS
  refine va_callr (hr H locs ls hlv hP hS) hS (fun q _ h => h) (fun q h => h) (fun u r1 t H1 locs1 ht hvm hw hB hz1 hk1 hS1 => ?_)
  obtain ⟨rfl, hB⟩ := hB
  exact k H1 locs1 ls hlv (by rw [← ht]; exact hB) hS1
theorem V_callQ (pc : Nat) {a : Array Value} {ra : Option Nat} {M1 : Mem} (hr : RunC G κ nL cells slots M pc L st rest (QQ G ra M1 a)) (k : V G κ nL cells slots M1 (pc + 3) L (va_rf ra :: rest)) : V G κ nL cells slots M pc L st := by
  obtain ⟨p, l, e, R, s, m, args, below, meth, c, Q⟩ := κ
  intro H locs ls hlv hP hS
  refine va_callq (hr H locs ls hlv hP hS) hS (fun q _ h => h) (fun q h => h) (fun r1 u t H1 locs1 ht hvm hw hB hz1 hk1 hS1 => ?_)
  subst hw
  exact k H1 locs1 ls hlv (by rw [← ht]; exact hB) hS1

theorem V_iconst (pc : Nat) (C : Cx G κ cc own ret nL rm) {n : Int} {v : Int32} (d : decode cc pc = .ok (.iconst n, 1)) (hv : Int32.ofInt n = v) (k : V G κ nL cells slots M (pc + 1) L (.int v :: st)) : V G κ nL cells slots M pc L (st) := by
  obtain ⟨p, l, e, R, s, m, args, below, meth, c, Q⟩ := κ
  intro H locs ls hl hP hS
  exact lv_iconst C.1 C.2.1 d hv (k H locs ls hl hP hS)
theorem V_bipush (pc : Nat) (C : Cx G κ cc own ret nL rm) {n : Int} {v : Int32} (d : decode cc pc = .ok (.bipush n, 2)) (hv : (Int8.ofInt n).toInt32 = v) (k : V G κ nL cells slots M (pc + 2) L (.int v :: st)) : V G κ nL cells slots M pc L (st) := by
  obtain ⟨p, l, e, R, s, m, args, below, meth, c, Q⟩ := κ
  intro H locs ls hl hP hS
  exact lv_bipush C.1 C.2.1 d hv (k H locs ls hl hP hS)
theorem V_sipush (pc : Nat) (C : Cx G κ cc own ret nL rm) {n : Int} {v : Int32} (d : decode cc pc = .ok (.sipush n, 3)) (hv : (Int16.ofInt n).toInt32 = v) (k : V G κ nL cells slots M (pc + 3) L (.int v :: st)) : V G κ nL cells slots M pc L (st) := by
  obtain ⟨p, l, e, R, s, m, args, below, meth, c, Q⟩ := κ
  intro H locs ls hl hP hS
  exact lv_sipush C.1 C.2.1 d hv (k H locs ls hl hP hS)
theorem V_iload (pc : Nat) (C : Cx G κ cc own ret nL rm) (j : Nat) {i : Nat} {x : Int32} (d : decode cc pc = .ok (.iload i, 2)) (hk : L[j]? = some (i, .int x)) (k : V G κ nL cells slots M (pc + 2) L (.int x :: st)) : V G κ nL cells slots M pc L (st) := by
  obtain ⟨p, l, e, R, s, m, args, below, meth, c, Q⟩ := κ
  intro H locs ls hl hP hS
  exact lv_iload C.1 C.2.1 d (lv_at hl j hk) (k H locs ls hl hP hS)
theorem V_iload_n (pc : Nat) (C : Cx G κ cc own ret nL rm) (j : Nat) {i : Fin 4} {x : Int32} (d : decode cc pc = .ok (.iload_n i, 1)) (hk : L[j]? = some ((i : Nat), .int x)) (k : V G κ nL cells slots M (pc + 1) L (.int x :: st)) : V G κ nL cells slots M pc L (st) := by
  obtain ⟨p, l, e, R, s, m, args, below, meth, c, Q⟩ := κ
  intro H locs ls hl hP hS
  exact lv_iload_n C.1 C.2.1 d rfl (lv_at hl j hk) (k H locs ls hl hP hS)
theorem V_aload (pc : Nat) (C : Cx G κ cc own ret nL rm) (j : Nat) {i : Nat} {x : Nat} (d : decode cc pc = .ok (.aload i, 2)) (hk : L[j]? = some (i, .ref x)) (k : V G κ nL cells slots M (pc + 2) L (.ref x :: st)) : V G κ nL cells slots M pc L (st) := by
  obtain ⟨p, l, e, R, s, m, args, below, meth, c, Q⟩ := κ
  intro H locs ls hl hP hS
  exact lv_aload C.1 C.2.1 d (lv_at hl j hk) (k H locs ls hl hP hS)
theorem V_aload_n (pc : Nat) (C : Cx G κ cc own ret nL rm) (j : Nat) {i : Fin 4} {x : Nat} (d : decode cc pc = .ok (.aload_n i, 1)) (hk : L[j]? = some ((i : Nat), .ref x)) (k : V G κ nL cells slots M (pc + 1) L (.ref x :: st)) : V G κ nL cells slots M pc L (st) := by
  obtain ⟨p, l, e, R, s, m, args, below, meth, c, Q⟩ := κ
  intro H locs ls hl hP hS
  exact lv_aload_n C.1 C.2.1 d rfl (lv_at hl j hk) (k H locs ls hl hP hS)
theorem V_istore (pc : Nat) (C : Cx G κ cc own ret nL rm) (L1 : List (Nat × Value)) {i : Nat} {x : Int32} (d : decode cc pc = .ok (.istore i, 2)) (hn : Nat.blt i nL = true) (hL : (i, Value.int x) :: L.filter (fun q => !(q.1 == i) && !(q.1 + 1 == i && q.2.category == 2)) = L1) (k : V G κ nL cells slots M (pc + 2) L1 st) : V G κ nL cells slots M pc L (.int x :: st) := by
  obtain ⟨p, l, e, R, s, m, args, below, meth, c, Q⟩ := κ
  intro H locs ls hl hP hS
  exact lv_istore C.1 C.2.1 d hl (Nat.le_of_ble_eq_true hn) hL (fun ls1 hl1 => k H locs ls1 hl1 hP hS)
theorem V_istore_n (pc : Nat) (C : Cx G κ cc own ret nL rm) (L1 : List (Nat × Value)) {i : Nat} {j : Fin 4} {x : Int32} (d : decode cc pc = .ok (.istore_n j, 1)) (hj : (j : Nat) = i) (hn : Nat.blt i nL = true) (hL : (i, Value.int x) :: L.filter (fun q => !(q.1 == i) && !(q.1 + 1 == i && q.2.category == 2)) = L1) (k : V G κ nL cells slots M (pc + 1) L1 st) : V G κ nL cells slots M pc L (.int x :: st) := by
  obtain ⟨p, l, e, R, s, m, args, below, meth, c, Q⟩ := κ
  intro H locs ls hl hP hS
  exact lv_istore_n C.1 C.2.1 d hj hl (Nat.le_of_ble_eq_true hn) hL (fun ls1 hl1 => k H locs ls1 hl1 hP hS)
theorem V_astore (pc : Nat) (C : Cx G κ cc own ret nL rm) (L1 : List (Nat × Value)) {i : Nat} {x : Nat} (d : decode cc pc = .ok (.astore i, 2)) (hn : Nat.blt i nL = true) (hL : (i, Value.ref x) :: L.filter (fun q => !(q.1 == i) && !(q.1 + 1 == i && q.2.category == 2)) = L1) (k : V G κ nL cells slots M (pc + 2) L1 st) : V G κ nL cells slots M pc L (.ref x :: st) := by
  obtain ⟨p, l, e, R, s, m, args, below, meth, c, Q⟩ := κ
  intro H locs ls hl hP hS
  exact lv_astore C.1 C.2.1 d hl (Nat.le_of_ble_eq_true hn) hL (fun ls1 hl1 => k H locs ls1 hl1 hP hS)
theorem V_astore_n (pc : Nat) (C : Cx G κ cc own ret nL rm) (L1 : List (Nat × Value)) {i : Nat} {j : Fin 4} {x : Nat} (d : decode cc pc = .ok (.astore_n j, 1)) (hj : (j : Nat) = i) (hn : Nat.blt i nL = true) (hL : (i, Value.ref x) :: L.filter (fun q => !(q.1 == i) && !(q.1 + 1 == i && q.2.category == 2)) = L1) (k : V G κ nL cells slots M (pc + 1) L1 st) : V G κ nL cells slots M pc L (.ref x :: st) := by
  obtain ⟨p, l, e, R, s, m, args, below, meth, c, Q⟩ := κ
  intro H locs ls hl hP hS
  exact lv_astore_n C.1 C.2.1 d hj hl (Nat.le_of_ble_eq_true hn) hL (fun ls1 hl1 => k H locs ls1 hl1 hP hS)
theorem V_iinc (pc : Nat) (C : Cx G κ cc own ret nL rm) (L1 : List (Nat × Value)) (j : Nat) {i : Nat} {n : Int} {x : Int32} (v : Int32) (d : decode cc pc = .ok (.iinc i n, 3)) (hk : L[j]? = some (i, .int x)) (hv : x + Int32.ofInt n = v) (hn : Nat.blt i nL = true) (hL : (i, Value.int v) :: L.filter (fun q => !(q.1 == i) && !(q.1 + 1 == i && q.2.category == 2)) = L1) (k : V G κ nL cells slots M (pc + 3) L1 st) : V G κ nL cells slots M pc L st := by
  obtain ⟨p, l, e, R, s, m, args, below, meth, c, Q⟩ := κ
  intro H locs ls hl hP hS
  exact lv_iinc C.1 C.2.1 d hl hk hv (Nat.le_of_ble_eq_true hn) hL (fun ls1 hl1 => k H locs ls1 hl1 hP hS)
theorem V_iadd (pc : Nat) (C : Cx G κ cc own ret nL rm) {x y : Int32} (d : decode cc pc = .ok (.iadd, 1)) (k : V G κ nL cells slots M (pc + 1) L (.int (x + y) :: st)) : V G κ nL cells slots M pc L (.int y :: .int x :: st) := by
  obtain ⟨p, l, e, R, s, m, args, below, meth, c, Q⟩ := κ
  intro H locs ls hl hP hS
  exact lv_iadd C.1 C.2.1 d (k H locs ls hl hP hS)
theorem V_isub (pc : Nat) (C : Cx G κ cc own ret nL rm) {x y : Int32} (d : decode cc pc = .ok (.isub, 1)) (k : V G κ nL cells slots M (pc + 1) L (.int (x - y) :: st)) : V G κ nL cells slots M pc L (.int y :: .int x :: st) := by
  obtain ⟨p, l, e, R, s, m, args, below, meth, c, Q⟩ := κ
  intro H locs ls hl hP hS
  exact lv_isub C.1 C.2.1 d (k H locs ls hl hP hS)
theorem V_imul (pc : Nat) (C : Cx G κ cc own ret nL rm) {x y : Int32} (d : decode cc pc = .ok (.imul, 1)) (k : V G κ nL cells slots M (pc + 1) L (.int (x * y) :: st)) : V G κ nL cells slots M pc L (.int y :: .int x :: st) := by
  obtain ⟨p, l, e, R, s, m, args, below, meth, c, Q⟩ := κ
  intro H locs ls hl hP hS
  exact lv_imul C.1 C.2.1 d (k H locs ls hl hP hS)
theorem V_iand (pc : Nat) (C : Cx G κ cc own ret nL rm) {x y : Int32} (d : decode cc pc = .ok (.iand, 1)) (k : V G κ nL cells slots M (pc + 1) L (.int (x &&& y) :: st)) : V G κ nL cells slots M pc L (.int y :: .int x :: st) := by
  obtain ⟨p, l, e, R, s, m, args, below, meth, c, Q⟩ := κ
  intro H locs ls hl hP hS
  exact lv_iand C.1 C.2.1 d (k H locs ls hl hP hS)
theorem V_ior (pc : Nat) (C : Cx G κ cc own ret nL rm) {x y : Int32} (d : decode cc pc = .ok (.ior, 1)) (k : V G κ nL cells slots M (pc + 1) L (.int (x ||| y) :: st)) : V G κ nL cells slots M pc L (.int y :: .int x :: st) := by
  obtain ⟨p, l, e, R, s, m, args, below, meth, c, Q⟩ := κ
  intro H locs ls hl hP hS
  exact lv_ior C.1 C.2.1 d (k H locs ls hl hP hS)
theorem V_ixor (pc : Nat) (C : Cx G κ cc own ret nL rm) {x y : Int32} (d : decode cc pc = .ok (.ixor, 1)) (k : V G κ nL cells slots M (pc + 1) L (.int (x ^^^ y) :: st)) : V G κ nL cells slots M pc L (.int y :: .int x :: st) := by
  obtain ⟨p, l, e, R, s, m, args, below, meth, c, Q⟩ := κ
  intro H locs ls hl hP hS
  exact lv_ixor C.1 C.2.1 d (k H locs ls hl hP hS)
theorem V_ishl (pc : Nat) (C : Cx G κ cc own ret nL rm) {x y : Int32} (d : decode cc pc = .ok (.ishl, 1)) (k : V G κ nL cells slots M (pc + 1) L (.int (x <<< (y &&& 31)) :: st)) : V G κ nL cells slots M pc L (.int y :: .int x :: st) := by
  obtain ⟨p, l, e, R, s, m, args, below, meth, c, Q⟩ := κ
  intro H locs ls hl hP hS
  exact lv_ishl C.1 C.2.1 d (k H locs ls hl hP hS)
theorem V_ishr (pc : Nat) (C : Cx G κ cc own ret nL rm) {x y : Int32} (d : decode cc pc = .ok (.ishr, 1)) (k : V G κ nL cells slots M (pc + 1) L (.int (x >>> (y &&& 31)) :: st)) : V G κ nL cells slots M pc L (.int y :: .int x :: st) := by
  obtain ⟨p, l, e, R, s, m, args, below, meth, c, Q⟩ := κ
  intro H locs ls hl hP hS
  exact lv_ishr C.1 C.2.1 d (k H locs ls hl hP hS)
theorem V_idiv (pc : Nat) (C : Cx G κ cc own ret nL rm) {x y : Int32} (d : decode cc pc = .ok (.idiv, 1)) (hne : ¬ y = 0) (k : V G κ nL cells slots M (pc + 1) L (.int (x / y) :: st)) : V G κ nL cells slots M pc L (.int y :: .int x :: st) := by
  obtain ⟨p, l, e, R, s, m, args, below, meth, c, Q⟩ := κ
  intro H locs ls hl hP hS
  exact lv_idiv C.1 C.2.1 d hne (k H locs ls hl hP hS)
def irm (x y : Int32) : Int32 := x - x / y * y
theorem V_irem (pc : Nat) (C : Cx G κ cc own ret nL rm) {x y : Int32} (d : decode cc pc = .ok (.irem, 1)) (hne : ¬ y = 0) (k : V G κ nL cells slots M (pc + 1) L (.int (irm x y) :: st)) : V G κ nL cells slots M pc L (.int y :: .int x :: st) := by
  obtain ⟨p, l, e, R, s, m, args, below, meth, c, Q⟩ := κ
  intro H locs ls hl hP hS
  exact lv_irem C.1 C.2.1 d hne (k H locs ls hl hP hS)
def i2c (x : Int32) : Int32 := (x.toUInt32 % 65536).toInt32
theorem V_i2c (pc : Nat) (C : Cx G κ cc own ret nL rm) {x : Int32} (d : decode cc pc = .ok (.i2c, 1)) (k : V G κ nL cells slots M (pc + 1) L (.int (i2c x) :: st)) : V G κ nL cells slots M pc L (.int x :: st) := by
  obtain ⟨p, l, e, R, s, m, args, below, meth, c, Q⟩ := κ
  intro H locs ls hl hP hS
  exact lv_i2c C.1 C.2.1 d rfl (k H locs ls hl hP hS)
theorem V_dup (pc : Nat) (C : Cx G κ cc own ret nL rm) {v : Value} (d : decode cc pc = .ok (.dup, 1)) (hv : v.category = 1) (k : V G κ nL cells slots M (pc + 1) L (v :: v :: st)) : V G κ nL cells slots M pc L (v :: st) := by
  obtain ⟨p, l, e, R, s, m, args, below, meth, c, Q⟩ := κ
  intro H locs ls hl hP hS
  exact lv_dup C.1 C.2.1 d hv (k H locs ls hl hP hS)
theorem V_pop (pc : Nat) (C : Cx G κ cc own ret nL rm) {v : Value} (d : decode cc pc = .ok (.pop, 1)) (hv : v.category = 1) (k : V G κ nL cells slots M (pc + 1) L (st)) : V G κ nL cells slots M pc L (v :: st) := by
  obtain ⟨p, l, e, R, s, m, args, below, meth, c, Q⟩ := κ
  intro H locs ls hl hP hS
  exact lv_pop C.1 C.2.1 d hv (k H locs ls hl hP hS)
theorem V_dup2 (pc : Nat) (C : Cx G κ cc own ret nL rm) {v u : Value} (d : decode cc pc = .ok (.dup2, 1)) (hv : v.category = 1) (hu : u.category = 1) (k : V G κ nL cells slots M (pc + 1) L (v :: u :: v :: u :: st)) : V G κ nL cells slots M pc L (v :: u :: st) := by
  obtain ⟨p, l, e, R, s, m, args, below, meth, c, Q⟩ := κ
  intro H locs ls hl hP hS
  exact lv_dup2_11 C.1 C.2.1 d hv hu (k H locs ls hl hP hS)
theorem V_null (pc : Nat) (C : Cx G κ cc own ret nL rm)  (d : decode cc pc = .ok (.aconst_null, 1)) (k : V G κ nL cells slots M (pc + 1) L (.null :: st)) : V G κ nL cells slots M pc L (st) := by
  obtain ⟨p, l, e, R, s, m, args, below, meth, c, Q⟩ := κ
  intro H locs ls hl hP hS
  exact lv_null C.1 C.2.1 d (k H locs ls hl hP hS)
theorem V_if_eq (pc tgt : Nat) (C : Cx G κ cc own ret nL rm) {x : Int32} {off : Int} (d : decode cc pc = .ok (.ifCond .eq off, 3)) (ht : (pc : Int) + off = (tgt : Int)) (kt : x = 0 → V G κ nL cells slots M tgt L st) (kf : ¬ (x = 0) → V G κ nL cells slots M (pc + 3) L st) : V G κ nL cells slots M pc L (.int x :: st) := by
  obtain ⟨p, l, e, R, s, m, args, below, meth, c, Q⟩ := κ
  intro H locs ls hl hP hS
  exact lv_if_eq C.1 C.2.1 d ht (fun h => kt h H locs ls hl hP hS) (fun h => kf h H locs ls hl hP hS)
theorem V_icmp_eq (pc tgt : Nat) (C : Cx G κ cc own ret nL rm) {x y : Int32} {off : Int} (d : decode cc pc = .ok (.if_icmp .eq off, 3)) (ht : (pc : Int) + off = (tgt : Int)) (kt : x = y → V G κ nL cells slots M tgt L st) (kf : ¬ (x = y) → V G κ nL cells slots M (pc + 3) L st) : V G κ nL cells slots M pc L (.int y :: .int x :: st) := by
  obtain ⟨p, l, e, R, s, m, args, below, meth, c, Q⟩ := κ
  intro H locs ls hl hP hS
  exact lv_icmp_eq C.1 C.2.1 d ht (fun h => kt h H locs ls hl hP hS) (fun h => kf h H locs ls hl hP hS)
theorem V_if_ne (pc tgt : Nat) (C : Cx G κ cc own ret nL rm) {x : Int32} {off : Int} (d : decode cc pc = .ok (.ifCond .ne off, 3)) (ht : (pc : Int) + off = (tgt : Int)) (kt : x ≠ 0 → V G κ nL cells slots M tgt L st) (kf : (x = 0) → V G κ nL cells slots M (pc + 3) L st) : V G κ nL cells slots M pc L (.int x :: st) := by
  obtain ⟨p, l, e, R, s, m, args, below, meth, c, Q⟩ := κ
  intro H locs ls hl hP hS
  exact lv_if_ne C.1 C.2.1 d ht (fun h => kt h H locs ls hl hP hS) (fun h => kf h H locs ls hl hP hS)
theorem V_icmp_ne (pc tgt : Nat) (C : Cx G κ cc own ret nL rm) {x y : Int32} {off : Int} (d : decode cc pc = .ok (.if_icmp .ne off, 3)) (ht : (pc : Int) + off = (tgt : Int)) (kt : x ≠ y → V G κ nL cells slots M tgt L st) (kf : (x = y) → V G κ nL cells slots M (pc + 3) L st) : V G κ nL cells slots M pc L (.int y :: .int x :: st) := by
  obtain ⟨p, l, e, R, s, m, args, below, meth, c, Q⟩ := κ
  intro H locs ls hl hP hS
  exact lv_icmp_ne C.1 C.2.1 d ht (fun h => kt h H locs ls hl hP hS) (fun h => kf h H locs ls hl hP hS)
theorem V_if_lt (pc tgt : Nat) (C : Cx G κ cc own ret nL rm) {x : Int32} {off : Int} (d : decode cc pc = .ok (.ifCond .lt off, 3)) (ht : (pc : Int) + off = (tgt : Int)) (kt : x < 0 → V G κ nL cells slots M tgt L st) (kf : ¬ (x < 0) → V G κ nL cells slots M (pc + 3) L st) : V G κ nL cells slots M pc L (.int x :: st) := by
  obtain ⟨p, l, e, R, s, m, args, below, meth, c, Q⟩ := κ
  intro H locs ls hl hP hS
  exact lv_if_lt C.1 C.2.1 d ht (fun h => kt h H locs ls hl hP hS) (fun h => kf h H locs ls hl hP hS)
theorem V_icmp_lt (pc tgt : Nat) (C : Cx G κ cc own ret nL rm) {x y : Int32} {off : Int} (d : decode cc pc = .ok (.if_icmp .lt off, 3)) (ht : (pc : Int) + off = (tgt : Int)) (kt : x < y → V G κ nL cells slots M tgt L st) (kf : ¬ (x < y) → V G κ nL cells slots M (pc + 3) L st) : V G κ nL cells slots M pc L (.int y :: .int x :: st) := by
  obtain ⟨p, l, e, R, s, m, args, below, meth, c, Q⟩ := κ
  intro H locs ls hl hP hS
  exact lv_icmp_lt C.1 C.2.1 d ht (fun h => kt h H locs ls hl hP hS) (fun h => kf h H locs ls hl hP hS)
theorem V_if_ge (pc tgt : Nat) (C : Cx G κ cc own ret nL rm) {x : Int32} {off : Int} (d : decode cc pc = .ok (.ifCond .ge off, 3)) (ht : (pc : Int) + off = (tgt : Int)) (kt : 0 ≤ x → V G κ nL cells slots M tgt L st) (kf : ¬ (0 ≤ x) → V G κ nL cells slots M (pc + 3) L st) : V G κ nL cells slots M pc L (.int x :: st) := by
  obtain ⟨p, l, e, R, s, m, args, below, meth, c, Q⟩ := κ
  intro H locs ls hl hP hS
  exact lv_if_ge C.1 C.2.1 d ht (fun h => kt h H locs ls hl hP hS) (fun h => kf h H locs ls hl hP hS)
theorem V_icmp_ge (pc tgt : Nat) (C : Cx G κ cc own ret nL rm) {x y : Int32} {off : Int} (d : decode cc pc = .ok (.if_icmp .ge off, 3)) (ht : (pc : Int) + off = (tgt : Int)) (kt : y ≤ x → V G κ nL cells slots M tgt L st) (kf : ¬ (y ≤ x) → V G κ nL cells slots M (pc + 3) L st) : V G κ nL cells slots M pc L (.int y :: .int x :: st) := by
  obtain ⟨p, l, e, R, s, m, args, below, meth, c, Q⟩ := κ
  intro H locs ls hl hP hS
  exact lv_icmp_ge C.1 C.2.1 d ht (fun h => kt h H locs ls hl hP hS) (fun h => kf h H locs ls hl hP hS)
theorem V_if_gt (pc tgt : Nat) (C : Cx G κ cc own ret nL rm) {x : Int32} {off : Int} (d : decode cc pc = .ok (.ifCond .gt off, 3)) (ht : (pc : Int) + off = (tgt : Int)) (kt : 0 < x → V G κ nL cells slots M tgt L st) (kf : ¬ (0 < x) → V G κ nL cells slots M (pc + 3) L st) : V G κ nL cells slots M pc L (.int x :: st) := by
  obtain ⟨p, l, e, R, s, m, args, below, meth, c, Q⟩ := κ
  intro H locs ls hl hP hS
  exact lv_if_gt C.1 C.2.1 d ht (fun h => kt h H locs ls hl hP hS) (fun h => kf h H locs ls hl hP hS)
theorem V_icmp_gt (pc tgt : Nat) (C : Cx G κ cc own ret nL rm) {x y : Int32} {off : Int} (d : decode cc pc = .ok (.if_icmp .gt off, 3)) (ht : (pc : Int) + off = (tgt : Int)) (kt : y < x → V G κ nL cells slots M tgt L st) (kf : ¬ (y < x) → V G κ nL cells slots M (pc + 3) L st) : V G κ nL cells slots M pc L (.int y :: .int x :: st) := by
  obtain ⟨p, l, e, R, s, m, args, below, meth, c, Q⟩ := κ
  intro H locs ls hl hP hS
  exact lv_icmp_gt C.1 C.2.1 d ht (fun h => kt h H locs ls hl hP hS) (fun h => kf h H locs ls hl hP hS)
theorem V_if_le (pc tgt : Nat) (C : Cx G κ cc own ret nL rm) {x : Int32} {off : Int} (d : decode cc pc = .ok (.ifCond .le off, 3)) (ht : (pc : Int) + off = (tgt : Int)) (kt : x ≤ 0 → V G κ nL cells slots M tgt L st) (kf : ¬ (x ≤ 0) → V G κ nL cells slots M (pc + 3) L st) : V G κ nL cells slots M pc L (.int x :: st) := by
  obtain ⟨p, l, e, R, s, m, args, below, meth, c, Q⟩ := κ
  intro H locs ls hl hP hS
  exact lv_if_le C.1 C.2.1 d ht (fun h => kt h H locs ls hl hP hS) (fun h => kf h H locs ls hl hP hS)
theorem V_icmp_le (pc tgt : Nat) (C : Cx G κ cc own ret nL rm) {x y : Int32} {off : Int} (d : decode cc pc = .ok (.if_icmp .le off, 3)) (ht : (pc : Int) + off = (tgt : Int)) (kt : x ≤ y → V G κ nL cells slots M tgt L st) (kf : ¬ (x ≤ y) → V G κ nL cells slots M (pc + 3) L st) : V G κ nL cells slots M pc L (.int y :: .int x :: st) := by
  obtain ⟨p, l, e, R, s, m, args, below, meth, c, Q⟩ := κ
  intro H locs ls hl hP hS
  exact lv_icmp_le C.1 C.2.1 d ht (fun h => kt h H locs ls hl hP hS) (fun h => kf h H locs ls hl hP hS)
theorem V_goto (pc tgt : Nat) (C : Cx G κ cc own ret nL rm) {off : Int} (d : decode cc pc = .ok (.goto off, 3)) (ht : (pc : Int) + off = (tgt : Int)) (k : V G κ nL cells slots M tgt L st) : V G κ nL cells slots M pc L st := by
  obtain ⟨p, l, e, R, s, m, args, below, meth, c, Q⟩ := κ
  intro H locs ls hl hP hS
  exact lv_goto C.1 C.2.1 d ht (k H locs ls hl hP hS)
theorem b2i_ne {b : Bool} : (b2i b ≠ 0) ↔ b = true := by cases b <;> simp [b2i]
theorem b2i_eq {b : Bool} : (b2i b = 0) ↔ b = false := by cases b <;> simp [b2i]
theorem V_ifeq_b (pc tgt : Nat) (C : Cx G κ cc own ret nL rm) {b : Bool} {off : Int} (d : decode cc pc = .ok (.ifCond .eq off, 3)) (ht : (pc : Int) + off = (tgt : Int)) (kt : ¬ b = true → V G κ nL cells slots M tgt L st) (kf : b = true → V G κ nL cells slots M (pc + 3) L st) : V G κ nL cells slots M pc L (.int (b2i b) :: st) :=
  V_if_eq pc tgt C d ht (fun h => kt (by rw [b2i_eq.mp h]; decide)) (fun h => kf (by cases b <;> simp_all [b2i]))
theorem V_ifne_b (pc tgt : Nat) (C : Cx G κ cc own ret nL rm) {b : Bool} {off : Int} (d : decode cc pc = .ok (.ifCond .ne off, 3)) (ht : (pc : Int) + off = (tgt : Int)) (kt : b = true → V G κ nL cells slots M tgt L st) (kf : ¬ b = true → V G κ nL cells slots M (pc + 3) L st) : V G κ nL cells slots M pc L (.int (b2i b) :: st) :=
  V_if_ne pc tgt C d ht (fun h => kt (b2i_ne.mp h)) (fun h => kf (by rw [b2i_eq.mp h]; decide))
theorem V_get (pc : Nat) (C : Cx G κ cc own ret nL rm) {ref Cn : String} {T : u_T} {N ci index k : Nat} {fs : List Value} {v : Value} (d : decode cc pc = .ok (.getfield index, 3)) (hk : k < NC) (hce : ceR G (M k) k = .inr (ci, fs)) (hcl : vwCl[ci]? = some (Cn, T, N)) (hin : ∀ w ∈ u_ws Cn T N, w ∈ lw_tbl) (j : Nat) (hj : Nat.blt j N = true) (hw : Cond.fieldLink own index ref (T j).2.1 (T j).2.2.1 ∈ lw_tbl) (hsame : (T j).1 = ref)  (hv : fs[j]? = some v) (kk : V G κ nL cells slots M (pc + 3) L (v :: st)) : V G κ nL cells slots M pc L (.ref (gad G k) :: st) := by
  obtain ⟨p, l, e, R, s, m, args, below, meth, c, Q⟩ := κ
  intro H locs ls hl hP hS
  exact va_get (C := Cn) (T := T) (N := N) (Ts := u_ws Cn T N) C.1 C.2.1 (fun w h => wd C (hin w h) (u_ws_good w h)) (fun _ h => h) C.2.2.2.2.1 C.2.2.2.2.2.2.2.1 hP k (by rw [wld_at hk, hce]) hcl j (Nat.le_of_ble_eq_true hj) (wd C hw rfl) (fun x h => by rw [← hsame]; exact h) hv d (kk H locs ls hl hP hS)
theorem V_getN (pc : Nat) (C : Cx G κ cc own ret nL rm) {ref Cn host : String} {T : u_T} {N ci index k : Nat} {fs : List Value} {v : Value} (d : decode cc pc = .ok (.getfield index, 3)) (hk : k < NC) (hce : ceR G (M k) k = .inr (ci, fs)) (hcl : vwCl[ci]? = some (Cn, T, N)) (hin : ∀ w ∈ u_ws Cn T N, w ∈ lw_tbl) (j : Nat) (hj : Nat.blt j N = true) (hw : Cond.fieldLinkNest own index ref (T j).2.1 (T j).2.2.1 host ∈ lw_tbl) (hsame : (T j).1 = ref)  (hv : fs[j]? = some v) (kk : V G κ nL cells slots M (pc + 3) L (v :: st)) : V G κ nL cells slots M pc L (.ref (gad G k) :: st) := by
  obtain ⟨p, l, e, R, s, m, args, below, meth, c, Q⟩ := κ
  intro H locs ls hl hP hS
  exact va_getN (C := Cn) (T := T) (N := N) (Ts := u_ws Cn T N) C.1 C.2.1 (fun w h => wd C (hin w h) (u_ws_good w h)) (fun _ h => h) C.2.2.2.2.1 C.2.2.2.2.2.2.2.1 hP k (by rw [wld_at hk, hce]) hcl j (Nat.le_of_ble_eq_true hj) (wd C hw rfl) (fun x h => by rw [← hsame]; exact h) hv d (kk H locs ls hl hP hS)
theorem V_put (pc : Nat) (C : Cx G κ cc own ret nL rm) {ref Cn : String} {T : u_T} {N ci index k : Nat} {F : (Nat → Int32) → List Value} (d : decode cc pc = .ok (.putfield index, 3)) (hk : k < NC) (hce : ∀ row, ceR G row k = .inr (ci, F row)) (hcl : vwCl[ci]? = some (Cn, T, N)) (hin : ∀ w ∈ u_ws Cn T N, w ∈ lw_tbl) (ty0 : Nat → FieldType) (hty : ∀ k, k < N → parseFieldDescriptor (T k).2.2.1 = some (ty0 k)) (hnm : ∀ a, a < N → ∀ b, b < N → a ≠ b → (T a).2.1 ≠ (T b).2.1) (j : Nat) (hj : Nat.blt j N = true) (hw : Cond.fieldLink own index ref (T j).2.1 (T j).2.2.1 ∈ lw_tbl) (hsame : (T j).1 = ref) (hfin : (T j).2.2.2 = false) {ty : FieldType} {v : Value} (x : Int32) (hF : F (upd (M k) j x) = (F (M k)).set j v) (hty2 : ty0 j = ty) (hnr : narrow ty v = v) (hfit : fits ty v = true) (hlen : Nat.blt j (F (M k)).length = true) (kk : V G κ nL cells slots (up2 M k j x) (pc + 3) L st) : V G κ nL cells slots M pc L (v :: .ref (gad G k) :: st) := by
  obtain ⟨p, l, e, R, s, m, args, below, meth, c, Q⟩ := κ
  intro H locs ls hl hP hS
  refine va_put (C := Cn) (T := T) (N := N) (Ts := u_ws Cn T N) (ty := ty) C.1 C.2.1 (fun w h => wd C (hin w h) (u_ws_good w h)) (fun _ h => h) ty0 hty hnm C.2.2.2.2.1 C.2.2.2.2.2.2.2.1 hP (wld_D C.2.2.2.2.2.2.2.2.2.1 M) hS k (by rw [wld_at hk, hce]) hcl j (Nat.le_of_ble_eq_true hj) (wd C hw rfl) (fun x h => by rw [← hsame]; exact h) hfin (by rw [hty j (Nat.le_of_ble_eq_true hj), hty2]) hnr hfit (Nat.le_of_ble_eq_true hlen) d (fun H1 locs1 hP1 hD1 hS1 => ?_)
  rw [wld_set (M' := up2 M k j x) (by rw [up2_same, hce, hF]) (fun i hi => up2_ne hi)] at hP1
  exact kk H1 locs1 ls hl hP1 hS1
theorem V_putN (pc : Nat) (C : Cx G κ cc own ret nL rm) {ref Cn host : String} {T : u_T} {N ci index k : Nat} {F : (Nat → Int32) → List Value} (d : decode cc pc = .ok (.putfield index, 3)) (hk : k < NC) (hce : ∀ row, ceR G row k = .inr (ci, F row)) (hcl : vwCl[ci]? = some (Cn, T, N)) (hin : ∀ w ∈ u_ws Cn T N, w ∈ lw_tbl) (ty0 : Nat → FieldType) (hty : ∀ k, k < N → parseFieldDescriptor (T k).2.2.1 = some (ty0 k)) (hnm : ∀ a, a < N → ∀ b, b < N → a ≠ b → (T a).2.1 ≠ (T b).2.1) (j : Nat) (hj : Nat.blt j N = true) (hw : Cond.fieldLinkNest own index ref (T j).2.1 (T j).2.2.1 host ∈ lw_tbl) (hsame : (T j).1 = ref) (hfin : (T j).2.2.2 = false) {ty : FieldType} {v : Value} (x : Int32) (hF : F (upd (M k) j x) = (F (M k)).set j v) (hty2 : ty0 j = ty) (hnr : narrow ty v = v) (hfit : fits ty v = true) (hlen : Nat.blt j (F (M k)).length = true) (kk : V G κ nL cells slots (up2 M k j x) (pc + 3) L st) : V G κ nL cells slots M pc L (v :: .ref (gad G k) :: st) := by
  obtain ⟨p, l, e, R, s, m, args, below, meth, c, Q⟩ := κ
  intro H locs ls hl hP hS
  refine va_putN (C := Cn) (T := T) (N := N) (Ts := u_ws Cn T N) (ty := ty) C.1 C.2.1 (fun w h => wd C (hin w h) (u_ws_good w h)) (fun _ h => h) ty0 hty hnm C.2.2.2.2.1 C.2.2.2.2.2.2.2.1 hP (wld_D C.2.2.2.2.2.2.2.2.2.1 M) hS k (by rw [wld_at hk, hce]) hcl j (Nat.le_of_ble_eq_true hj) (wd C hw rfl) (fun x h => by rw [← hsame]; exact h) hfin (by rw [hty j (Nat.le_of_ble_eq_true hj), hty2]) hnr hfit (Nat.le_of_ble_eq_true hlen) d (fun H1 locs1 hP1 hD1 hS1 => ?_)
  rw [wld_set (M' := up2 M k j x) (by rw [up2_same, hce, hF]) (fun i hi => up2_ne hi)] at hP1
  exact kk H1 locs1 ls hl hP1 hS1
theorem V_iald (pc : Nat) (C : Cx G κ cc own ret nL rm) {k : Nat} {i : Int32} (d : decode cc pc = .ok (.iaload, 1)) (ha : ak k = 1) {n : Nat} (hal : alen k = n) (hi : inb i n = true) (kk : V G κ nL cells slots M (pc + 1) L (.int (M k i.toNatClampNeg) :: st)) : V G κ nL cells slots M pc L (.int i :: .ref (gad G k) :: st) := by
  obtain ⟨p, l, e, R, s, m, args, below, meth, c, Q⟩ := κ
  intro H locs ls hl hP hS
  exact va_iald C.1 C.2.1 C.2.2.2.2.2.2.2.1 hP k 0 (by rw [wld_at (ak_lt (Or.inl ha)), ceR_I ha]) rfl (inb_in (by rw [hal]; exact hi)) d (kk H locs ls hl hP hS)
theorem V_cald (pc : Nat) (C : Cx G κ cc own ret nL rm) {k : Nat} {i : Int32} (d : decode cc pc = .ok (.caload, 1)) (ha : ak k = 2) {n : Nat} (hal : alen k = n) (hi : inb i n = true) (kk : V G κ nL cells slots M (pc + 1) L (.int (M k i.toNatClampNeg) :: st)) : V G κ nL cells slots M pc L (.int i :: .ref (gad G k) :: st) := by
  obtain ⟨p, l, e, R, s, m, args, below, meth, c, Q⟩ := κ
  intro H locs ls hl hP hS
  exact va_cald C.1 C.2.1 C.2.2.2.2.2.2.2.1 hP k 1 (by rw [wld_at (ak_lt (Or.inr ha)), ceR_C ha]) rfl (inb_in (by rw [hal]; exact hi)) d (kk H locs ls hl hP hS)
theorem V_iast (pc : Nat) (C : Cx G κ cc own ret nL rm) {k : Nat} {i x : Int32} (d : decode cc pc = .ok (.iastore, 1)) (ha : ak k = 1) {n : Nat} (hal : alen k = n) (hi : inb i n = true) (kk : V G κ nL cells slots (up2 M k i.toNatClampNeg x) (pc + 1) L st) : V G κ nL cells slots M pc L (.int x :: .int i :: .ref (gad G k) :: st) := by
  obtain ⟨p, l, e, R, s, m, args, below, meth, c, Q⟩ := κ
  intro H locs ls hl hP hS
  refine va_iast C.1 C.2.1 C.2.2.2.2.2.2.2.1 hP (wld_D C.2.2.2.2.2.2.2.2.2.1 M) hS k 0 (by rw [wld_at (ak_lt (Or.inl ha)), ceR_I ha]) rfl (inb_in (by rw [hal]; exact hi)) d (fun H1 locs1 hP1 hD1 hS1 => ?_)
  rw [wld_set (M' := up2 M k i.toNatClampNeg x) (by rw [up2_same, ceR_I ha]) (fun i hi => up2_ne hi)] at hP1
  exact kk H1 locs1 ls hl hP1 hS1
theorem V_cast (pc : Nat) (C : Cx G κ cc own ret nL rm) {k : Nat} {i x : Int32} (d : decode cc pc = .ok (.castore, 1)) (ha : ak k = 2) {n : Nat} (hal : alen k = n) (hi : inb i n = true) (kk : V G κ nL cells slots (up2 M k i.toNatClampNeg (vp_nar .char x)) (pc + 1) L st) : V G κ nL cells slots M pc L (.int x :: .int i :: .ref (gad G k) :: st) := by
  obtain ⟨p, l, e, R, s, m, args, below, meth, c, Q⟩ := κ
  intro H locs ls hl hP hS
  refine va_cast C.1 C.2.1 C.2.2.2.2.2.2.2.1 hP (wld_D C.2.2.2.2.2.2.2.2.2.1 M) hS k 1 (by rw [wld_at (ak_lt (Or.inr ha)), ceR_C ha]) rfl (inb_in (by rw [hal]; exact hi)) d (fun H1 locs1 hP1 hD1 hS1 => ?_)
  rw [wld_set (M' := up2 M k i.toNatClampNeg (vp_nar .char x)) (by rw [up2_same, ceR_C ha]) (fun i hi => up2_ne hi)] at hP1
  exact kk H1 locs1 ls hl hP1 hS1
theorem V_alenI (pc : Nat) (C : Cx G κ cc own ret nL rm) {k : Nat} (d : decode cc pc = .ok (.arraylength, 1)) (ha : ak k = 1) {n : Int32} (hal : nI (alen k) = n) (kk : V G κ nL cells slots M (pc + 1) L (.int n :: st)) : V G κ nL cells slots M pc L (.ref (gad G k) :: st) := by
  obtain ⟨p, l, e, R, s, m, args, below, meth, c, Q⟩ := κ
  intro H locs ls hl hP hS
  exact va_alen (ty := .int) (x := (alen k, .inl (M k))) C.1 C.2.1 C.2.2.2.2.2.2.2.1 hP k 0 (by rw [wld_at (ak_lt (Or.inl ha)), ceR_I ha]) rfl hal d (kk H locs ls hl hP hS)
theorem V_alenC (pc : Nat) (C : Cx G κ cc own ret nL rm) {k : Nat} (d : decode cc pc = .ok (.arraylength, 1)) (ha : ak k = 2) {n : Int32} (hal : nI (alen k) = n) (kk : V G κ nL cells slots M (pc + 1) L (.int n :: st)) : V G κ nL cells slots M pc L (.ref (gad G k) :: st) := by
  obtain ⟨p, l, e, R, s, m, args, below, meth, c, Q⟩ := κ
  intro H locs ls hl hP hS
  exact va_alen (ty := .char) (x := (alen k, .inl (M k))) C.1 C.2.1 C.2.2.2.2.2.2.2.1 hP k 1 (by rw [wld_at (ak_lt (Or.inr ha)), ceR_C ha]) rfl hal d (kk H locs ls hl hP hS)
theorem V_iret (pc : Nat) (C : Cx G κ cc own (some .int) nL rm) {v : Int32} (hQ : HQ G κ (QI G v M) 0 0) (d : decode cc pc = .ok (.ireturn, 1)) : V G κ nL 0 0 M pc L [.int v] := by
  obtain ⟨p, l, e, R, s, m, args, below, meth, c, Q⟩ := κ
  intro H locs ls hl hP hS
  rw [show Q = _ from hQ]
  exact W.iret C.1 C.2.1 C.2.2.1 (fun t ht hW => ⟨⟨v, (), rfl, rfl, by subst ht; exact hP⟩, hS.F ht⟩) hS.2.2 d C.2.2.2.2.2.1
theorem V_zret (pc : Nat) (C : Cx G κ cc own (some .boolean) nL rm) {v : Bool} (hQ : HQ G κ (QI G (b2i v) M) 0 0) (d : decode cc pc = .ok (.ireturn, 1)) : V G κ nL 0 0 M pc L [.int (b2i v)] := by
  obtain ⟨p, l, e, R, s, m, args, below, meth, c, Q⟩ := κ
  intro H locs ls hl hP hS
  rw [show Q = _ from hQ]
  exact W.zret (ty := .boolean) C.1 C.2.1 C.2.2.1 (by cases v <;> rfl) (fun t ht hW => ⟨⟨b2i v, (), rfl, rfl, by subst ht; exact hP⟩, hS.F ht⟩) hS.2.2 d C.2.2.2.2.2.1
theorem V_vret (pc : Nat) (C : Cx G κ cc own none nL rm) (hQ : HQ G κ (QV G M) 0 0) (d : decode cc pc = .ok (.return_, 1)) : V G κ nL 0 0 M pc L [] := by
  obtain ⟨p, l, e, R, s, m, args, below, meth, c, Q⟩ := κ
  intro H locs ls hl hP hS
  rw [show Q = _ from hQ]
  exact W.vret C.1 C.2.1 C.2.2.1 (fun t ht hW => ⟨⟨(), rfl, trivial, by subst ht; exact hP⟩, hS.F ht⟩) hS.2.2 d C.2.2.2.2.2.1
theorem V_aret (pc : Nat) (C : Cx G κ cc own ret nL rm) {n : String} (hret : ret = some (.object n)) {a : Nat} (hQ : HQ G κ (QR G a M) 0 0) (d : decode cc pc = .ok (.areturn, 1)) : V G κ nL 0 0 M pc L [.ref a] := by
  obtain ⟨p, l, e, R, s, m, args, below, meth, c, Q⟩ := κ
  intro H locs ls hl hP hS
  rw [show Q = _ from hQ]
  exact W.aret (v := .ref a) (rt := .object n) C.1 C.2.1 (C.2.2.1.trans hret) (Or.inl ⟨n, rfl⟩) (Or.inr ⟨a, rfl⟩) (fun t ht hW => ⟨⟨(), a, rfl, trivial, rfl, by subst ht; exact hP⟩, hS.F ht⟩) hS.2.2 d C.2.2.2.2.2.1
theorem V_sub {pc : Nat} {L1 : List (Nat × Value)} (ks : List Nat) (hL : lv_pick L ks = L1) (k : V G κ nL cells slots M pc L1 st) : V G κ nL cells slots M pc L st := by
  obtain ⟨p, l, e, R, s, m, args, below, meth, c, Q⟩ := κ
  intro H locs ls hl hP hS
  exact k H locs ls (lv_sub hl ks hL) hP hS
end

