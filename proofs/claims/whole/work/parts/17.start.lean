/-! THE CLAIM OUT OF ONE WALK OF THE LAW'S BODY. Your part is whole_start (and what it stands on); all else here is the same for every law, but numbers. -/
def R_law : String := "LarderPatrolLaw"
def lw_P (b : Addr) (xs : List Int32) (args : Array Value) (s : State) : Prop := args = #[.ref b] ∧ s.IntsAt b xs ∧ xs.length ≤ 1536 ∧ (Jvm.Cond.and given_1 narrow_1).before args s = true
/-- what a walk over the start with the record d0 says of its end, said of the start itself -/
theorem lw_closed {s t : State} {o : Outcome} {d0 : Drawn} {L : List Loc} {k n : Nat} (hd0 : s.drawn.sameBut d0 lw_cs) (hv : ∃ v, o = .returned v) (hW : (s.setDrawn d0).WarmedH t.vm) (hs : (s.setDrawn d0).sameButNew ({ t with vm := s.vm } : State) L k n) : State.butDraws s t lw_cs (fun t1 => Framed s o t1 L k n) := by
  have h2 : t.drawn = d0 := congrArg State.drawn hs.1
  refine ⟨⟨hv, hW, State.sameButNew.setDrawn hs s.drawn⟩, ?_, by decide⟩
  rw [h2]
  exact hd0
def lw_Q (_ : Array Value) (s : State) (o : Outcome) (t : State) : Prop := o = .returned (some (.int 1)) ∧ State.butDraws s t lw_cs (fun t1 => Framed s o t1 [] 603072 7182442)
def lw_Z (below : List Frame) (a : Array Value) (s : State) : State → Prop := fun t => ∃ o, t.status = .running ∧ Ended t below o ∧ lw_Q a s o t
/-- the law's own end, with 1 on the stack, nothing written that was there before, its room as the claim has it; d0: the record of draws at this point (at the entry s.drawn: begin with 'refine W.base ?_' and 'have hd0 := Drawn.sameBut.refl s.drawn lw_cs') -/
theorem lw_ret {p : Program} {l : Launch} {e : Env} {s : State} {m : MethodId} {below : List Frame} {meth : Method} {c : Code} {b : Nat} {d0 : Drawn} (hd0 : s.drawn.sameBut d0 lw_cs) (hx : p.tables.exec = Jvm.exec) (hb : c.code = code) (hr : meth.sig.returnType = ret) (hlocks : meth.locks = false) {pc : Nat} {H : Heap} {ls : Array Slot} (hdg : decode code pc = .ok (.ireturn, 1)) : W p l e room_1 (s.setDrawn d0) m #[Value.ref b] below meth c H [] 603072 7182442 (lw_Z below #[Value.ref b] s) (F0 m pc ls [.int 1]) := by
  intro T hT X
  obtain ⟨fs, hret, hrun, hended, hW, hframe⟩ := X.leave (v := some (.int 1)) (hlocks := hlocks) (fun h => by rw [hr] at h; cases h)
  have hmeth' : T.vm.method? m = some meth := X.method'
  refine ⟨T.setFrames fs, ?_, .returned (some (.int 1)), hrun, hended, rfl, lw_closed hd0 ⟨_, rfl⟩ hW hframe⟩
  jvm_step X.here [X.here.top, hx, hb, hdg, hmeth', hr, ret, narrow_b1]
  (try refine ⟨rfl, ?_⟩); (try refine ⟨rfl, ?_⟩)
  first | (intro acts; rw [hret _ acts rfl rfl rfl]) | rw [hret _ _ rfl rfl rfl]
  exact Steps.refl _
/-- what holds at the law's entry: the machine, the code, the tables' words (any of lw_tbl by 'hts w (by decide +kernel)'), the script of L ints xs at the cell b, what the Statement gives of the start (any of its parts by flat_of_before) -/
def lw_At (p : Program) (s : State) (m : MethodId) (meth : Method) (c : Code) (b L : Nat) (xs : Nat → Int32) : Prop :=
  p.tables.exec = Jvm.exec ∧ c.code = code ∧ meth.sig.returnType = ret ∧ c.maxLocals = 9 ∧ s.vm.findClass R_law = some m.cls ∧ (∀ w ∈ lw_tbl, w.before #[Value.ref b] s = true) ∧ va_X b L xs s s.heap ∧ b < s.heap.size ∧ meth.locks = false ∧ (Jvm.Cond.and given_1 narrow_1).before #[Value.ref b] s = true
section
variable {b : Nat} {s : State}
abbrev NWH (b : Nat) (s : State) : Prop := (Jvm.Cond.and given_1 narrow_1).before #[Value.ref b] s = true
abbrev HTS (b : Nat) (s : State) : Prop := ∀ w ∈ lw_tbl, w.before #[Value.ref b] s = true
abbrev AS (s : State) : Nat → Prop := fun q => s.heap.size ≤ q
theorem AS_no (s : State) : ∀ a : Nat, a < s.heap.size → ¬ AS s a := fun _ h => Nat.not_le.mpr h
def allN : Nat → (Nat → Prop) → Prop
  | 0, _ => True
  | n + 1, P => allN n P ∧ P n
theorem allN.at {n : Nat} {P : Nat → Prop} (h : allN n P) {i : Nat} (hi : i < n) : P i := by
  induction n with
  | zero => exact absurd hi (Nat.not_lt_zero i)
  | succ n ih =>
    by_cases e : i = n
    · exact e ▸ h.2
    · exact ih h.1 (by omega)
theorem tn1 {w : Cond} (i : Nat) (h : (flatC narrow_1_1)[i]? = some w) : w ∈ flatC (given_1.and narrow_1) := by
  show w ∈ flatC given_1 ++ (flatC narrow_1_1 ++ (flatC narrow_1_2 ++ flatC narrow_1_3))
  exact List.mem_append_right _ (List.mem_append_left _ (List.mem_of_getElem? h))
theorem tn2 {w : Cond} (i : Nat) (h : (flatC narrow_1_2)[i]? = some w) : w ∈ flatC (given_1.and narrow_1) := by
  show w ∈ flatC given_1 ++ (flatC narrow_1_1 ++ (flatC narrow_1_2 ++ flatC narrow_1_3))
  exact List.mem_append_right _ (List.mem_append_right _ (List.mem_append_left _ (List.mem_of_getElem? h)))
theorem tn3 {w : Cond} (i : Nat) (h : (flatC narrow_1_3)[i]? = some w) : w ∈ flatC (given_1.and narrow_1) := by
  show w ∈ flatC given_1 ++ (flatC narrow_1_1 ++ (flatC narrow_1_2 ++ flatC narrow_1_3))
  exact List.mem_append_right _ (List.mem_append_right _ (List.mem_append_right _ (List.mem_of_getElem? h)))
theorem wk_1_223 : (Jvm.Cond.laysStatic "LarderPatrol$Verb" "SHELF" "LLarderPatrol$Verb;") ∈ lw_tbl := tm1 223 (by decide +kernel)
theorem wk_4_81 : (Jvm.Cond.laysStatic "LarderPatrol$Verb" "LINK" "LLarderPatrol$Verb;") ∈ lw_tbl := tm4 81 (by decide +kernel)
theorem wk_4_90 : (Jvm.Cond.laysStatic "LarderPatrol$Verb" "CUT" "LLarderPatrol$Verb;") ∈ lw_tbl := tm4 90 (by decide +kernel)
theorem wk_3_146 : (Jvm.Cond.laysStatic "LarderPatrol$Verb" "HIDE" "LLarderPatrol$Verb;") ∈ lw_tbl := tm3 146 (by decide +kernel)
theorem wk_4_100 : (Jvm.Cond.laysStatic "LarderPatrol$Verb" "SHOW" "LLarderPatrol$Verb;") ∈ lw_tbl := tm4 100 (by decide +kernel)
theorem wk_4_109 : (Jvm.Cond.laysStatic "LarderPatrol$Verb" "FILL" "LLarderPatrol$Verb;") ∈ lw_tbl := tm4 109 (by decide +kernel)
theorem wk_4_219 : (Jvm.Cond.laysStatic "LarderPatrol$Verb" "STOP" "LLarderPatrol$Verb;") ∈ lw_tbl := tm4 219 (by decide +kernel)
theorem wk_4_228 : (Jvm.Cond.laysStatic "LarderPatrol$Verb" "DROP" "LLarderPatrol$Verb;") ∈ lw_tbl := tm4 228 (by decide +kernel)
theorem wk_5_66 : (Jvm.Cond.laysStatic "LarderPatrol$Verb" "RATE" "LLarderPatrol$Verb;") ∈ lw_tbl := tm5 66 (by decide +kernel)
theorem wk_5_75 : (Jvm.Cond.laysStatic "LarderPatrol$Verb" "SEED" "LLarderPatrol$Verb;") ∈ lw_tbl := tm5 75 (by decide +kernel)
theorem wk_5_48 : (Jvm.Cond.laysStatic "LarderPatrol$Verb" "WAIT" "LLarderPatrol$Verb;") ∈ lw_tbl := tm5 48 (by decide +kernel)
theorem wk_1_10 : (Jvm.Cond.initialized "LarderPatrol$Verb") ∈ lw_tbl := tm1 10 (by decide +kernel)
theorem wk_2_232 : (Jvm.Cond.laysStatic "LarderPatrol$Refusal" "NOTHING" "LLarderPatrol$Refusal;") ∈ lw_tbl := tm2 232 (by decide +kernel)
theorem wk_2_230 : (Jvm.Cond.laysStatic "LarderPatrol$Refusal" "LIMIT" "LLarderPatrol$Refusal;") ∈ lw_tbl := tm2 230 (by decide +kernel)
theorem wk_3_7 : (Jvm.Cond.laysStatic "LarderPatrol$Refusal" "SAME_SHELF" "LLarderPatrol$Refusal;") ∈ lw_tbl := tm3 7 (by decide +kernel)
theorem wk_3_13 : (Jvm.Cond.laysStatic "LarderPatrol$Refusal" "CONNECTED" "LLarderPatrol$Refusal;") ∈ lw_tbl := tm3 13 (by decide +kernel)
theorem wk_3_19 : (Jvm.Cond.laysStatic "LarderPatrol$Refusal" "NOT_CONNECTED" "LLarderPatrol$Refusal;") ∈ lw_tbl := tm3 19 (by decide +kernel)
theorem wk_3_26 : (Jvm.Cond.laysStatic "LarderPatrol$Refusal" "PRESENT_VALUE" "LLarderPatrol$Refusal;") ∈ lw_tbl := tm3 26 (by decide +kernel)
theorem wk_3_5 : (Jvm.Cond.laysStatic "LarderPatrol$Refusal" "NO_SUCH_INDEX" "LLarderPatrol$Refusal;") ∈ lw_tbl := tm3 5 (by decide +kernel)
theorem wk_2_228 : (Jvm.Cond.laysStatic "LarderPatrol$Refusal" "OUT_OF_RANGE" "LLarderPatrol$Refusal;") ∈ lw_tbl := tm2 228 (by decide +kernel)
theorem wk_1_14 : (Jvm.Cond.initialized "LarderPatrol$Refusal") ∈ lw_tbl := tm1 14 (by decide +kernel)
theorem wk_2_216 : (Jvm.Cond.laysStatic "LarderPatrol$1" "$SwitchMap$LarderPatrol$Verb" "[I") ∈ lw_tbl := tm2 216 (by decide +kernel)
theorem wk_1_13 : (Jvm.Cond.initialized "LarderPatrol$1") ∈ lw_tbl := tm1 13 (by decide +kernel)
theorem wk_3_141 : (Jvm.Cond.laysStatic "LarderPatrol$1" "$SwitchMap$LarderPatrol$Refusal" "[I") ∈ lw_tbl := tm3 141 (by decide +kernel)
theorem wk_5_189 : (Jvm.Cond.laysStatic "LarderPatrol$Script" "VERBS" "[LLarderPatrol$Verb;") ∈ lw_tbl := tm5 189 (by decide +kernel)
theorem wk_5_219 : (Jvm.Cond.laysStatic "jdk/internal/util/Preconditions" "SIOOBE_FORMATTER" "Ljava/util/function/BiFunction;") ∈ lw_tbl := tm5 219 (by decide +kernel)
theorem wk_3_73 : (Jvm.Cond.laysStatic "java/lang/Throwable" "UNASSIGNED_STACK" "[Ljava/lang/StackTraceElement;") ∈ lw_tbl := tm3 73 (by decide +kernel)
theorem wk_1_15 : (Jvm.Cond.initialized "java/lang/Throwable") ∈ lw_tbl := tm1 15 (by decide +kernel)
theorem wk_3_75 : (Jvm.Cond.laysStatic "java/lang/Throwable" "SUPPRESSED_SENTINEL" "Ljava/util/List;") ∈ lw_tbl := tm3 75 (by decide +kernel)
theorem wk_5_203 : (Jvm.Cond.laysStatic "java/lang/String" "COMPACT_STRINGS" "Z") ∈ lw_tbl := tm5 203 (by decide +kernel)
theorem wk_3_91 : (Jvm.Cond.stringRef "LarderPatrol" (350 : Nat) "there is no such shelf or stop") ∈ lw_tbl := tm3 91 (by decide +kernel)
theorem wk_3_128 : (Jvm.Cond.stringRef "LarderPatrol" (355 : Nat) "a value is out of range") ∈ lw_tbl := tm3 128 (by decide +kernel)
theorem wk_3_160 : (Jvm.Cond.stringRef "LarderPatrol" (371 : Nat) "denied") ∈ lw_tbl := tm3 160 (by decide +kernel)
theorem wk_4_122 : (Jvm.Cond.stringRef "LarderPatrol" (394 : Nat) "there is no such shelf") ∈ lw_tbl := tm4 122 (by decide +kernel)
theorem wk_4_161 : (Jvm.Cond.stringRef "LarderPatrol" (131 : Nat) "no way leads from one shelf to the other") ∈ lw_tbl := tm4 161 (by decide +kernel)
theorem wk_4_210 : (Jvm.Cond.stringRef "LarderPatrol" (146 : Nat) "there is no such rank") ∈ lw_tbl := tm4 210 (by decide +kernel)
theorem wk_4_237 : (Jvm.Cond.stringRef "LarderPatrol" (167 : Nat) "there is no such stop") ∈ lw_tbl := tm4 237 (by decide +kernel)
theorem wk_5_9 : (Jvm.Cond.stringRef "LarderPatrol" (259 : Nat) "there are no shelves") ∈ lw_tbl := tm5 9 (by decide +kernel)
theorem wk_5_17 : (Jvm.Cond.stringRef "LarderPatrol" (179 : Nat) "there are no stops") ∈ lw_tbl := tm5 17 (by decide +kernel)
theorem wk_5_39 : (Jvm.Cond.stringRef "LarderPatrol" (190 : Nat) "no way leads from a stop to the next one") ∈ lw_tbl := tm5 39 (by decide +kernel)
theorem wk_5_56 : (Jvm.Cond.stringRef "LarderPatrol" (197 : Nat) "the number of minutes is out of range") ∈ lw_tbl := tm5 56 (by decide +kernel)
theorem wk_5_88 : (Jvm.Cond.stringRef "LarderPatrol" (396 : Nat) "there is no such mouse") ∈ lw_tbl := tm5 88 (by decide +kernel)
theorem wk_5_144 : (Jvm.Cond.stringRef "LarderPatrol" (262 : Nat) "no mouse was caught or has left") ∈ lw_tbl := tm5 144 (by decide +kernel)
theorem wk_5_162 : (Jvm.Cond.stringRef "LarderPatrol" (269 : Nat) "the text buffer is full") ∈ lw_tbl := tm5 162 (by decide +kernel)
theorem wk_6_29 : (Jvm.Cond.stringRef "LarderPatrol" (282 : Nat) "the text does not match the grammar") ∈ lw_tbl := tm6 29 (by decide +kernel)
theorem wk_6_42 : (Jvm.Cond.stringRef "LarderPatrol" (290 : Nat) "a command of the text failed") ∈ lw_tbl := tm6 42 (by decide +kernel)
theorem wk_6_50 : (Jvm.Cond.stringRef "LarderPatrol" (299 : Nat) "no fault position was kept yet") ∈ lw_tbl := tm6 50 (by decide +kernel)
theorem wk_6_72 : (Jvm.Cond.stringRef "LarderPatrol" (313 : Nat) "there is no such index") ∈ lw_tbl := tm6 72 (by decide +kernel)
theorem wk_6_84 : (Jvm.Cond.stringRef "LarderPatrol" (398 : Nat) "nothing was denied yet") ∈ lw_tbl := tm6 84 (by decide +kernel)
theorem wk_6_99 : (Jvm.Cond.stringRef "LarderPatrol" (325 : Nat) "there is no denial with a cause") ∈ lw_tbl := tm6 99 (by decide +kernel)
theorem wk_6_107 : (Jvm.Cond.stringRef "LarderPatrol" (328 : Nat) "there is no change to undo") ∈ lw_tbl := tm6 107 (by decide +kernel)
theorem wk_6_119 : (Jvm.Cond.stringRef "LarderPatrol" (337 : Nat) "there is no snapshot") ∈ lw_tbl := tm6 119 (by decide +kernel)
theorem nw_1_2 : (Jvm.Cond.exactly (Jvm.Term.static "LarderPatrol$Verb" "SHELF" "LLarderPatrol$Verb;") "LarderPatrol$Verb") ∈ flatC (given_1.and narrow_1) := tn1 2 (by decide +kernel)
theorem nw_1_106 : (Jvm.Cond.exactly (Jvm.Term.static "LarderPatrol$Verb" "LINK" "LLarderPatrol$Verb;") "LarderPatrol$Verb") ∈ flatC (given_1.and narrow_1) := tn1 106 (by decide +kernel)
theorem nw_1_120 : (Jvm.Cond.exactly (Jvm.Term.static "LarderPatrol$Verb" "CUT" "LLarderPatrol$Verb;") "LarderPatrol$Verb") ∈ flatC (given_1.and narrow_1) := tn1 120 (by decide +kernel)
theorem nw_1_93 : (Jvm.Cond.exactly (Jvm.Term.static "LarderPatrol$Verb" "HIDE" "LLarderPatrol$Verb;") "LarderPatrol$Verb") ∈ flatC (given_1.and narrow_1) := tn1 93 (by decide +kernel)
theorem nw_1_135 : (Jvm.Cond.exactly (Jvm.Term.static "LarderPatrol$Verb" "SHOW" "LLarderPatrol$Verb;") "LarderPatrol$Verb") ∈ flatC (given_1.and narrow_1) := tn1 135 (by decide +kernel)
theorem nw_1_151 : (Jvm.Cond.exactly (Jvm.Term.static "LarderPatrol$Verb" "FILL" "LLarderPatrol$Verb;") "LarderPatrol$Verb") ∈ flatC (given_1.and narrow_1) := tn1 151 (by decide +kernel)
theorem nw_1_168 : (Jvm.Cond.exactly (Jvm.Term.static "LarderPatrol$Verb" "STOP" "LLarderPatrol$Verb;") "LarderPatrol$Verb") ∈ flatC (given_1.and narrow_1) := tn1 168 (by decide +kernel)
theorem nw_1_186 : (Jvm.Cond.exactly (Jvm.Term.static "LarderPatrol$Verb" "DROP" "LLarderPatrol$Verb;") "LarderPatrol$Verb") ∈ flatC (given_1.and narrow_1) := tn1 186 (by decide +kernel)
theorem nw_1_225 : (Jvm.Cond.exactly (Jvm.Term.static "LarderPatrol$Verb" "RATE" "LLarderPatrol$Verb;") "LarderPatrol$Verb") ∈ flatC (given_1.and narrow_1) := tn1 225 (by decide +kernel)
theorem nw_1_246 : (Jvm.Cond.exactly (Jvm.Term.static "LarderPatrol$Verb" "SEED" "LLarderPatrol$Verb;") "LarderPatrol$Verb") ∈ flatC (given_1.and narrow_1) := tn1 246 (by decide +kernel)
theorem nw_1_205 : (Jvm.Cond.exactly (Jvm.Term.static "LarderPatrol$Verb" "WAIT" "LLarderPatrol$Verb;") "LarderPatrol$Verb") ∈ flatC (given_1.and narrow_1) := tn1 205 (by decide +kernel)
theorem nw_1_3 : (Jvm.Cond.eq (Jvm.Term.field (Jvm.Term.static "LarderPatrol$Verb" "SHELF" "LLarderPatrol$Verb;") "java/lang/Enum" "ordinal" "I") (Jvm.Term.int (0 : Int32))) ∈ flatC (given_1.and narrow_1) := tn1 3 (by decide +kernel)
theorem nw_1_107 : (Jvm.Cond.eq (Jvm.Term.field (Jvm.Term.static "LarderPatrol$Verb" "LINK" "LLarderPatrol$Verb;") "java/lang/Enum" "ordinal" "I") (Jvm.Term.int (1 : Int32))) ∈ flatC (given_1.and narrow_1) := tn1 107 (by decide +kernel)
theorem nw_1_121 : (Jvm.Cond.eq (Jvm.Term.field (Jvm.Term.static "LarderPatrol$Verb" "CUT" "LLarderPatrol$Verb;") "java/lang/Enum" "ordinal" "I") (Jvm.Term.int (2 : Int32))) ∈ flatC (given_1.and narrow_1) := tn1 121 (by decide +kernel)
theorem nw_1_94 : (Jvm.Cond.eq (Jvm.Term.field (Jvm.Term.static "LarderPatrol$Verb" "HIDE" "LLarderPatrol$Verb;") "java/lang/Enum" "ordinal" "I") (Jvm.Term.int (3 : Int32))) ∈ flatC (given_1.and narrow_1) := tn1 94 (by decide +kernel)
theorem nw_1_136 : (Jvm.Cond.eq (Jvm.Term.field (Jvm.Term.static "LarderPatrol$Verb" "SHOW" "LLarderPatrol$Verb;") "java/lang/Enum" "ordinal" "I") (Jvm.Term.int (4 : Int32))) ∈ flatC (given_1.and narrow_1) := tn1 136 (by decide +kernel)
theorem nw_1_152 : (Jvm.Cond.eq (Jvm.Term.field (Jvm.Term.static "LarderPatrol$Verb" "FILL" "LLarderPatrol$Verb;") "java/lang/Enum" "ordinal" "I") (Jvm.Term.int (5 : Int32))) ∈ flatC (given_1.and narrow_1) := tn1 152 (by decide +kernel)
theorem nw_1_169 : (Jvm.Cond.eq (Jvm.Term.field (Jvm.Term.static "LarderPatrol$Verb" "STOP" "LLarderPatrol$Verb;") "java/lang/Enum" "ordinal" "I") (Jvm.Term.int (6 : Int32))) ∈ flatC (given_1.and narrow_1) := tn1 169 (by decide +kernel)
theorem nw_1_187 : (Jvm.Cond.eq (Jvm.Term.field (Jvm.Term.static "LarderPatrol$Verb" "DROP" "LLarderPatrol$Verb;") "java/lang/Enum" "ordinal" "I") (Jvm.Term.int (7 : Int32))) ∈ flatC (given_1.and narrow_1) := tn1 187 (by decide +kernel)
theorem nw_1_226 : (Jvm.Cond.eq (Jvm.Term.field (Jvm.Term.static "LarderPatrol$Verb" "RATE" "LLarderPatrol$Verb;") "java/lang/Enum" "ordinal" "I") (Jvm.Term.int (8 : Int32))) ∈ flatC (given_1.and narrow_1) := tn1 226 (by decide +kernel)
theorem nw_1_247 : (Jvm.Cond.eq (Jvm.Term.field (Jvm.Term.static "LarderPatrol$Verb" "SEED" "LLarderPatrol$Verb;") "java/lang/Enum" "ordinal" "I") (Jvm.Term.int (9 : Int32))) ∈ flatC (given_1.and narrow_1) := tn1 247 (by decide +kernel)
theorem nw_1_206 : (Jvm.Cond.eq (Jvm.Term.field (Jvm.Term.static "LarderPatrol$Verb" "WAIT" "LLarderPatrol$Verb;") "java/lang/Enum" "ordinal" "I") (Jvm.Term.int (10 : Int32))) ∈ flatC (given_1.and narrow_1) := tn1 206 (by decide +kernel)
theorem nw_1_5 : (Jvm.Cond.eq (Jvm.Term.field (Jvm.Term.static "LarderPatrol$Verb" "SHELF" "LLarderPatrol$Verb;") "LarderPatrol$Verb" "limit" "I") (Jvm.Term.int (12 : Int32))) ∈ flatC (given_1.and narrow_1) := tn1 5 (by decide +kernel)
theorem nw_1_109 : (Jvm.Cond.eq (Jvm.Term.field (Jvm.Term.static "LarderPatrol$Verb" "LINK" "LLarderPatrol$Verb;") "LarderPatrol$Verb" "limit" "I") (Jvm.Term.int (20 : Int32))) ∈ flatC (given_1.and narrow_1) := tn1 109 (by decide +kernel)
theorem nw_1_123 : (Jvm.Cond.eq (Jvm.Term.field (Jvm.Term.static "LarderPatrol$Verb" "CUT" "LLarderPatrol$Verb;") "LarderPatrol$Verb" "limit" "I") (Jvm.Term.int (0 : Int32))) ∈ flatC (given_1.and narrow_1) := tn1 123 (by decide +kernel)
theorem nw_1_96 : (Jvm.Cond.eq (Jvm.Term.field (Jvm.Term.static "LarderPatrol$Verb" "HIDE" "LLarderPatrol$Verb;") "LarderPatrol$Verb" "limit" "I") (Jvm.Term.int (0 : Int32))) ∈ flatC (given_1.and narrow_1) := tn1 96 (by decide +kernel)
theorem nw_1_138 : (Jvm.Cond.eq (Jvm.Term.field (Jvm.Term.static "LarderPatrol$Verb" "SHOW" "LLarderPatrol$Verb;") "LarderPatrol$Verb" "limit" "I") (Jvm.Term.int (0 : Int32))) ∈ flatC (given_1.and narrow_1) := tn1 138 (by decide +kernel)
theorem nw_1_154 : (Jvm.Cond.eq (Jvm.Term.field (Jvm.Term.static "LarderPatrol$Verb" "FILL" "LLarderPatrol$Verb;") "LarderPatrol$Verb" "limit" "I") (Jvm.Term.int (99 : Int32))) ∈ flatC (given_1.and narrow_1) := tn1 154 (by decide +kernel)
theorem nw_1_171 : (Jvm.Cond.eq (Jvm.Term.field (Jvm.Term.static "LarderPatrol$Verb" "STOP" "LLarderPatrol$Verb;") "LarderPatrol$Verb" "limit" "I") (Jvm.Term.int (10 : Int32))) ∈ flatC (given_1.and narrow_1) := tn1 171 (by decide +kernel)
theorem nw_1_189 : (Jvm.Cond.eq (Jvm.Term.field (Jvm.Term.static "LarderPatrol$Verb" "DROP" "LLarderPatrol$Verb;") "LarderPatrol$Verb" "limit" "I") (Jvm.Term.int (0 : Int32))) ∈ flatC (given_1.and narrow_1) := tn1 189 (by decide +kernel)
theorem nw_1_228 : (Jvm.Cond.eq (Jvm.Term.field (Jvm.Term.static "LarderPatrol$Verb" "RATE" "LLarderPatrol$Verb;") "LarderPatrol$Verb" "limit" "I") (Jvm.Term.int (0 : Int32))) ∈ flatC (given_1.and narrow_1) := tn1 228 (by decide +kernel)
theorem nw_1_249 : (Jvm.Cond.eq (Jvm.Term.field (Jvm.Term.static "LarderPatrol$Verb" "SEED" "LLarderPatrol$Verb;") "LarderPatrol$Verb" "limit" "I") (Jvm.Term.int (0 : Int32))) ∈ flatC (given_1.and narrow_1) := tn1 249 (by decide +kernel)
theorem nw_1_208 : (Jvm.Cond.eq (Jvm.Term.field (Jvm.Term.static "LarderPatrol$Verb" "WAIT" "LLarderPatrol$Verb;") "LarderPatrol$Verb" "limit" "I") (Jvm.Term.int (0 : Int32))) ∈ flatC (given_1.and narrow_1) := tn1 208 (by decide +kernel)
theorem nw_1_110 : (Jvm.Cond.not (Jvm.Cond.eq (Jvm.Term.static "LarderPatrol$Verb" "SHELF" "LLarderPatrol$Verb;") (Jvm.Term.static "LarderPatrol$Verb" "LINK" "LLarderPatrol$Verb;"))) ∈ flatC (given_1.and narrow_1) := tn1 110 (by decide +kernel)
theorem nw_1_124 : (Jvm.Cond.not (Jvm.Cond.eq (Jvm.Term.static "LarderPatrol$Verb" "SHELF" "LLarderPatrol$Verb;") (Jvm.Term.static "LarderPatrol$Verb" "CUT" "LLarderPatrol$Verb;"))) ∈ flatC (given_1.and narrow_1) := tn1 124 (by decide +kernel)
theorem nw_1_134 : (Jvm.Cond.not (Jvm.Cond.eq (Jvm.Term.static "LarderPatrol$Verb" "LINK" "LLarderPatrol$Verb;") (Jvm.Term.static "LarderPatrol$Verb" "CUT" "LLarderPatrol$Verb;"))) ∈ flatC (given_1.and narrow_1) := tn1 134 (by decide +kernel)
theorem nw_1_97 : (Jvm.Cond.not (Jvm.Cond.eq (Jvm.Term.static "LarderPatrol$Verb" "SHELF" "LLarderPatrol$Verb;") (Jvm.Term.static "LarderPatrol$Verb" "HIDE" "LLarderPatrol$Verb;"))) ∈ flatC (given_1.and narrow_1) := tn1 97 (by decide +kernel)
theorem nw_1_119 : (Jvm.Cond.not (Jvm.Cond.eq (Jvm.Term.static "LarderPatrol$Verb" "HIDE" "LLarderPatrol$Verb;") (Jvm.Term.static "LarderPatrol$Verb" "LINK" "LLarderPatrol$Verb;"))) ∈ flatC (given_1.and narrow_1) := tn1 119 (by decide +kernel)
theorem nw_1_133 : (Jvm.Cond.not (Jvm.Cond.eq (Jvm.Term.static "LarderPatrol$Verb" "HIDE" "LLarderPatrol$Verb;") (Jvm.Term.static "LarderPatrol$Verb" "CUT" "LLarderPatrol$Verb;"))) ∈ flatC (given_1.and narrow_1) := tn1 133 (by decide +kernel)
theorem nw_1_139 : (Jvm.Cond.not (Jvm.Cond.eq (Jvm.Term.static "LarderPatrol$Verb" "SHELF" "LLarderPatrol$Verb;") (Jvm.Term.static "LarderPatrol$Verb" "SHOW" "LLarderPatrol$Verb;"))) ∈ flatC (given_1.and narrow_1) := tn1 139 (by decide +kernel)
theorem nw_1_149 : (Jvm.Cond.not (Jvm.Cond.eq (Jvm.Term.static "LarderPatrol$Verb" "LINK" "LLarderPatrol$Verb;") (Jvm.Term.static "LarderPatrol$Verb" "SHOW" "LLarderPatrol$Verb;"))) ∈ flatC (given_1.and narrow_1) := tn1 149 (by decide +kernel)
theorem nw_1_150 : (Jvm.Cond.not (Jvm.Cond.eq (Jvm.Term.static "LarderPatrol$Verb" "CUT" "LLarderPatrol$Verb;") (Jvm.Term.static "LarderPatrol$Verb" "SHOW" "LLarderPatrol$Verb;"))) ∈ flatC (given_1.and narrow_1) := tn1 150 (by decide +kernel)
theorem nw_1_148 : (Jvm.Cond.not (Jvm.Cond.eq (Jvm.Term.static "LarderPatrol$Verb" "HIDE" "LLarderPatrol$Verb;") (Jvm.Term.static "LarderPatrol$Verb" "SHOW" "LLarderPatrol$Verb;"))) ∈ flatC (given_1.and narrow_1) := tn1 148 (by decide +kernel)
theorem nw_1_155 : (Jvm.Cond.not (Jvm.Cond.eq (Jvm.Term.static "LarderPatrol$Verb" "SHELF" "LLarderPatrol$Verb;") (Jvm.Term.static "LarderPatrol$Verb" "FILL" "LLarderPatrol$Verb;"))) ∈ flatC (given_1.and narrow_1) := tn1 155 (by decide +kernel)
theorem nw_1_165 : (Jvm.Cond.not (Jvm.Cond.eq (Jvm.Term.static "LarderPatrol$Verb" "LINK" "LLarderPatrol$Verb;") (Jvm.Term.static "LarderPatrol$Verb" "FILL" "LLarderPatrol$Verb;"))) ∈ flatC (given_1.and narrow_1) := tn1 165 (by decide +kernel)
theorem nw_1_166 : (Jvm.Cond.not (Jvm.Cond.eq (Jvm.Term.static "LarderPatrol$Verb" "CUT" "LLarderPatrol$Verb;") (Jvm.Term.static "LarderPatrol$Verb" "FILL" "LLarderPatrol$Verb;"))) ∈ flatC (given_1.and narrow_1) := tn1 166 (by decide +kernel)
theorem nw_1_164 : (Jvm.Cond.not (Jvm.Cond.eq (Jvm.Term.static "LarderPatrol$Verb" "HIDE" "LLarderPatrol$Verb;") (Jvm.Term.static "LarderPatrol$Verb" "FILL" "LLarderPatrol$Verb;"))) ∈ flatC (given_1.and narrow_1) := tn1 164 (by decide +kernel)
theorem nw_1_167 : (Jvm.Cond.not (Jvm.Cond.eq (Jvm.Term.static "LarderPatrol$Verb" "SHOW" "LLarderPatrol$Verb;") (Jvm.Term.static "LarderPatrol$Verb" "FILL" "LLarderPatrol$Verb;"))) ∈ flatC (given_1.and narrow_1) := tn1 167 (by decide +kernel)
theorem nw_1_172 : (Jvm.Cond.not (Jvm.Cond.eq (Jvm.Term.static "LarderPatrol$Verb" "SHELF" "LLarderPatrol$Verb;") (Jvm.Term.static "LarderPatrol$Verb" "STOP" "LLarderPatrol$Verb;"))) ∈ flatC (given_1.and narrow_1) := tn1 172 (by decide +kernel)
theorem nw_1_182 : (Jvm.Cond.not (Jvm.Cond.eq (Jvm.Term.static "LarderPatrol$Verb" "LINK" "LLarderPatrol$Verb;") (Jvm.Term.static "LarderPatrol$Verb" "STOP" "LLarderPatrol$Verb;"))) ∈ flatC (given_1.and narrow_1) := tn1 182 (by decide +kernel)
theorem nw_1_183 : (Jvm.Cond.not (Jvm.Cond.eq (Jvm.Term.static "LarderPatrol$Verb" "CUT" "LLarderPatrol$Verb;") (Jvm.Term.static "LarderPatrol$Verb" "STOP" "LLarderPatrol$Verb;"))) ∈ flatC (given_1.and narrow_1) := tn1 183 (by decide +kernel)
theorem nw_1_181 : (Jvm.Cond.not (Jvm.Cond.eq (Jvm.Term.static "LarderPatrol$Verb" "HIDE" "LLarderPatrol$Verb;") (Jvm.Term.static "LarderPatrol$Verb" "STOP" "LLarderPatrol$Verb;"))) ∈ flatC (given_1.and narrow_1) := tn1 181 (by decide +kernel)
theorem nw_1_184 : (Jvm.Cond.not (Jvm.Cond.eq (Jvm.Term.static "LarderPatrol$Verb" "SHOW" "LLarderPatrol$Verb;") (Jvm.Term.static "LarderPatrol$Verb" "STOP" "LLarderPatrol$Verb;"))) ∈ flatC (given_1.and narrow_1) := tn1 184 (by decide +kernel)
theorem nw_1_185 : (Jvm.Cond.not (Jvm.Cond.eq (Jvm.Term.static "LarderPatrol$Verb" "FILL" "LLarderPatrol$Verb;") (Jvm.Term.static "LarderPatrol$Verb" "STOP" "LLarderPatrol$Verb;"))) ∈ flatC (given_1.and narrow_1) := tn1 185 (by decide +kernel)
theorem nw_1_190 : (Jvm.Cond.not (Jvm.Cond.eq (Jvm.Term.static "LarderPatrol$Verb" "SHELF" "LLarderPatrol$Verb;") (Jvm.Term.static "LarderPatrol$Verb" "DROP" "LLarderPatrol$Verb;"))) ∈ flatC (given_1.and narrow_1) := tn1 190 (by decide +kernel)
theorem nw_1_200 : (Jvm.Cond.not (Jvm.Cond.eq (Jvm.Term.static "LarderPatrol$Verb" "LINK" "LLarderPatrol$Verb;") (Jvm.Term.static "LarderPatrol$Verb" "DROP" "LLarderPatrol$Verb;"))) ∈ flatC (given_1.and narrow_1) := tn1 200 (by decide +kernel)
theorem nw_1_201 : (Jvm.Cond.not (Jvm.Cond.eq (Jvm.Term.static "LarderPatrol$Verb" "CUT" "LLarderPatrol$Verb;") (Jvm.Term.static "LarderPatrol$Verb" "DROP" "LLarderPatrol$Verb;"))) ∈ flatC (given_1.and narrow_1) := tn1 201 (by decide +kernel)
theorem nw_1_199 : (Jvm.Cond.not (Jvm.Cond.eq (Jvm.Term.static "LarderPatrol$Verb" "HIDE" "LLarderPatrol$Verb;") (Jvm.Term.static "LarderPatrol$Verb" "DROP" "LLarderPatrol$Verb;"))) ∈ flatC (given_1.and narrow_1) := tn1 199 (by decide +kernel)
theorem nw_1_202 : (Jvm.Cond.not (Jvm.Cond.eq (Jvm.Term.static "LarderPatrol$Verb" "SHOW" "LLarderPatrol$Verb;") (Jvm.Term.static "LarderPatrol$Verb" "DROP" "LLarderPatrol$Verb;"))) ∈ flatC (given_1.and narrow_1) := tn1 202 (by decide +kernel)
theorem nw_1_203 : (Jvm.Cond.not (Jvm.Cond.eq (Jvm.Term.static "LarderPatrol$Verb" "FILL" "LLarderPatrol$Verb;") (Jvm.Term.static "LarderPatrol$Verb" "DROP" "LLarderPatrol$Verb;"))) ∈ flatC (given_1.and narrow_1) := tn1 203 (by decide +kernel)
theorem nw_1_204 : (Jvm.Cond.not (Jvm.Cond.eq (Jvm.Term.static "LarderPatrol$Verb" "STOP" "LLarderPatrol$Verb;") (Jvm.Term.static "LarderPatrol$Verb" "DROP" "LLarderPatrol$Verb;"))) ∈ flatC (given_1.and narrow_1) := tn1 204 (by decide +kernel)
theorem nw_1_229 : (Jvm.Cond.not (Jvm.Cond.eq (Jvm.Term.static "LarderPatrol$Verb" "SHELF" "LLarderPatrol$Verb;") (Jvm.Term.static "LarderPatrol$Verb" "RATE" "LLarderPatrol$Verb;"))) ∈ flatC (given_1.and narrow_1) := tn1 229 (by decide +kernel)
theorem nw_1_239 : (Jvm.Cond.not (Jvm.Cond.eq (Jvm.Term.static "LarderPatrol$Verb" "LINK" "LLarderPatrol$Verb;") (Jvm.Term.static "LarderPatrol$Verb" "RATE" "LLarderPatrol$Verb;"))) ∈ flatC (given_1.and narrow_1) := tn1 239 (by decide +kernel)
theorem nw_1_240 : (Jvm.Cond.not (Jvm.Cond.eq (Jvm.Term.static "LarderPatrol$Verb" "CUT" "LLarderPatrol$Verb;") (Jvm.Term.static "LarderPatrol$Verb" "RATE" "LLarderPatrol$Verb;"))) ∈ flatC (given_1.and narrow_1) := tn1 240 (by decide +kernel)
theorem nw_1_238 : (Jvm.Cond.not (Jvm.Cond.eq (Jvm.Term.static "LarderPatrol$Verb" "HIDE" "LLarderPatrol$Verb;") (Jvm.Term.static "LarderPatrol$Verb" "RATE" "LLarderPatrol$Verb;"))) ∈ flatC (given_1.and narrow_1) := tn1 238 (by decide +kernel)
theorem nw_1_241 : (Jvm.Cond.not (Jvm.Cond.eq (Jvm.Term.static "LarderPatrol$Verb" "SHOW" "LLarderPatrol$Verb;") (Jvm.Term.static "LarderPatrol$Verb" "RATE" "LLarderPatrol$Verb;"))) ∈ flatC (given_1.and narrow_1) := tn1 241 (by decide +kernel)
theorem nw_1_242 : (Jvm.Cond.not (Jvm.Cond.eq (Jvm.Term.static "LarderPatrol$Verb" "FILL" "LLarderPatrol$Verb;") (Jvm.Term.static "LarderPatrol$Verb" "RATE" "LLarderPatrol$Verb;"))) ∈ flatC (given_1.and narrow_1) := tn1 242 (by decide +kernel)
theorem nw_1_243 : (Jvm.Cond.not (Jvm.Cond.eq (Jvm.Term.static "LarderPatrol$Verb" "STOP" "LLarderPatrol$Verb;") (Jvm.Term.static "LarderPatrol$Verb" "RATE" "LLarderPatrol$Verb;"))) ∈ flatC (given_1.and narrow_1) := tn1 243 (by decide +kernel)
theorem nw_1_244 : (Jvm.Cond.not (Jvm.Cond.eq (Jvm.Term.static "LarderPatrol$Verb" "DROP" "LLarderPatrol$Verb;") (Jvm.Term.static "LarderPatrol$Verb" "RATE" "LLarderPatrol$Verb;"))) ∈ flatC (given_1.and narrow_1) := tn1 244 (by decide +kernel)
theorem nw_1_250 : (Jvm.Cond.not (Jvm.Cond.eq (Jvm.Term.static "LarderPatrol$Verb" "SHELF" "LLarderPatrol$Verb;") (Jvm.Term.static "LarderPatrol$Verb" "SEED" "LLarderPatrol$Verb;"))) ∈ flatC (given_1.and narrow_1) := tn1 250 (by decide +kernel)
theorem nw_1_260 : (Jvm.Cond.not (Jvm.Cond.eq (Jvm.Term.static "LarderPatrol$Verb" "LINK" "LLarderPatrol$Verb;") (Jvm.Term.static "LarderPatrol$Verb" "SEED" "LLarderPatrol$Verb;"))) ∈ flatC (given_1.and narrow_1) := tn1 260 (by decide +kernel)
theorem nw_1_261 : (Jvm.Cond.not (Jvm.Cond.eq (Jvm.Term.static "LarderPatrol$Verb" "CUT" "LLarderPatrol$Verb;") (Jvm.Term.static "LarderPatrol$Verb" "SEED" "LLarderPatrol$Verb;"))) ∈ flatC (given_1.and narrow_1) := tn1 261 (by decide +kernel)
theorem nw_1_259 : (Jvm.Cond.not (Jvm.Cond.eq (Jvm.Term.static "LarderPatrol$Verb" "HIDE" "LLarderPatrol$Verb;") (Jvm.Term.static "LarderPatrol$Verb" "SEED" "LLarderPatrol$Verb;"))) ∈ flatC (given_1.and narrow_1) := tn1 259 (by decide +kernel)
theorem nw_1_262 : (Jvm.Cond.not (Jvm.Cond.eq (Jvm.Term.static "LarderPatrol$Verb" "SHOW" "LLarderPatrol$Verb;") (Jvm.Term.static "LarderPatrol$Verb" "SEED" "LLarderPatrol$Verb;"))) ∈ flatC (given_1.and narrow_1) := tn1 262 (by decide +kernel)
theorem nw_1_263 : (Jvm.Cond.not (Jvm.Cond.eq (Jvm.Term.static "LarderPatrol$Verb" "FILL" "LLarderPatrol$Verb;") (Jvm.Term.static "LarderPatrol$Verb" "SEED" "LLarderPatrol$Verb;"))) ∈ flatC (given_1.and narrow_1) := tn1 263 (by decide +kernel)
theorem nw_1_264 : (Jvm.Cond.not (Jvm.Cond.eq (Jvm.Term.static "LarderPatrol$Verb" "STOP" "LLarderPatrol$Verb;") (Jvm.Term.static "LarderPatrol$Verb" "SEED" "LLarderPatrol$Verb;"))) ∈ flatC (given_1.and narrow_1) := tn1 264 (by decide +kernel)
theorem nw_1_265 : (Jvm.Cond.not (Jvm.Cond.eq (Jvm.Term.static "LarderPatrol$Verb" "DROP" "LLarderPatrol$Verb;") (Jvm.Term.static "LarderPatrol$Verb" "SEED" "LLarderPatrol$Verb;"))) ∈ flatC (given_1.and narrow_1) := tn1 265 (by decide +kernel)
theorem nw_1_267 : (Jvm.Cond.not (Jvm.Cond.eq (Jvm.Term.static "LarderPatrol$Verb" "RATE" "LLarderPatrol$Verb;") (Jvm.Term.static "LarderPatrol$Verb" "SEED" "LLarderPatrol$Verb;"))) ∈ flatC (given_1.and narrow_1) := tn1 267 (by decide +kernel)
theorem nw_1_209 : (Jvm.Cond.not (Jvm.Cond.eq (Jvm.Term.static "LarderPatrol$Verb" "SHELF" "LLarderPatrol$Verb;") (Jvm.Term.static "LarderPatrol$Verb" "WAIT" "LLarderPatrol$Verb;"))) ∈ flatC (given_1.and narrow_1) := tn1 209 (by decide +kernel)
theorem nw_1_219 : (Jvm.Cond.not (Jvm.Cond.eq (Jvm.Term.static "LarderPatrol$Verb" "LINK" "LLarderPatrol$Verb;") (Jvm.Term.static "LarderPatrol$Verb" "WAIT" "LLarderPatrol$Verb;"))) ∈ flatC (given_1.and narrow_1) := tn1 219 (by decide +kernel)
theorem nw_1_220 : (Jvm.Cond.not (Jvm.Cond.eq (Jvm.Term.static "LarderPatrol$Verb" "CUT" "LLarderPatrol$Verb;") (Jvm.Term.static "LarderPatrol$Verb" "WAIT" "LLarderPatrol$Verb;"))) ∈ flatC (given_1.and narrow_1) := tn1 220 (by decide +kernel)
theorem nw_1_218 : (Jvm.Cond.not (Jvm.Cond.eq (Jvm.Term.static "LarderPatrol$Verb" "HIDE" "LLarderPatrol$Verb;") (Jvm.Term.static "LarderPatrol$Verb" "WAIT" "LLarderPatrol$Verb;"))) ∈ flatC (given_1.and narrow_1) := tn1 218 (by decide +kernel)
theorem nw_1_221 : (Jvm.Cond.not (Jvm.Cond.eq (Jvm.Term.static "LarderPatrol$Verb" "SHOW" "LLarderPatrol$Verb;") (Jvm.Term.static "LarderPatrol$Verb" "WAIT" "LLarderPatrol$Verb;"))) ∈ flatC (given_1.and narrow_1) := tn1 221 (by decide +kernel)
theorem nw_1_222 : (Jvm.Cond.not (Jvm.Cond.eq (Jvm.Term.static "LarderPatrol$Verb" "FILL" "LLarderPatrol$Verb;") (Jvm.Term.static "LarderPatrol$Verb" "WAIT" "LLarderPatrol$Verb;"))) ∈ flatC (given_1.and narrow_1) := tn1 222 (by decide +kernel)
theorem nw_1_223 : (Jvm.Cond.not (Jvm.Cond.eq (Jvm.Term.static "LarderPatrol$Verb" "STOP" "LLarderPatrol$Verb;") (Jvm.Term.static "LarderPatrol$Verb" "WAIT" "LLarderPatrol$Verb;"))) ∈ flatC (given_1.and narrow_1) := tn1 223 (by decide +kernel)
theorem nw_1_224 : (Jvm.Cond.not (Jvm.Cond.eq (Jvm.Term.static "LarderPatrol$Verb" "DROP" "LLarderPatrol$Verb;") (Jvm.Term.static "LarderPatrol$Verb" "WAIT" "LLarderPatrol$Verb;"))) ∈ flatC (given_1.and narrow_1) := tn1 224 (by decide +kernel)
theorem nw_1_245 : (Jvm.Cond.not (Jvm.Cond.eq (Jvm.Term.static "LarderPatrol$Verb" "WAIT" "LLarderPatrol$Verb;") (Jvm.Term.static "LarderPatrol$Verb" "RATE" "LLarderPatrol$Verb;"))) ∈ flatC (given_1.and narrow_1) := tn1 245 (by decide +kernel)
theorem nw_1_266 : (Jvm.Cond.not (Jvm.Cond.eq (Jvm.Term.static "LarderPatrol$Verb" "WAIT" "LLarderPatrol$Verb;") (Jvm.Term.static "LarderPatrol$Verb" "SEED" "LLarderPatrol$Verb;"))) ∈ flatC (given_1.and narrow_1) := tn1 266 (by decide +kernel)
theorem nw_1_29 : (Jvm.Cond.exactly (Jvm.Term.static "LarderPatrol$Refusal" "NOTHING" "LLarderPatrol$Refusal;") "LarderPatrol$Refusal") ∈ flatC (given_1.and narrow_1) := tn1 29 (by decide +kernel)
theorem nw_1_24 : (Jvm.Cond.exactly (Jvm.Term.static "LarderPatrol$Refusal" "LIMIT" "LLarderPatrol$Refusal;") "LarderPatrol$Refusal") ∈ flatC (given_1.and narrow_1) := tn1 24 (by decide +kernel)
theorem nw_1_42 : (Jvm.Cond.exactly (Jvm.Term.static "LarderPatrol$Refusal" "SAME_SHELF" "LLarderPatrol$Refusal;") "LarderPatrol$Refusal") ∈ flatC (given_1.and narrow_1) := tn1 42 (by decide +kernel)
theorem nw_1_50 : (Jvm.Cond.exactly (Jvm.Term.static "LarderPatrol$Refusal" "CONNECTED" "LLarderPatrol$Refusal;") "LarderPatrol$Refusal") ∈ flatC (given_1.and narrow_1) := tn1 50 (by decide +kernel)
theorem nw_1_59 : (Jvm.Cond.exactly (Jvm.Term.static "LarderPatrol$Refusal" "NOT_CONNECTED" "LLarderPatrol$Refusal;") "LarderPatrol$Refusal") ∈ flatC (given_1.and narrow_1) := tn1 59 (by decide +kernel)
theorem nw_1_69 : (Jvm.Cond.exactly (Jvm.Term.static "LarderPatrol$Refusal" "PRESENT_VALUE" "LLarderPatrol$Refusal;") "LarderPatrol$Refusal") ∈ flatC (given_1.and narrow_1) := tn1 69 (by decide +kernel)
theorem nw_1_35 : (Jvm.Cond.exactly (Jvm.Term.static "LarderPatrol$Refusal" "NO_SUCH_INDEX" "LLarderPatrol$Refusal;") "LarderPatrol$Refusal") ∈ flatC (given_1.and narrow_1) := tn1 35 (by decide +kernel)
theorem nw_1_20 : (Jvm.Cond.exactly (Jvm.Term.static "LarderPatrol$Refusal" "OUT_OF_RANGE" "LLarderPatrol$Refusal;") "LarderPatrol$Refusal") ∈ flatC (given_1.and narrow_1) := tn1 20 (by decide +kernel)
theorem nw_1_30 : (Jvm.Cond.eq (Jvm.Term.field (Jvm.Term.static "LarderPatrol$Refusal" "NOTHING" "LLarderPatrol$Refusal;") "java/lang/Enum" "ordinal" "I") (Jvm.Term.int (0 : Int32))) ∈ flatC (given_1.and narrow_1) := tn1 30 (by decide +kernel)
theorem nw_1_25 : (Jvm.Cond.eq (Jvm.Term.field (Jvm.Term.static "LarderPatrol$Refusal" "LIMIT" "LLarderPatrol$Refusal;") "java/lang/Enum" "ordinal" "I") (Jvm.Term.int (1 : Int32))) ∈ flatC (given_1.and narrow_1) := tn1 25 (by decide +kernel)
theorem nw_1_43 : (Jvm.Cond.eq (Jvm.Term.field (Jvm.Term.static "LarderPatrol$Refusal" "SAME_SHELF" "LLarderPatrol$Refusal;") "java/lang/Enum" "ordinal" "I") (Jvm.Term.int (2 : Int32))) ∈ flatC (given_1.and narrow_1) := tn1 43 (by decide +kernel)
theorem nw_1_51 : (Jvm.Cond.eq (Jvm.Term.field (Jvm.Term.static "LarderPatrol$Refusal" "CONNECTED" "LLarderPatrol$Refusal;") "java/lang/Enum" "ordinal" "I") (Jvm.Term.int (3 : Int32))) ∈ flatC (given_1.and narrow_1) := tn1 51 (by decide +kernel)
theorem nw_1_60 : (Jvm.Cond.eq (Jvm.Term.field (Jvm.Term.static "LarderPatrol$Refusal" "NOT_CONNECTED" "LLarderPatrol$Refusal;") "java/lang/Enum" "ordinal" "I") (Jvm.Term.int (4 : Int32))) ∈ flatC (given_1.and narrow_1) := tn1 60 (by decide +kernel)
theorem nw_1_70 : (Jvm.Cond.eq (Jvm.Term.field (Jvm.Term.static "LarderPatrol$Refusal" "PRESENT_VALUE" "LLarderPatrol$Refusal;") "java/lang/Enum" "ordinal" "I") (Jvm.Term.int (5 : Int32))) ∈ flatC (given_1.and narrow_1) := tn1 70 (by decide +kernel)
theorem nw_1_36 : (Jvm.Cond.eq (Jvm.Term.field (Jvm.Term.static "LarderPatrol$Refusal" "NO_SUCH_INDEX" "LLarderPatrol$Refusal;") "java/lang/Enum" "ordinal" "I") (Jvm.Term.int (6 : Int32))) ∈ flatC (given_1.and narrow_1) := tn1 36 (by decide +kernel)
theorem nw_1_21 : (Jvm.Cond.eq (Jvm.Term.field (Jvm.Term.static "LarderPatrol$Refusal" "OUT_OF_RANGE" "LLarderPatrol$Refusal;") "java/lang/Enum" "ordinal" "I") (Jvm.Term.int (7 : Int32))) ∈ flatC (given_1.and narrow_1) := tn1 21 (by decide +kernel)
theorem nw_1_31 : (Jvm.Cond.eq (Jvm.Term.field (Jvm.Term.static "LarderPatrol$Refusal" "NOTHING" "LLarderPatrol$Refusal;") "LarderPatrol$Refusal" "number" "I") (Jvm.Term.int (0 : Int32))) ∈ flatC (given_1.and narrow_1) := tn1 31 (by decide +kernel)
theorem nw_1_26 : (Jvm.Cond.eq (Jvm.Term.field (Jvm.Term.static "LarderPatrol$Refusal" "LIMIT" "LLarderPatrol$Refusal;") "LarderPatrol$Refusal" "number" "I") (Jvm.Term.int (1 : Int32))) ∈ flatC (given_1.and narrow_1) := tn1 26 (by decide +kernel)
theorem nw_1_44 : (Jvm.Cond.eq (Jvm.Term.field (Jvm.Term.static "LarderPatrol$Refusal" "SAME_SHELF" "LLarderPatrol$Refusal;") "LarderPatrol$Refusal" "number" "I") (Jvm.Term.int (2 : Int32))) ∈ flatC (given_1.and narrow_1) := tn1 44 (by decide +kernel)
theorem nw_1_52 : (Jvm.Cond.eq (Jvm.Term.field (Jvm.Term.static "LarderPatrol$Refusal" "CONNECTED" "LLarderPatrol$Refusal;") "LarderPatrol$Refusal" "number" "I") (Jvm.Term.int (3 : Int32))) ∈ flatC (given_1.and narrow_1) := tn1 52 (by decide +kernel)
theorem nw_1_61 : (Jvm.Cond.eq (Jvm.Term.field (Jvm.Term.static "LarderPatrol$Refusal" "NOT_CONNECTED" "LLarderPatrol$Refusal;") "LarderPatrol$Refusal" "number" "I") (Jvm.Term.int (4 : Int32))) ∈ flatC (given_1.and narrow_1) := tn1 61 (by decide +kernel)
theorem nw_1_71 : (Jvm.Cond.eq (Jvm.Term.field (Jvm.Term.static "LarderPatrol$Refusal" "PRESENT_VALUE" "LLarderPatrol$Refusal;") "LarderPatrol$Refusal" "number" "I") (Jvm.Term.int (5 : Int32))) ∈ flatC (given_1.and narrow_1) := tn1 71 (by decide +kernel)
theorem nw_1_37 : (Jvm.Cond.eq (Jvm.Term.field (Jvm.Term.static "LarderPatrol$Refusal" "NO_SUCH_INDEX" "LLarderPatrol$Refusal;") "LarderPatrol$Refusal" "number" "I") (Jvm.Term.int (7 : Int32))) ∈ flatC (given_1.and narrow_1) := tn1 37 (by decide +kernel)
theorem nw_1_22 : (Jvm.Cond.eq (Jvm.Term.field (Jvm.Term.static "LarderPatrol$Refusal" "OUT_OF_RANGE" "LLarderPatrol$Refusal;") "LarderPatrol$Refusal" "number" "I") (Jvm.Term.int (7 : Int32))) ∈ flatC (given_1.and narrow_1) := tn1 22 (by decide +kernel)
theorem nw_1_34 : (Jvm.Cond.not (Jvm.Cond.eq (Jvm.Term.static "LarderPatrol$Refusal" "LIMIT" "LLarderPatrol$Refusal;") (Jvm.Term.static "LarderPatrol$Refusal" "NOTHING" "LLarderPatrol$Refusal;"))) ∈ flatC (given_1.and narrow_1) := tn1 34 (by decide +kernel)
theorem nw_1_48 : (Jvm.Cond.not (Jvm.Cond.eq (Jvm.Term.static "LarderPatrol$Refusal" "NOTHING" "LLarderPatrol$Refusal;") (Jvm.Term.static "LarderPatrol$Refusal" "SAME_SHELF" "LLarderPatrol$Refusal;"))) ∈ flatC (given_1.and narrow_1) := tn1 48 (by decide +kernel)
theorem nw_1_47 : (Jvm.Cond.not (Jvm.Cond.eq (Jvm.Term.static "LarderPatrol$Refusal" "LIMIT" "LLarderPatrol$Refusal;") (Jvm.Term.static "LarderPatrol$Refusal" "SAME_SHELF" "LLarderPatrol$Refusal;"))) ∈ flatC (given_1.and narrow_1) := tn1 47 (by decide +kernel)
theorem nw_1_56 : (Jvm.Cond.not (Jvm.Cond.eq (Jvm.Term.static "LarderPatrol$Refusal" "NOTHING" "LLarderPatrol$Refusal;") (Jvm.Term.static "LarderPatrol$Refusal" "CONNECTED" "LLarderPatrol$Refusal;"))) ∈ flatC (given_1.and narrow_1) := tn1 56 (by decide +kernel)
theorem nw_1_55 : (Jvm.Cond.not (Jvm.Cond.eq (Jvm.Term.static "LarderPatrol$Refusal" "LIMIT" "LLarderPatrol$Refusal;") (Jvm.Term.static "LarderPatrol$Refusal" "CONNECTED" "LLarderPatrol$Refusal;"))) ∈ flatC (given_1.and narrow_1) := tn1 55 (by decide +kernel)
theorem nw_1_58 : (Jvm.Cond.not (Jvm.Cond.eq (Jvm.Term.static "LarderPatrol$Refusal" "SAME_SHELF" "LLarderPatrol$Refusal;") (Jvm.Term.static "LarderPatrol$Refusal" "CONNECTED" "LLarderPatrol$Refusal;"))) ∈ flatC (given_1.and narrow_1) := tn1 58 (by decide +kernel)
theorem nw_1_65 : (Jvm.Cond.not (Jvm.Cond.eq (Jvm.Term.static "LarderPatrol$Refusal" "NOTHING" "LLarderPatrol$Refusal;") (Jvm.Term.static "LarderPatrol$Refusal" "NOT_CONNECTED" "LLarderPatrol$Refusal;"))) ∈ flatC (given_1.and narrow_1) := tn1 65 (by decide +kernel)
theorem nw_1_64 : (Jvm.Cond.not (Jvm.Cond.eq (Jvm.Term.static "LarderPatrol$Refusal" "LIMIT" "LLarderPatrol$Refusal;") (Jvm.Term.static "LarderPatrol$Refusal" "NOT_CONNECTED" "LLarderPatrol$Refusal;"))) ∈ flatC (given_1.and narrow_1) := tn1 64 (by decide +kernel)
theorem nw_1_67 : (Jvm.Cond.not (Jvm.Cond.eq (Jvm.Term.static "LarderPatrol$Refusal" "SAME_SHELF" "LLarderPatrol$Refusal;") (Jvm.Term.static "LarderPatrol$Refusal" "NOT_CONNECTED" "LLarderPatrol$Refusal;"))) ∈ flatC (given_1.and narrow_1) := tn1 67 (by decide +kernel)
theorem nw_1_68 : (Jvm.Cond.not (Jvm.Cond.eq (Jvm.Term.static "LarderPatrol$Refusal" "CONNECTED" "LLarderPatrol$Refusal;") (Jvm.Term.static "LarderPatrol$Refusal" "NOT_CONNECTED" "LLarderPatrol$Refusal;"))) ∈ flatC (given_1.and narrow_1) := tn1 68 (by decide +kernel)
theorem nw_1_75 : (Jvm.Cond.not (Jvm.Cond.eq (Jvm.Term.static "LarderPatrol$Refusal" "NOTHING" "LLarderPatrol$Refusal;") (Jvm.Term.static "LarderPatrol$Refusal" "PRESENT_VALUE" "LLarderPatrol$Refusal;"))) ∈ flatC (given_1.and narrow_1) := tn1 75 (by decide +kernel)
theorem nw_1_74 : (Jvm.Cond.not (Jvm.Cond.eq (Jvm.Term.static "LarderPatrol$Refusal" "LIMIT" "LLarderPatrol$Refusal;") (Jvm.Term.static "LarderPatrol$Refusal" "PRESENT_VALUE" "LLarderPatrol$Refusal;"))) ∈ flatC (given_1.and narrow_1) := tn1 74 (by decide +kernel)
theorem nw_1_77 : (Jvm.Cond.not (Jvm.Cond.eq (Jvm.Term.static "LarderPatrol$Refusal" "SAME_SHELF" "LLarderPatrol$Refusal;") (Jvm.Term.static "LarderPatrol$Refusal" "PRESENT_VALUE" "LLarderPatrol$Refusal;"))) ∈ flatC (given_1.and narrow_1) := tn1 77 (by decide +kernel)
theorem nw_1_78 : (Jvm.Cond.not (Jvm.Cond.eq (Jvm.Term.static "LarderPatrol$Refusal" "CONNECTED" "LLarderPatrol$Refusal;") (Jvm.Term.static "LarderPatrol$Refusal" "PRESENT_VALUE" "LLarderPatrol$Refusal;"))) ∈ flatC (given_1.and narrow_1) := tn1 78 (by decide +kernel)
theorem nw_1_79 : (Jvm.Cond.not (Jvm.Cond.eq (Jvm.Term.static "LarderPatrol$Refusal" "NOT_CONNECTED" "LLarderPatrol$Refusal;") (Jvm.Term.static "LarderPatrol$Refusal" "PRESENT_VALUE" "LLarderPatrol$Refusal;"))) ∈ flatC (given_1.and narrow_1) := tn1 79 (by decide +kernel)
theorem nw_1_41 : (Jvm.Cond.not (Jvm.Cond.eq (Jvm.Term.static "LarderPatrol$Refusal" "NOTHING" "LLarderPatrol$Refusal;") (Jvm.Term.static "LarderPatrol$Refusal" "NO_SUCH_INDEX" "LLarderPatrol$Refusal;"))) ∈ flatC (given_1.and narrow_1) := tn1 41 (by decide +kernel)
theorem nw_1_40 : (Jvm.Cond.not (Jvm.Cond.eq (Jvm.Term.static "LarderPatrol$Refusal" "LIMIT" "LLarderPatrol$Refusal;") (Jvm.Term.static "LarderPatrol$Refusal" "NO_SUCH_INDEX" "LLarderPatrol$Refusal;"))) ∈ flatC (given_1.and narrow_1) := tn1 40 (by decide +kernel)
theorem nw_1_49 : (Jvm.Cond.not (Jvm.Cond.eq (Jvm.Term.static "LarderPatrol$Refusal" "NO_SUCH_INDEX" "LLarderPatrol$Refusal;") (Jvm.Term.static "LarderPatrol$Refusal" "SAME_SHELF" "LLarderPatrol$Refusal;"))) ∈ flatC (given_1.and narrow_1) := tn1 49 (by decide +kernel)
theorem nw_1_57 : (Jvm.Cond.not (Jvm.Cond.eq (Jvm.Term.static "LarderPatrol$Refusal" "NO_SUCH_INDEX" "LLarderPatrol$Refusal;") (Jvm.Term.static "LarderPatrol$Refusal" "CONNECTED" "LLarderPatrol$Refusal;"))) ∈ flatC (given_1.and narrow_1) := tn1 57 (by decide +kernel)
theorem nw_1_66 : (Jvm.Cond.not (Jvm.Cond.eq (Jvm.Term.static "LarderPatrol$Refusal" "NO_SUCH_INDEX" "LLarderPatrol$Refusal;") (Jvm.Term.static "LarderPatrol$Refusal" "NOT_CONNECTED" "LLarderPatrol$Refusal;"))) ∈ flatC (given_1.and narrow_1) := tn1 66 (by decide +kernel)
theorem nw_1_76 : (Jvm.Cond.not (Jvm.Cond.eq (Jvm.Term.static "LarderPatrol$Refusal" "NO_SUCH_INDEX" "LLarderPatrol$Refusal;") (Jvm.Term.static "LarderPatrol$Refusal" "PRESENT_VALUE" "LLarderPatrol$Refusal;"))) ∈ flatC (given_1.and narrow_1) := tn1 76 (by decide +kernel)
theorem nw_1_33 : (Jvm.Cond.not (Jvm.Cond.eq (Jvm.Term.static "LarderPatrol$Refusal" "OUT_OF_RANGE" "LLarderPatrol$Refusal;") (Jvm.Term.static "LarderPatrol$Refusal" "NOTHING" "LLarderPatrol$Refusal;"))) ∈ flatC (given_1.and narrow_1) := tn1 33 (by decide +kernel)
theorem nw_1_28 : (Jvm.Cond.not (Jvm.Cond.eq (Jvm.Term.static "LarderPatrol$Refusal" "OUT_OF_RANGE" "LLarderPatrol$Refusal;") (Jvm.Term.static "LarderPatrol$Refusal" "LIMIT" "LLarderPatrol$Refusal;"))) ∈ flatC (given_1.and narrow_1) := tn1 28 (by decide +kernel)
theorem nw_1_46 : (Jvm.Cond.not (Jvm.Cond.eq (Jvm.Term.static "LarderPatrol$Refusal" "OUT_OF_RANGE" "LLarderPatrol$Refusal;") (Jvm.Term.static "LarderPatrol$Refusal" "SAME_SHELF" "LLarderPatrol$Refusal;"))) ∈ flatC (given_1.and narrow_1) := tn1 46 (by decide +kernel)
theorem nw_1_54 : (Jvm.Cond.not (Jvm.Cond.eq (Jvm.Term.static "LarderPatrol$Refusal" "OUT_OF_RANGE" "LLarderPatrol$Refusal;") (Jvm.Term.static "LarderPatrol$Refusal" "CONNECTED" "LLarderPatrol$Refusal;"))) ∈ flatC (given_1.and narrow_1) := tn1 54 (by decide +kernel)
theorem nw_1_63 : (Jvm.Cond.not (Jvm.Cond.eq (Jvm.Term.static "LarderPatrol$Refusal" "OUT_OF_RANGE" "LLarderPatrol$Refusal;") (Jvm.Term.static "LarderPatrol$Refusal" "NOT_CONNECTED" "LLarderPatrol$Refusal;"))) ∈ flatC (given_1.and narrow_1) := tn1 63 (by decide +kernel)
theorem nw_1_73 : (Jvm.Cond.not (Jvm.Cond.eq (Jvm.Term.static "LarderPatrol$Refusal" "OUT_OF_RANGE" "LLarderPatrol$Refusal;") (Jvm.Term.static "LarderPatrol$Refusal" "PRESENT_VALUE" "LLarderPatrol$Refusal;"))) ∈ flatC (given_1.and narrow_1) := tn1 73 (by decide +kernel)
theorem nw_1_39 : (Jvm.Cond.not (Jvm.Cond.eq (Jvm.Term.static "LarderPatrol$Refusal" "OUT_OF_RANGE" "LLarderPatrol$Refusal;") (Jvm.Term.static "LarderPatrol$Refusal" "NO_SUCH_INDEX" "LLarderPatrol$Refusal;"))) ∈ flatC (given_1.and narrow_1) := tn1 39 (by decide +kernel)
theorem nw_3_252 : (Jvm.Cond.exactly (Jvm.Term.string "LarderPatrol$Verb" (67 : Nat)) "java/lang/String") ∈ flatC (given_1.and narrow_1) := tn3 252 (by decide +kernel)
theorem nw_3_273 : (Jvm.Cond.exactly (Jvm.Term.string "LarderPatrol$Verb" (73 : Nat)) "java/lang/String") ∈ flatC (given_1.and narrow_1) := tn3 273 (by decide +kernel)
theorem nw_3_285 : (Jvm.Cond.exactly (Jvm.Term.string "LarderPatrol$Verb" (76 : Nat)) "java/lang/String") ∈ flatC (given_1.and narrow_1) := tn3 285 (by decide +kernel)
theorem nw_3_263 : (Jvm.Cond.exactly (Jvm.Term.string "LarderPatrol$Verb" (79 : Nat)) "java/lang/String") ∈ flatC (given_1.and narrow_1) := tn3 263 (by decide +kernel)
theorem nw_3_296 : (Jvm.Cond.exactly (Jvm.Term.string "LarderPatrol$Verb" (82 : Nat)) "java/lang/String") ∈ flatC (given_1.and narrow_1) := tn3 296 (by decide +kernel)
theorem nw_3_306 : (Jvm.Cond.exactly (Jvm.Term.string "LarderPatrol$Verb" (85 : Nat)) "java/lang/String") ∈ flatC (given_1.and narrow_1) := tn3 306 (by decide +kernel)
theorem nw_3_318 : (Jvm.Cond.exactly (Jvm.Term.string "LarderPatrol$Verb" (88 : Nat)) "java/lang/String") ∈ flatC (given_1.and narrow_1) := tn3 318 (by decide +kernel)
theorem nw_3_328 : (Jvm.Cond.exactly (Jvm.Term.string "LarderPatrol$Verb" (91 : Nat)) "java/lang/String") ∈ flatC (given_1.and narrow_1) := tn3 328 (by decide +kernel)
theorem nw_3_348 : (Jvm.Cond.exactly (Jvm.Term.string "LarderPatrol$Verb" (94 : Nat)) "java/lang/String") ∈ flatC (given_1.and narrow_1) := tn3 348 (by decide +kernel)
theorem nw_3_358 : (Jvm.Cond.exactly (Jvm.Term.string "LarderPatrol$Verb" (97 : Nat)) "java/lang/String") ∈ flatC (given_1.and narrow_1) := tn3 358 (by decide +kernel)
theorem nw_3_338 : (Jvm.Cond.exactly (Jvm.Term.string "LarderPatrol$Verb" (100 : Nat)) "java/lang/String") ∈ flatC (given_1.and narrow_1) := tn3 338 (by decide +kernel)
theorem nw_3_253 : (Jvm.Cond.eq (Jvm.Term.field (Jvm.Term.string "LarderPatrol$Verb" (67 : Nat)) "java/lang/String" "coder" "B") (Jvm.Term.int (0 : Int32))) ∈ flatC (given_1.and narrow_1) := tn3 253 (by decide +kernel)
theorem nw_3_274 : (Jvm.Cond.eq (Jvm.Term.field (Jvm.Term.string "LarderPatrol$Verb" (73 : Nat)) "java/lang/String" "coder" "B") (Jvm.Term.int (0 : Int32))) ∈ flatC (given_1.and narrow_1) := tn3 274 (by decide +kernel)
theorem nw_3_286 : (Jvm.Cond.eq (Jvm.Term.field (Jvm.Term.string "LarderPatrol$Verb" (76 : Nat)) "java/lang/String" "coder" "B") (Jvm.Term.int (0 : Int32))) ∈ flatC (given_1.and narrow_1) := tn3 286 (by decide +kernel)
theorem nw_3_264 : (Jvm.Cond.eq (Jvm.Term.field (Jvm.Term.string "LarderPatrol$Verb" (79 : Nat)) "java/lang/String" "coder" "B") (Jvm.Term.int (0 : Int32))) ∈ flatC (given_1.and narrow_1) := tn3 264 (by decide +kernel)
theorem nw_3_297 : (Jvm.Cond.eq (Jvm.Term.field (Jvm.Term.string "LarderPatrol$Verb" (82 : Nat)) "java/lang/String" "coder" "B") (Jvm.Term.int (0 : Int32))) ∈ flatC (given_1.and narrow_1) := tn3 297 (by decide +kernel)
theorem nw_3_307 : (Jvm.Cond.eq (Jvm.Term.field (Jvm.Term.string "LarderPatrol$Verb" (85 : Nat)) "java/lang/String" "coder" "B") (Jvm.Term.int (0 : Int32))) ∈ flatC (given_1.and narrow_1) := tn3 307 (by decide +kernel)
theorem nw_3_319 : (Jvm.Cond.eq (Jvm.Term.field (Jvm.Term.string "LarderPatrol$Verb" (88 : Nat)) "java/lang/String" "coder" "B") (Jvm.Term.int (0 : Int32))) ∈ flatC (given_1.and narrow_1) := tn3 319 (by decide +kernel)
theorem nw_3_329 : (Jvm.Cond.eq (Jvm.Term.field (Jvm.Term.string "LarderPatrol$Verb" (91 : Nat)) "java/lang/String" "coder" "B") (Jvm.Term.int (0 : Int32))) ∈ flatC (given_1.and narrow_1) := tn3 329 (by decide +kernel)
theorem nw_3_349 : (Jvm.Cond.eq (Jvm.Term.field (Jvm.Term.string "LarderPatrol$Verb" (94 : Nat)) "java/lang/String" "coder" "B") (Jvm.Term.int (0 : Int32))) ∈ flatC (given_1.and narrow_1) := tn3 349 (by decide +kernel)
theorem nw_3_359 : (Jvm.Cond.eq (Jvm.Term.field (Jvm.Term.string "LarderPatrol$Verb" (97 : Nat)) "java/lang/String" "coder" "B") (Jvm.Term.int (0 : Int32))) ∈ flatC (given_1.and narrow_1) := tn3 359 (by decide +kernel)
theorem nw_3_339 : (Jvm.Cond.eq (Jvm.Term.field (Jvm.Term.string "LarderPatrol$Verb" (100 : Nat)) "java/lang/String" "coder" "B") (Jvm.Term.int (0 : Int32))) ∈ flatC (given_1.and narrow_1) := tn3 339 (by decide +kernel)
theorem nw_3_254 : (Jvm.Cond.arrayOf (Jvm.Term.field (Jvm.Term.string "LarderPatrol$Verb" (67 : Nat)) "java/lang/String" "value" "[B") Jvm.ClassFile.FieldType.byte) ∈ flatC (given_1.and narrow_1) := tn3 254 (by decide +kernel)
theorem nw_3_275 : (Jvm.Cond.arrayOf (Jvm.Term.field (Jvm.Term.string "LarderPatrol$Verb" (73 : Nat)) "java/lang/String" "value" "[B") Jvm.ClassFile.FieldType.byte) ∈ flatC (given_1.and narrow_1) := tn3 275 (by decide +kernel)
theorem nw_3_287 : (Jvm.Cond.arrayOf (Jvm.Term.field (Jvm.Term.string "LarderPatrol$Verb" (76 : Nat)) "java/lang/String" "value" "[B") Jvm.ClassFile.FieldType.byte) ∈ flatC (given_1.and narrow_1) := tn3 287 (by decide +kernel)
theorem nw_3_265 : (Jvm.Cond.arrayOf (Jvm.Term.field (Jvm.Term.string "LarderPatrol$Verb" (79 : Nat)) "java/lang/String" "value" "[B") Jvm.ClassFile.FieldType.byte) ∈ flatC (given_1.and narrow_1) := tn3 265 (by decide +kernel)
theorem nw_3_298 : (Jvm.Cond.arrayOf (Jvm.Term.field (Jvm.Term.string "LarderPatrol$Verb" (82 : Nat)) "java/lang/String" "value" "[B") Jvm.ClassFile.FieldType.byte) ∈ flatC (given_1.and narrow_1) := tn3 298 (by decide +kernel)
theorem nw_3_308 : (Jvm.Cond.arrayOf (Jvm.Term.field (Jvm.Term.string "LarderPatrol$Verb" (85 : Nat)) "java/lang/String" "value" "[B") Jvm.ClassFile.FieldType.byte) ∈ flatC (given_1.and narrow_1) := tn3 308 (by decide +kernel)
theorem nw_3_320 : (Jvm.Cond.arrayOf (Jvm.Term.field (Jvm.Term.string "LarderPatrol$Verb" (88 : Nat)) "java/lang/String" "value" "[B") Jvm.ClassFile.FieldType.byte) ∈ flatC (given_1.and narrow_1) := tn3 320 (by decide +kernel)
theorem nw_3_330 : (Jvm.Cond.arrayOf (Jvm.Term.field (Jvm.Term.string "LarderPatrol$Verb" (91 : Nat)) "java/lang/String" "value" "[B") Jvm.ClassFile.FieldType.byte) ∈ flatC (given_1.and narrow_1) := tn3 330 (by decide +kernel)
theorem nw_3_350 : (Jvm.Cond.arrayOf (Jvm.Term.field (Jvm.Term.string "LarderPatrol$Verb" (94 : Nat)) "java/lang/String" "value" "[B") Jvm.ClassFile.FieldType.byte) ∈ flatC (given_1.and narrow_1) := tn3 350 (by decide +kernel)
theorem nw_3_360 : (Jvm.Cond.arrayOf (Jvm.Term.field (Jvm.Term.string "LarderPatrol$Verb" (97 : Nat)) "java/lang/String" "value" "[B") Jvm.ClassFile.FieldType.byte) ∈ flatC (given_1.and narrow_1) := tn3 360 (by decide +kernel)
theorem nw_3_340 : (Jvm.Cond.arrayOf (Jvm.Term.field (Jvm.Term.string "LarderPatrol$Verb" (100 : Nat)) "java/lang/String" "value" "[B") Jvm.ClassFile.FieldType.byte) ∈ flatC (given_1.and narrow_1) := tn3 340 (by decide +kernel)
theorem nw_3_255 : (Jvm.Cond.eq (Jvm.Term.length (Jvm.Term.field (Jvm.Term.string "LarderPatrol$Verb" (67 : Nat)) "java/lang/String" "value" "[B")) (Jvm.Term.int (7 : Int32))) ∈ flatC (given_1.and narrow_1) := tn3 255 (by decide +kernel)
theorem nw_3_276 : (Jvm.Cond.eq (Jvm.Term.length (Jvm.Term.field (Jvm.Term.string "LarderPatrol$Verb" (73 : Nat)) "java/lang/String" "value" "[B")) (Jvm.Term.int (8 : Int32))) ∈ flatC (given_1.and narrow_1) := tn3 276 (by decide +kernel)
theorem nw_3_288 : (Jvm.Cond.eq (Jvm.Term.length (Jvm.Term.field (Jvm.Term.string "LarderPatrol$Verb" (76 : Nat)) "java/lang/String" "value" "[B")) (Jvm.Term.int (7 : Int32))) ∈ flatC (given_1.and narrow_1) := tn3 288 (by decide +kernel)
theorem nw_3_266 : (Jvm.Cond.eq (Jvm.Term.length (Jvm.Term.field (Jvm.Term.string "LarderPatrol$Verb" (79 : Nat)) "java/lang/String" "value" "[B")) (Jvm.Term.int (6 : Int32))) ∈ flatC (given_1.and narrow_1) := tn3 266 (by decide +kernel)
theorem nw_3_299 : (Jvm.Cond.eq (Jvm.Term.length (Jvm.Term.field (Jvm.Term.string "LarderPatrol$Verb" (82 : Nat)) "java/lang/String" "value" "[B")) (Jvm.Term.int (6 : Int32))) ∈ flatC (given_1.and narrow_1) := tn3 299 (by decide +kernel)
theorem nw_3_309 : (Jvm.Cond.eq (Jvm.Term.length (Jvm.Term.field (Jvm.Term.string "LarderPatrol$Verb" (85 : Nat)) "java/lang/String" "value" "[B")) (Jvm.Term.int (8 : Int32))) ∈ flatC (given_1.and narrow_1) := tn3 309 (by decide +kernel)
theorem nw_3_321 : (Jvm.Cond.eq (Jvm.Term.length (Jvm.Term.field (Jvm.Term.string "LarderPatrol$Verb" (88 : Nat)) "java/lang/String" "value" "[B")) (Jvm.Term.int (6 : Int32))) ∈ flatC (given_1.and narrow_1) := tn3 321 (by decide +kernel)
theorem nw_3_331 : (Jvm.Cond.eq (Jvm.Term.length (Jvm.Term.field (Jvm.Term.string "LarderPatrol$Verb" (91 : Nat)) "java/lang/String" "value" "[B")) (Jvm.Term.int (6 : Int32))) ∈ flatC (given_1.and narrow_1) := tn3 331 (by decide +kernel)
theorem nw_3_351 : (Jvm.Cond.eq (Jvm.Term.length (Jvm.Term.field (Jvm.Term.string "LarderPatrol$Verb" (94 : Nat)) "java/lang/String" "value" "[B")) (Jvm.Term.int (6 : Int32))) ∈ flatC (given_1.and narrow_1) := tn3 351 (by decide +kernel)
theorem nw_3_361 : (Jvm.Cond.eq (Jvm.Term.length (Jvm.Term.field (Jvm.Term.string "LarderPatrol$Verb" (97 : Nat)) "java/lang/String" "value" "[B")) (Jvm.Term.int (6 : Int32))) ∈ flatC (given_1.and narrow_1) := tn3 361 (by decide +kernel)
theorem nw_3_341 : (Jvm.Cond.eq (Jvm.Term.length (Jvm.Term.field (Jvm.Term.string "LarderPatrol$Verb" (100 : Nat)) "java/lang/String" "value" "[B")) (Jvm.Term.int (6 : Int32))) ∈ flatC (given_1.and narrow_1) := tn3 341 (by decide +kernel)
theorem nw_3_256 : (Jvm.Cond.eq (Jvm.Term.elem (Jvm.Term.field (Jvm.Term.string "LarderPatrol$Verb" (67 : Nat)) "java/lang/String" "value" "[B") (Jvm.Term.int (0 : Int32))) (Jvm.Term.int (115 : Int32))) ∈ flatC (given_1.and narrow_1) := tn3 256 (by decide +kernel)
theorem nw_3_257 : (Jvm.Cond.eq (Jvm.Term.elem (Jvm.Term.field (Jvm.Term.string "LarderPatrol$Verb" (67 : Nat)) "java/lang/String" "value" "[B") (Jvm.Term.int (1 : Int32))) (Jvm.Term.int (104 : Int32))) ∈ flatC (given_1.and narrow_1) := tn3 257 (by decide +kernel)
theorem nw_3_258 : (Jvm.Cond.eq (Jvm.Term.elem (Jvm.Term.field (Jvm.Term.string "LarderPatrol$Verb" (67 : Nat)) "java/lang/String" "value" "[B") (Jvm.Term.int (2 : Int32))) (Jvm.Term.int (101 : Int32))) ∈ flatC (given_1.and narrow_1) := tn3 258 (by decide +kernel)
theorem nw_3_259 : (Jvm.Cond.eq (Jvm.Term.elem (Jvm.Term.field (Jvm.Term.string "LarderPatrol$Verb" (67 : Nat)) "java/lang/String" "value" "[B") (Jvm.Term.int (3 : Int32))) (Jvm.Term.int (108 : Int32))) ∈ flatC (given_1.and narrow_1) := tn3 259 (by decide +kernel)
theorem nw_3_260 : (Jvm.Cond.eq (Jvm.Term.elem (Jvm.Term.field (Jvm.Term.string "LarderPatrol$Verb" (67 : Nat)) "java/lang/String" "value" "[B") (Jvm.Term.int (4 : Int32))) (Jvm.Term.int (102 : Int32))) ∈ flatC (given_1.and narrow_1) := tn3 260 (by decide +kernel)
theorem nw_3_261 : (Jvm.Cond.eq (Jvm.Term.elem (Jvm.Term.field (Jvm.Term.string "LarderPatrol$Verb" (67 : Nat)) "java/lang/String" "value" "[B") (Jvm.Term.int (5 : Int32))) (Jvm.Term.int (32 : Int32))) ∈ flatC (given_1.and narrow_1) := tn3 261 (by decide +kernel)
theorem nw_3_262 : (Jvm.Cond.eq (Jvm.Term.elem (Jvm.Term.field (Jvm.Term.string "LarderPatrol$Verb" (67 : Nat)) "java/lang/String" "value" "[B") (Jvm.Term.int (6 : Int32))) (Jvm.Term.int (78 : Int32))) ∈ flatC (given_1.and narrow_1) := tn3 262 (by decide +kernel)
theorem nw_3_277 : (Jvm.Cond.eq (Jvm.Term.elem (Jvm.Term.field (Jvm.Term.string "LarderPatrol$Verb" (73 : Nat)) "java/lang/String" "value" "[B") (Jvm.Term.int (0 : Int32))) (Jvm.Term.int (108 : Int32))) ∈ flatC (given_1.and narrow_1) := tn3 277 (by decide +kernel)
theorem nw_3_278 : (Jvm.Cond.eq (Jvm.Term.elem (Jvm.Term.field (Jvm.Term.string "LarderPatrol$Verb" (73 : Nat)) "java/lang/String" "value" "[B") (Jvm.Term.int (1 : Int32))) (Jvm.Term.int (105 : Int32))) ∈ flatC (given_1.and narrow_1) := tn3 278 (by decide +kernel)
theorem nw_3_279 : (Jvm.Cond.eq (Jvm.Term.elem (Jvm.Term.field (Jvm.Term.string "LarderPatrol$Verb" (73 : Nat)) "java/lang/String" "value" "[B") (Jvm.Term.int (2 : Int32))) (Jvm.Term.int (110 : Int32))) ∈ flatC (given_1.and narrow_1) := tn3 279 (by decide +kernel)
theorem nw_3_280 : (Jvm.Cond.eq (Jvm.Term.elem (Jvm.Term.field (Jvm.Term.string "LarderPatrol$Verb" (73 : Nat)) "java/lang/String" "value" "[B") (Jvm.Term.int (3 : Int32))) (Jvm.Term.int (107 : Int32))) ∈ flatC (given_1.and narrow_1) := tn3 280 (by decide +kernel)
theorem nw_3_281 : (Jvm.Cond.eq (Jvm.Term.elem (Jvm.Term.field (Jvm.Term.string "LarderPatrol$Verb" (73 : Nat)) "java/lang/String" "value" "[B") (Jvm.Term.int (4 : Int32))) (Jvm.Term.int (32 : Int32))) ∈ flatC (given_1.and narrow_1) := tn3 281 (by decide +kernel)
theorem nw_3_282 : (Jvm.Cond.eq (Jvm.Term.elem (Jvm.Term.field (Jvm.Term.string "LarderPatrol$Verb" (73 : Nat)) "java/lang/String" "value" "[B") (Jvm.Term.int (5 : Int32))) (Jvm.Term.int (78 : Int32))) ∈ flatC (given_1.and narrow_1) := tn3 282 (by decide +kernel)
theorem nw_3_283 : (Jvm.Cond.eq (Jvm.Term.elem (Jvm.Term.field (Jvm.Term.string "LarderPatrol$Verb" (73 : Nat)) "java/lang/String" "value" "[B") (Jvm.Term.int (6 : Int32))) (Jvm.Term.int (45 : Int32))) ∈ flatC (given_1.and narrow_1) := tn3 283 (by decide +kernel)
theorem nw_3_284 : (Jvm.Cond.eq (Jvm.Term.elem (Jvm.Term.field (Jvm.Term.string "LarderPatrol$Verb" (73 : Nat)) "java/lang/String" "value" "[B") (Jvm.Term.int (7 : Int32))) (Jvm.Term.int (78 : Int32))) ∈ flatC (given_1.and narrow_1) := tn3 284 (by decide +kernel)
theorem nw_3_289 : (Jvm.Cond.eq (Jvm.Term.elem (Jvm.Term.field (Jvm.Term.string "LarderPatrol$Verb" (76 : Nat)) "java/lang/String" "value" "[B") (Jvm.Term.int (0 : Int32))) (Jvm.Term.int (99 : Int32))) ∈ flatC (given_1.and narrow_1) := tn3 289 (by decide +kernel)
theorem nw_3_290 : (Jvm.Cond.eq (Jvm.Term.elem (Jvm.Term.field (Jvm.Term.string "LarderPatrol$Verb" (76 : Nat)) "java/lang/String" "value" "[B") (Jvm.Term.int (1 : Int32))) (Jvm.Term.int (117 : Int32))) ∈ flatC (given_1.and narrow_1) := tn3 290 (by decide +kernel)
theorem nw_3_291 : (Jvm.Cond.eq (Jvm.Term.elem (Jvm.Term.field (Jvm.Term.string "LarderPatrol$Verb" (76 : Nat)) "java/lang/String" "value" "[B") (Jvm.Term.int (2 : Int32))) (Jvm.Term.int (116 : Int32))) ∈ flatC (given_1.and narrow_1) := tn3 291 (by decide +kernel)
theorem nw_3_292 : (Jvm.Cond.eq (Jvm.Term.elem (Jvm.Term.field (Jvm.Term.string "LarderPatrol$Verb" (76 : Nat)) "java/lang/String" "value" "[B") (Jvm.Term.int (3 : Int32))) (Jvm.Term.int (32 : Int32))) ∈ flatC (given_1.and narrow_1) := tn3 292 (by decide +kernel)
theorem nw_3_293 : (Jvm.Cond.eq (Jvm.Term.elem (Jvm.Term.field (Jvm.Term.string "LarderPatrol$Verb" (76 : Nat)) "java/lang/String" "value" "[B") (Jvm.Term.int (4 : Int32))) (Jvm.Term.int (78 : Int32))) ∈ flatC (given_1.and narrow_1) := tn3 293 (by decide +kernel)
theorem nw_3_294 : (Jvm.Cond.eq (Jvm.Term.elem (Jvm.Term.field (Jvm.Term.string "LarderPatrol$Verb" (76 : Nat)) "java/lang/String" "value" "[B") (Jvm.Term.int (5 : Int32))) (Jvm.Term.int (45 : Int32))) ∈ flatC (given_1.and narrow_1) := tn3 294 (by decide +kernel)
theorem nw_3_295 : (Jvm.Cond.eq (Jvm.Term.elem (Jvm.Term.field (Jvm.Term.string "LarderPatrol$Verb" (76 : Nat)) "java/lang/String" "value" "[B") (Jvm.Term.int (6 : Int32))) (Jvm.Term.int (78 : Int32))) ∈ flatC (given_1.and narrow_1) := tn3 295 (by decide +kernel)
theorem nw_3_267 : (Jvm.Cond.eq (Jvm.Term.elem (Jvm.Term.field (Jvm.Term.string "LarderPatrol$Verb" (79 : Nat)) "java/lang/String" "value" "[B") (Jvm.Term.int (0 : Int32))) (Jvm.Term.int (104 : Int32))) ∈ flatC (given_1.and narrow_1) := tn3 267 (by decide +kernel)
theorem nw_3_268 : (Jvm.Cond.eq (Jvm.Term.elem (Jvm.Term.field (Jvm.Term.string "LarderPatrol$Verb" (79 : Nat)) "java/lang/String" "value" "[B") (Jvm.Term.int (1 : Int32))) (Jvm.Term.int (105 : Int32))) ∈ flatC (given_1.and narrow_1) := tn3 268 (by decide +kernel)
theorem nw_3_269 : (Jvm.Cond.eq (Jvm.Term.elem (Jvm.Term.field (Jvm.Term.string "LarderPatrol$Verb" (79 : Nat)) "java/lang/String" "value" "[B") (Jvm.Term.int (2 : Int32))) (Jvm.Term.int (100 : Int32))) ∈ flatC (given_1.and narrow_1) := tn3 269 (by decide +kernel)
theorem nw_3_270 : (Jvm.Cond.eq (Jvm.Term.elem (Jvm.Term.field (Jvm.Term.string "LarderPatrol$Verb" (79 : Nat)) "java/lang/String" "value" "[B") (Jvm.Term.int (3 : Int32))) (Jvm.Term.int (101 : Int32))) ∈ flatC (given_1.and narrow_1) := tn3 270 (by decide +kernel)
theorem nw_3_271 : (Jvm.Cond.eq (Jvm.Term.elem (Jvm.Term.field (Jvm.Term.string "LarderPatrol$Verb" (79 : Nat)) "java/lang/String" "value" "[B") (Jvm.Term.int (4 : Int32))) (Jvm.Term.int (32 : Int32))) ∈ flatC (given_1.and narrow_1) := tn3 271 (by decide +kernel)
theorem nw_3_272 : (Jvm.Cond.eq (Jvm.Term.elem (Jvm.Term.field (Jvm.Term.string "LarderPatrol$Verb" (79 : Nat)) "java/lang/String" "value" "[B") (Jvm.Term.int (5 : Int32))) (Jvm.Term.int (78 : Int32))) ∈ flatC (given_1.and narrow_1) := tn3 272 (by decide +kernel)
theorem nw_3_300 : (Jvm.Cond.eq (Jvm.Term.elem (Jvm.Term.field (Jvm.Term.string "LarderPatrol$Verb" (82 : Nat)) "java/lang/String" "value" "[B") (Jvm.Term.int (0 : Int32))) (Jvm.Term.int (115 : Int32))) ∈ flatC (given_1.and narrow_1) := tn3 300 (by decide +kernel)
theorem nw_3_301 : (Jvm.Cond.eq (Jvm.Term.elem (Jvm.Term.field (Jvm.Term.string "LarderPatrol$Verb" (82 : Nat)) "java/lang/String" "value" "[B") (Jvm.Term.int (1 : Int32))) (Jvm.Term.int (104 : Int32))) ∈ flatC (given_1.and narrow_1) := tn3 301 (by decide +kernel)
theorem nw_3_302 : (Jvm.Cond.eq (Jvm.Term.elem (Jvm.Term.field (Jvm.Term.string "LarderPatrol$Verb" (82 : Nat)) "java/lang/String" "value" "[B") (Jvm.Term.int (2 : Int32))) (Jvm.Term.int (111 : Int32))) ∈ flatC (given_1.and narrow_1) := tn3 302 (by decide +kernel)
theorem nw_3_303 : (Jvm.Cond.eq (Jvm.Term.elem (Jvm.Term.field (Jvm.Term.string "LarderPatrol$Verb" (82 : Nat)) "java/lang/String" "value" "[B") (Jvm.Term.int (3 : Int32))) (Jvm.Term.int (119 : Int32))) ∈ flatC (given_1.and narrow_1) := tn3 303 (by decide +kernel)
theorem nw_3_304 : (Jvm.Cond.eq (Jvm.Term.elem (Jvm.Term.field (Jvm.Term.string "LarderPatrol$Verb" (82 : Nat)) "java/lang/String" "value" "[B") (Jvm.Term.int (4 : Int32))) (Jvm.Term.int (32 : Int32))) ∈ flatC (given_1.and narrow_1) := tn3 304 (by decide +kernel)
theorem nw_3_305 : (Jvm.Cond.eq (Jvm.Term.elem (Jvm.Term.field (Jvm.Term.string "LarderPatrol$Verb" (82 : Nat)) "java/lang/String" "value" "[B") (Jvm.Term.int (5 : Int32))) (Jvm.Term.int (78 : Int32))) ∈ flatC (given_1.and narrow_1) := tn3 305 (by decide +kernel)
theorem nw_3_310 : (Jvm.Cond.eq (Jvm.Term.elem (Jvm.Term.field (Jvm.Term.string "LarderPatrol$Verb" (85 : Nat)) "java/lang/String" "value" "[B") (Jvm.Term.int (0 : Int32))) (Jvm.Term.int (102 : Int32))) ∈ flatC (given_1.and narrow_1) := tn3 310 (by decide +kernel)
theorem nw_3_311 : (Jvm.Cond.eq (Jvm.Term.elem (Jvm.Term.field (Jvm.Term.string "LarderPatrol$Verb" (85 : Nat)) "java/lang/String" "value" "[B") (Jvm.Term.int (1 : Int32))) (Jvm.Term.int (105 : Int32))) ∈ flatC (given_1.and narrow_1) := tn3 311 (by decide +kernel)
theorem nw_3_312 : (Jvm.Cond.eq (Jvm.Term.elem (Jvm.Term.field (Jvm.Term.string "LarderPatrol$Verb" (85 : Nat)) "java/lang/String" "value" "[B") (Jvm.Term.int (2 : Int32))) (Jvm.Term.int (108 : Int32))) ∈ flatC (given_1.and narrow_1) := tn3 312 (by decide +kernel)
theorem nw_3_313 : (Jvm.Cond.eq (Jvm.Term.elem (Jvm.Term.field (Jvm.Term.string "LarderPatrol$Verb" (85 : Nat)) "java/lang/String" "value" "[B") (Jvm.Term.int (3 : Int32))) (Jvm.Term.int (108 : Int32))) ∈ flatC (given_1.and narrow_1) := tn3 313 (by decide +kernel)
theorem nw_3_314 : (Jvm.Cond.eq (Jvm.Term.elem (Jvm.Term.field (Jvm.Term.string "LarderPatrol$Verb" (85 : Nat)) "java/lang/String" "value" "[B") (Jvm.Term.int (4 : Int32))) (Jvm.Term.int (32 : Int32))) ∈ flatC (given_1.and narrow_1) := tn3 314 (by decide +kernel)
theorem nw_3_315 : (Jvm.Cond.eq (Jvm.Term.elem (Jvm.Term.field (Jvm.Term.string "LarderPatrol$Verb" (85 : Nat)) "java/lang/String" "value" "[B") (Jvm.Term.int (5 : Int32))) (Jvm.Term.int (78 : Int32))) ∈ flatC (given_1.and narrow_1) := tn3 315 (by decide +kernel)
theorem nw_3_316 : (Jvm.Cond.eq (Jvm.Term.elem (Jvm.Term.field (Jvm.Term.string "LarderPatrol$Verb" (85 : Nat)) "java/lang/String" "value" "[B") (Jvm.Term.int (6 : Int32))) (Jvm.Term.int (32 : Int32))) ∈ flatC (given_1.and narrow_1) := tn3 316 (by decide +kernel)
theorem nw_3_317 : (Jvm.Cond.eq (Jvm.Term.elem (Jvm.Term.field (Jvm.Term.string "LarderPatrol$Verb" (85 : Nat)) "java/lang/String" "value" "[B") (Jvm.Term.int (7 : Int32))) (Jvm.Term.int (78 : Int32))) ∈ flatC (given_1.and narrow_1) := tn3 317 (by decide +kernel)
theorem nw_3_322 : (Jvm.Cond.eq (Jvm.Term.elem (Jvm.Term.field (Jvm.Term.string "LarderPatrol$Verb" (88 : Nat)) "java/lang/String" "value" "[B") (Jvm.Term.int (0 : Int32))) (Jvm.Term.int (115 : Int32))) ∈ flatC (given_1.and narrow_1) := tn3 322 (by decide +kernel)
theorem nw_3_323 : (Jvm.Cond.eq (Jvm.Term.elem (Jvm.Term.field (Jvm.Term.string "LarderPatrol$Verb" (88 : Nat)) "java/lang/String" "value" "[B") (Jvm.Term.int (1 : Int32))) (Jvm.Term.int (116 : Int32))) ∈ flatC (given_1.and narrow_1) := tn3 323 (by decide +kernel)
theorem nw_3_324 : (Jvm.Cond.eq (Jvm.Term.elem (Jvm.Term.field (Jvm.Term.string "LarderPatrol$Verb" (88 : Nat)) "java/lang/String" "value" "[B") (Jvm.Term.int (2 : Int32))) (Jvm.Term.int (111 : Int32))) ∈ flatC (given_1.and narrow_1) := tn3 324 (by decide +kernel)
theorem nw_3_325 : (Jvm.Cond.eq (Jvm.Term.elem (Jvm.Term.field (Jvm.Term.string "LarderPatrol$Verb" (88 : Nat)) "java/lang/String" "value" "[B") (Jvm.Term.int (3 : Int32))) (Jvm.Term.int (112 : Int32))) ∈ flatC (given_1.and narrow_1) := tn3 325 (by decide +kernel)
theorem nw_3_326 : (Jvm.Cond.eq (Jvm.Term.elem (Jvm.Term.field (Jvm.Term.string "LarderPatrol$Verb" (88 : Nat)) "java/lang/String" "value" "[B") (Jvm.Term.int (4 : Int32))) (Jvm.Term.int (32 : Int32))) ∈ flatC (given_1.and narrow_1) := tn3 326 (by decide +kernel)
theorem nw_3_327 : (Jvm.Cond.eq (Jvm.Term.elem (Jvm.Term.field (Jvm.Term.string "LarderPatrol$Verb" (88 : Nat)) "java/lang/String" "value" "[B") (Jvm.Term.int (5 : Int32))) (Jvm.Term.int (78 : Int32))) ∈ flatC (given_1.and narrow_1) := tn3 327 (by decide +kernel)
theorem nw_3_332 : (Jvm.Cond.eq (Jvm.Term.elem (Jvm.Term.field (Jvm.Term.string "LarderPatrol$Verb" (91 : Nat)) "java/lang/String" "value" "[B") (Jvm.Term.int (0 : Int32))) (Jvm.Term.int (100 : Int32))) ∈ flatC (given_1.and narrow_1) := tn3 332 (by decide +kernel)
theorem nw_3_333 : (Jvm.Cond.eq (Jvm.Term.elem (Jvm.Term.field (Jvm.Term.string "LarderPatrol$Verb" (91 : Nat)) "java/lang/String" "value" "[B") (Jvm.Term.int (1 : Int32))) (Jvm.Term.int (114 : Int32))) ∈ flatC (given_1.and narrow_1) := tn3 333 (by decide +kernel)
theorem nw_3_334 : (Jvm.Cond.eq (Jvm.Term.elem (Jvm.Term.field (Jvm.Term.string "LarderPatrol$Verb" (91 : Nat)) "java/lang/String" "value" "[B") (Jvm.Term.int (2 : Int32))) (Jvm.Term.int (111 : Int32))) ∈ flatC (given_1.and narrow_1) := tn3 334 (by decide +kernel)
theorem nw_3_335 : (Jvm.Cond.eq (Jvm.Term.elem (Jvm.Term.field (Jvm.Term.string "LarderPatrol$Verb" (91 : Nat)) "java/lang/String" "value" "[B") (Jvm.Term.int (3 : Int32))) (Jvm.Term.int (112 : Int32))) ∈ flatC (given_1.and narrow_1) := tn3 335 (by decide +kernel)
theorem nw_3_336 : (Jvm.Cond.eq (Jvm.Term.elem (Jvm.Term.field (Jvm.Term.string "LarderPatrol$Verb" (91 : Nat)) "java/lang/String" "value" "[B") (Jvm.Term.int (4 : Int32))) (Jvm.Term.int (32 : Int32))) ∈ flatC (given_1.and narrow_1) := tn3 336 (by decide +kernel)
theorem nw_3_337 : (Jvm.Cond.eq (Jvm.Term.elem (Jvm.Term.field (Jvm.Term.string "LarderPatrol$Verb" (91 : Nat)) "java/lang/String" "value" "[B") (Jvm.Term.int (5 : Int32))) (Jvm.Term.int (68 : Int32))) ∈ flatC (given_1.and narrow_1) := tn3 337 (by decide +kernel)
theorem nw_3_352 : (Jvm.Cond.eq (Jvm.Term.elem (Jvm.Term.field (Jvm.Term.string "LarderPatrol$Verb" (94 : Nat)) "java/lang/String" "value" "[B") (Jvm.Term.int (0 : Int32))) (Jvm.Term.int (114 : Int32))) ∈ flatC (given_1.and narrow_1) := tn3 352 (by decide +kernel)
theorem nw_3_353 : (Jvm.Cond.eq (Jvm.Term.elem (Jvm.Term.field (Jvm.Term.string "LarderPatrol$Verb" (94 : Nat)) "java/lang/String" "value" "[B") (Jvm.Term.int (1 : Int32))) (Jvm.Term.int (97 : Int32))) ∈ flatC (given_1.and narrow_1) := tn3 353 (by decide +kernel)
theorem nw_3_354 : (Jvm.Cond.eq (Jvm.Term.elem (Jvm.Term.field (Jvm.Term.string "LarderPatrol$Verb" (94 : Nat)) "java/lang/String" "value" "[B") (Jvm.Term.int (2 : Int32))) (Jvm.Term.int (116 : Int32))) ∈ flatC (given_1.and narrow_1) := tn3 354 (by decide +kernel)
theorem nw_3_355 : (Jvm.Cond.eq (Jvm.Term.elem (Jvm.Term.field (Jvm.Term.string "LarderPatrol$Verb" (94 : Nat)) "java/lang/String" "value" "[B") (Jvm.Term.int (3 : Int32))) (Jvm.Term.int (101 : Int32))) ∈ flatC (given_1.and narrow_1) := tn3 355 (by decide +kernel)
theorem nw_3_356 : (Jvm.Cond.eq (Jvm.Term.elem (Jvm.Term.field (Jvm.Term.string "LarderPatrol$Verb" (94 : Nat)) "java/lang/String" "value" "[B") (Jvm.Term.int (4 : Int32))) (Jvm.Term.int (32 : Int32))) ∈ flatC (given_1.and narrow_1) := tn3 356 (by decide +kernel)
theorem nw_3_357 : (Jvm.Cond.eq (Jvm.Term.elem (Jvm.Term.field (Jvm.Term.string "LarderPatrol$Verb" (94 : Nat)) "java/lang/String" "value" "[B") (Jvm.Term.int (5 : Int32))) (Jvm.Term.int (78 : Int32))) ∈ flatC (given_1.and narrow_1) := tn3 357 (by decide +kernel)
theorem nw_3_362 : (Jvm.Cond.eq (Jvm.Term.elem (Jvm.Term.field (Jvm.Term.string "LarderPatrol$Verb" (97 : Nat)) "java/lang/String" "value" "[B") (Jvm.Term.int (0 : Int32))) (Jvm.Term.int (115 : Int32))) ∈ flatC (given_1.and narrow_1) := tn3 362 (by decide +kernel)
theorem nw_3_363 : (Jvm.Cond.eq (Jvm.Term.elem (Jvm.Term.field (Jvm.Term.string "LarderPatrol$Verb" (97 : Nat)) "java/lang/String" "value" "[B") (Jvm.Term.int (1 : Int32))) (Jvm.Term.int (101 : Int32))) ∈ flatC (given_1.and narrow_1) := tn3 363 (by decide +kernel)
theorem nw_3_364 : (Jvm.Cond.eq (Jvm.Term.elem (Jvm.Term.field (Jvm.Term.string "LarderPatrol$Verb" (97 : Nat)) "java/lang/String" "value" "[B") (Jvm.Term.int (2 : Int32))) (Jvm.Term.int (101 : Int32))) ∈ flatC (given_1.and narrow_1) := tn3 364 (by decide +kernel)
theorem nw_3_365 : (Jvm.Cond.eq (Jvm.Term.elem (Jvm.Term.field (Jvm.Term.string "LarderPatrol$Verb" (97 : Nat)) "java/lang/String" "value" "[B") (Jvm.Term.int (3 : Int32))) (Jvm.Term.int (100 : Int32))) ∈ flatC (given_1.and narrow_1) := tn3 365 (by decide +kernel)
theorem nw_3_366 : (Jvm.Cond.eq (Jvm.Term.elem (Jvm.Term.field (Jvm.Term.string "LarderPatrol$Verb" (97 : Nat)) "java/lang/String" "value" "[B") (Jvm.Term.int (4 : Int32))) (Jvm.Term.int (32 : Int32))) ∈ flatC (given_1.and narrow_1) := tn3 366 (by decide +kernel)
theorem nw_3_367 : (Jvm.Cond.eq (Jvm.Term.elem (Jvm.Term.field (Jvm.Term.string "LarderPatrol$Verb" (97 : Nat)) "java/lang/String" "value" "[B") (Jvm.Term.int (5 : Int32))) (Jvm.Term.int (76 : Int32))) ∈ flatC (given_1.and narrow_1) := tn3 367 (by decide +kernel)
theorem nw_3_342 : (Jvm.Cond.eq (Jvm.Term.elem (Jvm.Term.field (Jvm.Term.string "LarderPatrol$Verb" (100 : Nat)) "java/lang/String" "value" "[B") (Jvm.Term.int (0 : Int32))) (Jvm.Term.int (119 : Int32))) ∈ flatC (given_1.and narrow_1) := tn3 342 (by decide +kernel)
theorem nw_3_343 : (Jvm.Cond.eq (Jvm.Term.elem (Jvm.Term.field (Jvm.Term.string "LarderPatrol$Verb" (100 : Nat)) "java/lang/String" "value" "[B") (Jvm.Term.int (1 : Int32))) (Jvm.Term.int (97 : Int32))) ∈ flatC (given_1.and narrow_1) := tn3 343 (by decide +kernel)
theorem nw_3_344 : (Jvm.Cond.eq (Jvm.Term.elem (Jvm.Term.field (Jvm.Term.string "LarderPatrol$Verb" (100 : Nat)) "java/lang/String" "value" "[B") (Jvm.Term.int (2 : Int32))) (Jvm.Term.int (105 : Int32))) ∈ flatC (given_1.and narrow_1) := tn3 344 (by decide +kernel)
theorem nw_3_345 : (Jvm.Cond.eq (Jvm.Term.elem (Jvm.Term.field (Jvm.Term.string "LarderPatrol$Verb" (100 : Nat)) "java/lang/String" "value" "[B") (Jvm.Term.int (3 : Int32))) (Jvm.Term.int (116 : Int32))) ∈ flatC (given_1.and narrow_1) := tn3 345 (by decide +kernel)
theorem nw_3_346 : (Jvm.Cond.eq (Jvm.Term.elem (Jvm.Term.field (Jvm.Term.string "LarderPatrol$Verb" (100 : Nat)) "java/lang/String" "value" "[B") (Jvm.Term.int (4 : Int32))) (Jvm.Term.int (32 : Int32))) ∈ flatC (given_1.and narrow_1) := tn3 346 (by decide +kernel)
theorem nw_3_347 : (Jvm.Cond.eq (Jvm.Term.elem (Jvm.Term.field (Jvm.Term.string "LarderPatrol$Verb" (100 : Nat)) "java/lang/String" "value" "[B") (Jvm.Term.int (5 : Int32))) (Jvm.Term.int (78 : Int32))) ∈ flatC (given_1.and narrow_1) := tn3 347 (by decide +kernel)
theorem nw_1_4 : (Jvm.Cond.eq (Jvm.Term.field (Jvm.Term.static "LarderPatrol$Verb" "SHELF" "LLarderPatrol$Verb;") "LarderPatrol$Verb" "pattern" "Ljava/lang/String;") (Jvm.Term.string "LarderPatrol$Verb" (67 : Nat))) ∈ flatC (given_1.and narrow_1) := tn1 4 (by decide +kernel)
theorem nw_1_108 : (Jvm.Cond.eq (Jvm.Term.field (Jvm.Term.static "LarderPatrol$Verb" "LINK" "LLarderPatrol$Verb;") "LarderPatrol$Verb" "pattern" "Ljava/lang/String;") (Jvm.Term.string "LarderPatrol$Verb" (73 : Nat))) ∈ flatC (given_1.and narrow_1) := tn1 108 (by decide +kernel)
theorem nw_1_122 : (Jvm.Cond.eq (Jvm.Term.field (Jvm.Term.static "LarderPatrol$Verb" "CUT" "LLarderPatrol$Verb;") "LarderPatrol$Verb" "pattern" "Ljava/lang/String;") (Jvm.Term.string "LarderPatrol$Verb" (76 : Nat))) ∈ flatC (given_1.and narrow_1) := tn1 122 (by decide +kernel)
theorem nw_1_95 : (Jvm.Cond.eq (Jvm.Term.field (Jvm.Term.static "LarderPatrol$Verb" "HIDE" "LLarderPatrol$Verb;") "LarderPatrol$Verb" "pattern" "Ljava/lang/String;") (Jvm.Term.string "LarderPatrol$Verb" (79 : Nat))) ∈ flatC (given_1.and narrow_1) := tn1 95 (by decide +kernel)
theorem nw_1_137 : (Jvm.Cond.eq (Jvm.Term.field (Jvm.Term.static "LarderPatrol$Verb" "SHOW" "LLarderPatrol$Verb;") "LarderPatrol$Verb" "pattern" "Ljava/lang/String;") (Jvm.Term.string "LarderPatrol$Verb" (82 : Nat))) ∈ flatC (given_1.and narrow_1) := tn1 137 (by decide +kernel)
theorem nw_1_153 : (Jvm.Cond.eq (Jvm.Term.field (Jvm.Term.static "LarderPatrol$Verb" "FILL" "LLarderPatrol$Verb;") "LarderPatrol$Verb" "pattern" "Ljava/lang/String;") (Jvm.Term.string "LarderPatrol$Verb" (85 : Nat))) ∈ flatC (given_1.and narrow_1) := tn1 153 (by decide +kernel)
theorem nw_1_170 : (Jvm.Cond.eq (Jvm.Term.field (Jvm.Term.static "LarderPatrol$Verb" "STOP" "LLarderPatrol$Verb;") "LarderPatrol$Verb" "pattern" "Ljava/lang/String;") (Jvm.Term.string "LarderPatrol$Verb" (88 : Nat))) ∈ flatC (given_1.and narrow_1) := tn1 170 (by decide +kernel)
theorem nw_1_188 : (Jvm.Cond.eq (Jvm.Term.field (Jvm.Term.static "LarderPatrol$Verb" "DROP" "LLarderPatrol$Verb;") "LarderPatrol$Verb" "pattern" "Ljava/lang/String;") (Jvm.Term.string "LarderPatrol$Verb" (91 : Nat))) ∈ flatC (given_1.and narrow_1) := tn1 188 (by decide +kernel)
theorem nw_1_227 : (Jvm.Cond.eq (Jvm.Term.field (Jvm.Term.static "LarderPatrol$Verb" "RATE" "LLarderPatrol$Verb;") "LarderPatrol$Verb" "pattern" "Ljava/lang/String;") (Jvm.Term.string "LarderPatrol$Verb" (94 : Nat))) ∈ flatC (given_1.and narrow_1) := tn1 227 (by decide +kernel)
theorem nw_1_248 : (Jvm.Cond.eq (Jvm.Term.field (Jvm.Term.static "LarderPatrol$Verb" "SEED" "LLarderPatrol$Verb;") "LarderPatrol$Verb" "pattern" "Ljava/lang/String;") (Jvm.Term.string "LarderPatrol$Verb" (97 : Nat))) ∈ flatC (given_1.and narrow_1) := tn1 248 (by decide +kernel)
theorem nw_1_207 : (Jvm.Cond.eq (Jvm.Term.field (Jvm.Term.static "LarderPatrol$Verb" "WAIT" "LLarderPatrol$Verb;") "LarderPatrol$Verb" "pattern" "Ljava/lang/String;") (Jvm.Term.string "LarderPatrol$Verb" (100 : Nat))) ∈ flatC (given_1.and narrow_1) := tn1 207 (by decide +kernel)
theorem nw_1_9 : (Jvm.Cond.eq (Jvm.Term.elem (Jvm.Term.static "LarderPatrol$1" "$SwitchMap$LarderPatrol$Verb" "[I") (Jvm.Term.int (0 : Int32))) (Jvm.Term.int (1 : Int32))) ∈ flatC (given_1.and narrow_1) := tn1 9 (by decide +kernel)
theorem nw_1_10 : (Jvm.Cond.eq (Jvm.Term.elem (Jvm.Term.static "LarderPatrol$1" "$SwitchMap$LarderPatrol$Verb" "[I") (Jvm.Term.int (1 : Int32))) (Jvm.Term.int (2 : Int32))) ∈ flatC (given_1.and narrow_1) := tn1 10 (by decide +kernel)
theorem nw_1_11 : (Jvm.Cond.eq (Jvm.Term.elem (Jvm.Term.static "LarderPatrol$1" "$SwitchMap$LarderPatrol$Verb" "[I") (Jvm.Term.int (2 : Int32))) (Jvm.Term.int (3 : Int32))) ∈ flatC (given_1.and narrow_1) := tn1 11 (by decide +kernel)
theorem nw_1_12 : (Jvm.Cond.eq (Jvm.Term.elem (Jvm.Term.static "LarderPatrol$1" "$SwitchMap$LarderPatrol$Verb" "[I") (Jvm.Term.int (3 : Int32))) (Jvm.Term.int (4 : Int32))) ∈ flatC (given_1.and narrow_1) := tn1 12 (by decide +kernel)
theorem nw_1_13 : (Jvm.Cond.eq (Jvm.Term.elem (Jvm.Term.static "LarderPatrol$1" "$SwitchMap$LarderPatrol$Verb" "[I") (Jvm.Term.int (4 : Int32))) (Jvm.Term.int (5 : Int32))) ∈ flatC (given_1.and narrow_1) := tn1 13 (by decide +kernel)
theorem nw_1_14 : (Jvm.Cond.eq (Jvm.Term.elem (Jvm.Term.static "LarderPatrol$1" "$SwitchMap$LarderPatrol$Verb" "[I") (Jvm.Term.int (5 : Int32))) (Jvm.Term.int (6 : Int32))) ∈ flatC (given_1.and narrow_1) := tn1 14 (by decide +kernel)
theorem nw_1_15 : (Jvm.Cond.eq (Jvm.Term.elem (Jvm.Term.static "LarderPatrol$1" "$SwitchMap$LarderPatrol$Verb" "[I") (Jvm.Term.int (6 : Int32))) (Jvm.Term.int (7 : Int32))) ∈ flatC (given_1.and narrow_1) := tn1 15 (by decide +kernel)
theorem nw_1_16 : (Jvm.Cond.eq (Jvm.Term.elem (Jvm.Term.static "LarderPatrol$1" "$SwitchMap$LarderPatrol$Verb" "[I") (Jvm.Term.int (7 : Int32))) (Jvm.Term.int (8 : Int32))) ∈ flatC (given_1.and narrow_1) := tn1 16 (by decide +kernel)
theorem nw_1_17 : (Jvm.Cond.eq (Jvm.Term.elem (Jvm.Term.static "LarderPatrol$1" "$SwitchMap$LarderPatrol$Verb" "[I") (Jvm.Term.int (8 : Int32))) (Jvm.Term.int (9 : Int32))) ∈ flatC (given_1.and narrow_1) := tn1 17 (by decide +kernel)
theorem nw_1_18 : (Jvm.Cond.eq (Jvm.Term.elem (Jvm.Term.static "LarderPatrol$1" "$SwitchMap$LarderPatrol$Verb" "[I") (Jvm.Term.int (9 : Int32))) (Jvm.Term.int (10 : Int32))) ∈ flatC (given_1.and narrow_1) := tn1 18 (by decide +kernel)
theorem nw_1_19 : (Jvm.Cond.eq (Jvm.Term.elem (Jvm.Term.static "LarderPatrol$1" "$SwitchMap$LarderPatrol$Verb" "[I") (Jvm.Term.int (10 : Int32))) (Jvm.Term.int (0 : Int32))) ∈ flatC (given_1.and narrow_1) := tn1 19 (by decide +kernel)
theorem nw_1_7 : (Jvm.Cond.arrayOf (Jvm.Term.static "LarderPatrol$1" "$SwitchMap$LarderPatrol$Verb" "[I") Jvm.ClassFile.FieldType.int) ∈ flatC (given_1.and narrow_1) := tn1 7 (by decide +kernel)
theorem nw_1_8 : (Jvm.Cond.eq (Jvm.Term.length (Jvm.Term.static "LarderPatrol$1" "$SwitchMap$LarderPatrol$Verb" "[I")) (Jvm.Term.int (11 : Int32))) ∈ flatC (given_1.and narrow_1) := tn1 8 (by decide +kernel)
theorem nw_1_85 : (Jvm.Cond.eq (Jvm.Term.elem (Jvm.Term.static "LarderPatrol$1" "$SwitchMap$LarderPatrol$Refusal" "[I") (Jvm.Term.int (0 : Int32))) (Jvm.Term.int (0 : Int32))) ∈ flatC (given_1.and narrow_1) := tn1 85 (by decide +kernel)
theorem nw_1_86 : (Jvm.Cond.eq (Jvm.Term.elem (Jvm.Term.static "LarderPatrol$1" "$SwitchMap$LarderPatrol$Refusal" "[I") (Jvm.Term.int (1 : Int32))) (Jvm.Term.int (1 : Int32))) ∈ flatC (given_1.and narrow_1) := tn1 86 (by decide +kernel)
theorem nw_1_87 : (Jvm.Cond.eq (Jvm.Term.elem (Jvm.Term.static "LarderPatrol$1" "$SwitchMap$LarderPatrol$Refusal" "[I") (Jvm.Term.int (2 : Int32))) (Jvm.Term.int (2 : Int32))) ∈ flatC (given_1.and narrow_1) := tn1 87 (by decide +kernel)
theorem nw_1_88 : (Jvm.Cond.eq (Jvm.Term.elem (Jvm.Term.static "LarderPatrol$1" "$SwitchMap$LarderPatrol$Refusal" "[I") (Jvm.Term.int (3 : Int32))) (Jvm.Term.int (0 : Int32))) ∈ flatC (given_1.and narrow_1) := tn1 88 (by decide +kernel)
theorem nw_1_89 : (Jvm.Cond.eq (Jvm.Term.elem (Jvm.Term.static "LarderPatrol$1" "$SwitchMap$LarderPatrol$Refusal" "[I") (Jvm.Term.int (4 : Int32))) (Jvm.Term.int (0 : Int32))) ∈ flatC (given_1.and narrow_1) := tn1 89 (by decide +kernel)
theorem nw_1_90 : (Jvm.Cond.eq (Jvm.Term.elem (Jvm.Term.static "LarderPatrol$1" "$SwitchMap$LarderPatrol$Refusal" "[I") (Jvm.Term.int (5 : Int32))) (Jvm.Term.int (3 : Int32))) ∈ flatC (given_1.and narrow_1) := tn1 90 (by decide +kernel)
theorem nw_1_91 : (Jvm.Cond.eq (Jvm.Term.elem (Jvm.Term.static "LarderPatrol$1" "$SwitchMap$LarderPatrol$Refusal" "[I") (Jvm.Term.int (6 : Int32))) (Jvm.Term.int (0 : Int32))) ∈ flatC (given_1.and narrow_1) := tn1 91 (by decide +kernel)
theorem nw_1_92 : (Jvm.Cond.eq (Jvm.Term.elem (Jvm.Term.static "LarderPatrol$1" "$SwitchMap$LarderPatrol$Refusal" "[I") (Jvm.Term.int (7 : Int32))) (Jvm.Term.int (0 : Int32))) ∈ flatC (given_1.and narrow_1) := tn1 92 (by decide +kernel)
theorem nw_1_83 : (Jvm.Cond.arrayOf (Jvm.Term.static "LarderPatrol$1" "$SwitchMap$LarderPatrol$Refusal" "[I") Jvm.ClassFile.FieldType.int) ∈ flatC (given_1.and narrow_1) := tn1 83 (by decide +kernel)
theorem nw_1_84 : (Jvm.Cond.eq (Jvm.Term.length (Jvm.Term.static "LarderPatrol$1" "$SwitchMap$LarderPatrol$Refusal" "[I")) (Jvm.Term.int (8 : Int32))) ∈ flatC (given_1.and narrow_1) := tn1 84 (by decide +kernel)
theorem nw_1_273 : (Jvm.Cond.eq (Jvm.Term.elem (Jvm.Term.static "LarderPatrol$Script" "VERBS" "[LLarderPatrol$Verb;") (Jvm.Term.int (0 : Int32))) (Jvm.Term.static "LarderPatrol$Verb" "SHELF" "LLarderPatrol$Verb;")) ∈ flatC (given_1.and narrow_1) := tn1 273 (by decide +kernel)
theorem nw_1_274 : (Jvm.Cond.eq (Jvm.Term.elem (Jvm.Term.static "LarderPatrol$Script" "VERBS" "[LLarderPatrol$Verb;") (Jvm.Term.int (1 : Int32))) (Jvm.Term.static "LarderPatrol$Verb" "LINK" "LLarderPatrol$Verb;")) ∈ flatC (given_1.and narrow_1) := tn1 274 (by decide +kernel)
theorem nw_1_275 : (Jvm.Cond.eq (Jvm.Term.elem (Jvm.Term.static "LarderPatrol$Script" "VERBS" "[LLarderPatrol$Verb;") (Jvm.Term.int (2 : Int32))) (Jvm.Term.static "LarderPatrol$Verb" "CUT" "LLarderPatrol$Verb;")) ∈ flatC (given_1.and narrow_1) := tn1 275 (by decide +kernel)
theorem nw_1_276 : (Jvm.Cond.eq (Jvm.Term.elem (Jvm.Term.static "LarderPatrol$Script" "VERBS" "[LLarderPatrol$Verb;") (Jvm.Term.int (3 : Int32))) (Jvm.Term.static "LarderPatrol$Verb" "HIDE" "LLarderPatrol$Verb;")) ∈ flatC (given_1.and narrow_1) := tn1 276 (by decide +kernel)
theorem nw_1_277 : (Jvm.Cond.eq (Jvm.Term.elem (Jvm.Term.static "LarderPatrol$Script" "VERBS" "[LLarderPatrol$Verb;") (Jvm.Term.int (4 : Int32))) (Jvm.Term.static "LarderPatrol$Verb" "SHOW" "LLarderPatrol$Verb;")) ∈ flatC (given_1.and narrow_1) := tn1 277 (by decide +kernel)
theorem nw_1_278 : (Jvm.Cond.eq (Jvm.Term.elem (Jvm.Term.static "LarderPatrol$Script" "VERBS" "[LLarderPatrol$Verb;") (Jvm.Term.int (5 : Int32))) (Jvm.Term.static "LarderPatrol$Verb" "FILL" "LLarderPatrol$Verb;")) ∈ flatC (given_1.and narrow_1) := tn1 278 (by decide +kernel)
theorem nw_1_279 : (Jvm.Cond.eq (Jvm.Term.elem (Jvm.Term.static "LarderPatrol$Script" "VERBS" "[LLarderPatrol$Verb;") (Jvm.Term.int (6 : Int32))) (Jvm.Term.static "LarderPatrol$Verb" "STOP" "LLarderPatrol$Verb;")) ∈ flatC (given_1.and narrow_1) := tn1 279 (by decide +kernel)
theorem nw_1_280 : (Jvm.Cond.eq (Jvm.Term.elem (Jvm.Term.static "LarderPatrol$Script" "VERBS" "[LLarderPatrol$Verb;") (Jvm.Term.int (7 : Int32))) (Jvm.Term.static "LarderPatrol$Verb" "DROP" "LLarderPatrol$Verb;")) ∈ flatC (given_1.and narrow_1) := tn1 280 (by decide +kernel)
theorem nw_1_281 : (Jvm.Cond.eq (Jvm.Term.elem (Jvm.Term.static "LarderPatrol$Script" "VERBS" "[LLarderPatrol$Verb;") (Jvm.Term.int (8 : Int32))) (Jvm.Term.static "LarderPatrol$Verb" "RATE" "LLarderPatrol$Verb;")) ∈ flatC (given_1.and narrow_1) := tn1 281 (by decide +kernel)
theorem nw_1_282 : (Jvm.Cond.eq (Jvm.Term.elem (Jvm.Term.static "LarderPatrol$Script" "VERBS" "[LLarderPatrol$Verb;") (Jvm.Term.int (9 : Int32))) (Jvm.Term.static "LarderPatrol$Verb" "SEED" "LLarderPatrol$Verb;")) ∈ flatC (given_1.and narrow_1) := tn1 282 (by decide +kernel)
theorem nw_1_283 : (Jvm.Cond.eq (Jvm.Term.elem (Jvm.Term.static "LarderPatrol$Script" "VERBS" "[LLarderPatrol$Verb;") (Jvm.Term.int (10 : Int32))) (Jvm.Term.static "LarderPatrol$Verb" "WAIT" "LLarderPatrol$Verb;")) ∈ flatC (given_1.and narrow_1) := tn1 283 (by decide +kernel)
theorem nw_1_270 : (Jvm.Cond.arrayOf (Jvm.Term.static "LarderPatrol$Script" "VERBS" "[LLarderPatrol$Verb;") (Jvm.ClassFile.FieldType.object "LarderPatrol$Verb")) ∈ flatC (given_1.and narrow_1) := tn1 270 (by decide +kernel)
theorem nw_1_271 : (Jvm.Cond.eq (Jvm.Term.length (Jvm.Term.static "LarderPatrol$Script" "VERBS" "[LLarderPatrol$Verb;")) (Jvm.Term.int (11 : Int32))) ∈ flatC (given_1.and narrow_1) := tn1 271 (by decide +kernel)
theorem nw_1_285 : (Jvm.Cond.isRef (Jvm.Term.static "jdk/internal/util/Preconditions" "SIOOBE_FORMATTER" "Ljava/util/function/BiFunction;")) ∈ flatC (given_1.and narrow_1) := tn1 285 (by decide +kernel)
theorem nw_1_80 : (Jvm.Cond.isRef (Jvm.Term.static "java/lang/Throwable" "UNASSIGNED_STACK" "[Ljava/lang/StackTraceElement;")) ∈ flatC (given_1.and narrow_1) := tn1 80 (by decide +kernel)
theorem nw_1_81 : (Jvm.Cond.isRef (Jvm.Term.static "java/lang/Throwable" "SUPPRESSED_SENTINEL" "Ljava/util/List;")) ∈ flatC (given_1.and narrow_1) := tn1 81 (by decide +kernel)
theorem nw_1_284 : (Jvm.Cond.eq (Jvm.Term.static "java/lang/String" "COMPACT_STRINGS" "Z") (Jvm.Term.int (1 : Int32))) ∈ flatC (given_1.and narrow_1) := tn1 284 (by decide +kernel)
theorem nw_1_396 : (Jvm.Cond.exactly (Jvm.Term.string "LarderPatrol" (350 : Nat)) "java/lang/String") ∈ flatC (given_1.and narrow_1) := tn1 396 (by decide +kernel)
theorem nw_2_30 : (Jvm.Cond.exactly (Jvm.Term.string "LarderPatrol" (355 : Nat)) "java/lang/String") ∈ flatC (given_1.and narrow_1) := tn2 30 (by decide +kernel)
theorem nw_2_57 : (Jvm.Cond.exactly (Jvm.Term.string "LarderPatrol" (371 : Nat)) "java/lang/String") ∈ flatC (given_1.and narrow_1) := tn2 57 (by decide +kernel)
theorem nw_2_67 : (Jvm.Cond.exactly (Jvm.Term.string "LarderPatrol" (394 : Nat)) "java/lang/String") ∈ flatC (given_1.and narrow_1) := tn2 67 (by decide +kernel)
theorem nw_2_93 : (Jvm.Cond.exactly (Jvm.Term.string "LarderPatrol" (131 : Nat)) "java/lang/String") ∈ flatC (given_1.and narrow_1) := tn2 93 (by decide +kernel)
theorem nw_2_137 : (Jvm.Cond.exactly (Jvm.Term.string "LarderPatrol" (146 : Nat)) "java/lang/String") ∈ flatC (given_1.and narrow_1) := tn2 137 (by decide +kernel)
theorem nw_2_162 : (Jvm.Cond.exactly (Jvm.Term.string "LarderPatrol" (167 : Nat)) "java/lang/String") ∈ flatC (given_1.and narrow_1) := tn2 162 (by decide +kernel)
theorem nw_2_187 : (Jvm.Cond.exactly (Jvm.Term.string "LarderPatrol" (259 : Nat)) "java/lang/String") ∈ flatC (given_1.and narrow_1) := tn2 187 (by decide +kernel)
theorem nw_2_211 : (Jvm.Cond.exactly (Jvm.Term.string "LarderPatrol" (179 : Nat)) "java/lang/String") ∈ flatC (given_1.and narrow_1) := tn2 211 (by decide +kernel)
theorem nw_2_233 : (Jvm.Cond.exactly (Jvm.Term.string "LarderPatrol" (190 : Nat)) "java/lang/String") ∈ flatC (given_1.and narrow_1) := tn2 233 (by decide +kernel)
theorem nw_2_277 : (Jvm.Cond.exactly (Jvm.Term.string "LarderPatrol" (197 : Nat)) "java/lang/String") ∈ flatC (given_1.and narrow_1) := tn2 277 (by decide +kernel)
theorem nw_2_318 : (Jvm.Cond.exactly (Jvm.Term.string "LarderPatrol" (396 : Nat)) "java/lang/String") ∈ flatC (given_1.and narrow_1) := tn2 318 (by decide +kernel)
theorem nw_2_344 : (Jvm.Cond.exactly (Jvm.Term.string "LarderPatrol" (262 : Nat)) "java/lang/String") ∈ flatC (given_1.and narrow_1) := tn2 344 (by decide +kernel)
theorem nw_2_379 : (Jvm.Cond.exactly (Jvm.Term.string "LarderPatrol" (269 : Nat)) "java/lang/String") ∈ flatC (given_1.and narrow_1) := tn2 379 (by decide +kernel)
theorem nw_3_6 : (Jvm.Cond.exactly (Jvm.Term.string "LarderPatrol" (282 : Nat)) "java/lang/String") ∈ flatC (given_1.and narrow_1) := tn3 6 (by decide +kernel)
theorem nw_3_45 : (Jvm.Cond.exactly (Jvm.Term.string "LarderPatrol" (290 : Nat)) "java/lang/String") ∈ flatC (given_1.and narrow_1) := tn3 45 (by decide +kernel)
theorem nw_3_77 : (Jvm.Cond.exactly (Jvm.Term.string "LarderPatrol" (299 : Nat)) "java/lang/String") ∈ flatC (given_1.and narrow_1) := tn3 77 (by decide +kernel)
theorem nw_3_111 : (Jvm.Cond.exactly (Jvm.Term.string "LarderPatrol" (313 : Nat)) "java/lang/String") ∈ flatC (given_1.and narrow_1) := tn3 111 (by decide +kernel)
theorem nw_3_137 : (Jvm.Cond.exactly (Jvm.Term.string "LarderPatrol" (398 : Nat)) "java/lang/String") ∈ flatC (given_1.and narrow_1) := tn3 137 (by decide +kernel)
theorem nw_3_163 : (Jvm.Cond.exactly (Jvm.Term.string "LarderPatrol" (325 : Nat)) "java/lang/String") ∈ flatC (given_1.and narrow_1) := tn3 163 (by decide +kernel)
theorem nw_3_198 : (Jvm.Cond.exactly (Jvm.Term.string "LarderPatrol" (328 : Nat)) "java/lang/String") ∈ flatC (given_1.and narrow_1) := tn3 198 (by decide +kernel)
theorem nw_3_228 : (Jvm.Cond.exactly (Jvm.Term.string "LarderPatrol" (337 : Nat)) "java/lang/String") ∈ flatC (given_1.and narrow_1) := tn3 228 (by decide +kernel)
theorem nw_1_301 : (Jvm.Cond.not (Jvm.Cond.castable "java/lang/IndexOutOfBoundsException" "java/lang/IllegalArgumentException")) ∈ flatC (given_1.and narrow_1) := tn1 301 (by decide +kernel)
theorem nw_1_302 : (Jvm.Cond.not (Jvm.Cond.castable "java/lang/UnsupportedOperationException" "java/lang/IllegalArgumentException")) ∈ flatC (given_1.and narrow_1) := tn1 302 (by decide +kernel)
theorem nw_1_303 : (Jvm.Cond.not (Jvm.Cond.castable "java/lang/ArrayIndexOutOfBoundsException" "java/lang/IllegalArgumentException")) ∈ flatC (given_1.and narrow_1) := tn1 303 (by decide +kernel)
theorem nw_1_304 : (Jvm.Cond.not (Jvm.Cond.castable "java/util/NoSuchElementException" "java/lang/IllegalArgumentException")) ∈ flatC (given_1.and narrow_1) := tn1 304 (by decide +kernel)
theorem nw_1_305 : (Jvm.Cond.not (Jvm.Cond.castable "java/lang/ArithmeticException" "java/lang/IllegalArgumentException")) ∈ flatC (given_1.and narrow_1) := tn1 305 (by decide +kernel)
theorem nw_1_306 : (Jvm.Cond.not (Jvm.Cond.castable "java/lang/IllegalStateException" "java/lang/IllegalArgumentException")) ∈ flatC (given_1.and narrow_1) := tn1 306 (by decide +kernel)
theorem nw_1_319 : (Jvm.Cond.not (Jvm.Cond.castable "java/lang/IndexOutOfBoundsException" "java/lang/UnsupportedOperationException")) ∈ flatC (given_1.and narrow_1) := tn1 319 (by decide +kernel)
theorem nw_1_320 : (Jvm.Cond.not (Jvm.Cond.castable "java/lang/IllegalArgumentException" "java/lang/UnsupportedOperationException")) ∈ flatC (given_1.and narrow_1) := tn1 320 (by decide +kernel)
theorem nw_1_321 : (Jvm.Cond.not (Jvm.Cond.castable "java/lang/ArrayIndexOutOfBoundsException" "java/lang/UnsupportedOperationException")) ∈ flatC (given_1.and narrow_1) := tn1 321 (by decide +kernel)
theorem nw_1_322 : (Jvm.Cond.not (Jvm.Cond.castable "java/util/NoSuchElementException" "java/lang/UnsupportedOperationException")) ∈ flatC (given_1.and narrow_1) := tn1 322 (by decide +kernel)
theorem nw_1_323 : (Jvm.Cond.not (Jvm.Cond.castable "java/lang/ArithmeticException" "java/lang/UnsupportedOperationException")) ∈ flatC (given_1.and narrow_1) := tn1 323 (by decide +kernel)
theorem nw_1_324 : (Jvm.Cond.not (Jvm.Cond.castable "java/lang/IllegalStateException" "java/lang/UnsupportedOperationException")) ∈ flatC (given_1.and narrow_1) := tn1 324 (by decide +kernel)
theorem nw_1_337 : (Jvm.Cond.not (Jvm.Cond.castable "java/lang/IllegalArgumentException" "java/lang/IndexOutOfBoundsException")) ∈ flatC (given_1.and narrow_1) := tn1 337 (by decide +kernel)
theorem nw_1_338 : (Jvm.Cond.not (Jvm.Cond.castable "java/lang/UnsupportedOperationException" "java/lang/IndexOutOfBoundsException")) ∈ flatC (given_1.and narrow_1) := tn1 338 (by decide +kernel)
theorem nw_1_339 : (Jvm.Cond.not (Jvm.Cond.castable "java/util/NoSuchElementException" "java/lang/IndexOutOfBoundsException")) ∈ flatC (given_1.and narrow_1) := tn1 339 (by decide +kernel)
theorem nw_1_340 : (Jvm.Cond.not (Jvm.Cond.castable "java/lang/ArithmeticException" "java/lang/IndexOutOfBoundsException")) ∈ flatC (given_1.and narrow_1) := tn1 340 (by decide +kernel)
theorem nw_1_341 : (Jvm.Cond.not (Jvm.Cond.castable "java/lang/IllegalStateException" "java/lang/IndexOutOfBoundsException")) ∈ flatC (given_1.and narrow_1) := tn1 341 (by decide +kernel)
theorem nw_1_354 : (Jvm.Cond.not (Jvm.Cond.castable "java/lang/IndexOutOfBoundsException" "java/util/NoSuchElementException")) ∈ flatC (given_1.and narrow_1) := tn1 354 (by decide +kernel)
theorem nw_1_355 : (Jvm.Cond.not (Jvm.Cond.castable "java/lang/IllegalArgumentException" "java/util/NoSuchElementException")) ∈ flatC (given_1.and narrow_1) := tn1 355 (by decide +kernel)
theorem nw_1_356 : (Jvm.Cond.not (Jvm.Cond.castable "java/lang/UnsupportedOperationException" "java/util/NoSuchElementException")) ∈ flatC (given_1.and narrow_1) := tn1 356 (by decide +kernel)
theorem nw_1_357 : (Jvm.Cond.not (Jvm.Cond.castable "java/lang/ArrayIndexOutOfBoundsException" "java/util/NoSuchElementException")) ∈ flatC (given_1.and narrow_1) := tn1 357 (by decide +kernel)
theorem nw_1_358 : (Jvm.Cond.not (Jvm.Cond.castable "java/lang/ArithmeticException" "java/util/NoSuchElementException")) ∈ flatC (given_1.and narrow_1) := tn1 358 (by decide +kernel)
theorem nw_1_359 : (Jvm.Cond.not (Jvm.Cond.castable "java/lang/IllegalStateException" "java/util/NoSuchElementException")) ∈ flatC (given_1.and narrow_1) := tn1 359 (by decide +kernel)
theorem nw_1_372 : (Jvm.Cond.not (Jvm.Cond.castable "java/lang/IndexOutOfBoundsException" "java/lang/ArithmeticException")) ∈ flatC (given_1.and narrow_1) := tn1 372 (by decide +kernel)
theorem nw_1_373 : (Jvm.Cond.not (Jvm.Cond.castable "java/lang/IllegalArgumentException" "java/lang/ArithmeticException")) ∈ flatC (given_1.and narrow_1) := tn1 373 (by decide +kernel)
theorem nw_1_374 : (Jvm.Cond.not (Jvm.Cond.castable "java/lang/UnsupportedOperationException" "java/lang/ArithmeticException")) ∈ flatC (given_1.and narrow_1) := tn1 374 (by decide +kernel)
theorem nw_1_375 : (Jvm.Cond.not (Jvm.Cond.castable "java/lang/ArrayIndexOutOfBoundsException" "java/lang/ArithmeticException")) ∈ flatC (given_1.and narrow_1) := tn1 375 (by decide +kernel)
theorem nw_1_376 : (Jvm.Cond.not (Jvm.Cond.castable "java/util/NoSuchElementException" "java/lang/ArithmeticException")) ∈ flatC (given_1.and narrow_1) := tn1 376 (by decide +kernel)
theorem nw_1_377 : (Jvm.Cond.not (Jvm.Cond.castable "java/lang/IllegalStateException" "java/lang/ArithmeticException")) ∈ flatC (given_1.and narrow_1) := tn1 377 (by decide +kernel)
theorem nw_1_390 : (Jvm.Cond.not (Jvm.Cond.castable "java/lang/IndexOutOfBoundsException" "java/lang/IllegalStateException")) ∈ flatC (given_1.and narrow_1) := tn1 390 (by decide +kernel)
theorem nw_1_391 : (Jvm.Cond.not (Jvm.Cond.castable "java/lang/IllegalArgumentException" "java/lang/IllegalStateException")) ∈ flatC (given_1.and narrow_1) := tn1 391 (by decide +kernel)
theorem nw_1_392 : (Jvm.Cond.not (Jvm.Cond.castable "java/lang/UnsupportedOperationException" "java/lang/IllegalStateException")) ∈ flatC (given_1.and narrow_1) := tn1 392 (by decide +kernel)
theorem nw_1_393 : (Jvm.Cond.not (Jvm.Cond.castable "java/lang/ArrayIndexOutOfBoundsException" "java/lang/IllegalStateException")) ∈ flatC (given_1.and narrow_1) := tn1 393 (by decide +kernel)
theorem nw_1_394 : (Jvm.Cond.not (Jvm.Cond.castable "java/util/NoSuchElementException" "java/lang/IllegalStateException")) ∈ flatC (given_1.and narrow_1) := tn1 394 (by decide +kernel)
theorem nw_1_395 : (Jvm.Cond.not (Jvm.Cond.castable "java/lang/ArithmeticException" "java/lang/IllegalStateException")) ∈ flatC (given_1.and narrow_1) := tn1 395 (by decide +kernel)
theorem st_lV : allN 11 (fun i => Cond.laysStatic "LarderPatrol$Verb" (vN.getD i "") "LLarderPatrol$Verb;" ∈ lw_tbl) := ⟨⟨⟨⟨⟨⟨⟨⟨⟨⟨⟨trivial, wk_1_223⟩, wk_4_81⟩, wk_4_90⟩, wk_3_146⟩, wk_4_100⟩, wk_4_109⟩, wk_4_219⟩, wk_4_228⟩, wk_5_66⟩, wk_5_75⟩, wk_5_48⟩
theorem st_xV : allN 11 (fun i => Cond.exactly (Term.static "LarderPatrol$Verb" (vN.getD i "") "LLarderPatrol$Verb;") "LarderPatrol$Verb" ∈ flatC (given_1.and narrow_1)) := ⟨⟨⟨⟨⟨⟨⟨⟨⟨⟨⟨trivial, nw_1_2⟩, nw_1_106⟩, nw_1_120⟩, nw_1_93⟩, nw_1_135⟩, nw_1_151⟩, nw_1_168⟩, nw_1_186⟩, nw_1_225⟩, nw_1_246⟩, nw_1_205⟩
theorem st_fV0 : allN 11 (fun i => Cond.eq (.field (Term.static "LarderPatrol$Verb" (vN.getD i "") "LLarderPatrol$Verb;") "java/lang/Enum" "ordinal" "I") (.int (([0, 1, 2, 3, 4, 5, 6, 7, 8, 9, 10] : List Int32).getD i 0)) ∈ flatC (given_1.and narrow_1)) := ⟨⟨⟨⟨⟨⟨⟨⟨⟨⟨⟨trivial, nw_1_3⟩, nw_1_107⟩, nw_1_121⟩, nw_1_94⟩, nw_1_136⟩, nw_1_152⟩, nw_1_169⟩, nw_1_187⟩, nw_1_226⟩, nw_1_247⟩, nw_1_206⟩
theorem st_fV1 : allN 11 (fun i => Cond.eq (.field (Term.static "LarderPatrol$Verb" (vN.getD i "") "LLarderPatrol$Verb;") "LarderPatrol$Verb" "limit" "I") (.int (([12, 20, 0, 0, 0, 99, 10, 0, 0, 0, 0] : List Int32).getD i 0)) ∈ flatC (given_1.and narrow_1)) := ⟨⟨⟨⟨⟨⟨⟨⟨⟨⟨⟨trivial, nw_1_5⟩, nw_1_109⟩, nw_1_123⟩, nw_1_96⟩, nw_1_138⟩, nw_1_154⟩, nw_1_171⟩, nw_1_189⟩, nw_1_228⟩, nw_1_249⟩, nw_1_208⟩
theorem st_dV : allN 11 (fun i => allN i (fun j => (Cond.not (.eq (.static "LarderPatrol$Verb" (vN.getD i "") "LLarderPatrol$Verb;") (.static "LarderPatrol$Verb" (vN.getD j "") "LLarderPatrol$Verb;"))) ∈ flatC (given_1.and narrow_1) ∨ (Cond.not (.eq (.static "LarderPatrol$Verb" (vN.getD j "") "LLarderPatrol$Verb;") (.static "LarderPatrol$Verb" (vN.getD i "") "LLarderPatrol$Verb;"))) ∈ flatC (given_1.and narrow_1))) := ⟨⟨⟨⟨⟨⟨⟨⟨⟨⟨⟨trivial, trivial⟩, ⟨trivial, Or.inr nw_1_110⟩⟩, ⟨⟨trivial, Or.inr nw_1_124⟩, Or.inr nw_1_134⟩⟩, ⟨⟨⟨trivial, Or.inr nw_1_97⟩, Or.inl nw_1_119⟩, Or.inl nw_1_133⟩⟩, ⟨⟨⟨⟨trivial, Or.inr nw_1_139⟩, Or.inr nw_1_149⟩, Or.inr nw_1_150⟩, Or.inr nw_1_148⟩⟩, ⟨⟨⟨⟨⟨trivial, Or.inr nw_1_155⟩, Or.inr nw_1_165⟩, Or.inr nw_1_166⟩, Or.inr nw_1_164⟩, Or.inr nw_1_167⟩⟩, ⟨⟨⟨⟨⟨⟨trivial, Or.inr nw_1_172⟩, Or.inr nw_1_182⟩, Or.inr nw_1_183⟩, Or.inr nw_1_181⟩, Or.inr nw_1_184⟩, Or.inr nw_1_185⟩⟩, ⟨⟨⟨⟨⟨⟨⟨trivial, Or.inr nw_1_190⟩, Or.inr nw_1_200⟩, Or.inr nw_1_201⟩, Or.inr nw_1_199⟩, Or.inr nw_1_202⟩, Or.inr nw_1_203⟩, Or.inr nw_1_204⟩⟩, ⟨⟨⟨⟨⟨⟨⟨⟨trivial, Or.inr nw_1_229⟩, Or.inr nw_1_239⟩, Or.inr nw_1_240⟩, Or.inr nw_1_238⟩, Or.inr nw_1_241⟩, Or.inr nw_1_242⟩, Or.inr nw_1_243⟩, Or.inr nw_1_244⟩⟩, ⟨⟨⟨⟨⟨⟨⟨⟨⟨trivial, Or.inr nw_1_250⟩, Or.inr nw_1_260⟩, Or.inr nw_1_261⟩, Or.inr nw_1_259⟩, Or.inr nw_1_262⟩, Or.inr nw_1_263⟩, Or.inr nw_1_264⟩, Or.inr nw_1_265⟩, Or.inr nw_1_267⟩⟩, ⟨⟨⟨⟨⟨⟨⟨⟨⟨⟨trivial, Or.inr nw_1_209⟩, Or.inr nw_1_219⟩, Or.inr nw_1_220⟩, Or.inr nw_1_218⟩, Or.inr nw_1_221⟩, Or.inr nw_1_222⟩, Or.inr nw_1_223⟩, Or.inr nw_1_224⟩, Or.inl nw_1_245⟩, Or.inl nw_1_266⟩⟩
theorem st_enV (hts : HTS b s) (hn : NWH b s) : ∃ ad : Nat → Nat, va_En "LarderPatrol$Verb" "LLarderPatrol$Verb;" vN vF ad (AS s) s s.heap ∧ ∀ i, i < vN.length → (Term.static "LarderPatrol$Verb" (vN.getD i "") "LLarderPatrol$Verb;").eval #[Value.ref b] s none [] s = some (.ref (ad i)) := by
  have hs := flat_of_before _ hn
  refine va_Enof2 (fun i hi => hts _ (st_lV.at hi)) (hts _ wk_1_10) (fun i hi => hs _ (st_xV.at hi)) (fun q hq i hi => hs _ ?_) (fun i j hi hj hij => ?_) (AS_no s)
  · rcases List.mem_cons.mp hq with rfl | hq
    · exact st_fV0.at hi
    · rcases List.mem_cons.mp hq with rfl | hq
      · exact st_fV1.at hi
      · exact absurd hq List.not_mem_nil
  · rcases Nat.lt_or_gt_of_ne hij with h | h
    · exact ((st_dV.at hj).at h).symm.imp (hs _) (hs _)
    · exact ((st_dV.at hi).at h).imp (hs _) (hs _)
theorem st_lR : allN 8 (fun i => Cond.laysStatic "LarderPatrol$Refusal" (rN.getD i "") "LLarderPatrol$Refusal;" ∈ lw_tbl) := ⟨⟨⟨⟨⟨⟨⟨⟨trivial, wk_2_232⟩, wk_2_230⟩, wk_3_7⟩, wk_3_13⟩, wk_3_19⟩, wk_3_26⟩, wk_3_5⟩, wk_2_228⟩
theorem st_xR : allN 8 (fun i => Cond.exactly (Term.static "LarderPatrol$Refusal" (rN.getD i "") "LLarderPatrol$Refusal;") "LarderPatrol$Refusal" ∈ flatC (given_1.and narrow_1)) := ⟨⟨⟨⟨⟨⟨⟨⟨trivial, nw_1_29⟩, nw_1_24⟩, nw_1_42⟩, nw_1_50⟩, nw_1_59⟩, nw_1_69⟩, nw_1_35⟩, nw_1_20⟩
theorem st_fR0 : allN 8 (fun i => Cond.eq (.field (Term.static "LarderPatrol$Refusal" (rN.getD i "") "LLarderPatrol$Refusal;") "java/lang/Enum" "ordinal" "I") (.int (([0, 1, 2, 3, 4, 5, 6, 7] : List Int32).getD i 0)) ∈ flatC (given_1.and narrow_1)) := ⟨⟨⟨⟨⟨⟨⟨⟨trivial, nw_1_30⟩, nw_1_25⟩, nw_1_43⟩, nw_1_51⟩, nw_1_60⟩, nw_1_70⟩, nw_1_36⟩, nw_1_21⟩
theorem st_fR1 : allN 8 (fun i => Cond.eq (.field (Term.static "LarderPatrol$Refusal" (rN.getD i "") "LLarderPatrol$Refusal;") "LarderPatrol$Refusal" "number" "I") (.int (([0, 1, 2, 3, 4, 5, 7, 7] : List Int32).getD i 0)) ∈ flatC (given_1.and narrow_1)) := ⟨⟨⟨⟨⟨⟨⟨⟨trivial, nw_1_31⟩, nw_1_26⟩, nw_1_44⟩, nw_1_52⟩, nw_1_61⟩, nw_1_71⟩, nw_1_37⟩, nw_1_22⟩
theorem st_dR : allN 8 (fun i => allN i (fun j => (Cond.not (.eq (.static "LarderPatrol$Refusal" (rN.getD i "") "LLarderPatrol$Refusal;") (.static "LarderPatrol$Refusal" (rN.getD j "") "LLarderPatrol$Refusal;"))) ∈ flatC (given_1.and narrow_1) ∨ (Cond.not (.eq (.static "LarderPatrol$Refusal" (rN.getD j "") "LLarderPatrol$Refusal;") (.static "LarderPatrol$Refusal" (rN.getD i "") "LLarderPatrol$Refusal;"))) ∈ flatC (given_1.and narrow_1))) := ⟨⟨⟨⟨⟨⟨⟨⟨trivial, trivial⟩, ⟨trivial, Or.inl nw_1_34⟩⟩, ⟨⟨trivial, Or.inr nw_1_48⟩, Or.inr nw_1_47⟩⟩, ⟨⟨⟨trivial, Or.inr nw_1_56⟩, Or.inr nw_1_55⟩, Or.inr nw_1_58⟩⟩, ⟨⟨⟨⟨trivial, Or.inr nw_1_65⟩, Or.inr nw_1_64⟩, Or.inr nw_1_67⟩, Or.inr nw_1_68⟩⟩, ⟨⟨⟨⟨⟨trivial, Or.inr nw_1_75⟩, Or.inr nw_1_74⟩, Or.inr nw_1_77⟩, Or.inr nw_1_78⟩, Or.inr nw_1_79⟩⟩, ⟨⟨⟨⟨⟨⟨trivial, Or.inr nw_1_41⟩, Or.inr nw_1_40⟩, Or.inl nw_1_49⟩, Or.inl nw_1_57⟩, Or.inl nw_1_66⟩, Or.inl nw_1_76⟩⟩, ⟨⟨⟨⟨⟨⟨⟨trivial, Or.inl nw_1_33⟩, Or.inl nw_1_28⟩, Or.inl nw_1_46⟩, Or.inl nw_1_54⟩, Or.inl nw_1_63⟩, Or.inl nw_1_73⟩, Or.inl nw_1_39⟩⟩
theorem st_enR (hts : HTS b s) (hn : NWH b s) : ∃ ad : Nat → Nat, va_En "LarderPatrol$Refusal" "LLarderPatrol$Refusal;" rN rF ad (AS s) s s.heap ∧ ∀ i, i < rN.length → (Term.static "LarderPatrol$Refusal" (rN.getD i "") "LLarderPatrol$Refusal;").eval #[Value.ref b] s none [] s = some (.ref (ad i)) := by
  have hs := flat_of_before _ hn
  refine va_Enof2 (fun i hi => hts _ (st_lR.at hi)) (hts _ wk_1_14) (fun i hi => hs _ (st_xR.at hi)) (fun q hq i hi => hs _ ?_) (fun i j hi hj hij => ?_) (AS_no s)
  · rcases List.mem_cons.mp hq with rfl | hq
    · exact st_fR0.at hi
    · rcases List.mem_cons.mp hq with rfl | hq
      · exact st_fR1.at hi
      · exact absurd hq List.not_mem_nil
  · rcases Nat.lt_or_gt_of_ne hij with h | h
    · exact ((st_dR.at hj).at h).symm.imp (hs _) (hs _)
    · exact ((st_dR.at hi).at h).imp (hs _) (hs _)
def pIdx : List Nat := [67, 73, 76, 79, 82, 85, 88, 91, 94, 97, 100]
abbrev pTm (i : Nat) : Term := .string "LarderPatrol$Verb" (pIdx.getD i 0)
theorem st_p1 : allN 11 (fun i => Cond.exactly (pTm i) "java/lang/String" ∈ flatC (given_1.and narrow_1)) := ⟨⟨⟨⟨⟨⟨⟨⟨⟨⟨⟨trivial, nw_3_252⟩, nw_3_273⟩, nw_3_285⟩, nw_3_263⟩, nw_3_296⟩, nw_3_306⟩, nw_3_318⟩, nw_3_328⟩, nw_3_348⟩, nw_3_358⟩, nw_3_338⟩
theorem st_p2 : allN 11 (fun i => Cond.eq (.field (pTm i) "java/lang/String" "coder" "B") (.int 0) ∈ flatC (given_1.and narrow_1)) := ⟨⟨⟨⟨⟨⟨⟨⟨⟨⟨⟨trivial, nw_3_253⟩, nw_3_274⟩, nw_3_286⟩, nw_3_264⟩, nw_3_297⟩, nw_3_307⟩, nw_3_319⟩, nw_3_329⟩, nw_3_349⟩, nw_3_359⟩, nw_3_339⟩
theorem st_p3 : allN 11 (fun i => Cond.arrayOf (.field (pTm i) "java/lang/String" "value" "[B") .byte ∈ flatC (given_1.and narrow_1)) := ⟨⟨⟨⟨⟨⟨⟨⟨⟨⟨⟨trivial, nw_3_254⟩, nw_3_275⟩, nw_3_287⟩, nw_3_265⟩, nw_3_298⟩, nw_3_308⟩, nw_3_320⟩, nw_3_330⟩, nw_3_350⟩, nw_3_360⟩, nw_3_340⟩
theorem st_p4 : allN 11 (fun i => Cond.eq (.length (.field (pTm i) "java/lang/String" "value" "[B")) (.int (Int32.ofNat (pLen.getD i 0))) ∈ flatC (given_1.and narrow_1)) := ⟨⟨⟨⟨⟨⟨⟨⟨⟨⟨⟨trivial, nw_3_255⟩, nw_3_276⟩, nw_3_288⟩, nw_3_266⟩, nw_3_299⟩, nw_3_309⟩, nw_3_321⟩, nw_3_331⟩, nw_3_351⟩, nw_3_361⟩, nw_3_341⟩
theorem st_p5 : allN 11 (fun i => allN (pLen.getD i 0) (fun j => Cond.eq (.elem (.field (pTm i) "java/lang/String" "value" "[B") (.int (Int32.ofNat j))) (.int ((pByt.getD i []).getD j 0)) ∈ flatC (given_1.and narrow_1))) := ⟨⟨⟨⟨⟨⟨⟨⟨⟨⟨⟨trivial, ⟨⟨⟨⟨⟨⟨⟨trivial, nw_3_256⟩, nw_3_257⟩, nw_3_258⟩, nw_3_259⟩, nw_3_260⟩, nw_3_261⟩, nw_3_262⟩⟩, ⟨⟨⟨⟨⟨⟨⟨⟨trivial, nw_3_277⟩, nw_3_278⟩, nw_3_279⟩, nw_3_280⟩, nw_3_281⟩, nw_3_282⟩, nw_3_283⟩, nw_3_284⟩⟩, ⟨⟨⟨⟨⟨⟨⟨trivial, nw_3_289⟩, nw_3_290⟩, nw_3_291⟩, nw_3_292⟩, nw_3_293⟩, nw_3_294⟩, nw_3_295⟩⟩, ⟨⟨⟨⟨⟨⟨trivial, nw_3_267⟩, nw_3_268⟩, nw_3_269⟩, nw_3_270⟩, nw_3_271⟩, nw_3_272⟩⟩, ⟨⟨⟨⟨⟨⟨trivial, nw_3_300⟩, nw_3_301⟩, nw_3_302⟩, nw_3_303⟩, nw_3_304⟩, nw_3_305⟩⟩, ⟨⟨⟨⟨⟨⟨⟨⟨trivial, nw_3_310⟩, nw_3_311⟩, nw_3_312⟩, nw_3_313⟩, nw_3_314⟩, nw_3_315⟩, nw_3_316⟩, nw_3_317⟩⟩, ⟨⟨⟨⟨⟨⟨trivial, nw_3_322⟩, nw_3_323⟩, nw_3_324⟩, nw_3_325⟩, nw_3_326⟩, nw_3_327⟩⟩, ⟨⟨⟨⟨⟨⟨trivial, nw_3_332⟩, nw_3_333⟩, nw_3_334⟩, nw_3_335⟩, nw_3_336⟩, nw_3_337⟩⟩, ⟨⟨⟨⟨⟨⟨trivial, nw_3_352⟩, nw_3_353⟩, nw_3_354⟩, nw_3_355⟩, nw_3_356⟩, nw_3_357⟩⟩, ⟨⟨⟨⟨⟨⟨trivial, nw_3_362⟩, nw_3_363⟩, nw_3_364⟩, nw_3_365⟩, nw_3_366⟩, nw_3_367⟩⟩, ⟨⟨⟨⟨⟨⟨trivial, nw_3_342⟩, nw_3_343⟩, nw_3_344⟩, nw_3_345⟩, nw_3_346⟩, nw_3_347⟩⟩
theorem va_OF_uniq {o n d : String} {v w : Value} {t : Nat} {A : Nat → Prop} {U : State} {H : Heap} (h : va_OF o n d v t A U H) (g : va_OF o n d w t A U H) : v = w := by
  obtain ⟨cf, k, i, f, cell, h1, -, h3, -, h5, -⟩ := h
  obtain ⟨cf', k', i', f', cell', g1, -, g3, -, g5, -⟩ := g
  rw [h1] at g1
  cases g1
  rw [h3] at g3
  cases g3
  rw [h5] at g5
  exact Option.some.inj g5
theorem vk_Sof2 {args : Array Value} {s : State} {N : Nat} {tm : Nat → Term} {len : List Nat} {byt : List (List Int32)} {A : Nat → Prop} (hN : ∀ i : Nat, i < N → len.getD i 0 < 2 ^ 31) (hex : ∀ i : Nat, i < N → (Cond.exactly (tm i) "java/lang/String").before args s = true) (hco : ∀ i : Nat, i < N → (Cond.eq (.field (tm i) "java/lang/String" "coder" "B") (.int 0)).before args s = true)
    (har : ∀ i : Nat, i < N → (Cond.arrayOf (.field (tm i) "java/lang/String" "value" "[B") .byte).before args s = true) (hle : ∀ i : Nat, i < N → (Cond.eq (.length (.field (tm i) "java/lang/String" "value" "[B")) (.int (Int32.ofNat (len.getD i 0)))).before args s = true)
    (hel : ∀ i : Nat, i < N → ∀ j : Nat, j < len.getD i 0 → (Cond.eq (.elem (.field (tm i) "java/lang/String" "value" "[B") (.int (Int32.ofNat j))) (.int ((byt.getD i []).getD j 0))).before args s = true)
    (hne : ∀ i, i < N → ∀ j, j < N → i ≠ j → Int32.ofNat (len.getD i 0) ≠ Int32.ofNat (len.getD j 0) ∨ ∃ q, q < len.getD i 0 ∧ q < len.getD j 0 ∧ (byt.getD i []).getD q 0 ≠ (byt.getD j []).getD q 0) (hA : ∀ a : Nat, a < s.heap.size → ¬ A a) :
    ∃ adK adV : Nat → Nat, vk_S N len byt adK adV A s s.heap ∧ ∀ i : Nat, i < N → (tm i).eval args s none [] s = some (.ref (adK i)) := by
  have h0 : ∀ i : Nat, ∃ q : Nat × Nat, i < N → (tm i).eval args s none [] s = some (.ref q.1) ∧ va_O "java/lang/String" q.1 A s s.heap ∧ va_OF "java/lang/String" "coder" "B" (.int 0) q.1 A s s.heap ∧ va_OF "java/lang/String" "value" "[B" (.ref q.2) q.1 A s s.heap ∧ va_T .byte q.2 (len.getD i 0) (fun j => .int ((byt.getD i []).getD j 0)) A s s.heap := by
    intro i
    by_cases hi : i < N
    · obtain ⟨a, c, cA, kA, q1, q2, q3, q4, q5, q6, -⟩ := Cond.exactly_spec (args := args) (first := s) (o := none) (s := s) (idx := []) (t := tm i) (cls := "java/lang/String") (hex i hi)
      obtain ⟨t, ht, hT⟩ := va_Tof (f := fun j => .int ((byt.getD i []).getD j 0)) (A := A) (hN i hi) (har i hi) (va_eqt (hle i hi)) (fun j hj => va_eqt (hel i hi j hj)) hA
      exact ⟨(a, t), fun _ => ⟨q1, ⟨cA, q3, q5, by rw [q6]; exact q2, hA a (Array.getElem?_eq_some_iff.mp q3).1⟩, vk_OFof q1 (va_eqt (hco i hi)) hA, vk_OFof q1 ht hA, hT⟩⟩
    · exact ⟨(0, 0), fun h => absurd h hi⟩
  obtain ⟨ad, had⟩ := Classical.axiomOfChoice h0
  refine ⟨fun i => (ad i).1, fun i => (ad i).2, ⟨fun i hi => (had i hi).2, fun i j hi hj e => ?_⟩, fun i hi => (had i hi).1⟩
  by_cases hij : i = j
  · exact hij
  · exfalso
    have e : (ad i).1 = (ad j).1 := e
    obtain ⟨-, -, -, fi, cell, i1, -, -, i4, i5, i6, -⟩ := had i hi
    obtain ⟨-, -, -, fj, cell', j1, -, -, j4, j5, j6, -⟩ := had j hj
    rw [e] at fi
    have ev : (ad i).2 = (ad j).2 := Value.ref.inj (va_OF_uniq fi fj)
    rw [ev, j1] at i1
    cases i1
    rcases hne i hi j hj hij with h | ⟨q, h1, h2, h3⟩
    · exact h (i5.symm.trans j5)
    · have a1 := i6 q h1
      rw [j6 q h2] at a1
      exact h3 (Value.int.inj (Option.some.inj a1)).symm
theorem st_ne : ∀ i, i < 11 → ∀ j, j < 11 → i ≠ j → Int32.ofNat (pLen.getD i 0) ≠ Int32.ofNat (pLen.getD j 0) ∨ ∃ q, q < pLen.getD i 0 ∧ q < pLen.getD j 0 ∧ (pByt.getD i []).getD q 0 ≠ (pByt.getD j []).getD q 0 := by
  have h : ∀ i, i < 11 → ∀ j, j < 11 → i ≠ j → ∃ q, q < 6 ∧ (pByt.getD i []).getD q 0 ≠ (pByt.getD j []).getD q 0 := by decide +kernel
  have h6 : ∀ i, i < 11 → 6 ≤ pLen.getD i 0 := by decide
  exact fun i hi j hj hij => (h i hi j hj hij).elim fun q hq => Or.inr ⟨q, Nat.lt_of_lt_of_le hq.1 (h6 i hi), Nat.lt_of_lt_of_le hq.1 (h6 j hj), hq.2⟩
theorem st_S (hn : NWH b s) : ∃ adK adV : Nat → Nat, vk_S 11 pLen pByt adK adV (AS s) s s.heap ∧ ∀ i : Nat, i < 11 → (pTm i).eval #[Value.ref b] s none [] s = some (.ref (adK i)) := by
  have hs := flat_of_before _ hn
  exact vk_Sof2 (by decide +kernel) (fun i hi => hs _ (st_p1.at hi)) (fun i hi => hs _ (st_p2.at hi)) (fun i hi => hs _ (st_p3.at hi)) (fun i hi => hs _ (st_p4.at hi)) (fun i hi j hj => hs _ ((st_p5.at hi).at hj)) st_ne (AS_no s)
theorem st_pe : allN 11 (fun i => Cond.eq (.field (.static "LarderPatrol$Verb" (vN.getD i "") "LLarderPatrol$Verb;") "LarderPatrol$Verb" "pattern" "Ljava/lang/String;") (pTm i) ∈ flatC (given_1.and narrow_1)) := ⟨⟨⟨⟨⟨⟨⟨⟨⟨⟨⟨trivial, nw_1_4⟩, nw_1_108⟩, nw_1_122⟩, nw_1_95⟩, nw_1_137⟩, nw_1_153⟩, nw_1_170⟩, nw_1_188⟩, nw_1_227⟩, nw_1_248⟩, nw_1_207⟩
theorem st_Ef {ad adK : Nat → Nat} (hn : NWH b s) (hev : ∀ i, i < vN.length → (Term.static "LarderPatrol$Verb" (vN.getD i "") "LLarderPatrol$Verb;").eval #[Value.ref b] s none [] s = some (.ref (ad i))) (hK : ∀ i : Nat, i < 11 → (pTm i).eval #[Value.ref b] s none [] s = some (.ref (adK i))) : va_Ef 11 "LarderPatrol$Verb" "pattern" "Ljava/lang/String;" (fun i => .ref (adK i)) ad (AS s) s s.heap := by
  have hs := flat_of_before _ hn
  exact va_Efof (nm := vN) (tm := pTm) hev (fun i hi => hs _ (st_pe.at hi)) (fun i hi => hK i hi) (AS_no s)
theorem st_T (hts : HTS b s) (hn : NWH b s) {C n d : String} {ty : FieldType} {N : Nat} {f : Nat → Value} (h31 : N < 2 ^ 31) (harr : Cond.arrayOf (.static C n d) ty ∈ flatC (given_1.and narrow_1)) (hlen : Cond.eq (.length (.static C n d)) (.int (Int32.ofNat N)) ∈ flatC (given_1.and narrow_1)) (hel : ∀ j : Nat, j < N → (Term.elem (.static C n d) (.int (Int32.ofNat j))).eval #[Value.ref b] s none [] s = some (f j)) (hl : Cond.laysStatic C n d ∈ lw_tbl) (hini : Cond.initialized C ∈ lw_tbl) : ∃ t : Nat, va_Z C n d (.ref t) (AS s) s s.heap ∧ va_T ty t N f (AS s) s s.heap := by
  have hs := flat_of_before _ hn
  obtain ⟨t, ht, hT⟩ := va_Tof (f := f) (A := AS s) h31 (hs _ harr) (va_eqt (hs _ hlen)) hel (AS_no s)
  exact ⟨t, va_Zref (hts _ hl) (hts _ hini) ht (AS_no s), hT⟩
theorem st_mV : allN 11 (fun j => Cond.eq (.elem (.static "LarderPatrol$1" "$SwitchMap$LarderPatrol$Verb" "[I") (.int (Int32.ofNat j))) (.int (mV.getD j 0)) ∈ flatC (given_1.and narrow_1)) := ⟨⟨⟨⟨⟨⟨⟨⟨⟨⟨⟨trivial, nw_1_9⟩, nw_1_10⟩, nw_1_11⟩, nw_1_12⟩, nw_1_13⟩, nw_1_14⟩, nw_1_15⟩, nw_1_16⟩, nw_1_17⟩, nw_1_18⟩, nw_1_19⟩
theorem st_MV (hts : HTS b s) (hn : NWH b s) : ∃ t : Nat, va_Z "LarderPatrol$1" "$SwitchMap$LarderPatrol$Verb" "[I" (.ref t) (AS s) s s.heap ∧ va_T .int t 11 (fun i => .int (mV.getD i 0)) (AS s) s s.heap :=
  st_T hts hn (by decide) nw_1_7 nw_1_8 (fun j hj => va_eqt (flat_of_before _ hn _ (st_mV.at hj))) wk_2_216 wk_1_13
theorem st_mR : allN 8 (fun j => Cond.eq (.elem (.static "LarderPatrol$1" "$SwitchMap$LarderPatrol$Refusal" "[I") (.int (Int32.ofNat j))) (.int (mR.getD j 0)) ∈ flatC (given_1.and narrow_1)) := ⟨⟨⟨⟨⟨⟨⟨⟨trivial, nw_1_85⟩, nw_1_86⟩, nw_1_87⟩, nw_1_88⟩, nw_1_89⟩, nw_1_90⟩, nw_1_91⟩, nw_1_92⟩
theorem st_MR (hts : HTS b s) (hn : NWH b s) : ∃ t : Nat, va_Z "LarderPatrol$1" "$SwitchMap$LarderPatrol$Refusal" "[I" (.ref t) (AS s) s s.heap ∧ va_T .int t 8 (fun i => .int (mR.getD i 0)) (AS s) s s.heap :=
  st_T hts hn (by decide) nw_1_83 nw_1_84 (fun j hj => va_eqt (flat_of_before _ hn _ (st_mR.at hj))) wk_3_141 wk_1_13
theorem st_mS : allN 11 (fun j => Cond.eq (.elem (.static "LarderPatrol$Script" "VERBS" "[LLarderPatrol$Verb;") (.int (Int32.ofNat j))) (.static "LarderPatrol$Verb" (vN.getD j "") "LLarderPatrol$Verb;") ∈ flatC (given_1.and narrow_1)) := ⟨⟨⟨⟨⟨⟨⟨⟨⟨⟨⟨trivial, nw_1_273⟩, nw_1_274⟩, nw_1_275⟩, nw_1_276⟩, nw_1_277⟩, nw_1_278⟩, nw_1_279⟩, nw_1_280⟩, nw_1_281⟩, nw_1_282⟩, nw_1_283⟩
theorem st_MS (hts : HTS b s) (hn : NWH b s) {ad : Nat → Nat} (hev : ∀ i, i < vN.length → (Term.static "LarderPatrol$Verb" (vN.getD i "") "LLarderPatrol$Verb;").eval #[Value.ref b] s none [] s = some (.ref (ad i))) : ∃ t : Nat, va_Z "LarderPatrol$Script" "VERBS" "[LLarderPatrol$Verb;" (.ref t) (AS s) s s.heap ∧ va_T (.object "LarderPatrol$Verb") t 11 (fun i => .ref (ad i)) (AS s) s s.heap :=
  st_T hts hn (by decide) nw_1_270 nw_1_271 (fun j hj => va_eqv (flat_of_before _ hn _ (st_mS.at hj)) (hev j hj)) wk_5_189 wk_1_8
theorem st_SH (hts : HTS b s) (hn : NWH b s) : ∃ (v r k w z : Nat → Nat), ∀ (D : va_G) (cl : Nat → ClassId) (a : Nat → Nat), SH (a, D, cl, v, r, k, w, z, s.heap.size) s s.heap := by
  have hs := flat_of_before _ hn
  obtain ⟨v, hv1, hv2⟩ := st_enV hts hn
  obtain ⟨r, hr1, -⟩ := st_enR hts hn
  obtain ⟨k, w, hk1, hk2⟩ := st_S hn
  obtain ⟨z0, a0, b0⟩ := st_MV hts hn
  obtain ⟨z1, a1, b1⟩ := st_MR hts hn
  obtain ⟨z2, a2, b2⟩ := st_MS hts hn hv2
  refine ⟨v, r, k, w, fun i => if i = 0 then z0 else if i = 1 then z1 else z2, fun D cl a => ⟨hv1, hr1, st_Ef hn hv2 hk2, hk1, a0, b0, a1, b1, a2, b2, va_Zof (hts _ wk_5_203) (hts _ wk_1_25) (va_eqt (hs _ nw_1_284)) (AS_no s), va_Zqof (hts _ wk_5_219) (hts _ wk_1_30) (hs _ nw_1_285) (AS_no s), vx_Zqof (hts _ wk_3_73) (hts _ wk_1_15) (hs _ nw_1_80) (AS_no s), vx_Zqof (hts _ wk_3_75) (hts _ wk_1_15) (hs _ nw_1_81) (AS_no s)⟩⟩
theorem st_A (hts : HTS b s) {ty : FieldType} (h : Cond.arrayClass ty ∈ lw_tbl) : ∃ cA, ArrOfT s cA ty ∧ s.vm.findClass ("[" ++ ty.toString) = some cA := by
  obtain ⟨cA, kA, comp, h1, h2, h3⟩ := Cond.arrayClass_spec (args := #[Value.ref b]) (first := s) (o := none) (idx := []) (hts _ h)
  exact ⟨cA, fun n z => ⟨fun k h => (by cases h), kA, h2, comp, h3⟩, h1⟩
theorem st_O (hts : HTS b s) {C : String} (h : Cond.arrayOver (.object C) ∈ lw_tbl) : ∃ cA, ArrOfT s cA (.object C) ∧ va_RA s cA (.object C) := by
  obtain ⟨comp, cA, kA, h1, h2, h3, h4, h5⟩ := Cond.arrayOver_spec (args := #[Value.ref b]) (first := s) (o := none) (idx := []) (hts _ h)
  exact ⟨cA, fun n z => ⟨fun k h => (by cases h), kA, h3, comp, h4⟩, kA, comp, h3, h4, h1, h5⟩
theorem st_ms : ∀ q ∈ msgs, Cond.stringRef "LarderPatrol" q.1 q.2 ∈ lw_tbl ∧ Cond.exactly (.string "LarderPatrol" q.1) "java/lang/String" ∈ flatC (given_1.and narrow_1) := by
  intro q hq
  simp only [msgs] at hq
  rcases List.mem_cons.mp hq with rfl | hq
  · exact ⟨wk_3_91, nw_1_396⟩
  rcases List.mem_cons.mp hq with rfl | hq
  · exact ⟨wk_3_128, nw_2_30⟩
  rcases List.mem_cons.mp hq with rfl | hq
  · exact ⟨wk_3_160, nw_2_57⟩
  rcases List.mem_cons.mp hq with rfl | hq
  · exact ⟨wk_4_122, nw_2_67⟩
  rcases List.mem_cons.mp hq with rfl | hq
  · exact ⟨wk_4_161, nw_2_93⟩
  rcases List.mem_cons.mp hq with rfl | hq
  · exact ⟨wk_4_210, nw_2_137⟩
  rcases List.mem_cons.mp hq with rfl | hq
  · exact ⟨wk_4_237, nw_2_162⟩
  rcases List.mem_cons.mp hq with rfl | hq
  · exact ⟨wk_5_9, nw_2_187⟩
  rcases List.mem_cons.mp hq with rfl | hq
  · exact ⟨wk_5_17, nw_2_211⟩
  rcases List.mem_cons.mp hq with rfl | hq
  · exact ⟨wk_5_39, nw_2_233⟩
  rcases List.mem_cons.mp hq with rfl | hq
  · exact ⟨wk_5_56, nw_2_277⟩
  rcases List.mem_cons.mp hq with rfl | hq
  · exact ⟨wk_5_88, nw_2_318⟩
  rcases List.mem_cons.mp hq with rfl | hq
  · exact ⟨wk_5_144, nw_2_344⟩
  rcases List.mem_cons.mp hq with rfl | hq
  · exact ⟨wk_5_162, nw_2_379⟩
  rcases List.mem_cons.mp hq with rfl | hq
  · exact ⟨wk_6_29, nw_3_6⟩
  rcases List.mem_cons.mp hq with rfl | hq
  · exact ⟨wk_6_42, nw_3_45⟩
  rcases List.mem_cons.mp hq with rfl | hq
  · exact ⟨wk_6_50, nw_3_77⟩
  rcases List.mem_cons.mp hq with rfl | hq
  · exact ⟨wk_6_72, nw_3_111⟩
  rcases List.mem_cons.mp hq with rfl | hq
  · exact ⟨wk_6_84, nw_3_137⟩
  rcases List.mem_cons.mp hq with rfl | hq
  · exact ⟨wk_6_99, nw_3_163⟩
  rcases List.mem_cons.mp hq with rfl | hq
  · exact ⟨wk_6_107, nw_3_198⟩
  rcases List.mem_cons.mp hq with rfl | hq
  · exact ⟨wk_6_119, nw_3_228⟩
  exact absurd hq List.not_mem_nil
theorem st_msg (hts : HTS b s) (hn : NWH b s) : ∀ q ∈ msgs, ∃ sa, vk_R "LarderPatrol" q.1 q.2 sa s := by
  intro q hq
  obtain ⟨h1, h2⟩ := st_ms q hq
  obtain ⟨a, c, cA, kA, q1, -⟩ := Cond.exactly_spec (args := #[Value.ref b]) (first := s) (o := none) (s := s) (idx := []) (flat_of_before _ hn _ h2)
  exact ⟨a, vk_R.of (hts _ h1) q1⟩
theorem st_nc : ∀ q ∈ ncl, Cond.not (.castable q.1 q.2) ∈ flatC (given_1.and narrow_1) := by
  intro q hq
  simp only [ncl] at hq
  rcases List.mem_cons.mp hq with rfl | hq
  · exact nw_1_301
  rcases List.mem_cons.mp hq with rfl | hq
  · exact nw_1_302
  rcases List.mem_cons.mp hq with rfl | hq
  · exact nw_1_303
  rcases List.mem_cons.mp hq with rfl | hq
  · exact nw_1_304
  rcases List.mem_cons.mp hq with rfl | hq
  · exact nw_1_305
  rcases List.mem_cons.mp hq with rfl | hq
  · exact nw_1_306
  rcases List.mem_cons.mp hq with rfl | hq
  · exact nw_1_319
  rcases List.mem_cons.mp hq with rfl | hq
  · exact nw_1_320
  rcases List.mem_cons.mp hq with rfl | hq
  · exact nw_1_321
  rcases List.mem_cons.mp hq with rfl | hq
  · exact nw_1_322
  rcases List.mem_cons.mp hq with rfl | hq
  · exact nw_1_323
  rcases List.mem_cons.mp hq with rfl | hq
  · exact nw_1_324
  rcases List.mem_cons.mp hq with rfl | hq
  · exact nw_1_337
  rcases List.mem_cons.mp hq with rfl | hq
  · exact nw_1_338
  rcases List.mem_cons.mp hq with rfl | hq
  · exact nw_1_339
  rcases List.mem_cons.mp hq with rfl | hq
  · exact nw_1_340
  rcases List.mem_cons.mp hq with rfl | hq
  · exact nw_1_341
  rcases List.mem_cons.mp hq with rfl | hq
  · exact nw_1_354
  rcases List.mem_cons.mp hq with rfl | hq
  · exact nw_1_355
  rcases List.mem_cons.mp hq with rfl | hq
  · exact nw_1_356
  rcases List.mem_cons.mp hq with rfl | hq
  · exact nw_1_357
  rcases List.mem_cons.mp hq with rfl | hq
  · exact nw_1_358
  rcases List.mem_cons.mp hq with rfl | hq
  · exact nw_1_359
  rcases List.mem_cons.mp hq with rfl | hq
  · exact nw_1_372
  rcases List.mem_cons.mp hq with rfl | hq
  · exact nw_1_373
  rcases List.mem_cons.mp hq with rfl | hq
  · exact nw_1_374
  rcases List.mem_cons.mp hq with rfl | hq
  · exact nw_1_375
  rcases List.mem_cons.mp hq with rfl | hq
  · exact nw_1_376
  rcases List.mem_cons.mp hq with rfl | hq
  · exact nw_1_377
  rcases List.mem_cons.mp hq with rfl | hq
  · exact nw_1_390
  rcases List.mem_cons.mp hq with rfl | hq
  · exact nw_1_391
  rcases List.mem_cons.mp hq with rfl | hq
  · exact nw_1_392
  rcases List.mem_cons.mp hq with rfl | hq
  · exact nw_1_393
  rcases List.mem_cons.mp hq with rfl | hq
  · exact nw_1_394
  rcases List.mem_cons.mp hq with rfl | hq
  · exact nw_1_395
  exact absurd hq List.not_mem_nil
end
