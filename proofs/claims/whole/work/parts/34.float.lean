section
def Fine (f : FP.Core.Fmt) (d : FP.Core.Datum) : Prop := match d with
  | .nan => False
  | .inf _ => True
  | .fin _ c q => c < 2 ^ f.p ∧ f.qmin ≤ q ∧ q ≤ f.qmax
theorem fine_bound {f : FP.Core.Fmt} {s : Bool} {c : Nat} {q : Int} (hc : c < 2 ^ f.p) (hq : f.qmin ≤ q) : Fine f (FP.Core.bound f s c q) := by
  unfold FP.Core.bound
  split
  · exact ⟨hc, hq, ‹_›⟩
  · exact trivial
theorem fine_settle {f : FP.Core.Fmt} {s : Bool} {c : Nat} {q : Int} (hp : f.tails < 2 ^ f.p) (hq : f.qmin ≤ q) : Fine f (FP.Core.settle f s c q) := by
  unfold FP.Core.settle
  split
  · exact fine_bound ‹_› hq
  · exact fine_bound hp (by omega)
theorem quant_ge (f : FP.Core.Fmt) (num den : Nat) (e : Int) : f.qmin ≤ FP.Core.quantum f num den e := by
  unfold FP.Core.quantum
  omega
theorem fine_rr {f : FP.Core.Fmt} (hp : f.tails < 2 ^ f.p) (h0 : f.qmin ≤ f.qmax) (s : Bool) (num den : Nat) (e : Int) : Fine f (FP.Core.roundRatio f s num den e) := by
  unfold FP.Core.roundRatio
  split
  · exact ⟨by omega, Int.le_refl _, h0⟩
  · exact fine_settle hp (quant_ge f num den e)
theorem fine_round {f : FP.Core.Fmt} (hp : f.tails < 2 ^ f.p) (h0 : f.qmin ≤ f.qmax) {d : FP.Core.Datum} (h : d ≠ .nan) : Fine f (FP.Core.round f d) := by
  cases d with
  | nan => exact absurd rfl h
  | inf s => exact trivial
  | fin s c q => exact fine_rr hp h0 s c 1 q
theorem near_ge (num den : Nat) : num / den ≤ FP.Core.nearest num den := by
  unfold FP.Core.nearest
  split
  · omega
  · split <;> omega
theorem lead_le {num : Nat} : FP.Core.leading num 1 ≤ (num.log2 : Int) := by
  have e : (1 : Nat).log2 = 0 := by decide
  unfold FP.Core.leading
  simp only [e]
  split <;> omega
theorem qmin32 : FP.Core.b32.qmin = (-149) := by decide
theorem qmax32 : FP.Core.b32.qmax = 104 := by decide
theorem tails32 : FP.Core.b32.tails < 2 ^ FP.Core.b32.p := by decide
theorem qmm32 : FP.Core.b32.qmin ≤ FP.Core.b32.qmax := by decide
theorem encf32 (s : Bool) (c : Nat) (q : Int) : FP.Core.encode FP.Core.b32 (.fin s c q) = if c < 8388608 then (s.toNat * 256 + 0) * 8388608 + c else (s.toNat * 256 + ((q - FP.Core.b32.qmin).toNat + 1)) * 8388608 + (c - 8388608) := rfl
theorem sN32 (s : Bool) : s.toNat ≤ 1 := by cases s <;> decide
theorem enc32 {d : FP.Core.Datum} (h : Fine FP.Core.b32 d) : FP.Core.encode FP.Core.b32 d % 2147483648 ≤ 2139095040 ∧ FP.Core.encode FP.Core.b32 d < 4294967296 := by
  cases d with
  | nan => exact absurd h (fun z => z)
  | inf s => cases s <;> decide
  | fin s c q =>
    have hc : c < 16777216 := h.1
    have h1 := h.2.1
    have h2 := h.2.2
    rw [qmin32] at h1
    rw [qmax32] at h2
    have hs := sN32 s
    rw [encf32, qmin32]
    split <;> omega
theorem dec32 (n : Nat) : FP.Core.decode FP.Core.b32 n = if n / 8388608 % 256 = 255 then (if n % 8388608 = 0 then .inf (FP.Core.fieldS FP.Core.b32 n) else .nan) else if n / 8388608 % 256 = 0 then .fin (FP.Core.fieldS FP.Core.b32 n) (n % 8388608) FP.Core.b32.qmin else .fin (FP.Core.fieldS FP.Core.b32 n) (8388608 + n % 8388608) (FP.Core.b32.qmin + (((n / 8388608 % 256 : Nat) : Int) - 1)) := rfl
theorem decf32 {s : Bool} {c : Nat} {q : Int} (h : Fine FP.Core.b32 (.fin s c q)) : ∃ s' q', FP.Core.decode FP.Core.b32 (FP.Core.encode FP.Core.b32 (.fin s c q)) = .fin s' c q' := by
  have hc : c < 16777216 := h.1
  have h1 := h.2.1
  have h2 := h.2.2
  rw [qmin32] at h1
  rw [qmax32] at h2
  have hs := sN32 s
  rw [encf32, dec32, qmin32]
  by_cases w : c < 8388608
  · have e : ((s.toNat * 256 + 0) * 8388608 + c) % 8388608 = c := by omega
    rw [if_pos w, if_neg (by omega), if_pos (by omega), e]
    exact ⟨_, _, rfl⟩
  · have e : 8388608 + ((s.toNat * 256 + ((q - (-149)).toNat + 1)) * 8388608 + (c - 8388608)) % 8388608 = c := by omega
    rw [if_neg w, if_neg (by omega), if_neg (by omega), e]
    exact ⟨_, _, rfl⟩
theorem decn32 {n : Nat} (h : n % 2147483648 ≤ 2139095040) : FP.Core.decode FP.Core.b32 n ≠ .nan := by
  rw [dec32]
  by_cases w : n / 8388608 % 256 = 255
  · rw [if_pos w, if_pos (by omega)]
    intro z
    exact FP.Core.Datum.noConfusion z
  · rw [if_neg w]
    split
    · intro z
      exact FP.Core.Datum.noConfusion z
    · intro z
      exact FP.Core.Datum.noConfusion z
theorem toN32 {n : Nat} (h : n < 4294967296) : (UInt32.ofNat n).toNat = n := by
  show (BitVec.ofNat 32 n).toNat = n
  rw [BitVec.toNat_ofNat]
  exact Nat.mod_eq_of_lt h
theorem nn32_iff (x : UInt32) : nn32 x = true ↔ x.toNat % 2147483648 ≤ 2139095040 := by
  unfold nn32
  rw [decide_eq_true_iff, UInt32.le_iff_toNat_le, UInt32.toNat_and]
  have e : (0x7fffffff : UInt32).toNat = 2 ^ 31 - 1 := by decide
  rw [e, Nat.and_two_pow_sub_one_eq_mod]
  exact Iff.rfl
theorem rri32 (s : Bool) {num : Nat} (h0 : num ≠ 0) (h : num < 4294967296) : ∃ c q, FP.Core.roundRatio FP.Core.b32 s num 1 0 = .fin s c q ∧ c ≠ 0 := by
  have hl : num.log2 < 32 := (Nat.log2_lt h0).mpr h
  have hle := lead_le (num := num)
  have hself := Nat.log2_self_le h0
  unfold FP.Core.roundRatio FP.Core.roundAt
  rw [if_neg h0]
  have q1 := quant_ge FP.Core.b32 num 1 0
  have q2 : FP.Core.quantum FP.Core.b32 num 1 0 ≤ (num.log2 : Int) ∧ FP.Core.quantum FP.Core.b32 num 1 0 ≤ 31 := by
    unfold FP.Core.quantum
    rw [qmin32]
    have ep : ((FP.Core.b32.p : Nat) : Int) = 24 := rfl
    rw [ep]
    omega
  generalize FP.Core.quantum FP.Core.b32 num 1 0 = q at q1 q2
  rw [qmin32] at q1
  have hn : 1 ≤ FP.Core.nearest (FP.Core.unitsNum num 0 q) (FP.Core.unitsDen 1 0 q) := by
    refine Nat.le_trans ?_ (near_ge _ _)
    have hd : FP.Core.unitsDen 1 0 q ≤ FP.Core.unitsNum num 0 q := by
      unfold FP.Core.unitsNum FP.Core.unitsDen
      have p1 : 1 ≤ 2 ^ (0 - q).toNat := Nat.one_le_two_pow
      by_cases w : q ≤ 0
      · have e : (q - 0).toNat = 0 := by omega
        rw [e, Nat.pow_zero]
        exact Nat.le_trans (show 1 * 1 ≤ num * 1 by omega) (Nat.mul_le_mul_left num p1)
      · have e : (q - 0).toNat ≤ num.log2 := by omega
        have p2 : 2 ^ (q - 0).toNat ≤ 2 ^ num.log2 := Nat.pow_le_pow_right (by decide) e
        rw [Nat.one_mul]
        exact Nat.le_trans (Nat.le_trans p2 hself) (Nat.le_trans (show num ≤ num * 1 by omega) (Nat.mul_le_mul_left num p1))
    have hpos : 0 < FP.Core.unitsDen 1 0 q := by
      unfold FP.Core.unitsDen
      rw [Nat.one_mul]
      exact Nat.two_pow_pos _
    exact (Nat.le_div_iff_mul_le hpos).mpr (by omega)
  unfold FP.Core.settle FP.Core.bound
  rw [qmax32]
  split
  · rw [if_pos (by omega)]
    exact ⟨_, _, rfl, by omega⟩
  · rw [if_pos (by omega)]
    exact ⟨_, _, rfl, by decide⟩
theorem int32 (x : Int32) : ∃ s c q, FP.Core.decode FP.Core.b32 (FP.i2f x).toNat = .fin s c q ∧ (x ≠ 0 → c ≠ 0) := by
  have hx : x.toInt.natAbs < 4294967296 := by
    have h1 := Int32.toInt_lt x
    have h2 := Int32.le_toInt x
    omega
  have ef : Fine FP.Core.b32 (FP.Core.roundRatio FP.Core.b32 (decide (x.toInt < 0)) x.toInt.natAbs 1 0) := fine_rr tails32 qmm32 _ _ _ _
  have en : (FP.i2f x).toNat = FP.Core.encode FP.Core.b32 (FP.Core.roundRatio FP.Core.b32 (decide (x.toInt < 0)) x.toInt.natAbs 1 0) := toN32 (enc32 ef).2
  rw [en]
  by_cases w : x.toInt.natAbs = 0
  · have er : FP.Core.roundRatio FP.Core.b32 (decide (x.toInt < 0)) x.toInt.natAbs 1 0 = .fin (decide (x.toInt < 0)) 0 FP.Core.b32.qmin := by
      unfold FP.Core.roundRatio
      rw [if_pos w]
    rw [er] at ef ⊢
    obtain ⟨s', q', e⟩ := decf32 ef
    refine ⟨s', 0, q', e, fun z => absurd ?_ z⟩
    apply Int32.toInt_inj.mp
    have z0 : (0 : Int32).toInt = 0 := by decide
    omega
  · obtain ⟨c, q, er, hc⟩ := rri32 (decide (x.toInt < 0)) w hx
    rw [er] at ef ⊢
    obtain ⟨s', q', e⟩ := decf32 ef
    exact ⟨s', c, q', e, fun _ => hc⟩
theorem qmin64 : FP.Core.b64.qmin = (-1074) := by decide
theorem qmax64 : FP.Core.b64.qmax = 971 := by decide
theorem tails64 : FP.Core.b64.tails < 2 ^ FP.Core.b64.p := by decide
theorem qmm64 : FP.Core.b64.qmin ≤ FP.Core.b64.qmax := by decide
theorem encf64 (s : Bool) (c : Nat) (q : Int) : FP.Core.encode FP.Core.b64 (.fin s c q) = if c < 4503599627370496 then (s.toNat * 2048 + 0) * 4503599627370496 + c else (s.toNat * 2048 + ((q - FP.Core.b64.qmin).toNat + 1)) * 4503599627370496 + (c - 4503599627370496) := rfl
theorem sN64 (s : Bool) : s.toNat ≤ 1 := by cases s <;> decide
theorem enc64 {d : FP.Core.Datum} (h : Fine FP.Core.b64 d) : FP.Core.encode FP.Core.b64 d % 9223372036854775808 ≤ 9218868437227405312 ∧ FP.Core.encode FP.Core.b64 d < 18446744073709551616 := by
  cases d with
  | nan => exact absurd h (fun z => z)
  | inf s => cases s <;> decide
  | fin s c q =>
    have hc : c < 9007199254740992 := h.1
    have h1 := h.2.1
    have h2 := h.2.2
    rw [qmin64] at h1
    rw [qmax64] at h2
    have hs := sN64 s
    rw [encf64, qmin64]
    split <;> omega
theorem dec64 (n : Nat) : FP.Core.decode FP.Core.b64 n = if n / 4503599627370496 % 2048 = 2047 then (if n % 4503599627370496 = 0 then .inf (FP.Core.fieldS FP.Core.b64 n) else .nan) else if n / 4503599627370496 % 2048 = 0 then .fin (FP.Core.fieldS FP.Core.b64 n) (n % 4503599627370496) FP.Core.b64.qmin else .fin (FP.Core.fieldS FP.Core.b64 n) (4503599627370496 + n % 4503599627370496) (FP.Core.b64.qmin + (((n / 4503599627370496 % 2048 : Nat) : Int) - 1)) := rfl
theorem decf64 {s : Bool} {c : Nat} {q : Int} (h : Fine FP.Core.b64 (.fin s c q)) : ∃ s' q', FP.Core.decode FP.Core.b64 (FP.Core.encode FP.Core.b64 (.fin s c q)) = .fin s' c q' := by
  have hc : c < 9007199254740992 := h.1
  have h1 := h.2.1
  have h2 := h.2.2
  rw [qmin64] at h1
  rw [qmax64] at h2
  have hs := sN64 s
  rw [encf64, dec64, qmin64]
  by_cases w : c < 4503599627370496
  · have e : ((s.toNat * 2048 + 0) * 4503599627370496 + c) % 4503599627370496 = c := by omega
    rw [if_pos w, if_neg (by omega), if_pos (by omega), e]
    exact ⟨_, _, rfl⟩
  · have e : 4503599627370496 + ((s.toNat * 2048 + ((q - (-1074)).toNat + 1)) * 4503599627370496 + (c - 4503599627370496)) % 4503599627370496 = c := by omega
    rw [if_neg w, if_neg (by omega), if_neg (by omega), e]
    exact ⟨_, _, rfl⟩
theorem decn64 {n : Nat} (h : n % 9223372036854775808 ≤ 9218868437227405312) : FP.Core.decode FP.Core.b64 n ≠ .nan := by
  rw [dec64]
  by_cases w : n / 4503599627370496 % 2048 = 2047
  · rw [if_pos w, if_pos (by omega)]
    intro z
    exact FP.Core.Datum.noConfusion z
  · rw [if_neg w]
    split
    · intro z
      exact FP.Core.Datum.noConfusion z
    · intro z
      exact FP.Core.Datum.noConfusion z
theorem toN64 {n : Nat} (h : n < 18446744073709551616) : (UInt64.ofNat n).toNat = n := by
  show (BitVec.ofNat 64 n).toNat = n
  rw [BitVec.toNat_ofNat]
  exact Nat.mod_eq_of_lt h
theorem nn64_iff (x : UInt64) : nn64 x = true ↔ x.toNat % 9223372036854775808 ≤ 9218868437227405312 := by
  unfold nn64
  rw [decide_eq_true_iff, UInt64.le_iff_toNat_le, UInt64.toNat_and]
  have e : (0x7fffffffffffffff : UInt64).toNat = 2 ^ 63 - 1 := by decide
  rw [e, Nat.and_two_pow_sub_one_eq_mod]
  exact Iff.rfl
theorem rri64 (s : Bool) {num : Nat} (h0 : num ≠ 0) (h : num < 4294967296) : ∃ c q, FP.Core.roundRatio FP.Core.b64 s num 1 0 = .fin s c q ∧ c ≠ 0 := by
  have hl : num.log2 < 32 := (Nat.log2_lt h0).mpr h
  have hle := lead_le (num := num)
  have hself := Nat.log2_self_le h0
  unfold FP.Core.roundRatio FP.Core.roundAt
  rw [if_neg h0]
  have q1 := quant_ge FP.Core.b64 num 1 0
  have q2 : FP.Core.quantum FP.Core.b64 num 1 0 ≤ (num.log2 : Int) ∧ FP.Core.quantum FP.Core.b64 num 1 0 ≤ 31 := by
    unfold FP.Core.quantum
    rw [qmin64]
    have ep : ((FP.Core.b64.p : Nat) : Int) = 53 := rfl
    rw [ep]
    omega
  generalize FP.Core.quantum FP.Core.b64 num 1 0 = q at q1 q2
  rw [qmin64] at q1
  have hn : 1 ≤ FP.Core.nearest (FP.Core.unitsNum num 0 q) (FP.Core.unitsDen 1 0 q) := by
    refine Nat.le_trans ?_ (near_ge _ _)
    have hd : FP.Core.unitsDen 1 0 q ≤ FP.Core.unitsNum num 0 q := by
      unfold FP.Core.unitsNum FP.Core.unitsDen
      have p1 : 1 ≤ 2 ^ (0 - q).toNat := Nat.one_le_two_pow
      by_cases w : q ≤ 0
      · have e : (q - 0).toNat = 0 := by omega
        rw [e, Nat.pow_zero]
        exact Nat.le_trans (show 1 * 1 ≤ num * 1 by omega) (Nat.mul_le_mul_left num p1)
      · have e : (q - 0).toNat ≤ num.log2 := by omega
        have p2 : 2 ^ (q - 0).toNat ≤ 2 ^ num.log2 := Nat.pow_le_pow_right (by decide) e
        rw [Nat.one_mul]
        exact Nat.le_trans (Nat.le_trans p2 hself) (Nat.le_trans (show num ≤ num * 1 by omega) (Nat.mul_le_mul_left num p1))
    have hpos : 0 < FP.Core.unitsDen 1 0 q := by
      unfold FP.Core.unitsDen
      rw [Nat.one_mul]
      exact Nat.two_pow_pos _
    exact (Nat.le_div_iff_mul_le hpos).mpr (by omega)
  unfold FP.Core.settle FP.Core.bound
  rw [qmax64]
  split
  · rw [if_pos (by omega)]
    exact ⟨_, _, rfl, by omega⟩
  · rw [if_pos (by omega)]
    exact ⟨_, _, rfl, by decide⟩
theorem int64 (x : Int32) : ∃ s c q, FP.Core.decode FP.Core.b64 (FP.i2d x).toNat = .fin s c q ∧ (x ≠ 0 → c ≠ 0) := by
  have hx : x.toInt.natAbs < 4294967296 := by
    have h1 := Int32.toInt_lt x
    have h2 := Int32.le_toInt x
    omega
  have ef : Fine FP.Core.b64 (FP.Core.roundRatio FP.Core.b64 (decide (x.toInt < 0)) x.toInt.natAbs 1 0) := fine_rr tails64 qmm64 _ _ _ _
  have en : (FP.i2d x).toNat = FP.Core.encode FP.Core.b64 (FP.Core.roundRatio FP.Core.b64 (decide (x.toInt < 0)) x.toInt.natAbs 1 0) := toN64 (enc64 ef).2
  rw [en]
  by_cases w : x.toInt.natAbs = 0
  · have er : FP.Core.roundRatio FP.Core.b64 (decide (x.toInt < 0)) x.toInt.natAbs 1 0 = .fin (decide (x.toInt < 0)) 0 FP.Core.b64.qmin := by
      unfold FP.Core.roundRatio
      rw [if_pos w]
    rw [er] at ef ⊢
    obtain ⟨s', q', e⟩ := decf64 ef
    refine ⟨s', 0, q', e, fun z => absurd ?_ z⟩
    apply Int32.toInt_inj.mp
    have z0 : (0 : Int32).toInt = 0 := by decide
    omega
  · obtain ⟨c, q, er, hc⟩ := rri64 (decide (x.toInt < 0)) w hx
    rw [er] at ef ⊢
    obtain ⟨s', q', e⟩ := decf64 ef
    exact ⟨s', c, q', e, fun _ => hc⟩
theorem fdiv_nn {x y : Int32} (h : y ≠ 0) : nn32 (FP.fdiv (FP.i2f x) (FP.i2f y)) = true := by
  obtain ⟨s, c, q, e1, _⟩ := int32 x
  obtain ⟨t, d, r, e2, h2⟩ := int32 y
  rw [nn32_iff]
  have e : FP.fdiv (FP.i2f x) (FP.i2f y) = UInt32.ofNat (FP.Core.encode FP.Core.b32 (FP.Core.roundRatio FP.Core.b32 (s != t) c d (q - r))) := by
    show UInt32.ofNat (FP.Core.encode FP.Core.b32 (FP.Core.quotient FP.Core.b32 (FP.Core.decode FP.Core.b32 (FP.i2f x).toNat) (FP.Core.decode FP.Core.b32 (FP.i2f y).toNat))) = _
    rw [e1, e2]
    show UInt32.ofNat (FP.Core.encode FP.Core.b32 (if d = 0 then _ else _)) = _
    rw [if_neg (h2 h)]
  have f := enc32 (fine_rr tails32 qmm32 (s != t) c d (q - r))
  rw [e, toN32 f.2]
  exact f.1
theorem ddiv_nn {x y : Int32} (h : y ≠ 0) : nn64 (FP.ddiv (FP.i2d x) (FP.i2d y)) = true := by
  obtain ⟨s, c, q, e1, _⟩ := int64 x
  obtain ⟨t, d, r, e2, h2⟩ := int64 y
  rw [nn64_iff]
  have e : FP.ddiv (FP.i2d x) (FP.i2d y) = UInt64.ofNat (FP.Core.encode FP.Core.b64 (FP.Core.roundRatio FP.Core.b64 (s != t) c d (q - r))) := by
    show UInt64.ofNat (FP.Core.encode FP.Core.b64 (FP.Core.quotient FP.Core.b64 (FP.Core.decode FP.Core.b64 (FP.i2d x).toNat) (FP.Core.decode FP.Core.b64 (FP.i2d y).toNat))) = _
    rw [e1, e2]
    show UInt64.ofNat (FP.Core.encode FP.Core.b64 (if d = 0 then _ else _)) = _
    rw [if_neg (h2 h)]
  have f := enc64 (fine_rr tails64 qmm64 (s != t) c d (q - r))
  rw [e, toN64 f.2]
  exact f.1
theorem f2d_nn {x : UInt32} (h : nn32 x = true) : nn64 (FP.f2d x) = true := by
  rw [nn32_iff] at h
  have hd := decn32 h
  unfold FP.f2d
  have e : FP.Core.fIsNaN x = false := decide_eq_false hd
  rw [e, if_neg (by decide), nn64_iff]
  have f := enc64 (fine_round tails64 qmm64 hd)
  have e2 : FP.Core.f2d x = UInt64.ofNat (FP.Core.encode FP.Core.b64 (FP.Core.round FP.Core.b64 (FP.Core.decode FP.Core.b32 x.toNat))) := rfl
  rw [e2, toN64 f.2]
  exact f.1
theorem dcm_self {x : UInt64} (h : nn64 x = true) : dcm x x = 0 := by
  rw [nn64_iff] at h
  have hd := decn64 h
  have e : FP.dcmp x x = FP.Core.order (FP.Core.decode FP.Core.b64 x.toNat) (FP.Core.decode FP.Core.b64 x.toNat) := rfl
  have c : ∀ i : Int, compare i i = .eq := fun i => by simp
  unfold dcm
  rw [e]
  cases w : FP.Core.decode FP.Core.b64 x.toNat with
  | nan => exact absurd w hd
  | inf s =>
    show Op.cmpValue (some (compare _ _)) .l = 0
    rw [c]
    rfl
  | fin s m q =>
    show Op.cmpValue (some (compare _ _)) .l = 0
    rw [c]
    rfl
end
