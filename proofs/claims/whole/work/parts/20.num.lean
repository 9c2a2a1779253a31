theorem lM {α β : Type} (v : α) (k : α → Option β) : letM v k = k v := rfl
theorem bM {α β : Type} (r : α) (M : Mem) (k : α → Mem → Option β) : bindM (some (r, M)) k = k r M := rfl
theorem bV {β : Type} (M : Mem) (k : Mem → Option β) : bindV (some M) k = k M := rfl
theorem bX {α β : Type} (r : α) (M : Mem) (k : α → Mem → Option ((β ⊕ Nat) × Mem)) : bindX (some (.inl r, M)) k = k r M := rfl
theorem bXe {α β : Type} (e : Nat) (M : Mem) (k : α → Mem → Option ((β ⊕ Nat) × Mem)) : bindX (some (.inr e, M)) k = some (.inr e, M) := rfl
theorem bH {α β : Type} (r : α) (M : Mem) (k : α → Mem → Option β) (kh : Nat → Mem → Option β) : bindH (some (.inl r, M)) k kh = k r M := rfl
theorem bHe {α β : Type} (e : Nat) (M : Mem) (k : α → Mem → Option β) (kh : Nat → Mem → Option β) : bindH (some (.inr e, M)) k kh = kh e M := rfl
theorem ck {α : Type} (x : Option α) : chk true x = x := rfl
theorem ckd {α : Type} {p : Prop} [Decidable p] (x : Option α) (h : p) : chk (decide p) x = x := by simp [chk, h]
theorem ckb {α : Type} {c : Bool} (x : Option α) (h : c = true) : chk c x = x := by simp [chk, h]
theorem ift {α : Type} {p : Prop} [Decidable p] (x y : α) (h : p) : (if p then x else y) = x := if_pos h
theorem iff_ {α : Type} {p : Prop} [Decidable p] (x y : α) (h : ¬ p) : (if p then x else y) = y := if_neg h
theorem lit (n : Nat) : (OfNat.ofNat n : Int32) = nI n := rfl
theorem neg1 : (-1 : Int32) = Int32.ofInt (-1) := rfl
theorem nI_mul (a b : Nat) : nI a * nI b = nI (a * b) := (Int32.ofNat_mul a b).symm
theorem nI_sub {a b : Nat} (h : b ≤ a) : nI a - nI b = nI (a - b) := by
  have e : nI a = nI (a - b) + nI b := by rw [nI_add, Nat.sub_add_cancel h]
  rw [e, Int32.add_sub_cancel]
theorem nI_m1 {a : Nat} (ha : a < 2 ^ 31) : ¬ nI a = -1 := by
  intro h
  have := congrArg Int32.toInt h
  rw [nI_toInt ha] at this
  have h2 : (-1 : Int32).toInt = -1 := by decide
  omega
theorem m1_nI {a : Nat} (ha : a < 2 ^ 31) : ¬ -1 = nI a := fun h => nI_m1 ha h.symm
theorem m1_lt {a : Nat} (ha : a < 2 ^ 31) : -1 < nI a := by
  rw [Int32.lt_iff_toInt_lt, nI_toInt ha]
  have h2 : (-1 : Int32).toInt = -1 := by decide
  omega
theorem nle_m1 {a : Nat} (ha : a < 2 ^ 31) : ¬ nI a ≤ -1 := by
  rw [Int32.le_iff_toInt_le, nI_toInt ha]
  have h2 : (-1 : Int32).toInt = -1 := by decide
  omega
theorem inbN {x n : Nat} (hx : x < 2 ^ 31) : inb (nI x) n = decide (x < n) := by
  unfold inb
  rw [nI_clamp hx]
  have : (0 : Int32) ≤ nI x := nI_pos' hx
  simp [this]
theorem nI_div {a b : Nat} (ha : a < 2 ^ 31) (hb : b < 2 ^ 31) : nI a / nI b = nI (a / b) := by
  by_cases h0 : b = 0
  · subst h0
    rw [Nat.div_zero]
    exact Int32.div_zero
  · rw [← Int32.toInt_inj, Int32.toInt_div_of_ne_left, nI_toInt ha, nI_toInt hb, nI_toInt (Nat.lt_of_le_of_lt (Nat.div_le_self a b) ha)]
    · rfl
    · intro h
      have := congrArg Int32.toInt h
      rw [nI_toInt ha] at this
      have h2 : Int32.minValue.toInt = -2147483648 := by decide
      omega
theorem irmN {a b : Nat} (ha : a < 2 ^ 31) (hb : b < 2 ^ 31) : irm (nI a) (nI b) = nI (a % b) := by
  unfold irm
  rw [nI_div ha hb, nI_mul, nI_sub (Nat.div_mul_le_self a b)]
  congr 1
  have := Nat.div_add_mod a b
  rw [Nat.mul_comm] at this
  omega
theorem nI_cl {n : Nat} (h : n < 2 ^ 31) : (nI n).toNatClampNeg = n := nI_clamp h
theorem eqL {x n : Nat} (h : x = n) : nI x = (OfNat.ofNat n : Int32) := by rw [h]; rfl
theorem neL {x n : Nat} (hx : x < 2 ^ 31) (hn : n < 2 ^ 31) (h : ¬ x = n) : ¬ nI x = (OfNat.ofNat n : Int32) := fun z => h ((nI_eq hx hn).mp z)
theorem leL {x n : Nat} (hx : x < 2 ^ 31) (hn : n < 2 ^ 31) (h : n ≤ x) : (OfNat.ofNat n : Int32) ≤ nI x := (nI_leI hn hx).mpr h
theorem nleL {x n : Nat} (hx : x < 2 ^ 31) (hn : n < 2 ^ 31) (h : x < n) : ¬ (OfNat.ofNat n : Int32) ≤ nI x := fun z => by have := (nI_leI hn hx).mp z; omega
theorem le2 {x y : Nat} (hx : x < 2 ^ 31) (hy : y < 2 ^ 31) (h : x ≤ y) : nI x ≤ nI y := (nI_leI hx hy).mpr h
theorem nle2 {x y : Nat} (hx : x < 2 ^ 31) (hy : y < 2 ^ 31) (h : y < x) : ¬ nI x ≤ nI y := fun z => by have := (nI_leI hx hy).mp z; omega
theorem lt2 {x y : Nat} (hx : x < 2 ^ 31) (hy : y < 2 ^ 31) (h : x < y) : nI x < nI y := (nI_ltI hx hy).mpr h
theorem nlt2 {x y : Nat} (hx : x < 2 ^ 31) (hy : y < 2 ^ 31) (h : y ≤ x) : ¬ nI x < nI y := fun z => by have := (nI_ltI hx hy).mp z; omega
theorem ne2 {x y : Nat} (hx : x < 2 ^ 31) (hy : y < 2 ^ 31) (h : ¬ x = y) : ¬ nI x = nI y := fun z => h ((nI_eq hx hy).mp z)
theorem eq2 {x y : Nat} (h : x = y) : nI x = nI y := by rw [h]
theorem lt0 {x : Nat} (hx : x < 2 ^ 31) : ¬ nI x < 0 := nI_pos hx
theorem leR {x n : Nat} (hx : x < 2 ^ 31) (hn : n < 2 ^ 31) (h : x ≤ n) : nI x ≤ (OfNat.ofNat n : Int32) := (nI_leI hx hn).mpr h
theorem nleR {x n : Nat} (hx : x < 2 ^ 31) (hn : n < 2 ^ 31) (h : n < x) : ¬ nI x ≤ (OfNat.ofNat n : Int32) := fun z => by have := (nI_leI hx hn).mp z; omega
theorem ltR {x n : Nat} (hx : x < 2 ^ 31) (hn : n < 2 ^ 31) (h : x < n) : nI x < (OfNat.ofNat n : Int32) := (nI_ltI hx hn).mpr h
theorem nltR {x n : Nat} (hx : x < 2 ^ 31) (hn : n < 2 ^ 31) (h : n ≤ x) : ¬ nI x < (OfNat.ofNat n : Int32) := fun z => by have := (nI_ltI hx hn).mp z; omega
theorem ltL {x n : Nat} (hx : x < 2 ^ 31) (hn : n < 2 ^ 31) (h : n < x) : (OfNat.ofNat n : Int32) < nI x := (nI_ltI hn hx).mpr h
theorem nltL {x n : Nat} (hx : x < 2 ^ 31) (hn : n < 2 ^ 31) (h : x ≤ n) : ¬ (OfNat.ofNat n : Int32) < nI x := fun z => by have := (nI_ltI hn hx).mp z; omega
def bitb (x : Int32) (j : Nat) : Bool := x.toBitVec.getLsbD j
theorem bit_or (x y : Int32) (j : Nat) : bitb (x ||| y) j = (bitb x j || bitb y j) := by
  unfold bitb; rw [Int32.toBitVec_or, BitVec.getLsbD_or]
theorem bit_and (x y : Int32) (j : Nat) : bitb (x &&& y) j = (bitb x j && bitb y j) := by
  unfold bitb; rw [Int32.toBitVec_and, BitVec.getLsbD_and]
theorem bit_not (x : Int32) {j : Nat} (h : j < 32) : bitb (x ^^^ (-1)) j = !bitb x j := by
  unfold bitb
  have e : (-1 : Int32).toBitVec = BitVec.allOnes 32 := by decide
  rw [Int32.toBitVec_xor, BitVec.getLsbD_xor, e, BitVec.getLsbD_allOnes]
  simp [h]
theorem bit_zero (j : Nat) : bitb 0 j = false := by
  unfold bitb
  have e : (0 : Int32).toBitVec = 0#32 := rfl
  rw [e, BitVec.getLsbD_zero]
theorem bit_ext {x y : Int32} (h : ∀ j, j < 32 → bitb x j = bitb y j) : x = y := by
  apply Int32.toBitVec_inj.mp
  apply BitVec.eq_of_getLsbD_eq
  intro i hi
  exact h i hi
theorem and31 : ∀ j, j < 32 → nI j &&& 31 = nI j := by decide +kernel
theorem shl1 : ∀ j, j < 32 → ∀ i, i < 32 → bitb (1 <<< nI j) i = decide (i = j) := by decide +kernel
theorem bit_one {j i : Nat} (hj : j < 32) (hi : i < 32) : bitb (1 <<< (nI j &&& 31)) i = decide (i = j) := by
  rw [and31 j hj, shl1 j hj i hi]
theorem smodN : ∀ j, j < 32 → ((nI j).toBitVec.smod 32).toNat = j := by decide +kernel
theorem bit_holds {x : Int32} {j : Nat} (hj : j < 32) : ((x >>> (nI j &&& 31)) &&& 1) = 1 ↔ bitb x j = true := by
  rw [and31 j hj]
  have hs : bitb (x >>> nI j) 0 = bitb x j := by
    unfold bitb
    rw [Int32.toBitVec_shiftRight]
    show (x.toBitVec.sshiftRight ((nI j).toBitVec.smod 32).toNat).getLsbD 0 = _
    rw [smodN j hj, BitVec.getLsbD_sshiftRight]
    simp [hj]
  constructor
  · intro h
    have h2 := congrArg (fun z => bitb z 0) h
    simp only [bit_and, hs] at h2
    have e : bitb 1 0 = true := by decide
    rw [e, Bool.and_true] at h2
    exact h2
  · intro h
    apply bit_ext
    intro i hi
    rw [bit_and]
    by_cases h0 : i = 0
    · subst h0
      rw [hs, h]
      decide
    · have e : ∀ i, i < 32 → i ≠ 0 → bitb 1 i = false := by decide +kernel
      rw [e i hi h0, Bool.and_false]
theorem bit_holdsF {F : Nat} {M : Mem} {x : Int32} {j : Nat} (hj : j < 32) : fX11_holds F x (nI j) M = some (bitb x j, M) := by
  unfold fX11_holds
  by_cases h : bitb x j = true
  · rw [if_pos ((bit_holds hj).mpr h), h]
  · rw [if_neg (fun q => h ((bit_holds hj).mp q))]
    cases e : bitb x j
    · rfl
    · exact absurd e h
theorem bit_is0 {x : Int32} : x = 0 ↔ ∀ j, j < 32 → bitb x j = false := by
  constructor
  · rintro rfl j -
    exact bit_zero j
  · intro h
    apply bit_ext
    intro j hj
    rw [h j hj, bit_zero]
