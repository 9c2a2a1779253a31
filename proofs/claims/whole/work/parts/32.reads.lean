section
variable {F : Nat} {N : Mem} {t : Nat → Int32} {L : Nat}
def MS (N : Mem) (t : Nat → Int32) (L p : Nat) : Prop := N 119 18 = nI L ∧ N 119 19 = nI p ∧ (∀ k, k < L → N 127 k = t k) ∧ L ≤ 60 ∧ p ≤ L
def MG (N N' : Mem) : Prop := (∀ c, c ≠ 119 → c ≠ 128 → N' c = N c) ∧ ∀ i, i ≠ 19 → i ≠ 22 → N' 119 i = N 119 i
theorem MG.rf : MG N N := ⟨fun _ _ _ => rfl, fun _ _ _ => rfl⟩
theorem MG.tr {N N' N'' : Mem} (h : MG N N') (g : MG N' N'') : MG N N'' := ⟨fun c q1 q2 => (g.1 c q1 q2).trans (h.1 c q1 q2), fun i q1 q2 => (g.2 i q1 q2).trans (h.2 i q1 q2)⟩
theorem MG.u19 {v : Int32} : MG N (up2 N 119 19 v) := ⟨fun c q1 q2 => u2_ne _ q1, fun i q1 q2 => by rw [u2_same, if_neg q1]⟩
theorem MG.u22 {v : Int32} : MG N (up2 N 119 22 v) := ⟨fun c q1 q2 => u2_ne _ q1, fun i q1 q2 => by rw [u2_same, if_neg q2]⟩
theorem MG.u128 {i : Nat} {v : Int32} : MG N (up2 N 128 i v) := ⟨fun c q1 q2 => u2_ne _ q2, fun i q1 q2 => by rw [u2_ne _ (by decide)]⟩
theorem MS.u19 {p q : Nat} (h : MS N t L p) (hq : q ≤ L) : MS (up2 N 119 19 (nI q)) t L q := ⟨by rw [u2_same, if_neg (by decide)]; exact h.1, by rw [u2_same, if_pos rfl], fun k hk => by rw [u2_ne _ (by decide)]; exact h.2.2.1 k hk, h.2.2.2.1, hq⟩
theorem MS.u22 {p : Nat} {v : Int32} (h : MS N t L p) : MS (up2 N 119 22 v) t L p := ⟨by rw [u2_same, if_neg (by decide)]; exact h.1, by rw [u2_same, if_neg (by decide)]; exact h.2.1, fun k hk => by rw [u2_ne _ (by decide)]; exact h.2.2.1 k hk, h.2.2.2.1, h.2.2.2.2⟩
theorem MS.u128 {p i : Nat} {v : Int32} (h : MS N t L p) : MS (up2 N 128 i v) t L p := ⟨by rw [u2_ne _ (by decide)]; exact h.1, by rw [u2_ne _ (by decide)]; exact h.2.1, fun k hk => by rw [u2_ne _ (by decide)]; exact h.2.2.1 k hk, h.2.2.2.1, h.2.2.2.2⟩
def mch (t : Nat → Int32) (L p : Nat) : Int32 := if p < L then t p else -1
theorem mNext {p : Nat} (h : MS N t L p) : fX12_nextChar F N = some (mch t L p, N) := by
  obtain ⟨h1, h2, h3, h4, h5⟩ := h
  unfold fX12_nextChar mch
  rw [h1, h2]
  by_cases q : p < L
  · rw [if_neg (nle2 (by omega) (by omega) q), inbN (by omega), ckd _ (by omega), nI_cl (by omega), h3 p q, if_pos q]
  · rw [if_pos (le2 (by omega) (by omega) (by omega)), if_neg q]
theorem mch_eq {p : Nat} {s : Int32} (h0 : s ≠ 0) (h1 : s ≠ -1) : (mch t L p = s) ↔ (ch t L p = s) := by
  unfold mch ch
  by_cases q : p < L
  · rw [if_pos q, if_pos q]
  · rw [if_neg q, if_neg q]
    exact ⟨fun z => absurd z.symm h1, fun z => absurd z.symm h0⟩
theorem mReadsF {p : Nat} (h : MS N t L p) {s : Int32} (h0 : s ≠ 0) (h1 : s ≠ -1) (hc : ¬ ch t L p = s) : fX12_reads F s N = some (false, N) := by
  unfold fX12_reads
  rw [mNext h]
  simp only [bM]
  rw [if_neg (fun z => hc ((mch_eq h0 h1).mp z))]
theorem mReadsT {p : Nat} (h : MS N t L p) {s : Int32} (h0 : s ≠ 0) (h1 : s ≠ -1) (hc : ch t L p = s) : fX12_reads F s N = some (true, up2 N 119 19 (nI (p + 1))) := by
  unfold fX12_reads
  rw [mNext h]
  simp only [bM, lM]
  rw [if_pos ((mch_eq h0 h1).mpr hc), h.2.1, nI_1]
theorem mDig {p : Nat} (h : MS N t L p) : fX12_isDigitNext F N = some (isDg (ch t L p), N) := by
  unfold fX12_isDigitNext
  rw [mNext h]
  simp only [bM]
  rw [mBetw]
  have e : decide (¬ mch t L p < 48 ∧ ¬ 57 < mch t L p) = isDg (ch t L p) := by
    unfold mch ch isDg
    by_cases q : p < L
    · rw [if_pos q, if_pos q]
    · rw [if_neg q, if_neg q]
      decide
  rw [e]
  rfl
theorem dig_alg (v c : Int32) : 10 * v + c - 48 = v * 10 + (c - 48) := by
  rw [Int32.mul_comm 10 v, Int32.sub_eq_add_neg, Int32.sub_eq_add_neg, Int32.add_assoc]
theorem mNum18 {i : Nat} (hi : i < 2) {q : Nat} (hq : q ≤ 4) (kx : Mem → Option (Bool × Mem)) (m : Nat) : ∀ d, d + m = q → ∀ n', m < n' → ∀ p v (N : Mem), MS N t L p → N 128 i = v → ∃ N', fX12_readsNumber_18 F (nI i) (nI q) kx n' (nI d) N = kx N' ∧ MS N' t L (nDig t L m p v d).2.2 ∧ N' 128 i = (nDig t L m p v d).1 ∧ MG N N' ∧ N' 119 22 = N 119 22 ∧ ∀ j, j ≠ i → N' 128 j = N 128 j := by
  induction m with
  | zero =>
    intro d hd n' hn p v N h hv
    obtain ⟨n', rfl⟩ : ∃ n'', n' = n'' + 1 := ⟨n' - 1, by omega⟩
    rw [fX12_readsNumber_18, if_pos (le2 (by omega) (by omega) (by omega))]
    exact ⟨N, rfl, h, hv, MG.rf, rfl, fun _ _ => rfl⟩
  | succ m ih =>
    intro d hd n' hn p v N h hv
    obtain ⟨n', rfl⟩ : ∃ n'', n' = n'' + 1 := ⟨n' - 1, by omega⟩
    have h60 := h.2.2.2.1
    rw [fX12_readsNumber_18, if_neg (nle2 (by omega) (by omega) (by omega)), mDig h]
    simp only [bM]
    unfold nDig
    by_cases w : isDg (ch t L p) = true
    · have hp := isDg_lt w
      rw [if_pos w, if_pos w, inbN (by omega), ckd _ hi, mNext h]
      simp only [bM]
      rw [ckd _ hi, nI_cl (by omega)]
      simp only [lM]
      have em : mch t L p = ch t L p := by unfold mch ch; rw [if_pos hp, if_pos hp]
      rw [hv, em, dig_alg, u2_ne _ (show 119 ≠ 128 by decide), h.2.1, nI_1, nI_1]
      obtain ⟨N', i1, i2, i3, i4, i5, i6⟩ := ih (d + 1) (by omega) n' (by omega) (p + 1) (v * 10 + (ch t L p - 48)) (up2 (up2 N 128 i (v * 10 + (ch t L p - 48))) 119 19 (nI (p + 1))) (h.u128.u19 (by omega)) (by rw [u2_ne _ (by decide), u2_same, if_pos rfl])
      exact ⟨N', i1, i2, i3, (MG.u128.tr MG.u19).tr i4, by rw [i5, u2_same, if_neg (by decide), u2_ne _ (by decide)], fun j hj => by rw [i6 j hj, u2_ne _ (by decide), u2_same, if_neg hj]⟩
    · rw [if_neg w, if_neg w]
      exact ⟨N, rfl, h, hv, MG.rf, rfl, fun _ _ => rfl⟩
theorem mNumber (hF : 30 ≤ F) {i : Nat} (hi : i < 2) {s : Int32} (hs : dg s ≠ 0) {p : Nat} (h : MS N t L p) : ∃ N', fX12_readsNumber F (nI i) (nI (dg s)) N = some (!decide ((nDig t L (dg s) p 0 0).2.1 = 0), N') ∧ MS N' t L (nDig t L (dg s) p 0 0).2.2 ∧ MG N N' ∧ N' 119 22 = N 119 22 ∧ ((nDig t L (dg s) p 0 0).2.1 ≠ 0 → N' 128 i = (nDig t L (dg s) p 0 0).1) ∧ ∀ j, j ≠ i → N' 128 j = N 128 j := by
  have hd := dg_le s
  unfold fX12_readsNumber
  rw [mDig h]
  simp only [bM]
  by_cases w : isDg (ch t L p) = true
  · rw [if_pos w, inbN (by omega), ckd _ hi, nI_cl (by omega)]
    simp only [lM]
    obtain ⟨N', i1, i2, i3, i4, i5, i6⟩ := mNum18 (F := F) (t := t) (L := L) hi hd (fun M24 => some (true, M24)) (dg s) 0 (by omega) F (by omega) p 0 (up2 N 128 i 0) h.u128 (by rw [u2_same, if_pos rfl])
    have e : ¬ (nDig t L (dg s) p 0 0).2.1 = 0 := by
      obtain ⟨m, hm⟩ : ∃ m, dg s = m + 1 := ⟨dg s - 1, by omega⟩
      rw [hm]
      unfold nDig
      rw [if_pos w]
      have := (nDig_p (t := t) (L := L) m (p + 1) (0 * 10 + (ch t L p - 48)) (0 + 1)).1
      omega
    exact ⟨N', by rw [decide_eq_false e]; exact i1, i2, MG.u128.tr i4, by rw [i5, u2_ne _ (by decide)], fun _ => i3, fun j hj => by rw [i6 j hj, u2_same, if_neg hj]⟩
  · rw [if_neg w]
    have e : nDig t L (dg s) p 0 0 = (0, 0, p) := by
      obtain ⟨m, hm⟩ : ∃ m, dg s = m + 1 := ⟨dg s - 1, by omega⟩
      rw [hm]
      unfold nDig
      rw [if_neg w]
    rw [e]
    exact ⟨N, rfl, h, MG.rf, rfl, fun z => absurd rfl z, fun _ _ => rfl⟩
def KK2 (N : Mem) (a b : Int32) : Prop := (a ≠ -1 → N 128 0 = a) ∧ (b ≠ -1 → N 128 1 = b)
def Leaf (t : Nat → Int32) (L : Nat) (r : Option (Bool × Mem)) (N : Mem) (z : Bool × Nat × Int32 × Int32) : Prop := ∃ N', r = some (z.1, N') ∧ MS N' t L z.2.1 ∧ MG N N' ∧ N' 119 22 = N 119 22 ∧ (z.1 = true → KK2 N' z.2.2.1 z.2.2.2)
theorem leaf_end {p : Nat} {a b : Int32} (h : MS N t L p) (k : KK2 N a b) : Leaf t L (some (true, N)) N (pm t L [] p a b) := ⟨N, rfl, h, MG.rf, rfl, fun _ => k⟩
theorem leaf_lit {p : Nat} {a b s : Int32} {r : List Int32} (h : MS N t L p) (k : KK2 N a b) (h0 : s ≠ 0) (h1 : s ≠ -1) (hd : dg s = 0) {kk : Mem → Option (Bool × Mem)} (hk : ∀ N1 : Mem, MS N1 t L (p + 1) → KK2 N1 a b → Leaf t L (kk N1) N1 (pm t L r (p + 1) a b)) : Leaf t L (bindM (fX12_reads F s N) (fun r M1 => if r = true then kk M1 else some (false, M1))) N (pm t L (s :: r) p a b) := by
  by_cases w : ch t L p = s
  · have := ch_lt w h0
    rw [mReadsT h h0 h1 w, pm_on hd w]
    simp only [bM]
    rw [if_pos trivial]
    obtain ⟨N', i1, i2, i3, i4, i5⟩ := hk (up2 N 119 19 (nI (p + 1))) (h.u19 (by omega)) ⟨fun z => by rw [u2_ne _ (by decide)]; exact k.1 z, fun z => by rw [u2_ne _ (by decide)]; exact k.2 z⟩
    exact ⟨N', i1, i2, MG.u19.tr i3, by rw [i4, u2_same, if_neg (by decide)], i5⟩
  · rw [mReadsF h h0 h1 w, pm_off hd w]
    exact ⟨N, rfl, h, MG.rf, rfl, fun z => absurd z (show ¬ (false = true) by decide)⟩
theorem nDig_ne (s : Int32) (p : Nat) : (nDig t L (dg s) p 0 0).1 ≠ -1 := by
  obtain ⟨w, h1, h2⟩ := nDig_n (t := t) (L := L) s p
  rw [h1]
  exact nI_m1 (by omega)
theorem leaf_num0 (hF : 30 ≤ F) {p : Nat} {s : Int32} {r : List Int32} (h : MS N t L p) (hd : dg s ≠ 0) {kk : Mem → Option (Bool × Mem)} (hk : ∀ (N1 : Mem) (q : Nat) (v : Int32), v ≠ -1 → MS N1 t L q → KK2 N1 v (-1) → Leaf t L (kk N1) N1 (pm t L r q v (-1))) : Leaf t L (bindM (fX12_readsNumber F 0 (nI (dg s)) N) (fun r M1 => if r = true then kk M1 else some (false, M1))) N (pm t L (s :: r) p (-1) (-1)) := by
  obtain ⟨N', i1, i2, i3, i4, i5, i6⟩ := mNumber (F := F) hF (i := 0) (by decide) hd h
  rw [show fX12_readsNumber F 0 (nI (dg s)) N = _ from i1, pm_cons, if_neg hd]
  simp only [bM]
  by_cases w : (nDig t L (dg s) p 0 0).2.1 = 0
  · rw [if_pos w, if_neg (by simp [w])]
    have e := (nDig_p (t := t) (L := L) (dg s) p 0 0).2.1
    rw [w] at e
    have e2 : (nDig t L (dg s) p 0 0).2.2 = p := e
    rw [e2] at i2
    exact ⟨N', rfl, i2, i3, i4, fun z => absurd z (show ¬ (false = true) by decide)⟩
  · rw [if_neg w, if_pos (by simp [w]), if_pos trivial, if_pos trivial]
    obtain ⟨N2, j1, j2, j3, j4, j5⟩ := hk N' _ _ (nDig_ne s p) i2 ⟨fun _ => i5 w, fun z => absurd rfl z⟩
    exact ⟨N2, j1, j2, i3.tr j3, j4.trans i4, j5⟩
theorem leaf_num1 (hF : 30 ≤ F) {p : Nat} {s a : Int32} {r : List Int32} (ha : a ≠ -1) (h : MS N t L p) (k : KK2 N a (-1)) (hd : dg s ≠ 0) {kk : Mem → Option (Bool × Mem)} (hk : ∀ (N1 : Mem) (q : Nat) (v : Int32), MS N1 t L q → KK2 N1 a v → Leaf t L (kk N1) N1 (pm t L r q a v)) : Leaf t L (bindM (fX12_readsNumber F 1 (nI (dg s)) N) (fun r M1 => if r = true then kk M1 else some (false, M1))) N (pm t L (s :: r) p a (-1)) := by
  obtain ⟨N', i1, i2, i3, i4, i5, i6⟩ := mNumber (F := F) hF (i := 1) (by decide) hd h
  rw [show fX12_readsNumber F 1 (nI (dg s)) N = _ from i1, pm_cons, if_neg hd]
  simp only [bM]
  by_cases w : (nDig t L (dg s) p 0 0).2.1 = 0
  · rw [if_pos w, if_neg (by simp [w])]
    have e := (nDig_p (t := t) (L := L) (dg s) p 0 0).2.1
    rw [w] at e
    have e2 : (nDig t L (dg s) p 0 0).2.2 = p := e
    rw [e2] at i2
    exact ⟨N', rfl, i2, i3, i4, fun z => absurd z (show ¬ (false = true) by decide)⟩
  · rw [if_neg w, if_pos (by simp [w]), if_neg ha, if_neg ha]
    obtain ⟨N2, j1, j2, j3, j4, j5⟩ := hk N' _ _ i2 ⟨fun z => by rw [i6 0 (by decide)]; exact k.1 z, fun _ => i5 w⟩
    exact ⟨N2, j1, j2, i3.tr j3, j4.trans i4, j5⟩
theorem leaf_seq {p : Nat} {a b : Int32} {l r : List Int32} {f : Option (Bool × Mem)} (h : Leaf t L f N (pm t L l p a b)) {kk : Mem → Option (Bool × Mem)} (hk : ∀ N1 : Mem, MS N1 t L (pm t L l p a b).2.1 → (pm t L l p a b).1 = true → KK2 N1 (pm t L l p a b).2.2.1 (pm t L l p a b).2.2.2 → Leaf t L (kk N1) N1 (pm t L r (pm t L l p a b).2.1 (pm t L l p a b).2.2.1 (pm t L l p a b).2.2.2)) : Leaf t L (bindM f (fun r M1 => if r = true then kk M1 else some (false, M1))) N (pm t L (l ++ r) p a b) := by
  obtain ⟨N1, i1, i2, i3, i4, i5⟩ := h
  rw [i1, pm_append]
  simp only [bM]
  by_cases w : (pm t L l p a b).1 = true
  · rw [if_pos w, if_pos w]
    obtain ⟨N2, j1, j2, j3, j4, j5⟩ := hk N1 i2 w (i5 w)
    exact ⟨N2, j1, j2, i3.tr j3, j4.trans i4, j5⟩
  · rw [if_neg w, if_neg w]
    have w2 : (pm t L l p a b).1 = false := by
      cases z : (pm t L l p a b).1
      · rfl
      · exact absurd z w
    exact ⟨N1, by rw [w2], i2, i3, i4, fun z => absurd z w⟩
theorem K0 : KK2 N (-1) (-1) := ⟨fun z => absurd rfl z, fun z => absurd rfl z⟩
theorem leaf_one (hF : 30 ≤ F) {p : Nat} (h : MS N t L p) : Leaf t L (fX12_readsOne F N) N (pm t L [32, 78] p (-1) (-1)) := leaf_lit h K0 (by decide) (by decide) (by decide) fun N1 h1 _ => leaf_num0 (s := 78) hF h1 (by decide) fun N2 q v hv h2 k2 => leaf_end h2 k2
theorem pm_one_ne {p : Nat} (h : (pm t L [32, 78] p (-1) (-1)).1 = true) : (pm t L [32, 78] p (-1) (-1)).2.2.1 ≠ -1 ∧ (pm t L [32, 78] p (-1) (-1)).2.2.2 = -1 := by
  rw [pm_cons, if_pos (show dg 32 = 0 by decide)] at h ⊢
  by_cases w : ch t L p = 32
  · rw [if_pos w] at h ⊢
    rw [pm_cons, if_neg (show ¬ dg 78 = 0 by decide)] at h ⊢
    by_cases w2 : (nDig t L (dg 78) (p + 1) 0 0).2.1 = 0
    · rw [if_pos w2] at h
      exact absurd h (show ¬ (false = true) by decide)
    · rw [if_neg w2, if_pos rfl, if_pos rfl]
      exact ⟨nDig_ne 78 (p + 1), rfl⟩
  · rw [if_neg w] at h
    exact absurd h (show ¬ (false = true) by decide)
theorem leaf_pair (hF : 30 ≤ F) {p : Nat} (h : MS N t L p) : Leaf t L (fX12_readsPair F N) N (pm t L ([32, 78] ++ [45, 78]) p (-1) (-1)) := by
  refine leaf_seq (leaf_one hF h) fun N1 h1 w k1 => ?_
  have e := pm_one_ne w
  rw [e.2] at k1 ⊢
  exact leaf_lit h1 k1 (by decide) (by decide) (by decide) fun N2 h2 k2 => leaf_num1 (s := 78) hF e.1 h2 k2 (by decide) fun N3 q v h3 k3 => leaf_end h3 k3
theorem leaf_ret {p : Nat} {a b : Int32} {l : List Int32} {f : Option (Bool × Mem)} (h : Leaf t L f N (pm t L l p a b)) : Leaf t L (bindM f (fun r M1 => if r = true then some (true, M1) else some (false, M1))) N (pm t L l p a b) := by
  have z := leaf_seq (r := []) h (kk := fun M => some (true, M)) fun N1 h1 _ k1 => leaf_end h1 k1
  rw [List.append_nil] at z
  exact z
theorem lf_shelf (hF : 30 ≤ F) {p : Nat} (h0 : MS N t L p) : Leaf t L (bindM (fX12_reads F 108 N) (fun r0 M1 => if r0 = true then bindM (fX12_reads F 102 M1) (fun r1 M2 => if r1 = true then bindM (fX12_readsOne F M2) (fun ra Ma => if ra = true then some (true, Ma) else some (false, Ma)) else some (false, M2)) else some (false, M1))) N (pm t L [108, 102, 32, 78] p (-1) (-1)) := by
  have k0 : KK2 N (-1) (-1) := K0
  exact leaf_lit h0 k0 (by decide) (by decide) (by decide) fun N1 h1 k1 => leaf_lit h1 k1 (by decide) (by decide) (by decide) fun N2 h2 k2 => leaf_ret (leaf_one hF h2)
theorem lf_show (hF : 30 ≤ F) {p : Nat} (h0 : MS N t L p) : Leaf t L (bindM (fX12_reads F 111 N) (fun r0 M1 => if r0 = true then bindM (fX12_reads F 119 M1) (fun r1 M2 => if r1 = true then bindM (fX12_readsOne F M2) (fun ra Ma => if ra = true then some (true, Ma) else some (false, Ma)) else some (false, M2)) else some (false, M1))) N (pm t L [111, 119, 32, 78] p (-1) (-1)) := by
  have k0 : KK2 N (-1) (-1) := K0
  exact leaf_lit h0 k0 (by decide) (by decide) (by decide) fun N1 h1 k1 => leaf_lit h1 k1 (by decide) (by decide) (by decide) fun N2 h2 k2 => leaf_ret (leaf_one hF h2)
theorem lf_stop (hF : 30 ≤ F) {p : Nat} (h0 : MS N t L p) : Leaf t L (bindM (fX12_reads F 111 N) (fun r0 M1 => if r0 = true then bindM (fX12_reads F 112 M1) (fun r1 M2 => if r1 = true then bindM (fX12_readsOne F M2) (fun ra Ma => if ra = true then some (true, Ma) else some (false, Ma)) else some (false, M2)) else some (false, M1))) N (pm t L [111, 112, 32, 78] p (-1) (-1)) := by
  have k0 : KK2 N (-1) (-1) := K0
  exact leaf_lit h0 k0 (by decide) (by decide) (by decide) fun N1 h1 k1 => leaf_lit h1 k1 (by decide) (by decide) (by decide) fun N2 h2 k2 => leaf_ret (leaf_one hF h2)
theorem lf_seed (hF : 30 ≤ F) {p : Nat} (h0 : MS N t L p) : Leaf t L (bindM (fX12_reads F 101 N) (fun r0 M1 => if r0 = true then bindM (fX12_reads F 101 M1) (fun r1 M2 => if r1 = true then bindM (fX12_reads F 100 M2) (fun r2 M3 => if r2 = true then bindM (fX12_reads F 32 M3) (fun r3 M4 => if r3 = true then bindM (fX12_readsNumber F 0 4 M4) (fun ra Ma => if ra = true then some (true, Ma) else some (false, Ma)) else some (false, M4)) else some (false, M3)) else some (false, M2)) else some (false, M1))) N (pm t L [101, 101, 100, 32, 76] p (-1) (-1)) := by
  have k0 : KK2 N (-1) (-1) := K0
  exact leaf_lit h0 k0 (by decide) (by decide) (by decide) fun N1 h1 k1 => leaf_lit h1 k1 (by decide) (by decide) (by decide) fun N2 h2 k2 => leaf_lit h2 k2 (by decide) (by decide) (by decide) fun N3 h3 k3 => leaf_lit h3 k3 (by decide) (by decide) (by decide) fun N4 h4 k4 => leaf_num0 (s := 76) hF h4 (by decide) fun Nz q v hv hz kz => leaf_end hz kz
theorem lf_link (hF : 30 ≤ F) {p : Nat} (h0 : MS N t L p) : Leaf t L (bindM (fX12_reads F 105 N) (fun r0 M1 => if r0 = true then bindM (fX12_reads F 110 M1) (fun r1 M2 => if r1 = true then bindM (fX12_reads F 107 M2) (fun r2 M3 => if r2 = true then bindM (fX12_readsPair F M3) (fun ra Ma => if ra = true then some (true, Ma) else some (false, Ma)) else some (false, M3)) else some (false, M2)) else some (false, M1))) N (pm t L [105, 110, 107, 32, 78, 45, 78] p (-1) (-1)) := by
  have k0 : KK2 N (-1) (-1) := K0
  exact leaf_lit h0 k0 (by decide) (by decide) (by decide) fun N1 h1 k1 => leaf_lit h1 k1 (by decide) (by decide) (by decide) fun N2 h2 k2 => leaf_lit h2 k2 (by decide) (by decide) (by decide) fun N3 h3 k3 => leaf_ret (leaf_pair hF h3)
theorem lf_cut (hF : 30 ≤ F) {p : Nat} (h0 : MS N t L p) : Leaf t L (bindM (fX12_reads F 117 N) (fun r0 M1 => if r0 = true then bindM (fX12_reads F 116 M1) (fun r1 M2 => if r1 = true then bindM (fX12_readsPair F M2) (fun ra Ma => if ra = true then some (true, Ma) else some (false, Ma)) else some (false, M2)) else some (false, M1))) N (pm t L [117, 116, 32, 78, 45, 78] p (-1) (-1)) := by
  have k0 : KK2 N (-1) (-1) := K0
  exact leaf_lit h0 k0 (by decide) (by decide) (by decide) fun N1 h1 k1 => leaf_lit h1 k1 (by decide) (by decide) (by decide) fun N2 h2 k2 => leaf_ret (leaf_pair hF h2)
theorem lf_hide (hF : 30 ≤ F) {p : Nat} (h0 : MS N t L p) : Leaf t L (bindM (fX12_reads F 105 N) (fun r0 M1 => if r0 = true then bindM (fX12_reads F 100 M1) (fun r1 M2 => if r1 = true then bindM (fX12_reads F 101 M2) (fun r2 M3 => if r2 = true then bindM (fX12_readsOne F M3) (fun ra Ma => if ra = true then some (true, Ma) else some (false, Ma)) else some (false, M3)) else some (false, M2)) else some (false, M1))) N (pm t L [105, 100, 101, 32, 78] p (-1) (-1)) := by
  have k0 : KK2 N (-1) (-1) := K0
  exact leaf_lit h0 k0 (by decide) (by decide) (by decide) fun N1 h1 k1 => leaf_lit h1 k1 (by decide) (by decide) (by decide) fun N2 h2 k2 => leaf_lit h2 k2 (by decide) (by decide) (by decide) fun N3 h3 k3 => leaf_ret (leaf_one hF h3)
theorem lf_drop (hF : 30 ≤ F) {p : Nat} (h0 : MS N t L p) : Leaf t L (bindM (fX12_reads F 114 N) (fun r0 M1 => if r0 = true then bindM (fX12_reads F 111 M1) (fun r1 M2 => if r1 = true then bindM (fX12_reads F 112 M2) (fun r2 M3 => if r2 = true then bindM (fX12_reads F 32 M3) (fun r3 M4 => if r3 = true then bindM (fX12_readsNumber F 0 1 M4) (fun ra Ma => if ra = true then some (true, Ma) else some (false, Ma)) else some (false, M4)) else some (false, M3)) else some (false, M2)) else some (false, M1))) N (pm t L [114, 111, 112, 32, 68] p (-1) (-1)) := by
  have k0 : KK2 N (-1) (-1) := K0
  exact leaf_lit h0 k0 (by decide) (by decide) (by decide) fun N1 h1 k1 => leaf_lit h1 k1 (by decide) (by decide) (by decide) fun N2 h2 k2 => leaf_lit h2 k2 (by decide) (by decide) (by decide) fun N3 h3 k3 => leaf_lit h3 k3 (by decide) (by decide) (by decide) fun N4 h4 k4 => leaf_num0 (s := 68) hF h4 (by decide) fun Nz q v hv hz kz => leaf_end hz kz
theorem lf_rate (hF : 30 ≤ F) {p : Nat} (h0 : MS N t L p) : Leaf t L (bindM (fX12_reads F 97 N) (fun r0 M1 => if r0 = true then bindM (fX12_reads F 116 M1) (fun r1 M2 => if r1 = true then bindM (fX12_reads F 101 M2) (fun r2 M3 => if r2 = true then bindM (fX12_readsOne F M3) (fun ra Ma => if ra = true then some (true, Ma) else some (false, Ma)) else some (false, M3)) else some (false, M2)) else some (false, M1))) N (pm t L [97, 116, 101, 32, 78] p (-1) (-1)) := by
  have k0 : KK2 N (-1) (-1) := K0
  exact leaf_lit h0 k0 (by decide) (by decide) (by decide) fun N1 h1 k1 => leaf_lit h1 k1 (by decide) (by decide) (by decide) fun N2 h2 k2 => leaf_lit h2 k2 (by decide) (by decide) (by decide) fun N3 h3 k3 => leaf_ret (leaf_one hF h3)
theorem lf_wait (hF : 30 ≤ F) {p : Nat} (h0 : MS N t L p) : Leaf t L (bindM (fX12_reads F 97 N) (fun r0 M1 => if r0 = true then bindM (fX12_reads F 105 M1) (fun r1 M2 => if r1 = true then bindM (fX12_reads F 116 M2) (fun r2 M3 => if r2 = true then bindM (fX12_readsOne F M3) (fun ra Ma => if ra = true then some (true, Ma) else some (false, Ma)) else some (false, M3)) else some (false, M2)) else some (false, M1))) N (pm t L [97, 105, 116, 32, 78] p (-1) (-1)) := by
  have k0 : KK2 N (-1) (-1) := K0
  exact leaf_lit h0 k0 (by decide) (by decide) (by decide) fun N1 h1 k1 => leaf_lit h1 k1 (by decide) (by decide) (by decide) fun N2 h2 k2 => leaf_lit h2 k2 (by decide) (by decide) (by decide) fun N3 h3 k3 => leaf_ret (leaf_one hF h3)
theorem lf_filltail (hF : 30 ≤ F) {p : Nat} (h : MS N t L p) : Leaf t L (bindM (fX12_readsOne F N) (fun rb Mb => if rb = true then bindM (fX12_reads F 32 Mb) (fun rc Mc => if rc = true then bindM (fX12_readsNumber F 1 2 Mc) (fun ra Ma => if ra = true then some (true, Ma) else some (false, Ma)) else some (false, Mc)) else some (false, Mb))) N (pm t L ([32, 78] ++ [32, 78]) p (-1) (-1)) := by
  refine leaf_seq (leaf_one hF h) fun N1 h1 w k1 => ?_
  have e := pm_one_ne w
  rw [e.2] at k1 ⊢
  exact leaf_lit h1 k1 (by decide) (by decide) (by decide) fun N2 h2 k2 => leaf_num1 (s := 78) hF e.1 h2 k2 (by decide) fun N3 q v h3 k3 => leaf_end h3 k3
theorem lf_fill (hF : 30 ≤ F) {p : Nat} (h0 : MS N t L p) : Leaf t L (bindM (fX12_reads F 105 N) (fun r0 M1 => if r0 = true then bindM (fX12_reads F 108 M1) (fun r1 M2 => if r1 = true then bindM (fX12_reads F 108 M2) (fun r2 M3 => if r2 = true then bindM (fX12_readsOne F M3) (fun rb Mb => if rb = true then bindM (fX12_reads F 32 Mb) (fun rc Mc => if rc = true then bindM (fX12_readsNumber F 1 2 Mc) (fun ra Ma => if ra = true then some (true, Ma) else some (false, Ma)) else some (false, Mc)) else some (false, Mb)) else some (false, M3)) else some (false, M2)) else some (false, M1))) N (pm t L [105, 108, 108, 32, 78, 32, 78] p (-1) (-1)) := by
  have k0 : KK2 N (-1) (-1) := K0
  exact leaf_lit h0 k0 (by decide) (by decide) (by decide) fun N1 h1 k1 => leaf_lit h1 k1 (by decide) (by decide) (by decide) fun N2 h2 k2 => leaf_lit h2 k2 (by decide) (by decide) (by decide) fun N3 h3 k3 => lf_filltail hF h3
def lett (op : Nat) : Nat := [115, 108, 99, 104, 111, 102, 116, 100, 114, 101, 119].getD op 0
def Cmd (t : Nat → Int32) (L : Nat) (r : Option (Bool × Mem)) (N : Mem) (op : Nat) (z : Bool × Nat × Int32 × Int32) : Prop := ∃ N', r = some (z.1, N') ∧ MS N' t L z.2.1 ∧ MG N N' ∧ (z.1 = true → N' 119 22 = nI (lett op) ∧ KK2 N' z.2.2.1 z.2.2.2)
theorem Leaf.cmd {N0 : Mem} {r : Option (Bool × Mem)} {op : Nat} {z : Bool × Nat × Int32 × Int32} (h : Leaf t L r N z) (g : MG N0 N) (e : N 119 22 = nI (lett op)) : Cmd t L r N0 op z := by
  obtain ⟨N', i1, i2, i3, i4, i5⟩ := h
  exact ⟨N', i1, i2, g.tr i3, fun w => ⟨i4.trans e, i5 w⟩⟩
theorem mCommand (hF : 30 ≤ F) {p : Nat} (h : MS N t L p) : Cmd t L (fX12_readsCommand F N) N (tree t L p).1 (tree t L p).2 := by
  have hp := h.2.2.2.2
  unfold fX12_readsCommand
  rw [mNext h]
  simp only [bM, lM]
  have h1 : MS (up2 N 119 22 (mch t L p)) t L p := h.u22
  have g1 : MG N (up2 N 119 22 (mch t L p)) := MG.u22
  have e1 : up2 N 119 22 (mch t L p) 119 22 = mch t L p := by rw [u2_same, if_pos rfl]
  generalize up2 N 119 22 (mch t L p) = N1 at h1 g1 e1 ⊢
  unfold tree
  have go : ∀ {c : Int32}, c ≠ 0 → c ≠ -1 → ch t L p = c → MS (up2 N1 119 19 (nI (p + 1))) t L (p + 1) ∧ MG N (up2 N1 119 19 (nI (p + 1))) ∧ up2 N1 119 19 (nI (p + 1)) 119 22 = c := fun h0 hm hc => by
    have := ch_lt hc h0
    exact ⟨h1.u19 (by omega), g1.tr MG.u19, by rw [u2_same, if_neg (by decide), e1]; exact (mch_eq h0 hm).mpr hc⟩
  by_cases h115 : ch t L p = 115
  · rw [if_pos h115, mReadsT h1 (by decide) (by decide) h115]
    simp only [bM]
    rw [if_pos trivial, bind_id]
    obtain ⟨h2, g2, e2⟩ := go (by decide) (by decide) h115
    generalize up2 N1 119 19 (nI (p + 1)) = N2 at h2 g2 e2 ⊢
    unfold fX12_readsS
    by_cases k1 : ch t L (p + 1) = 104
    · have := ch_lt k1 (by decide)
      rw [if_pos k1, mReadsT h2 (by decide) (by decide) k1]
      simp only [bM]
      rw [if_pos trivial]
      have h3 : MS (up2 N2 119 19 (nI (p + 1 + 1))) t L (p + 2) := h2.u19 (by omega)
      have g3 : MG N (up2 N2 119 19 (nI (p + 1 + 1))) := g2.tr MG.u19
      have e3 : up2 N2 119 19 (nI (p + 1 + 1)) 119 22 = 115 := by rw [u2_same, if_neg (by decide)]; exact e2
      generalize up2 N2 119 19 (nI (p + 1 + 1)) = N3 at h3 g3 e3 ⊢
      by_cases k2 : ch t L (p + 2) = 101
      · have := ch_lt k2 (by decide)
        rw [if_pos k2, mReadsT h3 (by decide) (by decide) k2]
        simp only [bM]
        rw [if_pos trivial]
        exact (lf_shelf hF (h3.u19 (q := p + 3) (by omega))).cmd (g3.tr MG.u19) (by rw [u2_same, if_neg (by decide)]; exact e3)
      · rw [if_neg k2, mReadsF h3 (by decide) (by decide) k2]
        simp only [bM, lM]
        rw [if_neg (by decide)]
        exact (lf_show hF h3.u22).cmd (g3.tr MG.u22) (by rw [u2_same, if_pos rfl]; rfl)
    · rw [if_neg k1, mReadsF h2 (by decide) (by decide) k1]
      simp only [bM, lM]
      rw [if_neg (by decide)]
      have h3 : MS (up2 N2 119 22 116) t L (p + 1) := h2.u22
      have g3 : MG N (up2 N2 119 22 116) := g2.tr MG.u22
      have e3 : up2 N2 119 22 116 119 22 = 116 := by rw [u2_same, if_pos rfl]
      generalize up2 N2 119 22 116 = N3 at h3 g3 e3 ⊢
      by_cases k2 : ch t L (p + 1) = 116
      · have := ch_lt k2 (by decide)
        rw [if_pos k2, mReadsT h3 (by decide) (by decide) k2]
        simp only [bM]
        rw [if_pos trivial]
        exact (lf_stop hF (h3.u19 (q := p + 2) (by omega))).cmd (g3.tr MG.u19) (by rw [u2_same, if_neg (by decide)]; exact e3)
      · rw [if_neg k2, mReadsF h3 (by decide) (by decide) k2]
        simp only [bM, lM]
        rw [if_neg (by decide)]
        exact (lf_seed hF h3.u22).cmd (g3.tr MG.u22) (by rw [u2_same, if_pos rfl]; rfl)
  · rw [if_neg h115, mReadsF h1 (by decide) (by decide) h115]
    simp only [bM]
    rw [if_neg (by decide)]
    by_cases h108 : ch t L p = 108
    · rw [if_pos h108, mReadsT h1 (by decide) (by decide) h108]
      simp only [bM]
      rw [if_pos trivial]
      obtain ⟨h2, g2, e2⟩ := go (by decide) (by decide) h108
      exact (lf_link hF h2).cmd g2 e2
    · rw [if_neg h108, mReadsF h1 (by decide) (by decide) h108]
      simp only [bM]
      rw [if_neg (by decide)]
      by_cases h99 : ch t L p = 99
      · rw [if_pos h99, mReadsT h1 (by decide) (by decide) h99]
        simp only [bM]
        rw [if_pos trivial]
        obtain ⟨h2, g2, e2⟩ := go (by decide) (by decide) h99
        exact (lf_cut hF h2).cmd g2 e2
      · rw [if_neg h99, mReadsF h1 (by decide) (by decide) h99]
        simp only [bM]
        rw [if_neg (by decide)]
        by_cases h104 : ch t L p = 104
        · rw [if_pos h104, mReadsT h1 (by decide) (by decide) h104]
          simp only [bM]
          rw [if_pos trivial]
          obtain ⟨h2, g2, e2⟩ := go (by decide) (by decide) h104
          exact (lf_hide hF h2).cmd g2 e2
        · rw [if_neg h104, mReadsF h1 (by decide) (by decide) h104]
          simp only [bM]
          rw [if_neg (by decide)]
          by_cases h102 : ch t L p = 102
          · rw [if_pos h102, mReadsT h1 (by decide) (by decide) h102]
            simp only [bM]
            rw [if_pos trivial]
            obtain ⟨h2, g2, e2⟩ := go (by decide) (by decide) h102
            exact (lf_fill hF h2).cmd g2 e2
          · rw [if_neg h102, mReadsF h1 (by decide) (by decide) h102]
            simp only [bM]
            rw [if_neg (by decide)]
            by_cases h100 : ch t L p = 100
            · rw [if_pos h100, mReadsT h1 (by decide) (by decide) h100]
              simp only [bM]
              rw [if_pos trivial]
              obtain ⟨h2, g2, e2⟩ := go (by decide) (by decide) h100
              exact (lf_drop hF h2).cmd g2 e2
            · rw [if_neg h100, mReadsF h1 (by decide) (by decide) h100]
              simp only [bM]
              rw [if_neg (by decide)]
              by_cases h114 : ch t L p = 114
              · rw [if_pos h114, mReadsT h1 (by decide) (by decide) h114]
                simp only [bM]
                rw [if_pos trivial]
                obtain ⟨h2, g2, e2⟩ := go (by decide) (by decide) h114
                exact (lf_rate hF h2).cmd g2 e2
              · rw [if_neg h114, mReadsF h1 (by decide) (by decide) h114]
                simp only [bM]
                rw [if_neg (by decide)]
                by_cases h119 : ch t L p = 119
                · rw [if_pos h119, mReadsT h1 (by decide) (by decide) h119]
                  simp only [bM]
                  rw [if_pos trivial]
                  obtain ⟨h2, g2, e2⟩ := go (by decide) (by decide) h119
                  exact (lf_wait hF h2).cmd g2 e2
                · rw [if_neg h119, mReadsF h1 (by decide) (by decide) h119]
                  simp only [bM]
                  rw [if_neg (by decide)]
                  exact ⟨N1, rfl, h1, g1, fun z => absurd z (show ¬ (false = true) by decide)⟩
end
section
variable {F : Nat} {M N : Mem} {t : Nat → Int32} {L : Nat} {a : Nat → Nat}
theorem mAll7 (hF : 30 ≤ F) (m : Nat) : ∀ p (N : Mem), MS N t L p → L < p + m → ∀ n', m + 1 < n' → ∃ N' q, fX12_readsAll_7 F (fun M11 => if (M11 119 19) = (M11 119 18) then some (true, M11) else some (false, M11)) n' 1 N = some (match (scan t L m p).1 with | some _ => true | none => false, N') ∧ MS N' t L q ∧ MG N N' ∧ ((scan t L m p).1 = none → q = (scan t L m p).2) := by
  induction m with
  | zero => intro p N h hL; have := h.2.2.2.2; omega
  | succ m ih =>
    intro p N h hL n' hn
    obtain ⟨n', rfl⟩ : ∃ n'', n' = n'' + 1 := ⟨n' - 1, by omega⟩
    have h60 := h.2.2.2.1
    have hp := h.2.2.2.2
    have hl := tree_le (t := t) hp
    have hg := tree_ge (t := t) (L := L) p
    obtain ⟨N1, i1, i2, i3, i4⟩ := mCommand (F := F) hF h
    have nf : ¬ (false = true) := by decide
    rw [fX12_readsAll_7, if_neg (by decide), i1]
    simp only [bM]
    unfold scan
    cases w : (tree t L p).2.1 with
    | false =>
      rw [if_neg nf, if_neg nf]
      exact ⟨N1, _, rfl, i2, i3, fun _ => rfl⟩
    | true =>
      have hg2 := hg.2 w
      simp only [↓reduceIte]
      by_cases w3 : ch t L (tree t L p).2.2.1 = 59
      · have hlt := ch_lt w3 (by decide)
        rw [mReadsT i2 (by decide) (by decide) w3, if_pos hlt, if_pos w3]
        simp only [bM]
        obtain ⟨N2, q2, j1, j2, j3, j4⟩ := ih _ _ (i2.u19 (show (tree t L p).2.2.1 + 1 ≤ L by omega)) (by omega) n' (by omega)
        refine ⟨N2, q2, ?_, j2, (i3.tr MG.u19).tr j3, fun z => ?_⟩
        · show fX12_readsAll_7 F _ n' 1 _ = _
          rw [j1]
          cases (scan t L m ((tree t L p).2.2.1 + 1)).1 <;> rfl
        · refine j4 ?_
          cases y : (scan t L m ((tree t L p).2.2.1 + 1)).1 with
          | none => rfl
          | some l => rw [y] at z; exact absurd z (by simp)
      · rw [mReadsF i2 (by decide) (by decide) w3]
        simp only [bM]
        show ∃ N' q, fX12_readsAll_7 F _ n' 0 N1 = _ ∧ _
        obtain ⟨n', rfl⟩ : ∃ n'', n' = n'' + 1 := ⟨n' - 1, by omega⟩
        rw [fX12_readsAll_7, if_pos rfl, i2.2.1, i2.1]
        by_cases w2 : (tree t L p).2.2.1 < L
        · rw [if_neg (ne2 (by omega) (by omega) (by omega)), if_pos w2, if_neg w3]
          exact ⟨N1, _, rfl, i2, i3, fun _ => rfl⟩
        · rw [if_pos (eq2 (by omega)), if_neg w2]
          exact ⟨N1, _, rfl, i2, i3, fun z => absurd z (by simp)⟩
def nums : List Int32 → Nat
  | [] => 0
  | s :: r => (if dg s = 0 then 0 else 1) + nums r
theorem pm_xy (l : List Int32) : ∀ p a b, (pm t L l p a b).1 = true → ((a ≠ -1 ∨ 1 ≤ nums l) → (pm t L l p a b).2.2.1 ≠ -1) ∧ ((b ≠ -1 ∨ (a ≠ -1 ∧ 1 ≤ nums l) ∨ 2 ≤ nums l) → (pm t L l p a b).2.2.2 ≠ -1) := by
  induction l with
  | nil =>
    intro p a b _
    refine ⟨fun h => ?_, fun h => ?_⟩
    · rcases h with h | h
      · exact h
      · exact absurd h (by decide)
    · rcases h with h | h | h
      · exact h
      · exact absurd h.2 (by decide)
      · exact absurd h (by decide)
  | cons s r ih =>
    intro p a b h
    rw [pm_cons] at h ⊢
    have nf : ¬ (false = true) := by decide
    by_cases q : dg s = 0
    · have e : nums (s :: r) = nums r := by
        show (if dg s = 0 then 0 else 1) + nums r = _
        rw [if_pos q]; omega
      rw [if_pos q] at h ⊢
      by_cases q2 : ch t L p = s
      · rw [if_pos q2] at h ⊢
        rw [e]
        exact ih _ _ _ h
      · rw [if_neg q2] at h
        exact absurd h nf
    · have e : nums (s :: r) = 1 + nums r := by
        show (if dg s = 0 then 0 else 1) + nums r = _
        rw [if_neg q]
      rw [if_neg q] at h ⊢
      by_cases q2 : (nDig t L (dg s) p 0 0).2.1 = 0
      · rw [if_pos q2] at h
        exact absurd h nf
      · rw [if_neg q2] at h ⊢
        rw [e]
        have z := ih _ _ _ h
        by_cases q3 : a = -1
        · rw [if_pos q3, if_pos q3] at z ⊢
          refine ⟨fun _ => z.1 (Or.inl (nDig_ne s p)), fun y => z.2 ?_⟩
          rcases y with y | y | y
          · exact Or.inl y
          · exact absurd q3 y.1
          · exact Or.inr (Or.inl ⟨nDig_ne s p, by omega⟩)
        · rw [if_neg q3, if_neg q3] at z ⊢
          exact ⟨fun _ => z.1 (Or.inl q3), fun _ => z.2 (Or.inl (nDig_ne s p))⟩
theorem tree_xy (p : Nat) (h : (tree t L p).2.1 = true) : (tree t L p).2.2.2.1 ≠ -1 ∧ (((tree t L p).1 = 1 ∨ (tree t L p).1 = 2 ∨ (tree t L p).1 = 5) → (tree t L p).2.2.2.2 ≠ -1) := by
  have one : ∀ (op : Nat) (l : List Int32) (q : Nat), ¬ (op = 1 ∨ op = 2 ∨ op = 5) → 1 ≤ nums l → (pm t L l q (-1) (-1)).1 = true → (pm t L l q (-1) (-1)).2.2.1 ≠ -1 ∧ ((op = 1 ∨ op = 2 ∨ op = 5) → (pm t L l q (-1) (-1)).2.2.2 ≠ -1) := fun op l q ho hn hk => ⟨(pm_xy l q _ _ hk).1 (Or.inr hn), fun z => absurd z ho⟩
  have two : ∀ (op : Nat) (l : List Int32) (q : Nat), 2 ≤ nums l → (pm t L l q (-1) (-1)).1 = true → (pm t L l q (-1) (-1)).2.2.1 ≠ -1 ∧ ((op = 1 ∨ op = 2 ∨ op = 5) → (pm t L l q (-1) (-1)).2.2.2 ≠ -1) := fun op l q hn hk => ⟨(pm_xy l q _ _ hk).1 (Or.inr (by omega)), fun _ => (pm_xy l q _ _ hk).2 (Or.inr (Or.inr hn))⟩
  unfold tree at h ⊢
  by_cases h115 : ch t L p = 115
  · rw [if_pos h115] at h ⊢
    by_cases k1 : ch t L (p + 1) = 104
    · rw [if_pos k1] at h ⊢
      by_cases k2 : ch t L (p + 2) = 101
      · rw [if_pos k2] at h ⊢
        exact one 0 _ _ (by decide) (by decide) h
      · rw [if_neg k2] at h ⊢
        exact one 4 _ _ (by decide) (by decide) h
    · rw [if_neg k1] at h ⊢
      by_cases k2 : ch t L (p + 1) = 116
      · rw [if_pos k2] at h ⊢
        exact one 6 _ _ (by decide) (by decide) h
      · rw [if_neg k2] at h ⊢
        exact one 9 _ _ (by decide) (by decide) h
  · rw [if_neg h115] at h ⊢
    by_cases h108 : ch t L p = 108
    · rw [if_pos h108] at h ⊢
      exact two 1 _ _ (by decide) h
    · rw [if_neg h108] at h ⊢
      by_cases h99 : ch t L p = 99
      · rw [if_pos h99] at h ⊢
        exact two 2 _ _ (by decide) h
      · rw [if_neg h99] at h ⊢
        by_cases h104 : ch t L p = 104
        · rw [if_pos h104] at h ⊢
          exact one 3 _ _ (by decide) (by decide) h
        · rw [if_neg h104] at h ⊢
          by_cases h102 : ch t L p = 102
          · rw [if_pos h102] at h ⊢
            exact two 5 _ _ (by decide) h
          · rw [if_neg h102] at h ⊢
            by_cases h100 : ch t L p = 100
            · rw [if_pos h100] at h ⊢
              exact one 7 _ _ (by decide) (by decide) h
            · rw [if_neg h100] at h ⊢
              by_cases h114 : ch t L p = 114
              · rw [if_pos h114] at h ⊢
                exact one 8 _ _ (by decide) (by decide) h
              · rw [if_neg h114] at h ⊢
                by_cases h119 : ch t L p = 119
                · rw [if_pos h119] at h ⊢
                  exact one 10 _ _ (by decide) (by decide) h
                · rw [if_neg h119] at h ⊢
                  exact absurd h (show ¬ (false = true) by decide)
theorem notNow_0 (e : N 119 22 = nI 115) : fX12_notNow F N = mNot F 0 (N 128 0) (N 128 1) N := by
  unfold fX12_notNow
  simp only [lM]
  rw [e, if_neg (show ¬ nI 115 = 99 by decide), if_neg (show ¬ nI 115 = 100 by decide), if_neg (show ¬ nI 115 = 101 by decide), if_neg (show ¬ nI 115 = 102 by decide), if_neg (show ¬ nI 115 = 104 by decide), if_neg (show ¬ nI 115 = 108 by decide), if_neg (show ¬ nI 115 = 111 by decide), if_neg (show ¬ nI 115 = 114 by decide), if_pos (show nI 115 = 115 by decide), bind_id]
  rfl
theorem notNow_1 (e : N 119 22 = nI 108) : fX12_notNow F N = mNot F 1 (N 128 0) (N 128 1) N := by
  unfold fX12_notNow
  simp only [lM]
  rw [e, if_neg (show ¬ nI 108 = 99 by decide), if_neg (show ¬ nI 108 = 100 by decide), if_neg (show ¬ nI 108 = 101 by decide), if_neg (show ¬ nI 108 = 102 by decide), if_neg (show ¬ nI 108 = 104 by decide), if_pos (show nI 108 = 108 by decide), bind_id]
  rfl
theorem notNow_2 (e : N 119 22 = nI 99) : fX12_notNow F N = mNot F 2 (N 128 0) (N 128 1) N := by
  unfold fX12_notNow
  simp only [lM]
  rw [e, if_pos (show nI 99 = 99 by decide), bind_id]
  rfl
theorem notNow_3 (e : N 119 22 = nI 104) : fX12_notNow F N = mNot F 3 (N 128 0) (N 128 1) N := by
  unfold fX12_notNow
  simp only [lM]
  rw [e, if_neg (show ¬ nI 104 = 99 by decide), if_neg (show ¬ nI 104 = 100 by decide), if_neg (show ¬ nI 104 = 101 by decide), if_neg (show ¬ nI 104 = 102 by decide), if_pos (show nI 104 = 104 by decide), bind_id]
  rfl
theorem notNow_4 (e : N 119 22 = nI 111) : fX12_notNow F N = mNot F 4 (N 128 0) (N 128 1) N := by
  unfold fX12_notNow
  simp only [lM]
  rw [e, if_neg (show ¬ nI 111 = 99 by decide), if_neg (show ¬ nI 111 = 100 by decide), if_neg (show ¬ nI 111 = 101 by decide), if_neg (show ¬ nI 111 = 102 by decide), if_neg (show ¬ nI 111 = 104 by decide), if_neg (show ¬ nI 111 = 108 by decide), if_pos (show nI 111 = 111 by decide), bind_id]
  rfl
theorem notNow_5 (e : N 119 22 = nI 102) : fX12_notNow F N = mNot F 5 (N 128 0) (N 128 1) N := by
  unfold fX12_notNow
  simp only [lM]
  rw [e, if_neg (show ¬ nI 102 = 99 by decide), if_neg (show ¬ nI 102 = 100 by decide), if_neg (show ¬ nI 102 = 101 by decide), if_pos (show nI 102 = 102 by decide), bind_id]
  rfl
theorem notNow_6 (e : N 119 22 = nI 116) : fX12_notNow F N = mNot F 6 (N 128 0) (N 128 1) N := by
  unfold fX12_notNow
  simp only [lM]
  rw [e, if_neg (show ¬ nI 116 = 99 by decide), if_neg (show ¬ nI 116 = 100 by decide), if_neg (show ¬ nI 116 = 101 by decide), if_neg (show ¬ nI 116 = 102 by decide), if_neg (show ¬ nI 116 = 104 by decide), if_neg (show ¬ nI 116 = 108 by decide), if_neg (show ¬ nI 116 = 111 by decide), if_neg (show ¬ nI 116 = 114 by decide), if_neg (show ¬ nI 116 = 115 by decide), if_pos (show nI 116 = 116 by decide), bind_id]
  rfl
theorem notNow_7 (e : N 119 22 = nI 100) : fX12_notNow F N = mNot F 7 (N 128 0) (N 128 1) N := by
  unfold fX12_notNow
  simp only [lM]
  rw [e, if_neg (show ¬ nI 100 = 99 by decide), if_pos (show nI 100 = 100 by decide), bind_id]
  rfl
theorem notNow_8 (e : N 119 22 = nI 114) : fX12_notNow F N = mNot F 8 (N 128 0) (N 128 1) N := by
  unfold fX12_notNow
  simp only [lM]
  rw [e, if_neg (show ¬ nI 114 = 99 by decide), if_neg (show ¬ nI 114 = 100 by decide), if_neg (show ¬ nI 114 = 101 by decide), if_neg (show ¬ nI 114 = 102 by decide), if_neg (show ¬ nI 114 = 104 by decide), if_neg (show ¬ nI 114 = 108 by decide), if_neg (show ¬ nI 114 = 111 by decide), if_pos (show nI 114 = 114 by decide), bind_id]
  rfl
theorem notNow_9 (e : N 119 22 = nI 101) : fX12_notNow F N = mNot F 9 (N 128 0) (N 128 1) N := by
  unfold fX12_notNow
  simp only [lM]
  rw [e, if_neg (show ¬ nI 101 = 99 by decide), if_neg (show ¬ nI 101 = 100 by decide), if_pos (show nI 101 = 101 by decide), bind_id]
  rfl
theorem notNow_10 (e : N 119 22 = nI 119) : fX12_notNow F N = mNot F 10 (N 128 0) (N 128 1) N := by
  unfold fX12_notNow
  simp only [lM]
  rw [e, if_neg (show ¬ nI 119 = 99 by decide), if_neg (show ¬ nI 119 = 100 by decide), if_neg (show ¬ nI 119 = 101 by decide), if_neg (show ¬ nI 119 = 102 by decide), if_neg (show ¬ nI 119 = 104 by decide), if_neg (show ¬ nI 119 = 108 by decide), if_neg (show ¬ nI 119 = 111 by decide), if_neg (show ¬ nI 119 = 114 by decide), if_neg (show ¬ nI 119 = 115 by decide), if_neg (show ¬ nI 119 = 116 by decide), bind_id]
  rfl
theorem notNow_eq {op : Nat} (hop : op ≤ 10) (e : N 119 22 = nI (lett op)) : fX12_notNow F N = mNot F op (N 128 0) (N 128 1) N := by
  match op, hop, e with
  | 0, _, e => exact notNow_0 e
  | 1, _, e => exact notNow_1 e
  | 2, _, e => exact notNow_2 e
  | 3, _, e => exact notNow_3 e
  | 4, _, e => exact notNow_4 e
  | 5, _, e => exact notNow_5 e
  | 6, _, e => exact notNow_6 e
  | 7, _, e => exact notNow_7 e
  | 8, _, e => exact notNow_8 e
  | 9, _, e => exact notNow_9 e
  | 10, _, e => exact notNow_10 e
theorem doesNow_0 (e : N 119 22 = nI 115) : fX12_doesNow F N = mDo F 0 (N 128 0) (N 128 1) N := by
  unfold fX12_doesNow
  simp only [lM]
  rw [e, if_neg (show ¬ nI 115 = 99 by decide), if_neg (show ¬ nI 115 = 100 by decide), if_neg (show ¬ nI 115 = 101 by decide), if_neg (show ¬ nI 115 = 102 by decide), if_neg (show ¬ nI 115 = 104 by decide), if_neg (show ¬ nI 115 = 108 by decide), if_neg (show ¬ nI 115 = 111 by decide), if_neg (show ¬ nI 115 = 114 by decide), if_pos (show nI 115 = 115 by decide), bind_id]
  rfl
theorem doesNow_1 (e : N 119 22 = nI 108) : fX12_doesNow F N = mDo F 1 (N 128 0) (N 128 1) N := by
  unfold fX12_doesNow
  simp only [lM]
  rw [e, if_neg (show ¬ nI 108 = 99 by decide), if_neg (show ¬ nI 108 = 100 by decide), if_neg (show ¬ nI 108 = 101 by decide), if_neg (show ¬ nI 108 = 102 by decide), if_neg (show ¬ nI 108 = 104 by decide), if_pos (show nI 108 = 108 by decide), bind_id]
  rfl
theorem doesNow_2 (e : N 119 22 = nI 99) : fX12_doesNow F N = mDo F 2 (N 128 0) (N 128 1) N := by
  unfold fX12_doesNow
  simp only [lM]
  rw [e, if_pos (show nI 99 = 99 by decide), bind_id]
  rfl
theorem doesNow_3 (e : N 119 22 = nI 104) : fX12_doesNow F N = mDo F 3 (N 128 0) (N 128 1) N := by
  unfold fX12_doesNow
  simp only [lM]
  rw [e, if_neg (show ¬ nI 104 = 99 by decide), if_neg (show ¬ nI 104 = 100 by decide), if_neg (show ¬ nI 104 = 101 by decide), if_neg (show ¬ nI 104 = 102 by decide), if_pos (show nI 104 = 104 by decide), bind_id]
  rfl
theorem doesNow_4 (e : N 119 22 = nI 111) : fX12_doesNow F N = mDo F 4 (N 128 0) (N 128 1) N := by
  unfold fX12_doesNow
  simp only [lM]
  rw [e, if_neg (show ¬ nI 111 = 99 by decide), if_neg (show ¬ nI 111 = 100 by decide), if_neg (show ¬ nI 111 = 101 by decide), if_neg (show ¬ nI 111 = 102 by decide), if_neg (show ¬ nI 111 = 104 by decide), if_neg (show ¬ nI 111 = 108 by decide), if_pos (show nI 111 = 111 by decide), bind_id]
  rfl
theorem doesNow_5 (e : N 119 22 = nI 102) : fX12_doesNow F N = mDo F 5 (N 128 0) (N 128 1) N := by
  unfold fX12_doesNow
  simp only [lM]
  rw [e, if_neg (show ¬ nI 102 = 99 by decide), if_neg (show ¬ nI 102 = 100 by decide), if_neg (show ¬ nI 102 = 101 by decide), if_pos (show nI 102 = 102 by decide), bind_id]
  rfl
theorem doesNow_6 (e : N 119 22 = nI 116) : fX12_doesNow F N = mDo F 6 (N 128 0) (N 128 1) N := by
  unfold fX12_doesNow
  simp only [lM]
  rw [e, if_neg (show ¬ nI 116 = 99 by decide), if_neg (show ¬ nI 116 = 100 by decide), if_neg (show ¬ nI 116 = 101 by decide), if_neg (show ¬ nI 116 = 102 by decide), if_neg (show ¬ nI 116 = 104 by decide), if_neg (show ¬ nI 116 = 108 by decide), if_neg (show ¬ nI 116 = 111 by decide), if_neg (show ¬ nI 116 = 114 by decide), if_neg (show ¬ nI 116 = 115 by decide), if_pos (show nI 116 = 116 by decide), bind_id]
  rfl
theorem doesNow_7 (e : N 119 22 = nI 100) : fX12_doesNow F N = mDo F 7 (N 128 0) (N 128 1) N := by
  unfold fX12_doesNow
  simp only [lM]
  rw [e, if_neg (show ¬ nI 100 = 99 by decide), if_pos (show nI 100 = 100 by decide), bind_id]
  rfl
theorem doesNow_8 (e : N 119 22 = nI 114) : fX12_doesNow F N = mDo F 8 (N 128 0) (N 128 1) N := by
  unfold fX12_doesNow
  simp only [lM]
  rw [e, if_neg (show ¬ nI 114 = 99 by decide), if_neg (show ¬ nI 114 = 100 by decide), if_neg (show ¬ nI 114 = 101 by decide), if_neg (show ¬ nI 114 = 102 by decide), if_neg (show ¬ nI 114 = 104 by decide), if_neg (show ¬ nI 114 = 108 by decide), if_neg (show ¬ nI 114 = 111 by decide), if_pos (show nI 114 = 114 by decide), bind_id]
  rfl
theorem doesNow_9 (e : N 119 22 = nI 101) : fX12_doesNow F N = mDo F 9 (N 128 0) (N 128 1) N := by
  unfold fX12_doesNow
  simp only [lM]
  rw [e, if_neg (show ¬ nI 101 = 99 by decide), if_neg (show ¬ nI 101 = 100 by decide), if_pos (show nI 101 = 101 by decide), bind_id]
  rfl
theorem doesNow_10 (e : N 119 22 = nI 119) : fX12_doesNow F N = mDo F 10 (N 128 0) (N 128 1) N := by
  unfold fX12_doesNow
  simp only [lM]
  rw [e, if_neg (show ¬ nI 119 = 99 by decide), if_neg (show ¬ nI 119 = 100 by decide), if_neg (show ¬ nI 119 = 101 by decide), if_neg (show ¬ nI 119 = 102 by decide), if_neg (show ¬ nI 119 = 104 by decide), if_neg (show ¬ nI 119 = 108 by decide), if_neg (show ¬ nI 119 = 111 by decide), if_neg (show ¬ nI 119 = 114 by decide), if_neg (show ¬ nI 119 = 115 by decide), if_neg (show ¬ nI 119 = 116 by decide), bind_id]
  rfl
theorem doesNow_eq {op : Nat} (hop : op ≤ 10) (e : N 119 22 = nI (lett op)) : fX12_doesNow F N = mDo F op (N 128 0) (N 128 1) N := by
  match op, hop, e with
  | 0, _, e => exact doesNow_0 e
  | 1, _, e => exact doesNow_1 e
  | 2, _, e => exact doesNow_2 e
  | 3, _, e => exact doesNow_3 e
  | 4, _, e => exact doesNow_4 e
  | 5, _, e => exact doesNow_5 e
  | 6, _, e => exact doesNow_6 e
  | 7, _, e => exact doesNow_7 e
  | 8, _, e => exact doesNow_8 e
  | 9, _, e => exact doesNow_9 e
  | 10, _, e => exact doesNow_10 e
theorem mN0 {p1 : Int32} (p2 : Int32) : mNot F 0 p1 p2 N = fX12_notShelf F p1 N := rfl
theorem mN3 {p1 : Int32} (p2 : Int32) : mNot F 3 p1 p2 N = fX12_notBlind F p1 1 N := rfl
theorem mN4 {p1 : Int32} (p2 : Int32) : mNot F 4 p1 p2 N = fX12_notBlind F p1 0 N := rfl
theorem mN6 {p1 : Int32} (p2 : Int32) : mNot F 6 p1 p2 N = fX12_notStop F p1 N := rfl
theorem mN7 {p1 : Int32} (p2 : Int32) : mNot F 7 p1 p2 N = fX12_notDrop F p1 N := rfl
theorem mN8 {p1 : Int32} (p2 : Int32) : mNot F 8 p1 p2 N = fX12_notRate F p1 N := rfl
theorem mN9 {p1 : Int32} (p2 : Int32) : mNot F 9 p1 p2 N = fX12_notSeed F p1 N := rfl
theorem mN10 {p1 : Int32} (p2 : Int32) : mNot F 10 p1 p2 N = fX12_notPass F p1 N := rfl
theorem mNot_p2 {op : Nat} (h : ¬ (op = 1 ∨ op = 2 ∨ op = 5)) (hop : op ≤ 10) (p1 p2 p3 : Int32) : mNot F op p1 p2 N = mNot F op p1 p3 N := by
  match op, hop, h with
  | 0, _, _ => exact Eq.trans (show mNot F 0 p1 p2 N = fX12_notShelf F p1 N from mN0 p2) (show fX12_notShelf F p1 N = mNot F 0 p1 p3 N from (mN0 p3).symm)
  | 1, _, h => exact absurd (Or.inl rfl) h
  | 2, _, h => exact absurd (Or.inr (Or.inl rfl)) h
  | 3, _, _ => exact Eq.trans (show mNot F 3 p1 p2 N = fX12_notBlind F p1 1 N from mN3 p2) (show fX12_notBlind F p1 1 N = mNot F 3 p1 p3 N from (mN3 p3).symm)
  | 4, _, _ => exact Eq.trans (show mNot F 4 p1 p2 N = fX12_notBlind F p1 0 N from mN4 p2) (show fX12_notBlind F p1 0 N = mNot F 4 p1 p3 N from (mN4 p3).symm)
  | 5, _, h => exact absurd (Or.inr (Or.inr rfl)) h
  | 6, _, _ => exact Eq.trans (show mNot F 6 p1 p2 N = fX12_notStop F p1 N from mN6 p2) (show fX12_notStop F p1 N = mNot F 6 p1 p3 N from (mN6 p3).symm)
  | 7, _, _ => exact Eq.trans (show mNot F 7 p1 p2 N = fX12_notDrop F p1 N from mN7 p2) (show fX12_notDrop F p1 N = mNot F 7 p1 p3 N from (mN7 p3).symm)
  | 8, _, _ => exact Eq.trans (show mNot F 8 p1 p2 N = fX12_notRate F p1 N from mN8 p2) (show fX12_notRate F p1 N = mNot F 8 p1 p3 N from (mN8 p3).symm)
  | 9, _, _ => exact Eq.trans (show mNot F 9 p1 p2 N = fX12_notSeed F p1 N from mN9 p2) (show fX12_notSeed F p1 N = mNot F 9 p1 p3 N from (mN9 p3).symm)
  | 10, _, _ => exact Eq.trans (show mNot F 10 p1 p2 N = fX12_notPass F p1 N from mN10 p2) (show fX12_notPass F p1 N = mNot F 10 p1 p3 N from (mN10 p3).symm)
theorem scan_some {m p : Nat} {l : List (Nat × Int32 × Int32)} (h : (scan t L m p).1 = some l) : ∃ m', m = m' + 1 ∧ (tree t L p).2.1 = true ∧ ((∃ l', l = ((tree t L p).1, (tree t L p).2.2.2.1, (tree t L p).2.2.2.2) :: l' ∧ ch t L (tree t L p).2.2.1 = 59 ∧ (scan t L m' ((tree t L p).2.2.1 + 1)).1 = some l') ∨ (l = [((tree t L p).1, (tree t L p).2.2.2.1, (tree t L p).2.2.2.2)] ∧ ¬ (tree t L p).2.2.1 < L ∧ ch t L (tree t L p).2.2.1 ≠ 59)) := by
  cases m with
  | zero => exact absurd h (by simp [scan])
  | succ m =>
    unfold scan at h
    refine ⟨m, rfl, ?_⟩
    by_cases w : (tree t L p).2.1 = true
    · rw [if_pos w] at h
      refine ⟨w, ?_⟩
      by_cases w2 : (tree t L p).2.2.1 < L
      · rw [if_pos w2] at h
        by_cases w3 : ch t L (tree t L p).2.2.1 = 59
        · rw [if_pos w3] at h
          cases y : (scan t L m ((tree t L p).2.2.1 + 1)).1 with
          | none => rw [y] at h; exact absurd h (by simp)
          | some l' =>
            rw [y] at h
            exact Or.inl ⟨l', (Option.some.inj h).symm, w3, rfl⟩
        · rw [if_neg w3] at h
          exact absurd h (by simp)
      · rw [if_neg w2] at h
        refine Or.inr ⟨(Option.some.inj h).symm, w2, fun z => w2 (ch_lt z (by decide))⟩
    · rw [if_neg w] at h
      exact absurd h (by simp)
theorem scan_ne {m p : Nat} {l : List (Nat × Int32 × Int32)} (h : (scan t L m p).1 = some l) : 1 ≤ l.length := by
  obtain ⟨m', _, _, ⟨l', e, _⟩ | ⟨e, _⟩⟩ := scan_some h
  · rw [e, List.length_cons]; omega
  · rw [e]; simp
end
