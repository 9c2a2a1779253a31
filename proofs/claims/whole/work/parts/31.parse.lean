section
variable {F : Nat} {M : Mem} {t : Nat → Int32} {L : Nat}
def ch (t : Nat → Int32) (L p : Nat) : Int32 := if p < L then t p else 0
def isDg (c : Int32) : Bool := decide (¬ c < 48 ∧ ¬ 57 < c)
def nDig (t : Nat → Int32) (L : Nat) : Nat → Nat → Int32 → Nat → Int32 × Nat × Nat
  | 0, p, v, d => (v, d, p)
  | m + 1, p, v, d => if isDg (ch t L p) = true then nDig t L m (p + 1) (v * 10 + (ch t L p - 48)) (d + 1) else (v, d, p)
def dg (s : Int32) : Nat := if s = 68 then 1 else if s = 78 then 2 else if s = 76 then 4 else 0
def pm (t : Nat → Int32) (L : Nat) : List Int32 → Nat → Int32 → Int32 → Bool × Nat × Int32 × Int32
  | [], p, a, b => (true, p, a, b)
  | s :: r, p, a, b => if dg s = 0 then (if ch t L p = s then pm t L r (p + 1) a b else (false, p, a, b)) else (if (nDig t L (dg s) p 0 0).2.1 = 0 then (false, p, a, b) else pm t L r (nDig t L (dg s) p 0 0).2.2 (if a = -1 then (nDig t L (dg s) p 0 0).1 else a) (if a = -1 then b else (nDig t L (dg s) p 0 0).1))
theorem isDg_lt {p : Nat} (h : isDg (ch t L p) = true) : p < L := by
  apply Classical.byContradiction
  intro q
  unfold ch at h
  rw [if_neg q] at h
  exact absurd h (by decide)
theorem ch_lt {p : Nat} {s : Int32} (h : ch t L p = s) (hs : s ≠ 0) : p < L := by
  apply Classical.byContradiction
  intro q
  unfold ch at h
  rw [if_neg q] at h
  exact hs h.symm
theorem nDig_p (m : Nat) : ∀ p v d, d ≤ (nDig t L m p v d).2.1 ∧ (nDig t L m p v d).2.2 = p + ((nDig t L m p v d).2.1 - d) ∧ (p ≤ L → (nDig t L m p v d).2.2 ≤ L) ∧ (nDig t L m p v d).2.1 ≤ d + m := by
  induction m with
  | zero => intro p v d; exact ⟨Nat.le_refl _, by show p = p + (d - d); omega, fun h => h, Nat.le_refl _⟩
  | succ m ih =>
    intro p v d
    unfold nDig
    by_cases q : isDg (ch t L p) = true
    · rw [if_pos q]
      obtain ⟨h1, h2, h3, h4⟩ := ih (p + 1) (v * 10 + (ch t L p - 48)) (d + 1)
      have := isDg_lt q
      exact ⟨by omega, by omega, fun _ => h3 (by omega), by omega⟩
    · rw [if_neg q]
      exact ⟨Nat.le_refl _, by show p = p + (d - d); omega, fun h => h, by show d ≤ d + (m + 1); omega⟩
theorem dig_val {c : Int32} (h : isDg c = true) : ∃ j, j < 10 ∧ c - 48 = nI j := by
  have h2 := of_decide_eq_true h
  have h0 : ¬ c < 0 := fun z => h2.1 (Int32.lt_trans z (by decide))
  obtain ⟨k, hk, rfl⟩ := nI_of h0
  have a1 : 48 ≤ k := Classical.byContradiction fun z => h2.1 (ltR (n := 48) hk (by decide) (by omega))
  have a2 : k ≤ 57 := Classical.byContradiction fun z => h2.2 (ltL (n := 57) hk (by decide) (by omega))
  exact ⟨k - 48, by omega, nI_sub (b := 48) a1⟩
theorem nDig_v (m : Nat) : ∀ p w d k, w < 10 ^ k → ∃ w', (nDig t L m p (nI w) d).1 = nI w' ∧ w' < 10 ^ (k + m) := by
  induction m with
  | zero => intro p w d k h; exact ⟨w, rfl, h⟩
  | succ m ih =>
    intro p w d k h
    unfold nDig
    by_cases q : isDg (ch t L p) = true
    · rw [if_pos q]
      obtain ⟨j, hj, e⟩ := dig_val q
      rw [e, lit 10, nI_mul, nI_add]
      obtain ⟨w', h1, h2⟩ := ih (p + 1) (w * 10 + j) (d + 1) (k + 1) (by rw [Nat.pow_succ]; omega)
      exact ⟨w', h1, by rw [show k + (m + 1) = k + 1 + m by omega]; exact h2⟩
    · rw [if_neg q]
      exact ⟨w, rfl, Nat.lt_of_lt_of_le h (Nat.pow_le_pow_right (by decide) (by omega))⟩
theorem dg_le (s : Int32) : dg s ≤ 4 := by
  unfold dg
  split
  · decide
  · split
    · decide
    · split <;> decide
theorem nDig_n (s : Int32) (p : Nat) : ∃ w', (nDig t L (dg s) p 0 0).1 = nI w' ∧ w' < 10000 := by
  obtain ⟨w', h1, h2⟩ := nDig_v (t := t) (L := L) (dg s) p 0 0 0 (by decide)
  refine ⟨w', h1, Nat.lt_of_lt_of_le h2 ?_⟩
  have := dg_le s
  exact Nat.le_trans (Nat.pow_le_pow_right (by decide) (show 0 + dg s ≤ 4 by omega)) (by decide)
theorem pm_ge (l : List Int32) : ∀ p a b, p ≤ (pm t L l p a b).2.1 := by
  induction l with
  | nil => intro p a b; exact Nat.le_refl _
  | cons s r ih =>
    intro p a b
    unfold pm
    split
    · split
      · have := ih (p + 1) a b; omega
      · exact Nat.le_refl _
    · split
      · exact Nat.le_refl _
      · have h1 := nDig_p (t := t) (L := L) (dg s) p 0 0
        have h2 := ih (nDig t L (dg s) p 0 0).2.2 (if a = -1 then (nDig t L (dg s) p 0 0).1 else a) (if a = -1 then b else (nDig t L (dg s) p 0 0).1)
        omega
theorem pm_le (l : List Int32) (h0 : ∀ s, s ∈ l → s ≠ 0) : ∀ p a b, p ≤ L → (pm t L l p a b).2.1 ≤ L := by
  induction l with
  | nil => intro p a b h; exact h
  | cons s r ih =>
    intro p a b h
    have ih2 := ih (fun s hs => h0 s (List.mem_cons_of_mem _ hs))
    unfold pm
    split
    · split
      · rename_i q
        have := ch_lt q (h0 s (List.mem_cons_self ..))
        exact ih2 (p + 1) a b (by omega)
      · exact h
    · split
      · exact h
      · exact ih2 _ _ _ ((nDig_p (t := t) (L := L) (dg s) p 0 0).2.2.1 h)
theorem pm_cons (s : Int32) (r : List Int32) (p : Nat) (a b : Int32) : pm t L (s :: r) p a b = if dg s = 0 then (if ch t L p = s then pm t L r (p + 1) a b else (false, p, a, b)) else (if (nDig t L (dg s) p 0 0).2.1 = 0 then (false, p, a, b) else pm t L r (nDig t L (dg s) p 0 0).2.2 (if a = -1 then (nDig t L (dg s) p 0 0).1 else a) (if a = -1 then b else (nDig t L (dg s) p 0 0).1)) := rfl
theorem pm_append (l r : List Int32) : ∀ p a b, pm t L (l ++ r) p a b = if (pm t L l p a b).1 = true then pm t L r (pm t L l p a b).2.1 (pm t L l p a b).2.2.1 (pm t L l p a b).2.2.2 else (pm t L l p a b) := by
  induction l with
  | nil => intro p a b; rfl
  | cons s l ih =>
    intro p a b
    have nf : ¬ (false = true) := by decide
    rw [List.cons_append, pm_cons s (l ++ r), pm_cons s l]
    by_cases q : dg s = 0
    · rw [if_pos q, if_pos q]
      by_cases q2 : ch t L p = s
      · rw [if_pos q2, if_pos q2]; exact ih _ _ _
      · rw [if_neg q2, if_neg q2, if_neg nf]
    · rw [if_neg q, if_neg q]
      by_cases q2 : (nDig t L (dg s) p 0 0).2.1 = 0
      · rw [if_pos q2, if_pos q2, if_neg nf]
      · rw [if_neg q2, if_neg q2]; exact ih _ _ _
def CS (M : Mem) (t : Nat → Int32) (L p : Nat) : Prop := M 115 1 = nI L ∧ M 115 2 = nI p ∧ (∀ k, k < L → M 116 k = t k) ∧ L ≤ 60 ∧ (∀ k, k < L → nrc (t k) = true) ∧ p ≤ L
def PF (M M' : Mem) : Prop := (∀ c, c ≠ 115 → M' c = M c) ∧ M' 115 1 = M 115 1 ∧ M' 115 3 = M 115 3
theorem PF.rf : PF M M := ⟨fun _ _ => rfl, rfl, rfl⟩
theorem PF.tr {M M' M'' : Mem} (h : PF M M') (g : PF M' M'') : PF M M'' := ⟨fun c q => (g.1 c q).trans (h.1 c q), g.2.1.trans h.2.1, g.2.2.trans h.2.2⟩
theorem PF.up {i : Nat} {v : Int32} (h1 : i ≠ 1) (h3 : i ≠ 3) : PF M (up2 M 115 i v) := ⟨fun c q => u2_ne _ q, by rw [u2_same, if_neg (Ne.symm h1)], by rw [u2_same, if_neg (Ne.symm h3)]⟩
theorem CS.pos {p q : Nat} (h : CS M t L p) (hq : q ≤ L) : CS (up2 M 115 2 (nI q)) t L q := ⟨by rw [u2_same, if_neg (by decide)]; exact h.1, by rw [u2_same, if_pos rfl], fun k hk => by rw [u2_ne _ (by decide)]; exact h.2.2.1 k hk, h.2.2.2.1, h.2.2.2.2.1, hq⟩
theorem CS.oth {p i : Nat} {v : Int32} (h : CS M t L p) (h1 : i ≠ 1) (h2 : i ≠ 2) : CS (up2 M 115 i v) t L p := ⟨by rw [u2_same, if_neg (Ne.symm h1)]; exact h.1, by rw [u2_same, if_neg (Ne.symm h2)]; exact h.2.1, fun k hk => by rw [u2_ne _ (by decide)]; exact h.2.2.1 k hk, h.2.2.2.1, h.2.2.2.2.1, h.2.2.2.2.2⟩
theorem cSign {p : Nat} (h : CS M t L p) : fX8_presentSign F 115 M = some (ch t L p, M) := by
  obtain ⟨h1, h2, h3, h4, h5, h6⟩ := h
  unfold fX8_presentSign ch
  rw [h2, if_neg (nI_pos (by omega)), h1]
  have n0 : nrc 0 = true := by decide
  by_cases q : p < L
  · rw [if_neg (nle2 (by omega) (by omega) q), if_neg (nleL (n := 60) (by omega) (by decide) (by omega)), inbN (by omega), ckd _ (by omega), nI_cl (by omega), h3 p q, ckb _ (h5 p q), if_pos q]
  · rw [if_pos (le2 (by omega) (by omega) (by omega)), ckb _ n0, if_neg q]
theorem cIsDig (c : Int32) : fX8_isDigit F 115 c M = some (isDg c, M) := by
  unfold fX8_isDigit isDg
  by_cases h1 : c < 48
  · rw [if_pos h1, decide_eq_false (fun z => z.1 h1)]
  · rw [if_neg h1]
    by_cases h2 : 57 < c
    · rw [if_pos h2, decide_eq_false (fun z => z.2 h2)]
    · rw [if_neg h2, decide_eq_true ⟨h1, h2⟩]
theorem cNumLoop (kx : Int32 → Int32 → Mem → Option (Bool × Mem)) (q : Nat) (hq : q ≤ 4) (m : Nat) : ∀ d, d + m = q → ∀ n', m < n' → ∀ p v (M : Mem), CS M t L p → ∃ M', fX8_readNumber_4 F 115 (nI q) kx n' v (nI d) M = kx (nDig t L m p v d).1 (nI (nDig t L m p v d).2.1) M' ∧ CS M' t L (nDig t L m p v d).2.2 ∧ PF M M' ∧ (∀ i, i ≠ 2 → M' 115 i = M 115 i) := by
  induction m with
  | zero =>
    intro d hd n' hn p v M h
    obtain ⟨n', rfl⟩ : ∃ n'', n' = n'' + 1 := ⟨n' - 1, by omega⟩
    rw [fX8_readNumber_4, if_pos (le2 (by omega) (by omega) (by omega))]
    exact ⟨M, rfl, h, PF.rf, fun _ _ => rfl⟩
  | succ m ih =>
    intro d hd n' hn p v M h
    obtain ⟨n', rfl⟩ : ∃ n'', n' = n'' + 1 := ⟨n' - 1, by omega⟩
    rw [fX8_readNumber_4, if_neg (nle2 (by omega) (by omega) (by omega)), cSign h]
    simp only [bM]
    rw [cIsDig]
    simp only [bM]
    unfold nDig
    by_cases w : isDg (ch t L p) = true
    · have hp := isDg_lt w
      rw [if_pos w, if_pos w, cSign h]
      simp only [bM, lM]
      rw [h.2.1, nI_1, nI_1]
      obtain ⟨M', i1, i2, i3, i4⟩ := ih (d + 1) (by omega) n' (by omega) (p + 1) (v * 10 + (ch t L p - 48)) _ (h.pos (show p + 1 ≤ L by omega))
      refine ⟨M', i1, i2, (PF.up (by decide) (by decide)).tr i3, fun i q => by rw [i4 i q, u2_same, if_neg q]⟩
    · rw [if_neg w, if_neg w]
      exact ⟨M, rfl, h, PF.rf, fun _ _ => rfl⟩
theorem cNumber (hF : 30 ≤ F) (s : Int32) {p : Nat} (h : CS M t L p) : ∃ M', fX8_readNumber F 115 (nI (dg s)) M = some (!decide ((nDig t L (dg s) p 0 0).2.1 = 0), M') ∧ CS M' t L (nDig t L (dg s) p 0 0).2.2 ∧ PF M M' ∧ M' 115 5 = (if M 115 5 = -1 then (nDig t L (dg s) p 0 0).1 else M 115 5) ∧ M' 115 6 = (if M 115 5 = -1 then M 115 6 else (nDig t L (dg s) p 0 0).1) := by
  have hd := dg_le s
  unfold fX8_readNumber
  obtain ⟨M1, i1, i2, i3, i4⟩ := cNumLoop (F := F) (fun w19 w20 M18 => if (M18 115 5) = (-1) then letM (up2 M18 115 5 w19) (fun M25 => if w20 ≤ 0 then some (false, M25) else some (true, M25)) else letM (up2 M18 115 6 w19) (fun M22 => if w20 ≤ 0 then some (false, M22) else some (true, M22))) (dg s) hd (dg s) 0 (by omega) F (by omega) p 0 M h
  have hz := (nDig_p (t := t) (L := L) (dg s) p 0 0).2.2.2
  have z0 : nI 0 = (0 : Int32) := rfl
  rw [z0] at i1
  rw [i1]
  simp only [lM]
  rw [i4 5 (by decide)]
  by_cases w : M 115 5 = -1
  · rw [if_pos w, if_pos w, if_pos w]
    by_cases w2 : (nDig t L (dg s) p 0 0).2.1 = 0
    · rw [if_pos (show nI (nDig t L (dg s) p 0 0).2.1 ≤ 0 by rw [w2]; decide)]
      exact ⟨_, by rw [decide_eq_true w2]; rfl, i2.oth (by decide) (by decide), i3.tr (PF.up (by decide) (by decide)), by rw [u2_same, if_pos rfl], by rw [u2_same, if_neg (by decide), i4 6 (by decide)]⟩
    · rw [if_neg (show ¬ nI (nDig t L (dg s) p 0 0).2.1 ≤ 0 from nle0 (by omega) w2)]
      exact ⟨_, by rw [decide_eq_false w2]; rfl, i2.oth (by decide) (by decide), i3.tr (PF.up (by decide) (by decide)), by rw [u2_same, if_pos rfl], by rw [u2_same, if_neg (by decide), i4 6 (by decide)]⟩
  · rw [if_neg w, if_neg w, if_neg w]
    by_cases w2 : (nDig t L (dg s) p 0 0).2.1 = 0
    · rw [if_pos (show nI (nDig t L (dg s) p 0 0).2.1 ≤ 0 by rw [w2]; decide)]
      exact ⟨_, by rw [decide_eq_true w2]; rfl, i2.oth (by decide) (by decide), i3.tr (PF.up (by decide) (by decide)), by rw [u2_same, if_neg (by decide), i4 5 (by decide)], by rw [u2_same, if_pos rfl]⟩
    · rw [if_neg (show ¬ nI (nDig t L (dg s) p 0 0).2.1 ≤ 0 from nle0 (by omega) w2)]
      exact ⟨_, by rw [decide_eq_false w2]; rfl, i2.oth (by decide) (by decide), i3.tr (PF.up (by decide) (by decide)), by rw [u2_same, if_neg (by decide), i4 5 (by decide)], by rw [u2_same, if_pos rfl]⟩
theorem cRdSign {p : Nat} (h : CS M t L p) {s : Int32} (hs : s ≠ 0) : ∃ M', fX8_readSign F 115 s M = some (decide (ch t L p = s), M') ∧ CS M' t L (if ch t L p = s then p + 1 else p) ∧ PF M M' ∧ (∀ i, i ≠ 2 → M' 115 i = M 115 i) := by
  unfold fX8_readSign
  rw [cSign h]
  simp only [bM, lM]
  by_cases w : ch t L p = s
  · have := ch_lt w hs
    rw [if_pos w, if_pos w, decide_eq_true w, h.2.1, nI_1]
    exact ⟨_, rfl, h.pos (by omega), PF.up (by decide) (by decide), fun i q => by rw [u2_same, if_neg q]⟩
  · rw [if_neg w, if_neg w, decide_eq_false w]
    exact ⟨M, rfl, h, PF.rf, fun _ _ => rfl⟩
theorem cMost (s : Int32) : fX8_mostDigits F 115 s M = some (nI (dg s), M) := by
  unfold fX8_mostDigits dg
  by_cases h1 : s = 68
  · rw [if_pos h1, if_pos h1]; rfl
  · rw [if_neg h1, if_neg h1]
    by_cases h2 : s = 78
    · rw [if_pos h2, if_pos h2]; rfl
    · rw [if_neg h2, if_neg h2]
      by_cases h3 : s = 76
      · rw [if_pos h3, if_pos h3]; rfl
      · rw [if_neg h3, if_neg h3]; rfl
def PA (q : Nat) : List Int32 := pByt.getD q []
theorem PA_len : ∀ q, q < 11 → plenN q = (PA q).length ∧ (PA q).length ≤ 8 := by decide
theorem PA_nz : ∀ q, q < 11 → ∀ s, s ∈ PA q → s ≠ 0 := by decide
theorem cPat12 (hF : 30 ≤ F) {q : Nat} (hq : q < 11) (kx : Mem → Option (Bool × Mem)) (l : List Int32) : ∀ v, (PA q).drop v = l → v + l.length = (PA q).length → ∀ n', l.length < n' → ∀ p a b (M : Mem), CS M t L p → M 115 5 = a → M 115 6 = b → ∃ M', PF M M' ∧ CS M' t L (pm t L l p a b).2.1 ∧ (if (pm t L l p a b).1 = true then fX8_readPattern_12 F 115 q kx n' (nI v) M = kx M' ∧ M' 115 5 = (pm t L l p a b).2.2.1 ∧ M' 115 6 = (pm t L l p a b).2.2.2 else fX8_readPattern_12 F 115 q kx n' (nI v) M = some (false, M')) := by
  have hl := PA_len q hq
  have hnz := PA_nz q hq
  have epl : plen q = nI (PA q).length := by unfold plen; rw [hl.1]
  induction l with
  | nil =>
    intro v hd hv n' hn p a b M h h5 h6
    obtain ⟨n', rfl⟩ : ∃ n'', n' = n'' + 1 := ⟨n' - 1, by omega⟩
    refine ⟨M, PF.rf, h, ?_⟩
    have hv' : v + 0 = (PA q).length := hv
    rw [if_pos (show (pm t L [] p a b).1 = true from rfl), fX8_readPattern_12, epl, if_pos (le2 (by omega) (by omega) (by omega))]
    exact ⟨rfl, h5, h6⟩
  | cons s r ih =>
    intro v hd hv n' hn p a b M h h5 h6
    rw [List.length_cons] at hv hn
    obtain ⟨n', rfl⟩ : ∃ n'', n' = n'' + 1 := ⟨n' - 1, by omega⟩
    have hs : (PA q).getD v 0 = s := by
      have e : (PA q)[v]? = some s := by
        have : ((PA q).drop v)[0]? = some s := by rw [hd]; rfl
        rw [List.getElem?_drop] at this
        exact this
      simp [List.getD, e]
    have hd' : (PA q).drop (v + 1) = r := by
      rw [← List.drop_drop, hd]; rfl
    have hs0 : s ≠ 0 := hnz s (by
      have : s ∈ (PA q).drop v := by rw [hd]; exact List.mem_cons_self ..
      exact List.mem_of_mem_drop this)
    rw [fX8_readPattern_12, epl, if_neg (nle2 (by omega) (by omega) (by omega)), inbN (by omega), ckd _ (by omega)]
    have epc : pch q (nI v) = s := by
      unfold pch
      rw [nI_cl (by omega)]
      exact hs
    rw [epc]
    simp only [lM]
    rw [cMost]
    simp only [bM]
    have hdg := dg_le s
    unfold pm
    by_cases w : dg s = 0
    · rw [if_pos (eqL (n := 0) w), if_pos w]
      obtain ⟨M1, i1, i2, i3, i4⟩ := cRdSign (F := F) h hs0
      rw [i1]
      simp only [bM]
      by_cases w2 : ch t L p = s
      · rw [if_pos w2] at i2 ⊢
        rw [if_pos (decide_eq_true w2), nI_1]
        obtain ⟨M2, j1, j2, j3⟩ := ih (v + 1) hd' (by omega) n' (by omega) (p + 1) a b M1 i2 (by rw [i4 5 (by decide)]; exact h5) (by rw [i4 6 (by decide)]; exact h6)
        exact ⟨M2, i3.tr j1, j2, j3⟩
      · rw [if_neg w2] at i2 ⊢
        rw [if_neg (show ¬ decide (ch t L p = s) = true by simp [w2])]
        exact ⟨M1, i3, i2, by simp⟩
    · rw [if_neg (neL (n := 0) (by omega) (by decide) w), if_neg w]
      obtain ⟨M1, i1, i2, i3, i4, i5⟩ := cNumber (F := F) hF s h
      rw [i1]
      simp only [bM]
      by_cases w2 : (nDig t L (dg s) p 0 0).2.1 = 0
      · rw [if_pos w2, if_neg (show ¬ (!decide ((nDig t L (dg s) p 0 0).2.1 = 0)) = true by simp [w2])]
        have e2 := (nDig_p (t := t) (L := L) (dg s) p 0 0).2.1
        rw [w2] at e2
        refine ⟨M1, i3, ?_, by simp⟩
        have e3 : (nDig t L (dg s) p 0 0).2.2 = p := e2
        rw [e3] at i2
        exact i2
      · rw [if_neg w2, if_pos (show (!decide ((nDig t L (dg s) p 0 0).2.1 = 0)) = true by simp [w2]), nI_1]
        rw [h5, h6] at i5
        rw [h5] at i4
        obtain ⟨M2, j1, j2, j3⟩ := ih (v + 1) hd' (by omega) n' (by omega) _ (if a = -1 then (nDig t L (dg s) p 0 0).1 else a) (if a = -1 then b else (nDig t L (dg s) p 0 0).1) M1 i2 i4 i5
        exact ⟨M2, i3.tr j1, j2, j3⟩
theorem cPattern (hF : 30 ≤ F) {q : Nat} (hq : q < 11) {p : Nat} (h : CS M t L p) : ∃ M', fX8_readPattern F 115 q M = some ((pm t L (PA q) p (-1) (-1)).1, M') ∧ PF M M' ∧ CS M' t L (pm t L (PA q) p (-1) (-1)).2.1 ∧ ((pm t L (PA q) p (-1) (-1)).1 = true → M' 115 5 = (pm t L (PA q) p (-1) (-1)).2.2.1 ∧ M' 115 6 = (pm t L (PA q) p (-1) (-1)).2.2.2) := by
  have hl := PA_len q hq
  unfold fX8_readPattern
  simp only [lM]
  obtain ⟨M1, i1, i2, i3⟩ := cPat12 (F := F) hF hq (fun M25 => some (true, M25)) (PA q) 0 rfl (by omega) F (by omega) p (-1) (-1) (up2 (up2 M 115 5 (-1)) 115 6 (-1)) ((h.oth (by decide) (by decide)).oth (by decide) (by decide)) (by rw [u2_same, if_neg (by decide), u2_same, if_pos rfl]) (by rw [u2_same, if_pos rfl])
  have f : PF M M1 := ((PF.up (by decide) (by decide)).tr (PF.up (by decide) (by decide))).tr i1
  cases w : (pm t L (PA q) p (-1) (-1)).1 with
  | true =>
    rw [if_pos w] at i3
    exact ⟨M1, i3.1, f, i2, fun _ => i3.2⟩
  | false =>
    rw [if_neg (by rw [w]; decide)] at i3
    exact ⟨M1, i3, f, i2, fun z => absurd z (by decide)⟩
end
section
variable {F : Nat} {M : Mem} {t : Nat → Int32} {L : Nat}
def rpS (t : Nat → Int32) (L p : Nat) : Nat → Nat → Nat → Bool × Nat × Nat × Int32 × Int32
  | 0, _, mx => (false, mx, 0, 0, 0)
  | m + 1, v, mx => if (pm t L (PA v) p (-1) (-1)).1 = true then (true, (pm t L (PA v) p (-1) (-1)).2.1, v, (pm t L (PA v) p (-1) (-1)).2.2.1, (pm t L (PA v) p (-1) (-1)).2.2.2) else rpS t L p m (v + 1) (max mx (pm t L (PA v) p (-1) (-1)).2.1)
def leaf (op : Nat) (z : Bool × Nat × Int32 × Int32) : Bool × Nat × Nat × Int32 × Int32 := if z.1 = true then (true, z.2.1, op, z.2.2.1, z.2.2.2) else (false, z.2.1, 0, 0, 0)
def tree (t : Nat → Int32) (L p : Nat) : Nat × (Bool × Nat × Int32 × Int32) :=
  if ch t L p = 115 then (if ch t L (p + 1) = 104 then (if ch t L (p + 2) = 101 then (0, pm t L [108, 102, 32, 78] (p + 3) (-1) (-1)) else (4, pm t L [111, 119, 32, 78] (p + 2) (-1) (-1))) else if ch t L (p + 1) = 116 then (6, pm t L [111, 112, 32, 78] (p + 2) (-1) (-1)) else (9, pm t L [101, 101, 100, 32, 76] (p + 1) (-1) (-1)))
  else if ch t L p = 108 then (1, pm t L [105, 110, 107, 32, 78, 45, 78] (p + 1) (-1) (-1))
  else if ch t L p = 99 then (2, pm t L [117, 116, 32, 78, 45, 78] (p + 1) (-1) (-1))
  else if ch t L p = 104 then (3, pm t L [105, 100, 101, 32, 78] (p + 1) (-1) (-1))
  else if ch t L p = 102 then (5, pm t L [105, 108, 108, 32, 78, 32, 78] (p + 1) (-1) (-1))
  else if ch t L p = 100 then (7, pm t L [114, 111, 112, 32, 68] (p + 1) (-1) (-1))
  else if ch t L p = 114 then (8, pm t L [97, 116, 101, 32, 78] (p + 1) (-1) (-1))
  else if ch t L p = 119 then (10, pm t L [97, 105, 116, 32, 78] (p + 1) (-1) (-1))
  else (10, (false, p, -1, -1))
theorem rp_rest {v0 p q : Nat} (hq : ∀ v, v < 11 → v ≠ v0 → (pm t L (PA v) p (-1) (-1)).1 = false ∧ (pm t L (PA v) p (-1) (-1)).2.1 ≤ q) (m : Nat) : ∀ v mx, v + m = 11 → v0 < v → q ≤ mx → rpS t L p m v mx = (false, mx, 0, 0, 0) := by
  induction m with
  | zero => intro v mx _ _ _; rfl
  | succ m ih =>
    intro v mx hv h0 hm
    have z := hq v (by omega) (by omega)
    unfold rpS
    rw [z.1, if_neg (by decide), show max mx (pm t L (PA v) p (-1) (-1)).2.1 = mx by omega]
    exact ih (v + 1) mx (by omega) (by omega) hm
theorem rp_one {v0 p q : Nat} {z : Bool × Nat × Int32 × Int32} (h0 : v0 < 11) (hz : pm t L (PA v0) p (-1) (-1) = z) (hq2 : q ≤ z.2.1) (hq : ∀ v, v < 11 → v ≠ v0 → (pm t L (PA v) p (-1) (-1)).1 = false ∧ (pm t L (PA v) p (-1) (-1)).2.1 ≤ q) (m : Nat) : ∀ v mx, v + m = 11 → v ≤ v0 → mx ≤ q → rpS t L p m v mx = leaf v0 z := by
  induction m with
  | zero => intro v mx hv hv0 _; omega
  | succ m ih =>
    intro v mx hv hv0 hm
    unfold rpS
    by_cases w : v = v0
    · subst w
      rw [hz]
      unfold leaf
      by_cases w2 : z.1 = true
      · rw [if_pos w2, if_pos w2]
      · rw [if_neg w2, if_neg w2, show max mx z.2.1 = z.2.1 by omega]
        exact rp_rest hq m (v + 1) z.2.1 (by omega) (by omega) hq2
    · have y := hq v (by omega) w
      rw [y.1, if_neg (by decide)]
      exact ih (v + 1) _ (by omega) (by omega) (by omega)
theorem pm_on {s : Int32} {r : List Int32} {p : Nat} {a b : Int32} (hd : dg s = 0) (h : ch t L p = s) : pm t L (s :: r) p a b = pm t L r (p + 1) a b := by rw [pm_cons, if_pos hd, if_pos h]
theorem pm_off {s : Int32} {r : List Int32} {p : Nat} {a b : Int32} (hd : dg s = 0) (h : ¬ ch t L p = s) : pm t L (s :: r) p a b = (false, p, a, b) := by rw [pm_cons, if_pos hd, if_neg h]
theorem rp_tree (p : Nat) : rpS t L p 11 0 p = leaf (tree t L p).1 (tree t L p).2 := by
  unfold tree
  by_cases h115 : ch t L p = 115
  · rw [if_pos h115]
    by_cases k1 : ch t L (p + 1) = 104
    · rw [if_pos k1]
      by_cases k2 : ch t L (p + 2) = 101
      · rw [if_pos k2]
        show rpS t L p 11 0 p = leaf 0 _
        refine rp_one (q := p + 2) (by decide) (by rw [show PA 0 = [115, 104, 101, 108, 102, 32, 78] from rfl, pm_on (by decide) h115, pm_on (by decide) k1, pm_on (by decide) k2]) (Nat.le_trans (by omega) (pm_ge _ _ _ _)) (fun v hv hne => ?_) 11 0 p rfl (by omega) (by omega)
        match v, hv, hne with
        | 0, _, hne => exact absurd rfl hne
        | 1, _, _ => rw [show PA 1 = [108, 105, 110, 107, 32, 78, 45, 78] from rfl, pm_off (by decide) (show ¬ _ = (108 : Int32) by rw [h115]; decide)]; exact ⟨rfl, show p + 0 ≤ p + 2 by omega⟩
        | 2, _, _ => rw [show PA 2 = [99, 117, 116, 32, 78, 45, 78] from rfl, pm_off (by decide) (show ¬ _ = (99 : Int32) by rw [h115]; decide)]; exact ⟨rfl, show p + 0 ≤ p + 2 by omega⟩
        | 3, _, _ => rw [show PA 3 = [104, 105, 100, 101, 32, 78] from rfl, pm_off (by decide) (show ¬ _ = (104 : Int32) by rw [h115]; decide)]; exact ⟨rfl, show p + 0 ≤ p + 2 by omega⟩
        | 4, _, _ => rw [show PA 4 = [115, 104, 111, 119, 32, 78] from rfl, pm_on (by decide) h115, pm_on (by decide) k1, pm_off (by decide) (show ¬ _ = (111 : Int32) by rw [k2]; decide)]; exact ⟨rfl, show p + 2 ≤ p + 2 by omega⟩
        | 5, _, _ => rw [show PA 5 = [102, 105, 108, 108, 32, 78, 32, 78] from rfl, pm_off (by decide) (show ¬ _ = (102 : Int32) by rw [h115]; decide)]; exact ⟨rfl, show p + 0 ≤ p + 2 by omega⟩
        | 6, _, _ => rw [show PA 6 = [115, 116, 111, 112, 32, 78] from rfl, pm_on (by decide) h115, pm_off (by decide) (show ¬ _ = (116 : Int32) by rw [k1]; decide)]; exact ⟨rfl, show p + 1 ≤ p + 2 by omega⟩
        | 7, _, _ => rw [show PA 7 = [100, 114, 111, 112, 32, 68] from rfl, pm_off (by decide) (show ¬ _ = (100 : Int32) by rw [h115]; decide)]; exact ⟨rfl, show p + 0 ≤ p + 2 by omega⟩
        | 8, _, _ => rw [show PA 8 = [114, 97, 116, 101, 32, 78] from rfl, pm_off (by decide) (show ¬ _ = (114 : Int32) by rw [h115]; decide)]; exact ⟨rfl, show p + 0 ≤ p + 2 by omega⟩
        | 9, _, _ => rw [show PA 9 = [115, 101, 101, 100, 32, 76] from rfl, pm_on (by decide) h115, pm_off (by decide) (show ¬ _ = (101 : Int32) by rw [k1]; decide)]; exact ⟨rfl, show p + 1 ≤ p + 2 by omega⟩
        | 10, _, _ => rw [show PA 10 = [119, 97, 105, 116, 32, 78] from rfl, pm_off (by decide) (show ¬ _ = (119 : Int32) by rw [h115]; decide)]; exact ⟨rfl, show p + 0 ≤ p + 2 by omega⟩
      · rw [if_neg k2]
        show rpS t L p 11 0 p = leaf 4 _
        refine rp_one (q := p + 2) (by decide) (by rw [show PA 4 = [115, 104, 111, 119, 32, 78] from rfl, pm_on (by decide) h115, pm_on (by decide) k1]) (Nat.le_trans (by omega) (pm_ge _ _ _ _)) (fun v hv hne => ?_) 11 0 p rfl (by omega) (by omega)
        match v, hv, hne with
        | 0, _, _ => rw [show PA 0 = [115, 104, 101, 108, 102, 32, 78] from rfl, pm_on (by decide) h115, pm_on (by decide) k1, pm_off (by decide) k2]; exact ⟨rfl, show p + 2 ≤ p + 2 by omega⟩
        | 1, _, _ => rw [show PA 1 = [108, 105, 110, 107, 32, 78, 45, 78] from rfl, pm_off (by decide) (show ¬ _ = (108 : Int32) by rw [h115]; decide)]; exact ⟨rfl, show p + 0 ≤ p + 2 by omega⟩
        | 2, _, _ => rw [show PA 2 = [99, 117, 116, 32, 78, 45, 78] from rfl, pm_off (by decide) (show ¬ _ = (99 : Int32) by rw [h115]; decide)]; exact ⟨rfl, show p + 0 ≤ p + 2 by omega⟩
        | 3, _, _ => rw [show PA 3 = [104, 105, 100, 101, 32, 78] from rfl, pm_off (by decide) (show ¬ _ = (104 : Int32) by rw [h115]; decide)]; exact ⟨rfl, show p + 0 ≤ p + 2 by omega⟩
        | 4, _, hne => exact absurd rfl hne
        | 5, _, _ => rw [show PA 5 = [102, 105, 108, 108, 32, 78, 32, 78] from rfl, pm_off (by decide) (show ¬ _ = (102 : Int32) by rw [h115]; decide)]; exact ⟨rfl, show p + 0 ≤ p + 2 by omega⟩
        | 6, _, _ => rw [show PA 6 = [115, 116, 111, 112, 32, 78] from rfl, pm_on (by decide) h115, pm_off (by decide) (show ¬ _ = (116 : Int32) by rw [k1]; decide)]; exact ⟨rfl, show p + 1 ≤ p + 2 by omega⟩
        | 7, _, _ => rw [show PA 7 = [100, 114, 111, 112, 32, 68] from rfl, pm_off (by decide) (show ¬ _ = (100 : Int32) by rw [h115]; decide)]; exact ⟨rfl, show p + 0 ≤ p + 2 by omega⟩
        | 8, _, _ => rw [show PA 8 = [114, 97, 116, 101, 32, 78] from rfl, pm_off (by decide) (show ¬ _ = (114 : Int32) by rw [h115]; decide)]; exact ⟨rfl, show p + 0 ≤ p + 2 by omega⟩
        | 9, _, _ => rw [show PA 9 = [115, 101, 101, 100, 32, 76] from rfl, pm_on (by decide) h115, pm_off (by decide) (show ¬ _ = (101 : Int32) by rw [k1]; decide)]; exact ⟨rfl, show p + 1 ≤ p + 2 by omega⟩
        | 10, _, _ => rw [show PA 10 = [119, 97, 105, 116, 32, 78] from rfl, pm_off (by decide) (show ¬ _ = (119 : Int32) by rw [h115]; decide)]; exact ⟨rfl, show p + 0 ≤ p + 2 by omega⟩
    · rw [if_neg k1]
      by_cases k3 : ch t L (p + 1) = 116
      · rw [if_pos k3]
        show rpS t L p 11 0 p = leaf 6 _
        refine rp_one (q := p + 1) (by decide) (by rw [show PA 6 = [115, 116, 111, 112, 32, 78] from rfl, pm_on (by decide) h115, pm_on (by decide) k3]) (Nat.le_trans (by omega) (pm_ge _ _ _ _)) (fun v hv hne => ?_) 11 0 p rfl (by omega) (by omega)
        match v, hv, hne with
        | 0, _, _ => rw [show PA 0 = [115, 104, 101, 108, 102, 32, 78] from rfl, pm_on (by decide) h115, pm_off (by decide) (show ¬ _ = (104 : Int32) by rw [k3]; decide)]; exact ⟨rfl, show p + 1 ≤ p + 1 by omega⟩
        | 1, _, _ => rw [show PA 1 = [108, 105, 110, 107, 32, 78, 45, 78] from rfl, pm_off (by decide) (show ¬ _ = (108 : Int32) by rw [h115]; decide)]; exact ⟨rfl, show p + 0 ≤ p + 1 by omega⟩
        | 2, _, _ => rw [show PA 2 = [99, 117, 116, 32, 78, 45, 78] from rfl, pm_off (by decide) (show ¬ _ = (99 : Int32) by rw [h115]; decide)]; exact ⟨rfl, show p + 0 ≤ p + 1 by omega⟩
        | 3, _, _ => rw [show PA 3 = [104, 105, 100, 101, 32, 78] from rfl, pm_off (by decide) (show ¬ _ = (104 : Int32) by rw [h115]; decide)]; exact ⟨rfl, show p + 0 ≤ p + 1 by omega⟩
        | 4, _, _ => rw [show PA 4 = [115, 104, 111, 119, 32, 78] from rfl, pm_on (by decide) h115, pm_off (by decide) (show ¬ _ = (104 : Int32) by rw [k3]; decide)]; exact ⟨rfl, show p + 1 ≤ p + 1 by omega⟩
        | 5, _, _ => rw [show PA 5 = [102, 105, 108, 108, 32, 78, 32, 78] from rfl, pm_off (by decide) (show ¬ _ = (102 : Int32) by rw [h115]; decide)]; exact ⟨rfl, show p + 0 ≤ p + 1 by omega⟩
        | 6, _, hne => exact absurd rfl hne
        | 7, _, _ => rw [show PA 7 = [100, 114, 111, 112, 32, 68] from rfl, pm_off (by decide) (show ¬ _ = (100 : Int32) by rw [h115]; decide)]; exact ⟨rfl, show p + 0 ≤ p + 1 by omega⟩
        | 8, _, _ => rw [show PA 8 = [114, 97, 116, 101, 32, 78] from rfl, pm_off (by decide) (show ¬ _ = (114 : Int32) by rw [h115]; decide)]; exact ⟨rfl, show p + 0 ≤ p + 1 by omega⟩
        | 9, _, _ => rw [show PA 9 = [115, 101, 101, 100, 32, 76] from rfl, pm_on (by decide) h115, pm_off (by decide) (show ¬ _ = (101 : Int32) by rw [k3]; decide)]; exact ⟨rfl, show p + 1 ≤ p + 1 by omega⟩
        | 10, _, _ => rw [show PA 10 = [119, 97, 105, 116, 32, 78] from rfl, pm_off (by decide) (show ¬ _ = (119 : Int32) by rw [h115]; decide)]; exact ⟨rfl, show p + 0 ≤ p + 1 by omega⟩
      · rw [if_neg k3]
        show rpS t L p 11 0 p = leaf 9 _
        refine rp_one (q := p + 1) (by decide) (by rw [show PA 9 = [115, 101, 101, 100, 32, 76] from rfl, pm_on (by decide) h115]) (Nat.le_trans (by omega) (pm_ge _ _ _ _)) (fun v hv hne => ?_) 11 0 p rfl (by omega) (by omega)
        match v, hv, hne with
        | 0, _, _ => rw [show PA 0 = [115, 104, 101, 108, 102, 32, 78] from rfl, pm_on (by decide) h115, pm_off (by decide) k1]; exact ⟨rfl, show p + 1 ≤ p + 1 by omega⟩
        | 1, _, _ => rw [show PA 1 = [108, 105, 110, 107, 32, 78, 45, 78] from rfl, pm_off (by decide) (show ¬ _ = (108 : Int32) by rw [h115]; decide)]; exact ⟨rfl, show p + 0 ≤ p + 1 by omega⟩
        | 2, _, _ => rw [show PA 2 = [99, 117, 116, 32, 78, 45, 78] from rfl, pm_off (by decide) (show ¬ _ = (99 : Int32) by rw [h115]; decide)]; exact ⟨rfl, show p + 0 ≤ p + 1 by omega⟩
        | 3, _, _ => rw [show PA 3 = [104, 105, 100, 101, 32, 78] from rfl, pm_off (by decide) (show ¬ _ = (104 : Int32) by rw [h115]; decide)]; exact ⟨rfl, show p + 0 ≤ p + 1 by omega⟩
        | 4, _, _ => rw [show PA 4 = [115, 104, 111, 119, 32, 78] from rfl, pm_on (by decide) h115, pm_off (by decide) k1]; exact ⟨rfl, show p + 1 ≤ p + 1 by omega⟩
        | 5, _, _ => rw [show PA 5 = [102, 105, 108, 108, 32, 78, 32, 78] from rfl, pm_off (by decide) (show ¬ _ = (102 : Int32) by rw [h115]; decide)]; exact ⟨rfl, show p + 0 ≤ p + 1 by omega⟩
        | 6, _, _ => rw [show PA 6 = [115, 116, 111, 112, 32, 78] from rfl, pm_on (by decide) h115, pm_off (by decide) k3]; exact ⟨rfl, show p + 1 ≤ p + 1 by omega⟩
        | 7, _, _ => rw [show PA 7 = [100, 114, 111, 112, 32, 68] from rfl, pm_off (by decide) (show ¬ _ = (100 : Int32) by rw [h115]; decide)]; exact ⟨rfl, show p + 0 ≤ p + 1 by omega⟩
        | 8, _, _ => rw [show PA 8 = [114, 97, 116, 101, 32, 78] from rfl, pm_off (by decide) (show ¬ _ = (114 : Int32) by rw [h115]; decide)]; exact ⟨rfl, show p + 0 ≤ p + 1 by omega⟩
        | 9, _, hne => exact absurd rfl hne
        | 10, _, _ => rw [show PA 10 = [119, 97, 105, 116, 32, 78] from rfl, pm_off (by decide) (show ¬ _ = (119 : Int32) by rw [h115]; decide)]; exact ⟨rfl, show p + 0 ≤ p + 1 by omega⟩
  · rw [if_neg h115]
    by_cases h108 : ch t L p = 108
    · rw [if_pos h108]
      show rpS t L p 11 0 p = leaf 1 _
      refine rp_one (q := p + 0) (by decide) (by rw [show PA 1 = [108, 105, 110, 107, 32, 78, 45, 78] from rfl, pm_on (by decide) h108]) (Nat.le_trans (by omega) (pm_ge _ _ _ _)) (fun v hv hne => ?_) 11 0 p rfl (by omega) (by omega)
      match v, hv, hne with
      | 0, _, _ => rw [show PA 0 = [115, 104, 101, 108, 102, 32, 78] from rfl, pm_off (by decide) (show ¬ _ = (115 : Int32) by rw [h108]; decide)]; exact ⟨rfl, show p + 0 ≤ p + 0 by omega⟩
      | 1, _, hne => exact absurd rfl hne
      | 2, _, _ => rw [show PA 2 = [99, 117, 116, 32, 78, 45, 78] from rfl, pm_off (by decide) (show ¬ _ = (99 : Int32) by rw [h108]; decide)]; exact ⟨rfl, show p + 0 ≤ p + 0 by omega⟩
      | 3, _, _ => rw [show PA 3 = [104, 105, 100, 101, 32, 78] from rfl, pm_off (by decide) (show ¬ _ = (104 : Int32) by rw [h108]; decide)]; exact ⟨rfl, show p + 0 ≤ p + 0 by omega⟩
      | 4, _, _ => rw [show PA 4 = [115, 104, 111, 119, 32, 78] from rfl, pm_off (by decide) (show ¬ _ = (115 : Int32) by rw [h108]; decide)]; exact ⟨rfl, show p + 0 ≤ p + 0 by omega⟩
      | 5, _, _ => rw [show PA 5 = [102, 105, 108, 108, 32, 78, 32, 78] from rfl, pm_off (by decide) (show ¬ _ = (102 : Int32) by rw [h108]; decide)]; exact ⟨rfl, show p + 0 ≤ p + 0 by omega⟩
      | 6, _, _ => rw [show PA 6 = [115, 116, 111, 112, 32, 78] from rfl, pm_off (by decide) (show ¬ _ = (115 : Int32) by rw [h108]; decide)]; exact ⟨rfl, show p + 0 ≤ p + 0 by omega⟩
      | 7, _, _ => rw [show PA 7 = [100, 114, 111, 112, 32, 68] from rfl, pm_off (by decide) (show ¬ _ = (100 : Int32) by rw [h108]; decide)]; exact ⟨rfl, show p + 0 ≤ p + 0 by omega⟩
      | 8, _, _ => rw [show PA 8 = [114, 97, 116, 101, 32, 78] from rfl, pm_off (by decide) (show ¬ _ = (114 : Int32) by rw [h108]; decide)]; exact ⟨rfl, show p + 0 ≤ p + 0 by omega⟩
      | 9, _, _ => rw [show PA 9 = [115, 101, 101, 100, 32, 76] from rfl, pm_off (by decide) (show ¬ _ = (115 : Int32) by rw [h108]; decide)]; exact ⟨rfl, show p + 0 ≤ p + 0 by omega⟩
      | 10, _, _ => rw [show PA 10 = [119, 97, 105, 116, 32, 78] from rfl, pm_off (by decide) (show ¬ _ = (119 : Int32) by rw [h108]; decide)]; exact ⟨rfl, show p + 0 ≤ p + 0 by omega⟩
    · rw [if_neg h108]
      by_cases h99 : ch t L p = 99
      · rw [if_pos h99]
        show rpS t L p 11 0 p = leaf 2 _
        refine rp_one (q := p + 0) (by decide) (by rw [show PA 2 = [99, 117, 116, 32, 78, 45, 78] from rfl, pm_on (by decide) h99]) (Nat.le_trans (by omega) (pm_ge _ _ _ _)) (fun v hv hne => ?_) 11 0 p rfl (by omega) (by omega)
        match v, hv, hne with
        | 0, _, _ => rw [show PA 0 = [115, 104, 101, 108, 102, 32, 78] from rfl, pm_off (by decide) (show ¬ _ = (115 : Int32) by rw [h99]; decide)]; exact ⟨rfl, show p + 0 ≤ p + 0 by omega⟩
        | 1, _, _ => rw [show PA 1 = [108, 105, 110, 107, 32, 78, 45, 78] from rfl, pm_off (by decide) (show ¬ _ = (108 : Int32) by rw [h99]; decide)]; exact ⟨rfl, show p + 0 ≤ p + 0 by omega⟩
        | 2, _, hne => exact absurd rfl hne
        | 3, _, _ => rw [show PA 3 = [104, 105, 100, 101, 32, 78] from rfl, pm_off (by decide) (show ¬ _ = (104 : Int32) by rw [h99]; decide)]; exact ⟨rfl, show p + 0 ≤ p + 0 by omega⟩
        | 4, _, _ => rw [show PA 4 = [115, 104, 111, 119, 32, 78] from rfl, pm_off (by decide) (show ¬ _ = (115 : Int32) by rw [h99]; decide)]; exact ⟨rfl, show p + 0 ≤ p + 0 by omega⟩
        | 5, _, _ => rw [show PA 5 = [102, 105, 108, 108, 32, 78, 32, 78] from rfl, pm_off (by decide) (show ¬ _ = (102 : Int32) by rw [h99]; decide)]; exact ⟨rfl, show p + 0 ≤ p + 0 by omega⟩
        | 6, _, _ => rw [show PA 6 = [115, 116, 111, 112, 32, 78] from rfl, pm_off (by decide) (show ¬ _ = (115 : Int32) by rw [h99]; decide)]; exact ⟨rfl, show p + 0 ≤ p + 0 by omega⟩
        | 7, _, _ => rw [show PA 7 = [100, 114, 111, 112, 32, 68] from rfl, pm_off (by decide) (show ¬ _ = (100 : Int32) by rw [h99]; decide)]; exact ⟨rfl, show p + 0 ≤ p + 0 by omega⟩
        | 8, _, _ => rw [show PA 8 = [114, 97, 116, 101, 32, 78] from rfl, pm_off (by decide) (show ¬ _ = (114 : Int32) by rw [h99]; decide)]; exact ⟨rfl, show p + 0 ≤ p + 0 by omega⟩
        | 9, _, _ => rw [show PA 9 = [115, 101, 101, 100, 32, 76] from rfl, pm_off (by decide) (show ¬ _ = (115 : Int32) by rw [h99]; decide)]; exact ⟨rfl, show p + 0 ≤ p + 0 by omega⟩
        | 10, _, _ => rw [show PA 10 = [119, 97, 105, 116, 32, 78] from rfl, pm_off (by decide) (show ¬ _ = (119 : Int32) by rw [h99]; decide)]; exact ⟨rfl, show p + 0 ≤ p + 0 by omega⟩
      · rw [if_neg h99]
        by_cases h104 : ch t L p = 104
        · rw [if_pos h104]
          show rpS t L p 11 0 p = leaf 3 _
          refine rp_one (q := p + 0) (by decide) (by rw [show PA 3 = [104, 105, 100, 101, 32, 78] from rfl, pm_on (by decide) h104]) (Nat.le_trans (by omega) (pm_ge _ _ _ _)) (fun v hv hne => ?_) 11 0 p rfl (by omega) (by omega)
          match v, hv, hne with
          | 0, _, _ => rw [show PA 0 = [115, 104, 101, 108, 102, 32, 78] from rfl, pm_off (by decide) (show ¬ _ = (115 : Int32) by rw [h104]; decide)]; exact ⟨rfl, show p + 0 ≤ p + 0 by omega⟩
          | 1, _, _ => rw [show PA 1 = [108, 105, 110, 107, 32, 78, 45, 78] from rfl, pm_off (by decide) (show ¬ _ = (108 : Int32) by rw [h104]; decide)]; exact ⟨rfl, show p + 0 ≤ p + 0 by omega⟩
          | 2, _, _ => rw [show PA 2 = [99, 117, 116, 32, 78, 45, 78] from rfl, pm_off (by decide) (show ¬ _ = (99 : Int32) by rw [h104]; decide)]; exact ⟨rfl, show p + 0 ≤ p + 0 by omega⟩
          | 3, _, hne => exact absurd rfl hne
          | 4, _, _ => rw [show PA 4 = [115, 104, 111, 119, 32, 78] from rfl, pm_off (by decide) (show ¬ _ = (115 : Int32) by rw [h104]; decide)]; exact ⟨rfl, show p + 0 ≤ p + 0 by omega⟩
          | 5, _, _ => rw [show PA 5 = [102, 105, 108, 108, 32, 78, 32, 78] from rfl, pm_off (by decide) (show ¬ _ = (102 : Int32) by rw [h104]; decide)]; exact ⟨rfl, show p + 0 ≤ p + 0 by omega⟩
          | 6, _, _ => rw [show PA 6 = [115, 116, 111, 112, 32, 78] from rfl, pm_off (by decide) (show ¬ _ = (115 : Int32) by rw [h104]; decide)]; exact ⟨rfl, show p + 0 ≤ p + 0 by omega⟩
          | 7, _, _ => rw [show PA 7 = [100, 114, 111, 112, 32, 68] from rfl, pm_off (by decide) (show ¬ _ = (100 : Int32) by rw [h104]; decide)]; exact ⟨rfl, show p + 0 ≤ p + 0 by omega⟩
          | 8, _, _ => rw [show PA 8 = [114, 97, 116, 101, 32, 78] from rfl, pm_off (by decide) (show ¬ _ = (114 : Int32) by rw [h104]; decide)]; exact ⟨rfl, show p + 0 ≤ p + 0 by omega⟩
          | 9, _, _ => rw [show PA 9 = [115, 101, 101, 100, 32, 76] from rfl, pm_off (by decide) (show ¬ _ = (115 : Int32) by rw [h104]; decide)]; exact ⟨rfl, show p + 0 ≤ p + 0 by omega⟩
          | 10, _, _ => rw [show PA 10 = [119, 97, 105, 116, 32, 78] from rfl, pm_off (by decide) (show ¬ _ = (119 : Int32) by rw [h104]; decide)]; exact ⟨rfl, show p + 0 ≤ p + 0 by omega⟩
        · rw [if_neg h104]
          by_cases h102 : ch t L p = 102
          · rw [if_pos h102]
            show rpS t L p 11 0 p = leaf 5 _
            refine rp_one (q := p + 0) (by decide) (by rw [show PA 5 = [102, 105, 108, 108, 32, 78, 32, 78] from rfl, pm_on (by decide) h102]) (Nat.le_trans (by omega) (pm_ge _ _ _ _)) (fun v hv hne => ?_) 11 0 p rfl (by omega) (by omega)
            match v, hv, hne with
            | 0, _, _ => rw [show PA 0 = [115, 104, 101, 108, 102, 32, 78] from rfl, pm_off (by decide) (show ¬ _ = (115 : Int32) by rw [h102]; decide)]; exact ⟨rfl, show p + 0 ≤ p + 0 by omega⟩
            | 1, _, _ => rw [show PA 1 = [108, 105, 110, 107, 32, 78, 45, 78] from rfl, pm_off (by decide) (show ¬ _ = (108 : Int32) by rw [h102]; decide)]; exact ⟨rfl, show p + 0 ≤ p + 0 by omega⟩
            | 2, _, _ => rw [show PA 2 = [99, 117, 116, 32, 78, 45, 78] from rfl, pm_off (by decide) (show ¬ _ = (99 : Int32) by rw [h102]; decide)]; exact ⟨rfl, show p + 0 ≤ p + 0 by omega⟩
            | 3, _, _ => rw [show PA 3 = [104, 105, 100, 101, 32, 78] from rfl, pm_off (by decide) (show ¬ _ = (104 : Int32) by rw [h102]; decide)]; exact ⟨rfl, show p + 0 ≤ p + 0 by omega⟩
            | 4, _, _ => rw [show PA 4 = [115, 104, 111, 119, 32, 78] from rfl, pm_off (by decide) (show ¬ _ = (115 : Int32) by rw [h102]; decide)]; exact ⟨rfl, show p + 0 ≤ p + 0 by omega⟩
            | 5, _, hne => exact absurd rfl hne
            | 6, _, _ => rw [show PA 6 = [115, 116, 111, 112, 32, 78] from rfl, pm_off (by decide) (show ¬ _ = (115 : Int32) by rw [h102]; decide)]; exact ⟨rfl, show p + 0 ≤ p + 0 by omega⟩
            | 7, _, _ => rw [show PA 7 = [100, 114, 111, 112, 32, 68] from rfl, pm_off (by decide) (show ¬ _ = (100 : Int32) by rw [h102]; decide)]; exact ⟨rfl, show p + 0 ≤ p + 0 by omega⟩
            | 8, _, _ => rw [show PA 8 = [114, 97, 116, 101, 32, 78] from rfl, pm_off (by decide) (show ¬ _ = (114 : Int32) by rw [h102]; decide)]; exact ⟨rfl, show p + 0 ≤ p + 0 by omega⟩
            | 9, _, _ => rw [show PA 9 = [115, 101, 101, 100, 32, 76] from rfl, pm_off (by decide) (show ¬ _ = (115 : Int32) by rw [h102]; decide)]; exact ⟨rfl, show p + 0 ≤ p + 0 by omega⟩
            | 10, _, _ => rw [show PA 10 = [119, 97, 105, 116, 32, 78] from rfl, pm_off (by decide) (show ¬ _ = (119 : Int32) by rw [h102]; decide)]; exact ⟨rfl, show p + 0 ≤ p + 0 by omega⟩
          · rw [if_neg h102]
            by_cases h100 : ch t L p = 100
            · rw [if_pos h100]
              show rpS t L p 11 0 p = leaf 7 _
              refine rp_one (q := p + 0) (by decide) (by rw [show PA 7 = [100, 114, 111, 112, 32, 68] from rfl, pm_on (by decide) h100]) (Nat.le_trans (by omega) (pm_ge _ _ _ _)) (fun v hv hne => ?_) 11 0 p rfl (by omega) (by omega)
              match v, hv, hne with
              | 0, _, _ => rw [show PA 0 = [115, 104, 101, 108, 102, 32, 78] from rfl, pm_off (by decide) (show ¬ _ = (115 : Int32) by rw [h100]; decide)]; exact ⟨rfl, show p + 0 ≤ p + 0 by omega⟩
              | 1, _, _ => rw [show PA 1 = [108, 105, 110, 107, 32, 78, 45, 78] from rfl, pm_off (by decide) (show ¬ _ = (108 : Int32) by rw [h100]; decide)]; exact ⟨rfl, show p + 0 ≤ p + 0 by omega⟩
              | 2, _, _ => rw [show PA 2 = [99, 117, 116, 32, 78, 45, 78] from rfl, pm_off (by decide) (show ¬ _ = (99 : Int32) by rw [h100]; decide)]; exact ⟨rfl, show p + 0 ≤ p + 0 by omega⟩
              | 3, _, _ => rw [show PA 3 = [104, 105, 100, 101, 32, 78] from rfl, pm_off (by decide) (show ¬ _ = (104 : Int32) by rw [h100]; decide)]; exact ⟨rfl, show p + 0 ≤ p + 0 by omega⟩
              | 4, _, _ => rw [show PA 4 = [115, 104, 111, 119, 32, 78] from rfl, pm_off (by decide) (show ¬ _ = (115 : Int32) by rw [h100]; decide)]; exact ⟨rfl, show p + 0 ≤ p + 0 by omega⟩
              | 5, _, _ => rw [show PA 5 = [102, 105, 108, 108, 32, 78, 32, 78] from rfl, pm_off (by decide) (show ¬ _ = (102 : Int32) by rw [h100]; decide)]; exact ⟨rfl, show p + 0 ≤ p + 0 by omega⟩
              | 6, _, _ => rw [show PA 6 = [115, 116, 111, 112, 32, 78] from rfl, pm_off (by decide) (show ¬ _ = (115 : Int32) by rw [h100]; decide)]; exact ⟨rfl, show p + 0 ≤ p + 0 by omega⟩
              | 7, _, hne => exact absurd rfl hne
              | 8, _, _ => rw [show PA 8 = [114, 97, 116, 101, 32, 78] from rfl, pm_off (by decide) (show ¬ _ = (114 : Int32) by rw [h100]; decide)]; exact ⟨rfl, show p + 0 ≤ p + 0 by omega⟩
              | 9, _, _ => rw [show PA 9 = [115, 101, 101, 100, 32, 76] from rfl, pm_off (by decide) (show ¬ _ = (115 : Int32) by rw [h100]; decide)]; exact ⟨rfl, show p + 0 ≤ p + 0 by omega⟩
              | 10, _, _ => rw [show PA 10 = [119, 97, 105, 116, 32, 78] from rfl, pm_off (by decide) (show ¬ _ = (119 : Int32) by rw [h100]; decide)]; exact ⟨rfl, show p + 0 ≤ p + 0 by omega⟩
            · rw [if_neg h100]
              by_cases h114 : ch t L p = 114
              · rw [if_pos h114]
                show rpS t L p 11 0 p = leaf 8 _
                refine rp_one (q := p + 0) (by decide) (by rw [show PA 8 = [114, 97, 116, 101, 32, 78] from rfl, pm_on (by decide) h114]) (Nat.le_trans (by omega) (pm_ge _ _ _ _)) (fun v hv hne => ?_) 11 0 p rfl (by omega) (by omega)
                match v, hv, hne with
                | 0, _, _ => rw [show PA 0 = [115, 104, 101, 108, 102, 32, 78] from rfl, pm_off (by decide) (show ¬ _ = (115 : Int32) by rw [h114]; decide)]; exact ⟨rfl, show p + 0 ≤ p + 0 by omega⟩
                | 1, _, _ => rw [show PA 1 = [108, 105, 110, 107, 32, 78, 45, 78] from rfl, pm_off (by decide) (show ¬ _ = (108 : Int32) by rw [h114]; decide)]; exact ⟨rfl, show p + 0 ≤ p + 0 by omega⟩
                | 2, _, _ => rw [show PA 2 = [99, 117, 116, 32, 78, 45, 78] from rfl, pm_off (by decide) (show ¬ _ = (99 : Int32) by rw [h114]; decide)]; exact ⟨rfl, show p + 0 ≤ p + 0 by omega⟩
                | 3, _, _ => rw [show PA 3 = [104, 105, 100, 101, 32, 78] from rfl, pm_off (by decide) (show ¬ _ = (104 : Int32) by rw [h114]; decide)]; exact ⟨rfl, show p + 0 ≤ p + 0 by omega⟩
                | 4, _, _ => rw [show PA 4 = [115, 104, 111, 119, 32, 78] from rfl, pm_off (by decide) (show ¬ _ = (115 : Int32) by rw [h114]; decide)]; exact ⟨rfl, show p + 0 ≤ p + 0 by omega⟩
                | 5, _, _ => rw [show PA 5 = [102, 105, 108, 108, 32, 78, 32, 78] from rfl, pm_off (by decide) (show ¬ _ = (102 : Int32) by rw [h114]; decide)]; exact ⟨rfl, show p + 0 ≤ p + 0 by omega⟩
                | 6, _, _ => rw [show PA 6 = [115, 116, 111, 112, 32, 78] from rfl, pm_off (by decide) (show ¬ _ = (115 : Int32) by rw [h114]; decide)]; exact ⟨rfl, show p + 0 ≤ p + 0 by omega⟩
                | 7, _, _ => rw [show PA 7 = [100, 114, 111, 112, 32, 68] from rfl, pm_off (by decide) (show ¬ _ = (100 : Int32) by rw [h114]; decide)]; exact ⟨rfl, show p + 0 ≤ p + 0 by omega⟩
                | 8, _, hne => exact absurd rfl hne
                | 9, _, _ => rw [show PA 9 = [115, 101, 101, 100, 32, 76] from rfl, pm_off (by decide) (show ¬ _ = (115 : Int32) by rw [h114]; decide)]; exact ⟨rfl, show p + 0 ≤ p + 0 by omega⟩
                | 10, _, _ => rw [show PA 10 = [119, 97, 105, 116, 32, 78] from rfl, pm_off (by decide) (show ¬ _ = (119 : Int32) by rw [h114]; decide)]; exact ⟨rfl, show p + 0 ≤ p + 0 by omega⟩
              · rw [if_neg h114]
                by_cases h119 : ch t L p = 119
                · rw [if_pos h119]
                  show rpS t L p 11 0 p = leaf 10 _
                  refine rp_one (q := p + 0) (by decide) (by rw [show PA 10 = [119, 97, 105, 116, 32, 78] from rfl, pm_on (by decide) h119]) (Nat.le_trans (by omega) (pm_ge _ _ _ _)) (fun v hv hne => ?_) 11 0 p rfl (by omega) (by omega)
                  match v, hv, hne with
                  | 0, _, _ => rw [show PA 0 = [115, 104, 101, 108, 102, 32, 78] from rfl, pm_off (by decide) (show ¬ _ = (115 : Int32) by rw [h119]; decide)]; exact ⟨rfl, show p + 0 ≤ p + 0 by omega⟩
                  | 1, _, _ => rw [show PA 1 = [108, 105, 110, 107, 32, 78, 45, 78] from rfl, pm_off (by decide) (show ¬ _ = (108 : Int32) by rw [h119]; decide)]; exact ⟨rfl, show p + 0 ≤ p + 0 by omega⟩
                  | 2, _, _ => rw [show PA 2 = [99, 117, 116, 32, 78, 45, 78] from rfl, pm_off (by decide) (show ¬ _ = (99 : Int32) by rw [h119]; decide)]; exact ⟨rfl, show p + 0 ≤ p + 0 by omega⟩
                  | 3, _, _ => rw [show PA 3 = [104, 105, 100, 101, 32, 78] from rfl, pm_off (by decide) (show ¬ _ = (104 : Int32) by rw [h119]; decide)]; exact ⟨rfl, show p + 0 ≤ p + 0 by omega⟩
                  | 4, _, _ => rw [show PA 4 = [115, 104, 111, 119, 32, 78] from rfl, pm_off (by decide) (show ¬ _ = (115 : Int32) by rw [h119]; decide)]; exact ⟨rfl, show p + 0 ≤ p + 0 by omega⟩
                  | 5, _, _ => rw [show PA 5 = [102, 105, 108, 108, 32, 78, 32, 78] from rfl, pm_off (by decide) (show ¬ _ = (102 : Int32) by rw [h119]; decide)]; exact ⟨rfl, show p + 0 ≤ p + 0 by omega⟩
                  | 6, _, _ => rw [show PA 6 = [115, 116, 111, 112, 32, 78] from rfl, pm_off (by decide) (show ¬ _ = (115 : Int32) by rw [h119]; decide)]; exact ⟨rfl, show p + 0 ≤ p + 0 by omega⟩
                  | 7, _, _ => rw [show PA 7 = [100, 114, 111, 112, 32, 68] from rfl, pm_off (by decide) (show ¬ _ = (100 : Int32) by rw [h119]; decide)]; exact ⟨rfl, show p + 0 ≤ p + 0 by omega⟩
                  | 8, _, _ => rw [show PA 8 = [114, 97, 116, 101, 32, 78] from rfl, pm_off (by decide) (show ¬ _ = (114 : Int32) by rw [h119]; decide)]; exact ⟨rfl, show p + 0 ≤ p + 0 by omega⟩
                  | 9, _, _ => rw [show PA 9 = [115, 101, 101, 100, 32, 76] from rfl, pm_off (by decide) (show ¬ _ = (115 : Int32) by rw [h119]; decide)]; exact ⟨rfl, show p + 0 ≤ p + 0 by omega⟩
                  | 10, _, hne => exact absurd rfl hne
                · rw [if_neg h119]
                  show rpS t L p 11 0 p = leaf 10 _
                  refine rp_one (q := p + 0) (by decide) (by rw [show PA 10 = [119, 97, 105, 116, 32, 78] from rfl, pm_off (by decide) h119]) (Nat.le_refl _) (fun v hv hne => ?_) 11 0 p rfl (by omega) (by omega)
                  match v, hv, hne with
                  | 0, _, _ => rw [show PA 0 = [115, 104, 101, 108, 102, 32, 78] from rfl, pm_off (by decide) h115]; exact ⟨rfl, show p + 0 ≤ p + 0 by omega⟩
                  | 1, _, _ => rw [show PA 1 = [108, 105, 110, 107, 32, 78, 45, 78] from rfl, pm_off (by decide) h108]; exact ⟨rfl, show p + 0 ≤ p + 0 by omega⟩
                  | 2, _, _ => rw [show PA 2 = [99, 117, 116, 32, 78, 45, 78] from rfl, pm_off (by decide) h99]; exact ⟨rfl, show p + 0 ≤ p + 0 by omega⟩
                  | 3, _, _ => rw [show PA 3 = [104, 105, 100, 101, 32, 78] from rfl, pm_off (by decide) h104]; exact ⟨rfl, show p + 0 ≤ p + 0 by omega⟩
                  | 4, _, _ => rw [show PA 4 = [115, 104, 111, 119, 32, 78] from rfl, pm_off (by decide) h115]; exact ⟨rfl, show p + 0 ≤ p + 0 by omega⟩
                  | 5, _, _ => rw [show PA 5 = [102, 105, 108, 108, 32, 78, 32, 78] from rfl, pm_off (by decide) h102]; exact ⟨rfl, show p + 0 ≤ p + 0 by omega⟩
                  | 6, _, _ => rw [show PA 6 = [115, 116, 111, 112, 32, 78] from rfl, pm_off (by decide) h115]; exact ⟨rfl, show p + 0 ≤ p + 0 by omega⟩
                  | 7, _, _ => rw [show PA 7 = [100, 114, 111, 112, 32, 68] from rfl, pm_off (by decide) h100]; exact ⟨rfl, show p + 0 ≤ p + 0 by omega⟩
                  | 8, _, _ => rw [show PA 8 = [114, 97, 116, 101, 32, 78] from rfl, pm_off (by decide) h114]; exact ⟨rfl, show p + 0 ≤ p + 0 by omega⟩
                  | 9, _, _ => rw [show PA 9 = [115, 101, 101, 100, 32, 76] from rfl, pm_off (by decide) h115]; exact ⟨rfl, show p + 0 ≤ p + 0 by omega⟩
                  | 10, _, hne => exact absurd rfl hne
theorem tree_op (p : Nat) : (tree t L p).1 ≤ 10 := by
  unfold tree
  repeat' split
  all_goals simp
theorem tree_ge (p : Nat) : p ≤ (tree t L p).2.2.1 ∧ ((tree t L p).2.1 = true → p + 1 ≤ (tree t L p).2.2.1) := by
  have g := fun (l : List Int32) (q : Nat) => pm_ge (t := t) (L := L) l q (-1) (-1)
  unfold tree
  repeat' split
  all_goals first
    | exact ⟨Nat.le_refl _, fun z => absurd z (show ¬ (false = true) by decide)⟩
    | exact ⟨Nat.le_trans (show p ≤ p + 1 by omega) (g _ (p + 1)), fun _ => g _ (p + 1)⟩
    | exact ⟨Nat.le_trans (show p ≤ p + 2 by omega) (g _ (p + 2)), fun _ => Nat.le_trans (show p + 1 ≤ p + 2 by omega) (g _ (p + 2))⟩
    | exact ⟨Nat.le_trans (show p ≤ p + 3 by omega) (g _ (p + 3)), fun _ => Nat.le_trans (show p + 1 ≤ p + 3 by omega) (g _ (p + 3))⟩
theorem tree_le {p : Nat} (h : p ≤ L) : (tree t L p).2.2.1 ≤ L := by
  have e : ∀ {q s}, ch t L q = s → s ≠ 0 → q < L := fun h hs => ch_lt h hs
  unfold tree
  by_cases h1 : ch t L p = 115
  · have := ch_lt h1 (by decide)
    rw [if_pos h1]
    by_cases h2 : ch t L (p + 1) = 104
    · have := ch_lt h2 (by decide)
      rw [if_pos h2]
      by_cases h3 : ch t L (p + 2) = 101
      · have := ch_lt h3 (by decide)
        rw [if_pos h3]
        exact pm_le _ (by decide) _ _ _ (by omega)
      · rw [if_neg h3]
        exact pm_le _ (by decide) _ _ _ (by omega)
    · rw [if_neg h2]
      by_cases h3 : ch t L (p + 1) = 116
      · have := ch_lt h3 (by decide)
        rw [if_pos h3]
        exact pm_le _ (by decide) _ _ _ (by omega)
      · rw [if_neg h3]
        exact pm_le _ (by decide) _ _ _ (by omega)
  · rw [if_neg h1]
    repeat' split
    all_goals first
      | exact h
      | (rename_i q; have := ch_lt q (by decide); exact pm_le _ (by decide) _ _ _ (by omega))
theorem imxN {x y : Nat} (hx : x < 2 ^ 31) (hy : y < 2 ^ 31) : imx (nI x) (nI y) = nI (max x y) := by
  unfold imx
  by_cases h : x < y
  · rw [if_pos (lt2 hx hy h), show max x y = y by omega]
  · rw [if_neg (nlt2 hx hy (by omega)), show max x y = x by omega]
theorem cPats9 (hF : 30 ≤ F) {p : Nat} (kx : Int32 → Mem → Option (Bool × Mem)) (m : Nat) : ∀ v, v + m = 11 → ∀ n', m < n' → ∀ (mx q : Nat) (M : Mem), CS M t L q → p ≤ L → mx ≤ L → ∃ M', PF M M' ∧ (if (rpS t L p m v mx).1 = true then CS M' t L (rpS t L p m v mx).2.1 ∧ M' 115 4 = nI (rpS t L p m v mx).2.2.1 ∧ M' 115 5 = (rpS t L p m v mx).2.2.2.1 ∧ M' 115 6 = (rpS t L p m v mx).2.2.2.2 ∧ fX8_readPatterns_9 F 115 (nI p) kx n' (nI mx) (nI v) M = some (true, M') else (∃ q', CS M' t L q') ∧ (rpS t L p m v mx).2.1 ≤ L ∧ fX8_readPatterns_9 F 115 (nI p) kx n' (nI mx) (nI v) M = kx (nI (rpS t L p m v mx).2.1) M') := by
  induction m with
  | zero =>
    intro v hv n' hn mx q M h hp hm
    obtain ⟨n', rfl⟩ : ∃ n'', n' = n'' + 1 := ⟨n' - 1, by omega⟩
    refine ⟨M, PF.rf, ?_⟩
    rw [if_neg (show ¬ (rpS t L p 0 v mx).1 = true from fun z => (show ¬ (false = true) by decide) z), fX8_readPatterns_9, if_pos (leL (n := 11) (by omega) (by decide) (by omega))]
    exact ⟨⟨q, h⟩, hm, rfl⟩
  | succ m ih =>
    intro v hv n' hn mx q M h hp hm
    obtain ⟨n', rfl⟩ : ∃ n'', n' = n'' + 1 := ⟨n' - 1, by omega⟩
    have h60 := h.2.2.2.1
    have hv11 : v < 11 := by omega
    obtain ⟨M1, i1, i2, i3, i4⟩ := cPattern (F := F) hF hv11 (h.pos hp)
    have hle := pm_le (t := t) (L := L) (PA v) (PA_nz v hv11) p (-1) (-1) hp
    have f1 : PF M M1 := (PF.up (by decide) (by decide)).tr i2
    rw [fX8_readPatterns_9, if_neg (nleL (n := 11) (by omega) (by decide) hv11)]
    simp only [lM]
    rw [inbN (by omega), ckd _ hv11, nI_cl (by omega), i1]
    simp only [bM]
    unfold rpS
    cases w : (pm t L (PA v) p (-1) (-1)).1 with
    | true =>
      have i5 := i4 w
      simp only [↓reduceIte]
      rw [ckd _ hv11]
      exact ⟨_, f1.tr (PF.up (by decide) (by decide)), i3.oth (by decide) (by decide), by rw [u2_same, if_pos rfl], by rw [u2_same, if_neg (by decide)]; exact i5.1, by rw [u2_same, if_neg (by decide)]; exact i5.2, rfl⟩
    | false =>
      have nf : ¬ (false = true) := by decide
      rw [if_neg nf, i3.2.1, imxN (by omega) (by omega), nI_1]
      obtain ⟨M2, j1, j2⟩ := ih (v + 1) (by omega) n' (by omega) (max mx (pm t L (PA v) p (-1) (-1)).2.1) _ M1 i3 hp (by omega)
      refine ⟨M2, f1.tr j1, ?_⟩
      rw [if_neg nf]
      exact j2
theorem cPatterns (hF : 30 ≤ F) {p : Nat} (h : CS M t L p) : ∃ M', fX8_readPatterns F 115 M = some ((tree t L p).2.1, M') ∧ PF M M' ∧ CS M' t L (tree t L p).2.2.1 ∧ ((tree t L p).2.1 = true → M' 115 4 = nI (tree t L p).1 ∧ M' 115 5 = (tree t L p).2.2.2.1 ∧ M' 115 6 = (tree t L p).2.2.2.2) := by
  have hp := h.2.2.2.2.2
  have h60 := h.2.2.2.1
  unfold fX8_readPatterns
  simp only [lM]
  rw [h.2.1]
  obtain ⟨M1, i1, i2⟩ := cPats9 (F := F) (t := t) (L := L) hF (p := p) (fun w19 M18 => some (false, up2 M18 115 2 w19)) 11 0 rfl F (by omega) p p M h hp hp
  rw [rp_tree] at i2
  unfold leaf at i2
  cases w : (tree t L p).2.1 with
  | true =>
    rw [if_pos w] at i2
    simp only [↓reduceIte] at i2
    exact ⟨M1, i2.2.2.2.2, i1, i2.1, fun _ => ⟨i2.2.1, i2.2.2.1, i2.2.2.2.1⟩⟩
  | false =>
    have nf : ¬ (false = true) := by decide
    rw [if_neg (show ¬ (tree t L p).2.1 = true by rw [w]; exact nf)] at i2
    simp only [Bool.false_eq_true, ↓reduceIte] at i2
    obtain ⟨⟨q', c1⟩, c2, c3⟩ := i2
    exact ⟨_, c3, i1.tr (PF.up (by decide) (by decide)), c1.pos c2, fun z => absurd z nf⟩
theorem cCommand (hF : 30 ≤ F) {p : Nat} (h : CS M t L p) (ht : (tree t L p).2.1 = true) : ∃ M', fX8_readCommand F 115 M = some M' ∧ PF M M' ∧ CS M' t L (if ch t L (tree t L p).2.2.1 = 59 then (tree t L p).2.2.1 + 1 else (tree t L p).2.2.1) ∧ M' 115 4 = nI (tree t L p).1 ∧ M' 115 5 = (tree t L p).2.2.2.1 ∧ M' 115 6 = (tree t L p).2.2.2.2 := by
  obtain ⟨M1, i1, i2, i3, i4⟩ := cPatterns (F := F) hF h
  obtain ⟨M2, j1, j2, j3, j4⟩ := cRdSign (F := F) i3 (s := 59) (by decide)
  unfold fX8_readCommand
  rw [i1]
  simp only [bM]
  rw [j1]
  have i5 := i4 ht
  exact ⟨M2, rfl, i2.tr j3, j2, by rw [j4 4 (by decide)]; exact i5.1, by rw [j4 5 (by decide)]; exact i5.2.1, by rw [j4 6 (by decide)]; exact i5.2.2⟩
def scan (t : Nat → Int32) (L : Nat) : Nat → Nat → Option (List (Nat × Int32 × Int32)) × Nat
  | 0, p => (none, p)
  | m + 1, p => if (tree t L p).2.1 = true then (if (tree t L p).2.2.1 < L then (if ch t L (tree t L p).2.2.1 = 59 then ((scan t L m ((tree t L p).2.2.1 + 1)).1.map (fun l => ((tree t L p).1, (tree t L p).2.2.2.1, (tree t L p).2.2.2.2) :: l), (scan t L m ((tree t L p).2.2.1 + 1)).2) else (none, (tree t L p).2.2.1)) else (some [((tree t L p).1, (tree t L p).2.2.2.1, (tree t L p).2.2.2.2)], (tree t L p).2.2.1)) else (none, (tree t L p).2.2.1)
theorem scan_le (m : Nat) : ∀ p, p ≤ L → (scan t L m p).2 ≤ L := by
  induction m with
  | zero => intro p h; exact h
  | succ m ih =>
    intro p h
    have hl := tree_le (t := t) h
    unfold scan
    split
    · split
      · split
        · exact ih _ (by omega)
        · exact hl
      · exact hl
    · exact hl
theorem cFind12 (hF : 100 ≤ F) (kx : Mem → Option (Int32 × Mem)) (m : Nat) : ∀ p v (M : Mem), CS M t L p → L < p + m → 2 * v ≤ p → M 115 3 = nI v → ∀ n', m < n' → ∃ M' q', fX8_findFault_12 F 115 kx n' (nI v) M = some (match (scan t L m p).1 with | some _ => -1 | none => nI (scan t L m p).2, M') ∧ (∀ c, c ≠ 115 → M' c = M c) ∧ CS M' t L q' ∧ ∀ l, (scan t L m p).1 = some l → M' 115 3 = nI (v + l.length) := by
  induction m with
  | zero => intro p v M h hL _ _ n' _; have := h.2.2.2.2.2; omega
  | succ m ih =>
    intro p v M h hL h2 h3 n' hn
    obtain ⟨n', rfl⟩ : ∃ n'', n' = n'' + 1 := ⟨n' - 1, by omega⟩
    have h60 := h.2.2.2.1
    have hp := h.2.2.2.2.2
    have hl := tree_le (t := t) hp
    have hg := tree_ge (t := t) (L := L) p
    obtain ⟨M1, i1, i2, i3, i4⟩ := cPatterns (F := F) (by omega) h
    rw [fX8_findFault_12, if_neg (nleL (n := 60) (by omega) (by decide) (by omega)), i1]
    simp only [bM, lM]
    unfold scan
    cases w : (tree t L p).2.1 with
    | false =>
      have nf : ¬ (false = true) := by decide
      rw [if_neg nf, if_neg nf, i3.2.1]
      exact ⟨M1, _, rfl, i2.1, i3, fun l z => absurd z (by simp)⟩
    | true =>
      have hg2 := hg.2 w
      rw [if_pos rfl, if_pos rfl, i2.2.2, h3, nI_1]
      have c2 := i3.oth (i := 3) (v := nI (v + 1)) (by decide) (by decide)
      rw [c2.2.1, c2.1]
      by_cases w2 : (tree t L p).2.2.1 < L
      · rw [if_pos (lt2 (by omega) (by omega) w2), if_pos w2]
        obtain ⟨M3, k1, k2, k3, k4⟩ := cRdSign (F := F) c2 (s := 59) (by decide)
        rw [k1]
        simp only [bM]
        by_cases w3 : ch t L (tree t L p).2.2.1 = 59
        · rw [if_pos w3] at k2 ⊢
          rw [if_pos (decide_eq_true w3)]
          obtain ⟨M4, q4, l1, l2, l3, l4⟩ := ih _ (v + 1) M3 k2 (by omega) (by omega) (by rw [k4 3 (by decide), u2_same, if_pos rfl]) n' (by omega)
          refine ⟨M4, q4, ?_, fun c q => by rw [l2 c q, k3.1 c q, u2_ne _ q, i2.1 c q], l3, fun l z => ?_⟩
          · rw [l1]
            cases (scan t L m ((tree t L p).2.2.1 + 1)).1 <;> rfl
          · cases y : (scan t L m ((tree t L p).2.2.1 + 1)).1 with
            | none => rw [y] at z; exact absurd z (by simp)
            | some l' =>
              rw [y] at z
              have z2 := Option.some.inj z
              rw [l4 l' y, ← z2, List.length_cons]
              congr 1
              omega
        · rw [if_neg w3] at k2 ⊢
          rw [if_neg (show ¬ decide (ch t L (tree t L p).2.2.1 = 59) = true by simp [w3]), k2.2.1]
          exact ⟨M3, _, rfl, fun c q => by rw [k3.1 c q, u2_ne _ q, i2.1 c q], k2, fun l z => absurd z (by simp)⟩
      · rw [if_neg (nlt2 (by omega) (by omega) (by omega)), if_neg w2]
        refine ⟨_, _, rfl, fun c q => by rw [u2_ne _ q, i2.1 c q], c2, fun l z => ?_⟩
        rw [← Option.some.inj z, u2_same, if_pos rfl]
        rfl
theorem cFindFault (hF : 100 ≤ F) {p : Nat} (h : CS M t L p) : ∃ M' q', fX8_findFault F 115 M = some (match (scan t L 61 0).1 with | some _ => -1 | none => nI (scan t L 61 0).2, M') ∧ (∀ c, c ≠ 115 → M' c = M c) ∧ CS M' t L q' ∧ ∀ l, (scan t L 61 0).1 = some l → M' 115 3 = nI l.length := by
  have h60 := h.2.2.2.1
  unfold fX8_findFault
  simp only [lM]
  obtain ⟨M1, q1, i1, i2, i3, i4⟩ := cFind12 (F := F) hF (fun M19 => some ((M19 115 2), M19)) 61 0 0 (up2 (up2 M 115 2 0) 115 3 0) ((h.pos (q := 0) (by omega)).oth (by decide) (by decide)) (by omega) (by omega) (by rw [u2_same, if_pos rfl]; rfl) F (by omega)
  exact ⟨M1, q1, i1, fun c q => by rw [i2 c q, u2_ne _ q, u2_ne _ q], i3, fun l z => by rw [i4 l z, Nat.zero_add]⟩
end
