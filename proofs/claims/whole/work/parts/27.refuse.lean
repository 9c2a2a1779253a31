section
variable {F b : Nat} {a : Nat → Nat} {M N : Mem}
def isW (p : Int32) (n : Nat) : Bool := decide (¬ p < 0 ∧ ¬ nI n ≤ p)
theorem isW_t {p : Int32} {n : Nat} (h : isW p n = true) (hn : n < 2 ^ 31) : ∃ j, j < n ∧ p = nI j := by
  have h2 := of_decide_eq_true h
  obtain ⟨j, hj, rfl⟩ := nI_of h2.1
  refine ⟨j, ?_, rfl⟩
  apply Classical.byContradiction
  intro z
  exact h2.2 (le2 hn hj (by omega))
theorem isW_lt {j n : Nat} (h : j < n) (hn : n < 2 ^ 31) : isW (nI j) n = true := decide_eq_true ⟨nI_pos (by omega), nle2 (by omega) (by omega) h⟩
theorem cWithin (p : Int32) (n : Nat) : fX11_isWithin F p (nI n) M = some (isW p n, M) := by
  unfold fX11_isWithin isW
  by_cases h1 : p < 0
  · rw [if_pos h1, decide_eq_false (fun z => z.1 h1)]
  · rw [if_neg h1]
    by_cases h2 : nI n ≤ p
    · rw [if_pos h2, decide_eq_false (fun z => z.2 h2)]
    · rw [if_neg h2, decide_eq_true ⟨h1, h2⟩]
theorem mBetw {p lo hi : Int32} : fX12_isBetween F p lo hi N = some (decide (¬ p < lo ∧ ¬ hi < p), N) := by
  unfold fX12_isBetween
  by_cases h1 : p < lo
  · rw [if_pos h1, decide_eq_false (fun z => z.1 h1)]
  · rw [if_neg h1]
    by_cases h2 : hi < p
    · rw [if_pos h2, decide_eq_false (fun z => z.2 h2)]
    · rw [if_neg h2, decide_eq_true ⟨h1, h2⟩]
theorem m1_lt' {p : Int32} (h : ¬ p < 0) : -1 < p := by
  obtain ⟨j, hj, rfl⟩ := nI_of h
  exact m1_lt hj
theorem mWithin (p : Int32) {n : Nat} (hn : n < 2 ^ 31) : fX12_isBetween F p 0 (nI n - 1) N = some (isW p n, N) := by
  rw [mBetw]
  unfold isW
  congr 2
  by_cases h1 : p < 0
  · simp [h1]
  · obtain ⟨j, hj, rfl⟩ := nI_of h1
    by_cases h0 : n = 0
    · subst h0
      have e1 : nI 0 - 1 = -1 := by decide
      rw [e1]
      simp [m1_lt hj, le2 (show 0 < 2 ^ 31 by decide) hj (Nat.zero_le j)]
    · rw [show nI n - 1 = nI (n - 1) from nI_sub (b := 1) (by omega)]
      by_cases h2 : n ≤ j
      · simp [lt2 (show n - 1 < 2 ^ 31 by omega) hj (by omega), le2 hn hj h2]
      · have e1 := nlt2 (show n - 1 < 2 ^ 31 by omega) hj (by omega)
        have e2 := nle2 hn hj (by omega)
        simp [e1, e2, h1]
theorem cHas (hc : CC M b a) (p : Int32) : fX9_has F (b + 1) p M = some (isW p (a 0), M) := by
  unfold fX9_has
  rw [show M (b + 1) 3 = nI (a 0) from hc.n, cWithin]
  rfl
theorem mShelf (h : WF a) (hN : N 120 = rowI a) (p : Int32) : fX12_isShelf F p N = some (isW p (a 0), N) := by
  unfold fX12_isShelf
  have := h.n
  rw [hN, rowI_at, mWithin p (by omega)]
  rfl
def RefX (F b op : Nat) (p1 p2 : Int32) (M N : Mem) (a : Nat → Nat) (c : Option (Nat × Mem)) (m : Option (Int32 × Mem)) : Prop := ∃ r : Nat, r < 8 ∧ c = some (r, M) ∧ ((r = 0 ∧ m = some (0, N) ∧ ∃ x y, p1 = nI x ∧ ((op = 1 ∨ op = 2 ∨ op = 5) → p2 = nI y) ∧ opOK op x y a) ∨ (r = 6 ∧ op ≠ 0 ∧ op < 8 ∧ m = some (1, N)) ∨ (r = 7 ∧ (op = 0 ∨ op = 5 ∨ 8 ≤ op) ∧ m = some (if op = 5 then 2 else 1, N)) ∨ (1 ≤ r ∧ r ≤ 5 ∧ op ≤ 6 ∧ ∃ d, fX3_detailOf F b r op p1 M = some (d, M) ∧ m = some (if op = 5 then 3 else 2, up2 (up2 N 119 1 (nI r)) 119 2 d)))
def Ref (F b op : Nat) (p1 p2 : Int32) (M N : Mem) (a : Nat → Nat) : Prop := RefX F b op p1 p2 M N a (fX3_refusalOf F b op p1 p2 M) (mNot F op p1 p2 N)
theorem den (r : Nat) (d : Int32) (c : Int32) : fX12_denies F (nI r) d c N = some (c, up2 (up2 N 119 1 (nI r)) 119 2 d) := rfl
theorem ref0 (h : WF a) (hc : CC M b a) (hN : N 120 = rowI a) (p1 p2 : Int32) : Ref F b 0 p1 p2 M N a := by
  have hn := h.n
  have n1 : M (b + 1) 3 = nI (a 0) := hc.n
  unfold Ref
  have e1 : fX3_refusalOf F b 0 p1 p2 M = bindM (fX3_refusalOfShelf F b p1 M) (fun r3 M1 => some (r3, M1)) := rfl
  have e2 : mNot F 0 p1 p2 N = fX12_notShelf F p1 N := rfl
  rw [e1, e2]
  unfold fX3_refusalOfShelf fX12_notShelf
  rw [mBetw]
  simp only [bM]
  by_cases h1 : p1 < 0
  · refine ⟨7, by omega, by rw [if_pos h1]; rfl, Or.inr (Or.inr (Or.inl ⟨rfl, Or.inl rfl, by rw [decide_eq_false (fun z => z.1 h1)]; rfl⟩))⟩
  · obtain ⟨j, hj, rfl⟩ := nI_of h1
    rw [if_neg h1]
    by_cases h2 : j ≤ 99
    · rw [if_pos (leR (n := 99) hj (by decide) h2), n1, decide_eq_true ⟨h1, nltL (n := 99) hj (by decide) h2⟩, if_pos rfl, hN, rowI_at]
      by_cases h3 : a 0 < 12
      · rw [if_pos (ltR (n := 12) (by omega) (by decide) h3), if_neg (show ¬ nI (a 0) = 12 from neL (n := 12) (by omega) (by decide) (by omega))]
        exact ⟨0, by omega, rfl, Or.inl ⟨rfl, rfl, j, 0, rfl, fun z => by omega, h2, h3⟩⟩
      · rw [if_neg (nltR (n := 12) (by omega) (by decide) (by omega)), if_pos (show nI (a 0) = 12 from eqL (n := 12) (by omega))]
        exact ⟨1, by omega, rfl, Or.inr (Or.inr (Or.inr ⟨by omega, by omega, by omega, 12, rfl, rfl⟩))⟩
    · rw [if_neg (nleR (n := 99) hj (by decide) (by omega)), decide_eq_false (fun z => z.2 (ltL (n := 99) hj (by decide) (by omega)))]
      exact ⟨7, by omega, rfl, Or.inr (Or.inr (Or.inl ⟨rfl, Or.inl rfl, rfl⟩))⟩
theorem ref12 (h : WF a) (hb : lay b = 1) (hc : CC M b a) (hN : N 120 = rowI a) (p1 p2 : Int32) : Ref F b 1 p1 p2 M N a ∧ Ref F b 2 p1 p2 M N a := by
  have hn := h.n
  have hp := h.p
  have q1 : M (b + 1) 4 = nI (a 1) := hc.p
  have r1 : fX3_refusalOf F b 1 p1 p2 M = bindM (fX3_refusalOfLink F b p1 p2 M) (fun r6 M4 => some (r6, M4)) := rfl
  have r2 : fX3_refusalOf F b 2 p1 p2 M = bindM (fX3_refusalOfCut F b p1 p2 M) (fun r9 M7 => some (r9, M7)) := rfl
  have m1 : mNot F 1 p1 p2 N = fX12_notLink F p1 p2 N := rfl
  have m2 : mNot F 2 p1 p2 N = fX12_notUnlink F p1 p2 N := rfl
  unfold Ref
  rw [r1, r2, m1, m2]
  unfold fX3_refusalOfLink fX3_refusalOfCut fX12_notLink fX12_notUnlink
  rw [cHas hc, mShelf h hN]
  simp only [bM]
  cases w1 : isW p1 (a 0) with
  | false =>
    exact ⟨⟨6, by omega, rfl, Or.inr (Or.inl ⟨rfl, by omega, by omega, rfl⟩)⟩, ⟨6, by omega, rfl, Or.inr (Or.inl ⟨rfl, by omega, by omega, rfl⟩)⟩⟩
  | true =>
    rw [if_pos rfl, if_pos rfl, if_pos rfl, if_pos rfl, cHas hc, mShelf h hN]
    simp only [bM]
    cases w2 : isW p2 (a 0) with
    | false =>
      exact ⟨⟨6, by omega, rfl, Or.inr (Or.inl ⟨rfl, by omega, by omega, rfl⟩)⟩, ⟨6, by omega, rfl, Or.inr (Or.inl ⟨rfl, by omega, by omega, rfl⟩)⟩⟩
    | true =>
      obtain ⟨x, hx, rfl⟩ := isW_t w1 (by omega)
      obtain ⟨y, hy, rfl⟩ := isW_t w2 (by omega)
      rw [if_pos rfl, if_pos rfl, if_pos rfl, if_pos rfl, areCon (ly1_1 hb) (NB.of hc) (by omega) (by omega), isLinked_m hN (by omega) (by omega) (h.l1 x y (by omega) (by omega))]
      simp only [bM]
      rw [q1, hN, rowI_at]
      constructor
      · by_cases w3 : x = y
        · rw [if_pos (eq2 w3), if_pos (eq2 w3)]
          exact ⟨2, by omega, rfl, Or.inr (Or.inr (Or.inr ⟨by omega, by omega, by omega, nI x, rfl, rfl⟩))⟩
        · rw [if_neg (ne2 (by omega) (by omega) w3), if_neg (ne2 (by omega) (by omega) w3)]
          by_cases w4 : lk a x y = 1
          · rw [if_pos (decide_eq_true w4), if_pos (decide_eq_true w4)]
            exact ⟨3, by omega, rfl, Or.inr (Or.inr (Or.inr ⟨by omega, by omega, by omega, nI (a 1), by show some (M (b + 1) 4, M) = _; rw [q1], rfl⟩))⟩
          · rw [if_neg (show ¬ decide (lk a x y = 1) = true by simp [w4]), if_neg (show ¬ decide (lk a x y = 1) = true by simp [w4])]
            by_cases w5 : a 1 < 20
            · rw [if_pos (ltR (n := 20) (by omega) (by decide) w5), if_neg (show ¬ nI (a 1) = 20 from neL (n := 20) (by omega) (by decide) (by omega))]
              exact ⟨0, by omega, rfl, Or.inl ⟨rfl, rfl, x, y, rfl, fun _ => rfl, hx, hy, w3, w4, w5⟩⟩
            · rw [if_neg (nltR (n := 20) (by omega) (by decide) (by omega)), if_pos (show nI (a 1) = 20 from eqL (n := 20) (by omega))]
              exact ⟨1, by omega, rfl, Or.inr (Or.inr (Or.inr ⟨by omega, by omega, by omega, 20, rfl, rfl⟩))⟩
      · by_cases w4 : lk a x y = 1
        · rw [if_pos (decide_eq_true w4), if_pos (decide_eq_true w4)]
          exact ⟨0, by omega, rfl, Or.inl ⟨rfl, rfl, x, y, rfl, fun _ => rfl, hx, hy, w4⟩⟩
        · rw [if_neg (show ¬ decide (lk a x y = 1) = true by simp [w4]), if_neg (show ¬ decide (lk a x y = 1) = true by simp [w4])]
          exact ⟨4, by omega, rfl, Or.inr (Or.inr (Or.inr ⟨by omega, by omega, by omega, nI (a 1), by show some (M (b + 1) 4, M) = _; rw [q1], rfl⟩))⟩
theorem refB (h : WF a) (hc : CC M b a) (hN : N 120 = rowI a) (p1 p2 : Int32) : Ref F b 3 p1 p2 M N a ∧ Ref F b 4 p1 p2 M N a := by
  have hn := h.n
  have r1 : fX3_refusalOf F b 3 p1 p2 M = bindM (fX3_refusalOfBlindness F b p1 true M) (fun r12 M10 => some (r12, M10)) := rfl
  have r2 : fX3_refusalOf F b 4 p1 p2 M = bindM (fX3_refusalOfBlindness F b p1 false M) (fun r12 M10 => some (r12, M10)) := rfl
  have m1 : mNot F 3 p1 p2 N = fX12_notBlind F p1 1 N := rfl
  have m2 : mNot F 4 p1 p2 N = fX12_notBlind F p1 0 N := rfl
  unfold Ref
  rw [r1, r2, m1, m2]
  unfold fX3_refusalOfBlindness fX12_notBlind
  rw [cHas hc, mShelf h hN]
  simp only [bM]
  cases w1 : isW p1 (a 0) with
  | false =>
    exact ⟨⟨6, by omega, rfl, Or.inr (Or.inl ⟨rfl, by omega, by omega, rfl⟩)⟩, ⟨6, by omega, rfl, Or.inr (Or.inl ⟨rfl, by omega, by omega, rfl⟩)⟩⟩
  | true =>
    obtain ⟨x, hx, rfl⟩ := isW_t w1 (by omega)
    have hb := h.bl x (by omega)
    rw [if_pos rfl, if_pos rfl, if_pos rfl, if_pos rfl, bit_holdsF (by omega), show bitb (M (b + 1) 2) x = decide (x < 12 ∧ a (26 + x) = 1) from hc.bl x (by omega), lit 26, nI_add, inbN (by omega), ckd _ (by omega), ckd _ (by omega), nI_cl (by omega), hN, rowI_at]
    simp only [bM]
    by_cases w : a (26 + x) = 1
    · rw [decide_eq_true ⟨by omega, w⟩, if_pos (show nI (a (26 + x)) = 1 from eqL w), if_neg (show ¬ nI (a (26 + x)) = 0 from neL (n := 0) (by omega) (by decide) (by omega))]
      exact ⟨⟨5, by omega, rfl, Or.inr (Or.inr (Or.inr ⟨by omega, by omega, by omega, 1, rfl, rfl⟩))⟩, ⟨0, by omega, rfl, Or.inl ⟨rfl, rfl, x, 0, rfl, fun _ => by omega, hx, by omega⟩⟩⟩
    · rw [decide_eq_false (fun z => w z.2), if_neg (show ¬ nI (a (26 + x)) = 1 from neL (n := 1) (by omega) (by decide) w), if_pos (show nI (a (26 + x)) = 0 from eqL (n := 0) (by omega))]
      exact ⟨⟨0, by omega, rfl, Or.inl ⟨rfl, rfl, x, 0, rfl, fun _ => by omega, hx, by omega⟩⟩, ⟨5, by omega, rfl, Or.inr (Or.inr (Or.inr ⟨by omega, by omega, by omega, 0, rfl, rfl⟩))⟩⟩
theorem ref5 (h : WF a) (hb : lay b = 1) (hc : CC M b a) (hN : N 120 = rowI a) (p1 p2 : Int32) : Ref F b 5 p1 p2 M N a := by
  have hn := h.n
  have r1 : fX3_refusalOf F b 5 p1 p2 M = bindM (fX3_refusalOfFill F b p1 p2 M) (fun r12 M10 => some (r12, M10)) := rfl
  have m1 : mNot F 5 p1 p2 N = fX12_notFill F p1 p2 N := rfl
  unfold Ref
  rw [r1, m1]
  unfold fX3_refusalOfFill fX12_notFill
  rw [cHas hc, mShelf h hN]
  simp only [bM]
  cases w1 : isW p1 (a 0) with
  | false => exact ⟨6, by omega, rfl, Or.inr (Or.inl ⟨rfl, by omega, by omega, rfl⟩)⟩
  | true =>
    obtain ⟨x, hx, rfl⟩ := isW_t w1 (by omega)
    have hg := h.gr x (by omega)
    rw [if_pos rfl, if_pos rfl, mBetw]
    simp only [bM]
    by_cases h1 : p2 < 1
    · rw [if_pos h1, decide_eq_false (fun z => z.1 h1)]
      exact ⟨7, by omega, rfl, Or.inr (Or.inr (Or.inl ⟨rfl, by omega, rfl⟩))⟩
    · have h0 : ¬ p2 < 0 := fun z => h1 (Int32.lt_trans z (by decide))
      obtain ⟨y, hy, rfl⟩ := nI_of h0
      have hy1 : 1 ≤ y := Classical.byContradiction fun z => h1 (ltR (n := 1) hy (by decide) (by omega))
      rw [if_neg h1]
      by_cases h2 : y ≤ 99
      · rw [if_pos (leR (n := 99) hy (by decide) h2), decide_eq_true ⟨h1, nltL (n := 99) hy (by decide) h2⟩, if_pos rfl, at_in (al1_2 hb) (by decide) (by omega), lit 14, nI_add, inbN (by omega), ckd _ (by omega), nI_cl (by omega), hN, rowI_at, nI_add]
        simp only [bM]
        rw [show M (b + 2) x = nI (a (14 + x)) from hc.gr x (by omega), nI_add]
        by_cases h3 : a (14 + x) + y ≤ 99
        · rw [if_pos (leR (n := 99) (by omega) (by decide) h3), if_pos (leR (n := 99) (by omega) (by decide) h3)]
          exact ⟨0, by omega, rfl, Or.inl ⟨rfl, rfl, x, y, rfl, fun _ => rfl, hx, hy1, h2, h3⟩⟩
        · rw [if_neg (nleR (n := 99) (by omega) (by decide) (by omega)), if_neg (nleR (n := 99) (by omega) (by decide) (by omega))]
          exact ⟨1, by omega, rfl, Or.inr (Or.inr (Or.inr ⟨by omega, by omega, by omega, 99, rfl, rfl⟩))⟩
      · rw [if_neg (nleR (n := 99) hy (by decide) (by omega)), decide_eq_false (fun z => z.2 (ltL (n := 99) hy (by decide) (by omega)))]
        exact ⟨7, by omega, rfl, Or.inr (Or.inr (Or.inl ⟨rfl, by omega, rfl⟩))⟩
theorem ref6 (h : WF a) (hc : CC M b a) (hN : N 120 = rowI a) (p1 p2 : Int32) : Ref F b 6 p1 p2 M N a := by
  have hn := h.n
  have ht := h.t
  have r1 : fX3_refusalOf F b 6 p1 p2 M = bindM (fX3_refusalOfStop F b p1 M) (fun r12 M10 => some (r12, M10)) := rfl
  have m1 : mNot F 6 p1 p2 N = fX12_notStop F p1 N := rfl
  unfold Ref
  rw [r1, m1]
  unfold fX3_refusalOfStop fX12_notStop
  rw [cHas hc, mShelf h hN]
  simp only [bM]
  cases w1 : isW p1 (a 0) with
  | false => exact ⟨6, by omega, rfl, Or.inr (Or.inl ⟨rfl, by omega, by omega, rfl⟩)⟩
  | true =>
    obtain ⟨x, hx, rfl⟩ := isW_t w1 (by omega)
    rw [if_pos rfl, if_pos rfl, show M (b + 4) 1 = nI (a 2) from hc.t, hN, rowI_at]
    by_cases h3 : a 2 < 10
    · rw [if_pos (ltR (n := 10) (by omega) (by decide) h3), if_neg (show ¬ nI (a 2) = 10 from neL (n := 10) (by omega) (by decide) (by omega))]
      exact ⟨0, by omega, rfl, Or.inl ⟨rfl, rfl, x, 0, rfl, fun z => by omega, hx, h3⟩⟩
    · rw [if_neg (nltR (n := 10) (by omega) (by decide) (by omega)), if_pos (show nI (a 2) = 10 from eqL (n := 10) (by omega))]
      exact ⟨1, by omega, rfl, Or.inr (Or.inr (Or.inr ⟨by omega, by omega, by omega, 10, rfl, rfl⟩))⟩
theorem ref7 (h : WF a) (hc : CC M b a) (hN : N 120 = rowI a) (p1 p2 : Int32) : Ref F b 7 p1 p2 M N a := by
  have ht := h.t
  have r1 : fX3_refusalOf F b 7 p1 p2 M = bindM (fX6_hasStop F (b + 4) p1 M) (fun r24 M22 => if r24 = true then some (0, M22) else some (6, M22)) := rfl
  have m1 : mNot F 7 p1 p2 N = fX12_notDrop F p1 N := rfl
  unfold Ref
  rw [r1, m1]
  unfold fX6_hasStop fX12_notDrop
  rw [show M (b + 4) 1 = nI (a 2) from hc.t, cWithin, hN, rowI_at, mWithin p1 (by omega)]
  simp only [bM]
  cases w1 : isW p1 (a 2) with
  | false => exact ⟨6, by omega, rfl, Or.inr (Or.inl ⟨rfl, by omega, by omega, rfl⟩)⟩
  | true =>
    obtain ⟨x, hx, rfl⟩ := isW_t w1 (by omega)
    exact ⟨0, by omega, rfl, Or.inl ⟨rfl, rfl, x, 0, rfl, fun z => by omega, hx⟩⟩
theorem refR {lo hi : Nat} (hlo : lo < 2 ^ 31) (hhi : hi < 2 ^ 31) (p1 : Int32) : (fX3_refusalOfRange F b p1 (nI lo) (nI hi) M = some (7, M) ∧ fX12_isBetween F p1 (nI lo) (nI hi) N = some (false, N)) ∨ (fX3_refusalOfRange F b p1 (nI lo) (nI hi) M = some (0, M) ∧ fX12_isBetween F p1 (nI lo) (nI hi) N = some (true, N) ∧ ∃ x, p1 = nI x ∧ x ≤ hi) := by
  unfold fX3_refusalOfRange
  rw [mBetw]
  by_cases h1 : p1 < nI lo
  · rw [if_pos h1, decide_eq_false (fun z => z.1 h1)]
    exact Or.inl ⟨rfl, rfl⟩
  · have h0 : ¬ p1 < 0 := fun z => h1 (Int32.lt_of_lt_of_le z (nI_pos' hlo))
    obtain ⟨x, hx, rfl⟩ := nI_of h0
    rw [if_neg h1]
    by_cases h2 : x ≤ hi
    · rw [if_pos (le2 hx hhi h2), decide_eq_true ⟨h1, nlt2 hhi hx h2⟩]
      exact Or.inr ⟨rfl, rfl, x, rfl, h2⟩
    · rw [if_neg (nle2 hx hhi (by omega)), decide_eq_false (fun z => z.2 (lt2 hhi hx (by omega)))]
      exact Or.inl ⟨rfl, rfl⟩
theorem ref8 (p1 p2 : Int32) : Ref F b 8 p1 p2 M N a ∧ Ref F b 9 p1 p2 M N a ∧ Ref F b 10 p1 p2 M N a := by
  refine ⟨?_, ?_, ?_⟩
  · have r1 : fX3_refusalOf F b 8 p1 p2 M = bindM (fX3_refusalOfRange F b p1 (nI 0) (nI 16) M) (fun r12 M10 => some (r12, M10)) := rfl
    have m1 : mNot F 8 p1 p2 N = bindM (fX12_isBetween F p1 (nI 0) (nI 16) N) (fun r3 M1 => if r3 = true then some (0, M1) else some (1, M1)) := rfl
    unfold Ref
    rw [r1, m1]
    rcases refR (F := F) (b := b) (M := M) (N := N) (lo := 0) (hi := 16) (by decide) (by decide) p1 with ⟨e1, e2⟩ | ⟨e1, e2, x, rfl, hx⟩
    · rw [e1, e2]
      exact ⟨7, by omega, rfl, Or.inr (Or.inr (Or.inl ⟨rfl, by omega, rfl⟩))⟩
    · rw [e1, e2]
      exact ⟨0, by omega, rfl, Or.inl ⟨rfl, rfl, x, 0, rfl, fun z => by omega, hx⟩⟩
  · have r1 : fX3_refusalOf F b 9 p1 p2 M = bindM (fX3_refusalOfRange F b p1 (nI 0) (nI 1023) M) (fun r12 M10 => some (r12, M10)) := rfl
    have m1 : mNot F 9 p1 p2 N = bindM (fX12_isBetween F p1 (nI 0) (nI 1023) N) (fun r3 M1 => if r3 = true then some (0, M1) else some (1, M1)) := rfl
    unfold Ref
    rw [r1, m1]
    rcases refR (F := F) (b := b) (M := M) (N := N) (lo := 0) (hi := 1023) (by decide) (by decide) p1 with ⟨e1, e2⟩ | ⟨e1, e2, x, rfl, hx⟩
    · rw [e1, e2]
      exact ⟨7, by omega, rfl, Or.inr (Or.inr (Or.inl ⟨rfl, by omega, rfl⟩))⟩
    · rw [e1, e2]
      exact ⟨0, by omega, rfl, Or.inl ⟨rfl, rfl, x, 0, rfl, fun z => by omega, hx⟩⟩
  · have r1 : fX3_refusalOf F b 10 p1 p2 M = bindM (fX3_refusalOfRange F b p1 (nI 1) (nI 60) M) (fun r12 M10 => some (r12, M10)) := rfl
    have m1 : mNot F 10 p1 p2 N = bindM (fX12_isBetween F p1 (nI 1) (nI 60) N) (fun r3 M1 => if r3 = true then some (0, M1) else some (1, M1)) := rfl
    unfold Ref
    rw [r1, m1]
    rcases refR (F := F) (b := b) (M := M) (N := N) (lo := 1) (hi := 60) (by decide) (by decide) p1 with ⟨e1, e2⟩ | ⟨e1, e2, x, rfl, hx⟩
    · rw [e1, e2]
      exact ⟨7, by omega, rfl, Or.inr (Or.inr (Or.inl ⟨rfl, by omega, rfl⟩))⟩
    · rw [e1, e2]
      exact ⟨0, by omega, rfl, Or.inl ⟨rfl, rfl, x, 0, rfl, fun z => by omega, hx⟩⟩
theorem refAll (h : WF a) (hb : lay b = 1) (hc : CC M b a) (hN : N 120 = rowI a) {op : Nat} (hop : op ≤ 10) (p1 p2 : Int32) : Ref F b op p1 p2 M N a := by
  match op, hop with
  | 0, _ => exact ref0 h hc hN p1 p2
  | 1, _ => exact (ref12 h hb hc hN p1 p2).1
  | 2, _ => exact (ref12 h hb hc hN p1 p2).2
  | 3, _ => exact (refB h hc hN p1 p2).1
  | 4, _ => exact (refB h hc hN p1 p2).2
  | 5, _ => exact ref5 h hb hc hN p1 p2
  | 6, _ => exact ref6 h hc hN p1 p2
  | 7, _ => exact ref7 h hc hN p1 p2
  | 8, _ => exact (ref8 p1 p2).1
  | 9, _ => exact (ref8 p1 p2).2.1
  | 10, _ => exact (ref8 p1 p2).2.2
end
section
variable {F : Nat} {M N : Mem}
def cpR (M : Mem) (p q n : Nat) : Mem := fun c => if c = q then (fun k => if k < n then M p k else M q k) else M c
theorem cpR_at {p q n k : Nat} (h : k < n) : cpR M p q n q k = M p k := by
  unfold cpR
  rw [if_pos rfl, if_pos h]
theorem cpR_ne {p q n c : Nat} (h : c ≠ q) : cpR M p q n c = M c := if_neg h
theorem copyRow {p q n : Nat} (hp : alen p = n) (hq : alen q = n) (hn : n < 2 ^ 31) : fX11_copyRow F p q M = some (cpR M p q n) := by
  unfold fX11_copyRow
  have e : imn (nI n) (nI n) = nI n := by unfold imn; split <;> rfl
  have e2 : cpok (nI n) n n = true := by
    unfold cpok
    rw [nI_cl hn]
    simp [nI_pos' hn]
  rw [hp, hq, e, e2]
  show some (cpM M p q (nI n)) = _
  congr 1
  funext c k
  unfold cpM cpR va_cpy
  by_cases h : c = q
  · rw [if_pos h, if_pos h, nI_cl hn]
    by_cases h2 : k < n
    · rw [if_pos (by omega), if_pos h2, Nat.zero_add, Nat.sub_zero]
    · rw [if_neg (by omega), if_neg h2]
  · rw [if_neg h, if_neg h]
theorem copy9 {b p : Nat} (hb : lay b = 1) (hp : lay p = 1) (hd : b + 10 ≤ p ∨ p + 10 ≤ b) : ∃ M', fX9_copyFrom F (b + 1) (p + 1) M = some M' ∧ M' (b + 1) 2 = M (p + 1) 2 ∧ M' (b + 1) 3 = M (p + 1) 3 ∧ M' (b + 1) 4 = M (p + 1) 4 ∧ (∀ k, k < 12 → M' (b + 2) k = M (p + 2) k) ∧ (∀ k, k < 12 → M' (b + 3) k = M (p + 3) k) ∧ ∀ c, c ≠ b + 1 → c ≠ b + 2 → c ≠ b + 3 → M' c = M c := by
  unfold fX9_copyFrom
  rw [copyRow (p := p + 1 + 1) (q := b + 1 + 1) (al1_2 hp) (al1_2 hb) (by decide)]
  simp only [bV]
  rw [copyRow (p := p + 1 + 2) (q := b + 1 + 2) (al1_3 hp) (al1_3 hb) (by decide)]
  simp only [bV, lM]
  refine ⟨_, rfl, ?_, ?_, ?_, fun k hk => ?_, fun k hk => ?_, fun c h1 h2 h3 => ?_⟩
  · rw [u2_same, if_neg (by decide), u2_same, if_neg (by decide), u2_same, if_pos rfl, cpR_ne (by omega), cpR_ne (by omega)]
  · rw [u2_same, if_neg (by decide), u2_same, if_pos rfl, u2_ne _ (by omega), cpR_ne (by omega), cpR_ne (by omega)]
  · rw [u2_same, if_pos rfl, u2_ne _ (by omega), u2_ne _ (by omega), cpR_ne (by omega), cpR_ne (by omega)]
  · rw [u2_ne _ (by omega), u2_ne _ (by omega), u2_ne _ (by omega), cpR_ne (by omega)]; exact cpR_at hk
  · rw [u2_ne _ (by omega), u2_ne _ (by omega), u2_ne _ (by omega)]
    rw [show b + 3 = b + 1 + 2 from rfl, cpR_at hk, cpR_ne (by omega)]
  · rw [u2_ne _ h1, u2_ne _ h1, u2_ne _ h1, cpR_ne (by omega), cpR_ne (by omega)]
theorem copy6 {b p : Nat} (hb : lay b = 1) (hp : lay p = 1) (hd : b + 10 ≤ p ∨ p + 10 ≤ b) : ∃ M', fX6_copyFrom F (b + 4) (p + 4) M = some M' ∧ M' (b + 4) 1 = M (p + 4) 1 ∧ M' (b + 4) 2 = M (p + 4) 2 ∧ M' (b + 4) 3 = M (p + 4) 3 ∧ (∀ k, k < 10 → M' (b + 5) k = M (p + 5) k) ∧ ∀ c, c ≠ b + 4 → c ≠ b + 5 → M' c = M c := by
  unfold fX6_copyFrom
  rw [copyRow (p := p + 4 + 1) (q := b + 4 + 1) (al1_5 hp) (al1_5 hb) (by decide)]
  simp only [bV, lM]
  refine ⟨_, rfl, ?_, ?_, ?_, fun k hk => ?_, fun c h1 h2 => ?_⟩
  · rw [u2_same, if_neg (by decide), u2_same, if_neg (by decide), u2_same, if_pos rfl, cpR_ne (by omega)]
  · rw [u2_same, if_neg (by decide), u2_same, if_pos rfl, u2_ne _ (by omega), cpR_ne (by omega)]
  · rw [u2_same, if_pos rfl, u2_ne _ (by omega), u2_ne _ (by omega), cpR_ne (by omega)]
  · rw [u2_ne _ (by omega), u2_ne _ (by omega), u2_ne _ (by omega)]; exact cpR_at hk
  · rw [u2_ne _ h1, u2_ne _ h1, u2_ne _ h1, cpR_ne (by omega)]
theorem copy5 {b p : Nat} (hb : lay b = 1) (hp : lay p = 1) (hd : b + 10 ≤ p ∨ p + 10 ≤ b) : ∃ M', fX5_copyFrom F (b + 6) (p + 6) M = some M' ∧ M' (b + 6) 3 = M (p + 6) 3 ∧ (∀ k, k < 8 → M' (b + 7) k = M (p + 7) k) ∧ (∀ k, k < 8 → M' (b + 8) k = M (p + 8) k) ∧ (∀ k, k < 8 → M' (b + 9) k = M (p + 9) k) ∧ ∀ c, c ≠ b + 6 → c ≠ b + 7 → c ≠ b + 8 → c ≠ b + 9 → M' c = M c := by
  unfold fX5_copyFrom
  rw [copyRow (p := p + 6 + 1) (q := b + 6 + 1) (al1_7 hp) (al1_7 hb) (by decide)]
  simp only [bV]
  rw [copyRow (p := p + 6 + 2) (q := b + 6 + 2) (al1_8 hp) (al1_8 hb) (by decide)]
  simp only [bV]
  rw [copyRow (p := p + 6 + 3) (q := b + 6 + 3) (al1_9 hp) (al1_9 hb) (by decide)]
  simp only [bV, lM]
  refine ⟨_, rfl, ?_, fun k hk => ?_, fun k hk => ?_, fun k hk => ?_, fun c h1 h2 h3 h4 => ?_⟩
  · rw [u2_same, if_pos rfl, cpR_ne (by omega), cpR_ne (by omega), cpR_ne (by omega)]
  · rw [u2_ne _ (by omega), cpR_ne (by omega), cpR_ne (by omega)]; exact cpR_at hk
  · rw [u2_ne _ (by omega), cpR_ne (by omega), show b + 8 = b + 6 + 2 from rfl, cpR_at hk, cpR_ne (by omega)]
  · rw [u2_ne _ (by omega), show b + 9 = b + 6 + 3 from rfl, cpR_at hk, cpR_ne (by omega), cpR_ne (by omega)]
  · rw [u2_ne _ h1, cpR_ne (by omega), cpR_ne (by omega), cpR_ne (by omega)]
theorem copyL {b p : Nat} (hb : lay b = 1) (hp : lay p = 1) (hd : b + 10 ≤ p ∨ p + 10 ≤ b) {a : Nat → Nat} (h : WF a) (hc : CC M p a) : ∃ M', fX3_copyFrom F b p M = some M' ∧ CC M' b a ∧ FR b M M' := by
  obtain ⟨M1, a1, a2, a3, a4, a5, a6, a7⟩ := copy9 (F := F) (M := M) hb hp hd
  obtain ⟨M2, b1, b2, b3, b4, b5, b6⟩ := copy6 (F := F) (M := M1) hb hp hd
  obtain ⟨M3, c1, c2, c3, c4, c5, c6⟩ := copy5 (F := F) (M := M2) hb hp hd
  unfold fX3_copyFrom
  rw [a1]
  simp only [bV]
  rw [b1]
  simp only [bV]
  rw [c1]
  simp only [bV, lM]
  have h8 := h.m
  have ht := h.t
  have cp : ∀ c, (c < b ∨ b + 10 ≤ c ∨ c = b) → M3 c = M c := fun c q => by rw [c6 c (by omega) (by omega) (by omega) (by omega), b6 c (by omega) (by omega), a7 c (by omega) (by omega) (by omega)]
  have hM : ∀ c, (b + 6 ≤ c) → (c < b + 10) → M2 c = M c := fun c q1 q2 => by rw [b6 c (by omega) (by omega), a7 c (by omega) (by omega) (by omega)]
  have x1 : ∀ c, (c < b ∨ b + 10 ≤ c) → M1 c = M c := fun c q => a7 c (by omega) (by omega) (by omega)
  have x2 : ∀ c, (c < b ∨ b + 10 ≤ c) → M2 c = M c := fun c q => by rw [b6 c (by omega) (by omega), x1 c q]
  have y1 : ∀ c, c ≠ b → b ≤ c → c < b + 4 → M3 c = M1 c := fun c q1 q2 q3 => by rw [c6 c (by omega) (by omega) (by omega) (by omega), b6 c (by omega) (by omega)]
  have y2 : ∀ c, b + 4 ≤ c → c < b + 6 → M3 c = M2 c := fun c q2 q3 => c6 c (by omega) (by omega) (by omega) (by omega)
  have pb := cp p (by omega)
  have e : ∀ (X : Mem) (j : Nat) (v : Int32) (c : Nat), c ≠ b → up2 X b j v c = X c := fun X j v c q => u2_ne X q
  have ep : p ≠ b := by omega
  simp only [e _ _ _ _ ep]
  rw [pb]
  refine ⟨_, rfl, ⟨?_, ?_, ?_, ?_, ?_, ?_, ?_, ?_, fun j hj => ?_, ?_, ?_, fun k hk => ?_, fun k j hk hj => ?_, ?_, ?_, ?_, fun k hk => ?_, ?_, fun k hk => ?_, fun k hk => ?_, fun k hk => ?_⟩, fun c q => ?_⟩
  · rw [← hc.rate]; simp [u2_at]
  · rw [← hc.seed]; simp [u2_at]
  · rw [← hc.mi]; simp [u2_at]
  · rw [← hc.pu]; simp [u2_at]
  · rw [← hc.ea]; simp [u2_at]
  · rw [← hc.ca]; simp [u2_at]
  · rw [← hc.go]; simp [u2_at]
  · rw [← hc.ri]; simp [u2_at]
  · rw [← hc.bl j hj]
    simp only [e _ _ _ (b + 1) (by omega)]
    rw [y1 (b + 1) (by omega) (by omega) (by omega), a2]
  · rw [← hc.n]
    simp only [e _ _ _ (b + 1) (by omega)]
    rw [y1 (b + 1) (by omega) (by omega) (by omega), a3]
  · rw [← hc.p]
    simp only [e _ _ _ (b + 1) (by omega)]
    rw [y1 (b + 1) (by omega) (by omega) (by omega), a4]
  · rw [← hc.gr k hk]
    simp only [e _ _ _ (b + 2) (by omega)]
    rw [y1 (b + 2) (by omega) (by omega) (by omega), a5 k hk]
  · rw [← hc.nb k j hk hj]
    simp only [e _ _ _ (b + 3) (by omega)]
    rw [y1 (b + 3) (by omega) (by omega) (by omega), a6 k hk]
  · rw [← hc.t]
    simp only [e _ _ _ (b + 4) (by omega)]
    rw [y2 (b + 4) (by omega) (by omega), b2, x1 (p + 4) (by omega)]
  · rw [← hc.cat]
    simp only [e _ _ _ (b + 4) (by omega)]
    rw [y2 (b + 4) (by omega) (by omega), b3, x1 (p + 4) (by omega)]
  · rw [← hc.goal]
    simp only [e _ _ _ (b + 4) (by omega)]
    rw [y2 (b + 4) (by omega) (by omega), b4, x1 (p + 4) (by omega)]
  · rw [← hc.st k hk]
    simp only [e _ _ _ (b + 5) (by omega)]
    rw [y2 (b + 5) (by omega) (by omega), b5 k (by omega), x1 (p + 5) (by omega)]
  · rw [← hc.m]
    simp only [e _ _ _ (b + 6) (by omega)]
    rw [c2, x2 (p + 6) (by omega)]
  · rw [← hc.ms k hk, pos_00]
    simp only [e _ _ _ (b + 7) (by omega)]
    rw [c3 k (by omega), x2 (p + 7) (by omega)]
  · rw [← hc.me k hk, pos_00]
    simp only [e _ _ _ (b + 8) (by omega)]
    rw [c4 k (by omega), x2 (p + 8) (by omega)]
  · rw [← hc.mh k hk, pos_00]
    simp only [e _ _ _ (b + 9) (by omega)]
    rw [c5 k (by omega), x2 (p + 9) (by omega)]
  · simp only [e _ _ _ c (by omega)]
    exact cp c (by omega)
theorem cpLoop {α : Type} {src dst : Nat} (s0 d0 : Nat) (hsd : src ≠ dst) (f : (Mem → Option α) → Nat → Int32 → Mem → Option α) (kx : Mem → Option α) (h1 : ∀ n M, f kx (n + 1) (nI 216) M = kx M) (h2 : ∀ n v M, v < 216 → f kx (n + 1) (nI v) M = f kx n (nI (v + 1)) (up2 M dst (d0 + v) (M src (s0 + v)))) (m : Nat) : ∀ v, v + m = 216 → ∀ n, m < n → ∀ M, ∃ M', f kx n (nI v) M = kx M' ∧ (∀ c, c ≠ dst → M' c = M c) ∧ (∀ k, (k < d0 + v ∨ d0 + 216 ≤ k) → M' dst k = M dst k) ∧ ∀ k, v ≤ k → k < 216 → M' dst (d0 + k) = M src (s0 + k) := by
  induction m with
  | zero =>
    intro v hv n hn M
    obtain ⟨n', rfl⟩ : ∃ n', n = n' + 1 := ⟨n - 1, by omega⟩
    have e : v = 216 := by omega
    subst e
    exact ⟨M, h1 n' M, fun _ _ => rfl, fun _ _ => rfl, fun k q1 q2 => by omega⟩
  | succ m ih =>
    intro v hv n hn M
    obtain ⟨n', rfl⟩ : ∃ n', n = n' + 1 := ⟨n - 1, by omega⟩
    obtain ⟨M', i1, i2, i3, i4⟩ := ih (v + 1) (by omega) n' (by omega) (up2 M dst (d0 + v) (M src (s0 + v)))
    refine ⟨M', by rw [h2 n' v M (by omega), i1], fun c q => by rw [i2 c q, u2_ne _ q], fun k q => ?_, fun k q1 q2 => ?_⟩
    · rw [i3 k (by omega), u2_same, if_neg (by omega)]
    · by_cases w : k = v
      · subst w
        rw [i3 _ (by omega), u2_same, if_pos rfl]
      · rw [i4 k (by omega) q2, u2_ne _ hsd]
end
section
variable {F : Nat} {M N : Mem} {R : Nat → Nat → Nat} {n : Nat → Nat} {T : Nat → Nat → Int32}
def updR {α : Type} (R : Nat → Nat → α) (i : Nat) (r : Nat → α) : Nat → Nat → α := fun j => if j = i then r else R j
theorem updR_same {α : Type} (R : Nat → Nat → α) (i : Nat) (r : Nat → α) : updR R i r i = r := if_pos rfl
theorem updR_ne {α : Type} (R : Nat → Nat → α) {i j : Nat} (r : Nat → α) (h : j ≠ i) : updR R i r j = R j := if_neg h
def om (x : Nat) : Int32 := if x = 0 then -1 else nI (x - 1)
def HIc (M : Mem) (R : Nat → Nat → Nat) (n : Nat → Nat) : Prop := M 31 1 = nI (n 0) ∧ M 31 2 = nI (n 1) ∧ ∀ j, j < n 1 → CC M (33 + 10 * ((n 0 + j) % 8)) (R ((n 0 + j) % 8))
def HIm (M : Mem) (R : Nat → Nat → Nat) (n : Nat → Nat) : Prop := M 119 12 = nI (n 0) ∧ M 119 11 = nI (n 1) ∧ ∀ j, j < n 1 → ∀ k, k < 216 → M 121 (216 * ((n 0 + j) % 8) + k) = nI (R ((n 0 + j) % 8) k)
def RC (M : Mem) (R : Nat → Nat → Nat) (n : Nat → Nat) (T : Nat → Nat → Int32) : Prop := CC M 1 (R 8) ∧ HIc M R n ∧ (M 0 3 = nI (n 2) ∧ (n 2 = 1 → CC M 21 (R 9))) ∧ (M 115 1 = nI (n 3) ∧ ∀ k, k < n 3 → M 116 k = T 0 k) ∧ (M 117 1 = nI (n 4) ∧ ∀ k, k < n 4 → M 118 k = T 1 k) ∧ M 0 8 = om (n 7) ∧ M 0 9 = (if n 5 = 0 then -1 else nI (n 5)) ∧ (n 5 ≠ 0 → M 0 10 = T 2 0) ∧ M 0 11 = (if n 6 = 0 then -1 else nI (n 6))
def RM (M : Mem) (R : Nat → Nat → Nat) (n : Nat → Nat) (T : Nat → Nat → Int32) : Prop := M 120 = rowI (R 8) ∧ HIm M R n ∧ (M 119 13 = nI (n 2) ∧ (n 2 = 1 → ∀ k, k < 216 → M 122 k = nI (R 9 k))) ∧ (M 119 18 = nI (n 3) ∧ ∀ k, k < n 3 → M 127 k = T 0 k) ∧ (M 119 16 = nI (n 4) ∧ ∀ k, k < n 4 → M 126 k = T 1 k) ∧ M 119 20 = om (n 7) ∧ M 119 3 = nI (n 5) ∧ (n 5 ≠ 0 → M 119 4 = T 2 0) ∧ M 119 5 = nI (n 6) ∧ M 119 1 = 0
def OG (R : Nat → Nat → Nat) (n : Nat → Nat) (T : Nat → Nat → Int32) : Prop := WF (R 8) ∧ n 0 < 8 ∧ n 1 ≤ 8 ∧ (∀ j, j < n 1 → WF (R ((n 0 + j) % 8))) ∧ n 2 ≤ 1 ∧ (n 2 = 1 → WF (R 9)) ∧ n 3 ≤ 60 ∧ (∀ k, k < n 3 → nrc (T 0 k) = true) ∧ n 4 ≤ 64 ∧ (∀ k, k < n 4 → nrc (T 1 k) = true) ∧ n 5 ≤ 7 ∧ n 6 ≤ 7 ∧ n 7 ≤ 61
theorem OG.w (h : OG R n T) : WF (R 8) := h.1
theorem OG.f (h : OG R n T) : n 0 < 8 := h.2.1
theorem OG.c (h : OG R n T) : n 1 ≤ 8 := h.2.2.1
theorem OG.wh (h : OG R n T) : ∀ j, j < n 1 → WF (R ((n 0 + j) % 8)) := h.2.2.2.1
theorem OG.s (h : OG R n T) : n 2 ≤ 1 := h.2.2.2.2.1
theorem OG.ws (h : OG R n T) : n 2 = 1 → WF (R 9) := h.2.2.2.2.2.1
theorem OG.tl (h : OG R n T) : n 3 ≤ 60 := h.2.2.2.2.2.2.1
theorem OG.tn (h : OG R n T) : ∀ k, k < n 3 → nrc (T 0 k) = true := h.2.2.2.2.2.2.2.1
theorem OG.ll (h : OG R n T) : n 4 ≤ 64 := h.2.2.2.2.2.2.2.2.1
theorem OG.ln (h : OG R n T) : ∀ k, k < n 4 → nrc (T 1 k) = true := h.2.2.2.2.2.2.2.2.2.1
theorem OG.d (h : OG R n T) : n 5 ≤ 7 := h.2.2.2.2.2.2.2.2.2.2.1
theorem OG.ca (h : OG R n T) : n 6 ≤ 7 := h.2.2.2.2.2.2.2.2.2.2.2.1
theorem OG.fa (h : OG R n T) : n 7 ≤ 61 := h.2.2.2.2.2.2.2.2.2.2.2.2
theorem HIc.fr (h : HIc M R n) {M' : Mem} (hM : ∀ c, 31 ≤ c → c < 113 → M' c = M c) : HIc M' R n := ⟨by rw [hM 31 (by omega) (by omega)]; exact h.1, by rw [hM 31 (by omega) (by omega)]; exact h.2.1, fun j hj => CL.fr (h.2.2 j hj) fun c q1 q2 => hM c (by omega) (by omega)⟩
theorem RC.fr (h : RC M R n T) {M' : Mem} (hM : ∀ c, c < 119 → ¬ (11 ≤ c ∧ c < 21) → c ≠ 32 → c ≠ 113 → c ≠ 114 → M' c = M c) : RC M' R n T := by
  have e : ∀ c, c < 119 → ¬ (11 ≤ c ∧ c < 21) → c ≠ 32 → c ≠ 113 → c ≠ 114 → M' c = M c := hM
  obtain ⟨h1, h2, h3, h4, h5, h6, h7, h8, h9⟩ := h
  refine ⟨CL.fr h1 fun c q1 q2 => e c (by omega) (by omega) (by omega) (by omega) (by omega), ⟨?_, ?_, fun j hj => CL.fr (h2.2.2 j hj) fun c q1 q2 => e c (by omega) (by omega) (by omega) (by omega) (by omega)⟩, ⟨?_, fun q => CL.fr (h3.2 q) fun c q1 q2 => e c (by omega) (by omega) (by omega) (by omega) (by omega)⟩, ⟨?_, fun k hk => ?_⟩, ⟨?_, fun k hk => ?_⟩, ?_, ?_, fun q => ?_, ?_⟩
  · rw [e 31 (by omega) (by omega) (by omega) (by omega) (by omega)]; exact h2.1
  · rw [e 31 (by omega) (by omega) (by omega) (by omega) (by omega)]; exact h2.2.1
  · rw [e 0 (by omega) (by omega) (by omega) (by omega) (by omega)]; exact h3.1
  · rw [e 115 (by omega) (by omega) (by omega) (by omega) (by omega)]; exact h4.1
  · rw [e 116 (by omega) (by omega) (by omega) (by omega) (by omega)]; exact h4.2 k hk
  · rw [e 117 (by omega) (by omega) (by omega) (by omega) (by omega)]; exact h5.1
  · rw [e 118 (by omega) (by omega) (by omega) (by omega) (by omega)]; exact h5.2 k hk
  · rw [e 0 (by omega) (by omega) (by omega) (by omega) (by omega)]; exact h6
  · rw [e 0 (by omega) (by omega) (by omega) (by omega) (by omega)]; exact h7
  · rw [e 0 (by omega) (by omega) (by omega) (by omega) (by omega)]; exact h8 q
  · rw [e 0 (by omega) (by omega) (by omega) (by omega) (by omega)]; exact h9
theorem RM.fr (h : RM M R n T) {M' : Mem} (hM : ∀ c, (c = 120 ∨ c = 121 ∨ c = 122 ∨ c = 126 ∨ c = 127) → M' c = M c) (h119 : ∀ i, i ≠ 0 → M' 119 i = M 119 i) : RM M' R n T := by
  obtain ⟨h1, h2, h3, h4, h5, h6, h7, h8, h9, h10⟩ := h
  refine ⟨by rw [hM 120 (by omega)]; exact h1, ⟨by rw [h119 _ (by decide)]; exact h2.1, by rw [h119 _ (by decide)]; exact h2.2.1, fun j hj k hk => by rw [hM 121 (by omega)]; exact h2.2.2 j hj k hk⟩, ⟨by rw [h119 _ (by decide)]; exact h3.1, fun q k hk => by rw [hM 122 (by omega)]; exact h3.2 q k hk⟩, ⟨by rw [h119 _ (by decide)]; exact h4.1, fun k hk => by rw [hM 127 (by omega)]; exact h4.2 k hk⟩, ⟨by rw [h119 _ (by decide)]; exact h5.1, fun k hk => by rw [hM 126 (by omega)]; exact h5.2 k hk⟩, by rw [h119 _ (by decide)]; exact h6, by rw [h119 _ (by decide)]; exact h7, fun q => by rw [h119 _ (by decide)]; exact h8 q, by rw [h119 _ (by decide)]; exact h9, by rw [h119 _ (by decide)]; exact h10⟩
def Rel (M : Mem) : Prop := ∃ R n T, OG R n T ∧ RC M R n T ∧ RM M R n T
def hR (R : Nat → Nat → Nat) (n : Nat → Nat) (r : Nat → Nat) : Nat → Nat → Nat := updR R ((n 0 + n 1) % 8) r
def hN (n : Nat → Nat) : Nat → Nat := if n 1 = 8 then updN n 0 ((n 0 + 1) % 8) else updN n 1 (n 1 + 1)
theorem hN_hi (n : Nat → Nat) {k : Nat} (h : 2 ≤ k) : hN n k = n k := by
  unfold hN
  split <;> exact updN_ne _ (by omega)
theorem hist_new {P : Nat → (Nat → Nat) → Prop} {r : Nat → Nat} (h0 : n 0 < 8) (h1 : n 1 ≤ 8) (hold : ∀ j, j < n 1 → (n 0 + j) % 8 ≠ (n 0 + n 1) % 8 → P ((n 0 + j) % 8) (R ((n 0 + j) % 8))) (hnew : P ((n 0 + n 1) % 8) r) : ∀ j, j < hN n 1 → P ((hN n 0 + j) % 8) (hR R n r ((hN n 0 + j) % 8)) := by
  intro j hj
  unfold hN at hj ⊢
  unfold hR
  by_cases q : n 1 = 8
  · rw [if_pos q] at hj ⊢
    rw [updN_ne _ (by omega)] at hj
    rw [updN_same]
    by_cases w : j = 7
    · have e : ((n 0 + 1) % 8 + j) % 8 = (n 0 + n 1) % 8 := by omega
      rw [e, updR_same]
      exact hnew
    · have e : ((n 0 + 1) % 8 + j) % 8 = (n 0 + (j + 1)) % 8 := by omega
      have e2 : (n 0 + (j + 1)) % 8 ≠ (n 0 + n 1) % 8 := by omega
      rw [e, updR_ne _ _ e2]
      exact hold (j + 1) (by omega) e2
  · rw [if_neg q] at hj ⊢
    rw [updN_same] at hj
    rw [updN_ne _ (by omega)]
    by_cases w : j = n 1
    · rw [w, updR_same]
      exact hnew
    · have e2 : (n 0 + j) % 8 ≠ (n 0 + n 1) % 8 := by omega
      rw [updR_ne _ _ e2]
      exact hold j (by omega) e2
theorem lay1 : ∀ i, i < 8 → lay (33 + 10 * i) = 1 := by decide
theorem earlier_n {c x : Nat} (hx : x ≤ 8) {f : Nat} (hf : f < 8) (h : M 31 1 = nI f) : fX2_earlierAt F 31 (nI x) M = some (some (33 + 10 * ((f + x) % 8)), M) := by
  unfold fX2_earlierAt
  rw [h, nI_add, lit 8, irmN (by omega) (by omega)]
  simp only [lM]
  rw [if_neg (nI_pos (by omega)), if_neg (nle2 (by omega) (by omega) (by omega)), inbN (by omega), ckd _ (by omega), nI_cl (by omega)]
theorem cPush {r : Nat → Nat} (h0 : n 0 < 8) (h1 : n 1 ≤ 8) (hh : HIc M R n) (hW : WF r) (hc : CC M 1 r) : ∃ M', fX2_push F 31 1 M = some M' ∧ HIc M' (hR R n r) (hN n) ∧ ∀ c, (c < 31 ∨ 113 ≤ c) → M' c = M c := by
  have hs : (n 0 + n 1) % 8 < 8 := by omega
  unfold fX2_push
  rw [hh.2.1, earlier_n (c := 0) h1 h0 hh.1]
  simp only [bM]
  have hl := lay1 _ hs
  rw [ckd _ hl]
  obtain ⟨M1, i1, i2, i3⟩ := copyL (F := F) (b := 33 + 10 * ((n 0 + n 1) % 8)) (p := 1) hl (by decide) (by omega) hW hc
  rw [i1]
  simp only [bV]
  have e31 : M1 31 = M 31 := i3 31 (by omega)
  rw [e31, hh.1, hh.2.1]
  have key : ∀ M' : Mem, (∀ c, c ≠ 31 → M' c = M1 c) → ∀ j, j < hN n 1 → CC M' (33 + 10 * ((hN n 0 + j) % 8)) (hR R n r ((hN n 0 + j) % 8)) := fun M' hM' => by
    refine hist_new (P := fun i r => CC M' (33 + 10 * i) r) h0 h1 (fun j hj hne => ?_) ?_
    · exact CL.fr (hh.2.2 j hj) fun c q1 q2 => by rw [hM' c (by omega), i3 c (by omega)]
    · exact CL.fr i2 fun c q1 q2 => hM' c (by omega)
  unfold hN at key ⊢
  by_cases q : n 1 = 8
  · rw [if_pos q] at key ⊢
    rw [if_pos (leL (n := 8) (by omega) (by decide) (by omega)), nI_1, lit 8, irmN (by omega) (by omega)]
    refine ⟨_, rfl, ⟨?_, ?_, key _ (fun c hc => u2_ne _ hc)⟩, fun c hc => by rw [u2_ne _ (by omega), i3 c (by omega)]⟩
    · rw [u2_same, if_pos rfl, updN_same]
    · rw [u2_same, if_neg (by decide), e31, hh.2.1, updN_ne _ (by decide)]
  · rw [if_neg q] at key ⊢
    rw [if_neg (nleL (n := 8) (by omega) (by decide) (by omega)), nI_1]
    refine ⟨_, rfl, ⟨?_, ?_, key _ (fun c hc => u2_ne _ hc)⟩, fun c hc => by rw [u2_ne _ (by omega), i3 c (by omega)]⟩
    · rw [u2_same, if_neg (by decide), e31, hh.1, updN_ne _ (by decide)]
    · rw [u2_same, if_pos rfl, updN_same]
theorem mCopies (hF : 300 ≤ F) : ∃ M', fX12_copies F M = some M' ∧ (∀ c, c ≠ 123 → M' c = M c) ∧ ∀ k, k < 216 → M' 123 k = M 120 k := by
  obtain ⟨M', i1, i2, i3, i4⟩ := cpLoop (src := 120) (dst := 123) 0 0 (by decide) (fun kx n v M => fX12_copies_2 F kx n v M) (fun M8 => some M8) (fun n M => by
    show fX12_copies_2 F _ (n + 1) _ M = _
    rw [fX12_copies_2, if_pos (leL (n := 216) (by decide) (by decide) (by decide))]) (fun n v M hv => by
    show fX12_copies_2 F _ (n + 1) _ M = _
    rw [fX12_copies_2, if_neg (nleL (n := 216) (by omega) (by decide) hv), inbN (by omega), ckd _ hv, ckd _ hv, nI_cl (by omega), Nat.zero_add]
    simp only [lM]
    rw [nI_1]) 216 0 (by omega) F (by omega) M
  exact ⟨M', i1, i2, fun k hk => by have := i4 k (by omega) hk; rwa [Nat.zero_add] at this⟩
theorem mGoesBack (hF : 300 ≤ F) : ∃ M', fX12_goesBack F M = some M' ∧ (∀ c, c ≠ 120 → M' c = M c) ∧ (∀ k, 216 ≤ k → M' 120 k = M 120 k) ∧ ∀ k, k < 216 → M' 120 k = M 123 k := by
  obtain ⟨M', i1, i2, i3, i4⟩ := cpLoop (src := 123) (dst := 120) 0 0 (by decide) (fun kx n v M => fX12_goesBack_2 F kx n v M) (fun M8 => some M8) (fun n M => by
    show fX12_goesBack_2 F _ (n + 1) _ M = _
    rw [fX12_goesBack_2, if_pos (leL (n := 216) (by decide) (by decide) (by decide))]) (fun n v M hv => by
    show fX12_goesBack_2 F _ (n + 1) _ M = _
    rw [fX12_goesBack_2, if_neg (nleL (n := 216) (by omega) (by decide) hv), inbN (by omega), ckd _ hv, ckd _ hv, nI_cl (by omega), Nat.zero_add]
    simp only [lM]
    rw [nI_1]) 216 0 (by omega) F (by omega) M
  exact ⟨M', i1, i2, fun k hk => i3 k (by omega), fun k hk => by have := i4 k (by omega) hk; rwa [Nat.zero_add] at this⟩
theorem mKeep47 (hF : 300 ≤ F) {s : Nat} (hs : s < 8) (kx : Mem → Option Mem) : ∃ M', fX12_keeps_47 F (nI s) kx F (nI 0) M = kx M' ∧ (∀ c, c ≠ 121 → M' c = M c) ∧ (∀ k, (k < 216 * s ∨ 216 * s + 216 ≤ k) → M' 121 k = M 121 k) ∧ ∀ k, k < 216 → M' 121 (216 * s + k) = M 123 k := by
  obtain ⟨M', i1, i2, i3, i4⟩ := cpLoop (src := 123) (dst := 121) 0 (216 * s) (by decide) (fun kx n v M => fX12_keeps_47 F (nI s) kx n v M) kx (fun n M => by
    show fX12_keeps_47 F (nI s) _ (n + 1) _ M = _
    rw [fX12_keeps_47, if_pos (leL (n := 216) (by decide) (by decide) (by decide))]) (fun n v M hv => by
    show fX12_keeps_47 F (nI s) _ (n + 1) _ M = _
    rw [fX12_keeps_47, if_neg (nleL (n := 216) (by omega) (by decide) hv), inbN (by omega), ckd _ hv, lit 216, nI_mul, nI_add, inbN (by omega), ckd _ (by omega), nI_cl (by omega), nI_cl (by omega), Nat.zero_add]
    simp only [lM]
    rw [nI_1]) 216 0 (by omega) F (by omega) M
  exact ⟨M', i1, i2, fun k hk => i3 k (by omega), fun k hk => by have := i4 k (by omega) hk; rwa [Nat.zero_add] at this⟩
theorem slotN_ne {s t k : Nat} (h : s ≠ t) (hk : k < 216) : 216 * s + k < 216 * t ∨ 216 * t + 216 ≤ 216 * s + k := by omega
theorem mKeeps {r : Nat → Nat} (hF : 300 ≤ F) (h0 : n 0 < 8) (h1 : n 1 ≤ 8) (hh : HIm M R n) (hr : ∀ k, k < 216 → M 123 k = nI (r k)) : ∃ M', fX12_keeps F M = some M' ∧ HIm M' (hR R n r) (hN n) ∧ (∀ c, c ≠ 119 → c ≠ 121 → M' c = M c) ∧ ∀ i, i ≠ 11 → i ≠ 12 → M' 119 i = M 119 i := by
  have hs : (n 0 + n 1) % 8 < 8 := by omega
  unfold fX12_keeps
  have key : ∀ M1 M' : Mem, (M1 121 = M 121) → (∀ k, (k < 216 * ((n 0 + n 1) % 8) ∨ 216 * ((n 0 + n 1) % 8) + 216 ≤ k) → M' 121 k = M1 121 k) → (∀ k, k < 216 → M' 121 (216 * ((n 0 + n 1) % 8) + k) = nI (r k)) → ∀ j, j < hN n 1 → ∀ k, k < 216 → M' 121 (216 * ((hN n 0 + j) % 8) + k) = nI (hR R n r ((hN n 0 + j) % 8) k) := fun M1 M' e0 e1 e2 => by
    refine hist_new (P := fun i r => ∀ k, k < 216 → M' 121 (216 * i + k) = nI (r k)) h0 h1 (fun j hj hne k hk => ?_) e2
    rw [e1 _ (slotN_ne hne hk), e0]
    exact hh.2.2 j hj k hk
  rw [hh.2.1]
  unfold hN at key ⊢
  by_cases q : n 1 = 8
  · rw [if_pos q] at key ⊢
    rw [if_pos (show nI (n 1) = 8 from eqL q), hh.1, lit 1, nI_add, lit 8, irmN (by omega) (by omega)]
    simp only [lM]
    rw [show up2 M 119 12 (nI ((n 0 + 1) % 8)) 119 11 = nI (n 1) by rw [u2_same, if_neg (by decide)]; exact hh.2.1, nI_sub (by omega), show up2 (up2 M 119 12 (nI ((n 0 + 1) % 8))) 119 11 (nI (n 1 - 1)) 119 12 = nI ((n 0 + 1) % 8) by rw [u2_same, if_neg (by decide), u2_same, if_pos rfl], show up2 (up2 M 119 12 (nI ((n 0 + 1) % 8))) 119 11 (nI (n 1 - 1)) 119 11 = nI (n 1 - 1) by rw [u2_same, if_pos rfl], nI_add, irmN (by omega) (by omega), show ((n 0 + 1) % 8 + (n 1 - 1)) % 8 = (n 0 + n 1) % 8 by omega]
    obtain ⟨M2, i1, i2, i3, i4⟩ := mKeep47 (F := F) (M := up2 (up2 M 119 12 (nI ((n 0 + 1) % 8))) 119 11 (nI (n 1 - 1))) hF hs (fun M20 => some (up2 M20 119 11 ((M20 119 11) + nI 1)))
    rw [show (0 : Int32) = nI 0 from rfl, i1]
    refine ⟨_, rfl, ⟨?_, ?_, key (up2 (up2 M 119 12 (nI ((n 0 + 1) % 8))) 119 11 (nI (n 1 - 1))) _ ?_ (fun k hk => ?_) (fun k hk => ?_)⟩, fun c q1 q2 => ?_, fun i q1 q2 => ?_⟩
    · rw [u2_same, if_neg (by decide), i2 _ (by decide), u2_same, if_neg (by decide), u2_same, if_pos rfl, updN_same]
    · rw [u2_same, if_pos rfl, i2 _ (by decide), u2_same, if_pos rfl, nI_add, updN_ne _ (by decide), show n 1 - 1 + 1 = n 1 by omega]
    · rw [u2_ne _ (by decide), u2_ne _ (by decide)]
    · rw [u2_ne _ (by decide)]; exact i3 k hk
    · rw [u2_ne _ (by decide), i4 k hk, u2_ne _ (by decide), u2_ne _ (by decide)]; exact hr k hk
    · rw [u2_ne _ q1, i2 c q2, u2_ne _ q1, u2_ne _ q1]
    · rw [u2_same, if_neg q1, i2 _ (by decide), u2_same, if_neg q1, u2_same, if_neg q2]
  · rw [if_neg q] at key ⊢
    rw [if_neg (show ¬ nI (n 1) = 8 from neL (n := 8) (by omega) (by decide) q), hh.1, nI_add, lit 8, irmN (by omega) (by omega)]
    simp only [lM]
    obtain ⟨M2, i1, i2, i3, i4⟩ := mKeep47 (F := F) (M := M) hF hs (fun M20 => some (up2 M20 119 11 ((M20 119 11) + 1)))
    rw [show (0 : Int32) = nI 0 from rfl, i1]
    refine ⟨_, rfl, ⟨?_, ?_, key M _ rfl (fun k hk => ?_) (fun k hk => ?_)⟩, fun c q1 q2 => ?_, fun i q1 q2 => ?_⟩
    · rw [u2_same, if_neg (by decide), i2 _ (by decide), hh.1, updN_ne _ (by decide)]
    · rw [u2_same, if_pos rfl, i2 _ (by decide), hh.2.1, nI_1, updN_same]
    · rw [u2_ne _ (by decide)]; exact i3 k hk
    · rw [u2_ne _ (by decide), i4 k hk]; exact hr k hk
    · rw [u2_ne _ q1, i2 c q2]
    · rw [u2_same, if_neg q1, i2 _ (by decide)]
end
