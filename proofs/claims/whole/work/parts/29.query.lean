section
variable {F : Nat} {M N : Mem} {a : Nat → Nat}
theorem ok_isBlind (hR : Rel M) (p : Int32) : OKL (fL_isBlind F p) (fun N => bindM (fX12_isBlind F p N) (fun r M => some (b2i r, M))) M := by
  obtain ⟨a, hW, hc, hN⟩ := hR.cur
  have hn := hW.n
  cases w : isW p (a 0) with
  | false =>
    refine okl_e0 hR one_ne ?_ (v := 0) ?_
    · unfold fL_isBlind fX11_isBlind
      rw [reqF hc w]
      rfl
    · unfold fX12_isBlind
      simp only [lM]
      rw [mShelf hW (n119 hN 0), w]
      rfl
  | true =>
    obtain ⟨k, hk, rfl⟩ := isW_t w (by omega)
    have hb := hW.bl k (by omega)
    have e2 : fX11_holds F (M 2 2) (nI k) M = some (decide (a (26 + k) = 1), M) := by
      rw [bit_holdsF (by omega), show bitb (M 2 2) k = decide (k < 12 ∧ a (26 + k) = 1) from hc.bl k (by omega)]
      have : (decide (k < 12 ∧ a (26 + k) = 1)) = decide (a (26 + k) = 1) := by simp [show k < 12 by omega]
      rw [this]
    refine okl_v0 hR (v := nI (a (26 + k))) ?_ ?_
    · unfold fL_isBlind fX11_isBlind
      rw [reqT hc w]
      simp only [bX]
      rw [e2]
      simp only [bM, bH, lM]
      by_cases q : a (26 + k) = 1
      · rw [if_pos (decide_eq_true q), q]; rfl
      · rw [if_neg (by simp [q]), show a (26 + k) = 0 by omega]; rfl
    · unfold fX12_isBlind
      simp only [lM]
      rw [mShelf hW (n119 (n129 hN _) 0), w]
      simp only [bM]
      rw [if_pos trivial, lit 26, nI_add, inbN (by omega), ckd _ (by omega), nI_cl (by omega), n119 (n129 hN _), rowI_at]
      by_cases q : a (26 + k) = 1
      · rw [if_pos (eqL (n := 1) q), q]; rfl
      · rw [if_neg (neL (n := 1) (by omega) (by decide) q), show a (26 + k) = 0 by omega]; rfl
def rkP (a : Nat → Nat) (v : Nat) : Nat → Bool := fun j => decide (a (14 + v) < a (14 + j) ∨ (a (14 + j) = a (14 + v) ∧ j < v))
theorem cRank_loop {c : Nat} (h3 : M c 3 = nI (a 0)) (hl : alen (c + 1) = 12) (hn : a 0 ≤ 12) (hg : ∀ k, k < 12 → M (c + 1) k = nI (a (14 + k))) (hg9 : ∀ k, k < 12 → a (14 + k) ≤ 99) {v : Nat} (hv : v < 12) (kx : Int32 → Mem → Option (Int32 × Mem)) (m : Nat) : ∀ w, w + m = a 0 → ∀ n, m < n → fX9_rankOf_14 F c (nI v) (nI (a (14 + v))) kx n (nI (cntB w (rkP a v))) (nI w) M = kx (nI (cntB (a 0) (rkP a v))) M := by
  induction m with
  | zero =>
    intro w hw n hn2
    obtain ⟨n', rfl⟩ : ∃ n', n = n' + 1 := ⟨n - 1, by omega⟩
    rw [fX9_rankOf_14, h3, if_pos (le2 (by omega) (by omega) (by omega)), show w = a 0 by omega]
  | succ m ih =>
    intro w hw n hn2
    obtain ⟨n', rfl⟩ : ∃ n', n = n' + 1 := ⟨n - 1, by omega⟩
    have g1 := hg9 w (by omega)
    have g2 := hg9 v (by omega)
    have z := ih (w + 1) (by omega) n' (by omega)
    have e : cntB (w + 1) (rkP a v) = cntB w (rkP a v) + (if rkP a v w = true then 1 else 0) := rfl
    rw [fX9_rankOf_14, h3, if_neg (nle2 (by omega) (by omega) (by omega)), at_in hl (by decide) (by omega)]
    simp only [bM, lM]
    rw [hg w (by omega), nI_1, nI_1]
    by_cases q1 : a (14 + v) < a (14 + w)
    · rw [if_pos (lt2 (by omega) (by omega) q1)]
      rw [e, if_pos (show rkP a v w = true from decide_eq_true (Or.inl q1))] at z
      exact z
    · rw [if_neg (nlt2 (by omega) (by omega) (by omega))]
      by_cases q2 : a (14 + w) = a (14 + v)
      · rw [if_pos (eq2 q2)]
        by_cases q3 : v ≤ w
        · rw [if_pos (le2 (by omega) (by omega) q3)]
          rw [e, if_neg (show ¬ rkP a v w = true by unfold rkP; simp; omega)] at z
          exact z
        · rw [if_neg (nle2 (by omega) (by omega) (by omega))]
          rw [e, if_pos (show rkP a v w = true from decide_eq_true (Or.inr ⟨q2, by omega⟩))] at z
          exact z
      · rw [if_neg (ne2 (by omega) (by omega) q2)]
        rw [e, if_neg (show ¬ rkP a v w = true by unfold rkP; simp; omega)] at z
        exact z
theorem mRank_loop (hN : N 120 = rowI a) (hn : a 0 ≤ 12) (hg9 : ∀ k, k < 12 → a (14 + k) ≤ 99) {v : Nat} (hv : v < 12) (q1 : Int32) (kx : Int32 → Mem → Option (Int32 × Mem)) (m : Nat) : ∀ w, w + m = a 0 → ∀ n, m < n → fX12_shelfByCheese_22 F q1 (nI v) kx n (nI (cntB w (rkP a v))) (nI w) N = kx (nI (cntB (a 0) (rkP a v))) N := by
  induction m with
  | zero =>
    intro w hw n hn2
    obtain ⟨n', rfl⟩ : ∃ n', n = n' + 1 := ⟨n - 1, by omega⟩
    rw [fX12_shelfByCheese_22, hN, rowI_at, if_pos (le2 (by omega) (by omega) (by omega)), show w = a 0 by omega]
  | succ m ih =>
    intro w hw n hn2
    obtain ⟨n', rfl⟩ : ∃ n', n = n' + 1 := ⟨n - 1, by omega⟩
    have g1 := hg9 w (by omega)
    have g2 := hg9 v (by omega)
    have z := ih (w + 1) (by omega) n' (by omega)
    have e : cntB (w + 1) (rkP a v) = cntB w (rkP a v) + (if rkP a v w = true then 1 else 0) := rfl
    rw [fX12_shelfByCheese_22, hN, rowI_at, if_neg (nle2 (by omega) (by omega) (by omega)), lit 14, nI_add, nI_add, inbN (by omega), ckd _ (by omega), inbN (by omega), ckd _ (by omega), nI_cl (by omega), nI_cl (by omega), rowI_at, rowI_at]
    simp only [lM]
    rw [nI_1, nI_1, Int32.add_zero]
    by_cases q1 : a (14 + v) < a (14 + w)
    · rw [nI_sub (by omega), if_pos (ltL (n := 0) (by omega) (by decide) (by omega))]
      rw [e, if_pos (show rkP a v w = true from decide_eq_true (Or.inl q1))] at z
      exact z
    · by_cases q2 : a (14 + w) = a (14 + v)
      · rw [q2, Int32.sub_self, if_neg (by decide), if_pos rfl]
        by_cases q3 : v ≤ w
        · rw [if_pos (le2 (by omega) (by omega) q3)]
          rw [e, if_neg (show ¬ rkP a v w = true by unfold rkP; simp; omega)] at z
          exact z
        · rw [if_neg (nle2 (by omega) (by omega) (by omega))]
          rw [e, if_pos (show rkP a v w = true from decide_eq_true (Or.inr ⟨q2, by omega⟩))] at z
          exact z
      · have hs : nI (a (14 + w)) - nI (a (14 + v)) = -(nI (a (14 + v) - a (14 + w))) := by
          rw [← nI_sub (show a (14 + w) ≤ a (14 + v) by omega), Int32.neg_sub]
        have hneg : ∀ x, x < 100 → 0 < x → ¬ 0 < -(nI x) ∧ ¬ -(nI x) = 0 := by decide
        have h5 := hneg (a (14 + v) - a (14 + w)) (by omega) (by omega)
        rw [hs, if_neg h5.1, if_neg h5.2]
        rw [e, if_neg (show ¬ rkP a v w = true by unfold rkP; simp; omega)] at z
        exact z
def fnd (a : Nat → Nat) (p : Int32) : Nat → Nat → Option Nat
  | 0, _ => none
  | m + 1, v => if nI (cntB (a 0) (rkP a v)) = p then some v else fnd a p m (v + 1)
theorem fnd_lt {p : Int32} (m : Nat) : ∀ v x, fnd a p m v = some x → x < v + m := by
  induction m with
  | zero => intro v x h; exact absurd h (by simp [fnd])
  | succ m ih =>
    intro v x h
    unfold fnd at h
    split at h
    · have := Option.some.inj h; omega
    · have := ih (v + 1) x h; omega
theorem cFind (hF : 30 ≤ F) (hW : WF a) (hc : CC M 1 a) (p : Int32) (kx : Mem → Option (Int32 × Mem)) (m : Nat) : ∀ v, v + m = a 0 → ∀ n, m < n → fX9_shelfAtRank_2 F 2 p kx n (nI v) M = match fnd a p m v with | some x => some (nI x, M) | none => kx M := by
  have hn := hW.n
  induction m with
  | zero =>
    intro w hw n hn2
    obtain ⟨n', rfl⟩ : ∃ n', n = n' + 1 := ⟨n - 1, by omega⟩
    rw [fX9_shelfAtRank_2, show M 2 3 = nI (a 0) from hc.n, if_pos (le2 (by omega) (by omega) (by omega))]
    rfl
  | succ m ih =>
    intro w hw n hn2
    obtain ⟨n', rfl⟩ : ∃ n', n = n' + 1 := ⟨n - 1, by omega⟩
    rw [fX9_shelfAtRank_2, show M 2 3 = nI (a 0) from hc.n, if_neg (nle2 (by omega) (by omega) (by omega))]
    unfold fX9_rankOf
    rw [at_in (c := 3) (al1_2 (b := 1) (by decide)) (by decide) (by omega)]
    simp only [bM]
    rw [show M 3 w = nI (a (14 + w)) from hc.gr w (by omega)]
    have z := cRank_loop (F := F) (c := 2) hc.n (al1_2 (b := 1) (by decide)) hn hc.gr hW.gr (v := w) (by omega) (fun w24 M23 => some (w24, M23)) (a 0) 0 (by omega) F (by omega)
    rw [show fX9_rankOf_14 F 2 (nI w) (nI (a (14 + w))) (fun w24 M23 => some (w24, M23)) F 0 0 M = _ from z]
    simp only [bM, lM]
    rw [nI_1]
    unfold fnd
    by_cases q : nI (cntB (a 0) (rkP a w)) = p
    · rw [if_pos q, if_pos q]
    · rw [if_neg q, if_neg q]
      exact ih (w + 1) (by omega) n' (by omega)
theorem mFind (hF : 30 ≤ F) (hW : WF a) (hN : N 120 = rowI a) (p : Int32) (kx : Mem → Option (Int32 × Mem)) (m : Nat) : ∀ v, v + m = a 0 → ∀ n, m < n → fX12_shelfByCheese_7 F p kx n (nI v) N = match fnd a p m v with | some x => some (nI x, N) | none => kx N := by
  have hn := hW.n
  induction m with
  | zero =>
    intro w hw n hn2
    obtain ⟨n', rfl⟩ : ∃ n', n = n' + 1 := ⟨n - 1, by omega⟩
    rw [fX12_shelfByCheese_7, hN, rowI_at, if_pos (le2 (by omega) (by omega) (by omega))]
    rfl
  | succ m ih =>
    intro w hw n hn2
    obtain ⟨n', rfl⟩ : ∃ n', n = n' + 1 := ⟨n - 1, by omega⟩
    rw [fX12_shelfByCheese_7, hN, rowI_at, if_neg (nle2 (by omega) (by omega) (by omega))]
    have z := mRank_loop (F := F) hN hn hW.gr (v := w) (by omega) p (fun w31 M30 => if w31 = p then some (nI w, M30) else letM (nI w + 1) (fun x33 => fX12_shelfByCheese_7 F p kx n' x33 M30)) (a 0) 0 (by omega) F (by omega)
    rw [show fX12_shelfByCheese_22 F p (nI w) (fun w31 M30 => if w31 = p then some (nI w, M30) else letM (nI w + 1) (fun x33 => fX12_shelfByCheese_7 F p kx n' x33 M30)) F 0 0 N = _ from z]
    simp only [lM]
    rw [nI_1]
    unfold fnd
    by_cases q : nI (cntB (a 0) (rkP a w)) = p
    · rw [if_pos q, if_pos q]
    · rw [if_neg q, if_neg q]
      exact ih (w + 1) (by omega) n' (by omega)
theorem ok_shelfByCheese (hF : 1500 ≤ F) (hR : Rel M) (p : Int32) : OKL (fL_shelfByCheese F p) (fX12_shelfByCheese F p) M := by
  obtain ⟨a, hW, hc, hN⟩ := hR.cur
  have hn := hW.n
  have e1 : fX9_shelfAtRank F 2 p M = _ := cFind (F := F) (by omega) hW hc p (fun M8 => some ((-1), M8)) (a 0) 0 (by omega) F (by omega)
  cases w : fnd a p (a 0) 0 with
  | none =>
    rw [w] at e1
    refine okl_e0 hR one_ne ?_ (v := 0) ?_
    · unfold fL_shelfByCheese fX11_shelfByCheese
      rw [e1]
      rfl
    · have e2 := mFind (F := F) (by omega) hW (n119 hN 0) p (fun M35 => bindM (fX12_fails F 1 M35) (fun r38 M36 => some (r38, M36))) (a 0) 0 (by omega) F (by omega)
      rw [w] at e2
      exact e2
  | some x =>
    rw [w] at e1
    have hx := fnd_lt _ _ _ w
    refine okl_v0 hR (v := nI x) ?_ ?_
    · unfold fL_shelfByCheese fX11_shelfByCheese
      rw [e1]
      simp only [bM]
      rw [if_neg (nI_m1 (by omega))]
      rfl
    · have e2 := mFind (F := F) (by omega) hW (n119 (n129 hN (nI x)) 0) p (fun M35 => bindM (fX12_fails F 1 M35) (fun r38 M36 => some (r38, M36))) (a 0) 0 (by omega) F (by omega)
      rw [w] at e2
      exact e2
theorem ok_shelfOfStop (hR : Rel M) (p : Int32) : OKL (fL_shelfOfStop F p) (fX12_shelfOfStop F p) M := by
  obtain ⟨a, hW, hc, hN⟩ := hR.cur
  have ht := hW.t
  have e1 : fX6_hasStop F 5 p M = some (isW p (a 2), M) := by
    unfold fX6_hasStop
    rw [show M 5 1 = nI (a 2) from hc.t, cWithin]
    rfl
  cases w : isW p (a 2) with
  | false =>
    refine okl_e0 hR one_ne ?_ (v := 0) ?_
    · unfold fL_shelfOfStop fX11_shelfOfStop
      rw [e1, w]
      rfl
    · unfold fX12_shelfOfStop
      simp only [lM]
      rw [n119 hN, rowI_at, mWithin p (by omega), w]
      rfl
  | true =>
    obtain ⟨k, hk, rfl⟩ := isW_t w (by omega)
    refine okl_v0 hR (v := nI (a (182 + k))) ?_ ?_
    · unfold fL_shelfOfStop fX11_shelfOfStop
      rw [e1, w]
      simp only [bM]
      rw [if_pos trivial, at_in (c := 6) (al1_5 (b := 1) (by decide)) (by decide) (by omega)]
      simp only [bM, bX, bH, lM]
      rw [show M 6 k = nI (a (182 + k)) from hc.st k hk]
    · unfold fX12_shelfOfStop
      simp only [lM]
      rw [n119 (n129 hN _), rowI_at, mWithin _ (by omega), w]
      simp only [bM]
      rw [if_pos trivial, lit 182, nI_add, inbN (by omega), ckd _ (by omega), nI_cl (by omega), n119 (n129 hN _), rowI_at]
theorem ok_catShelf (hR : Rel M) : OKL (fL_catShelf F) (fX12_catShelf F) M := by
  obtain ⟨a, hW, hc, hN⟩ := hR.cur
  have hn := hW.n
  by_cases w : a 0 = 0
  · refine okl_e0 hR one_ne ?_ (v := 0) ?_
    · unfold fL_catShelf fX11_catShelf fX11_requireAnyShelf
      rw [show M 2 3 = nI (a 0) from hc.n, if_pos (eqL (n := 0) w)]
      rfl
    · unfold fX12_catShelf
      simp only [lM]
      rw [n119 hN, rowI_at, if_pos (eqL (n := 0) w)]
      rfl
  · refine okl_v0 hR (v := nI (a 3)) ?_ ?_
    · unfold fL_catShelf fX11_catShelf fX11_requireAnyShelf
      rw [show M 2 3 = nI (a 0) from hc.n, if_neg (neL (n := 0) (by omega) (by decide) w)]
      simp only [bX, bH, lM]
      rw [show M 5 2 = nI (a 3) from hc.cat]
    · unfold fX12_catShelf
      simp only [lM]
      rw [n119 (n129 hN _), rowI_at, if_neg (neL (n := 0) (by omega) (by decide) w), rowI_at]
theorem ok_goal (hR : Rel M) : OKL (fL_goal F) (fX12_goal F) M := by
  obtain ⟨a, hW, hc, hN⟩ := hR.cur
  have hn := hW.t
  by_cases w : a 2 = 0
  · refine okl_e0 hR one_ne ?_ (v := 0) ?_
    · unfold fL_goal fX11_goal
      rw [show M 5 1 = nI (a 2) from hc.t, if_pos (eqL (n := 0) w)]
      rfl
    · unfold fX12_goal
      simp only [lM]
      rw [n119 hN, rowI_at, if_pos (eqL (n := 0) w)]
      rfl
  · refine okl_v0 hR (v := nI (a 4)) ?_ ?_
    · unfold fL_goal fX11_goal
      rw [show M 5 1 = nI (a 2) from hc.t, if_neg (neL (n := 0) (by omega) (by decide) w)]
      simp only [bH, lM]
      rw [show M 5 3 = nI (a 4) from hc.goal]
    · unfold fX12_goal
      simp only [lM]
      rw [n119 (n129 hN _), rowI_at, if_neg (neL (n := 0) (by omega) (by decide) w), rowI_at]
theorem ok_nextShelf (hF : 1500 ≤ F) (hR : Rel M) : OKL (fL_nextShelf F) (fX12_nextShelf F) M := by
  obtain ⟨a, hW, hc, hN⟩ := hR.cur
  have hn := hW.n
  by_cases w : a 0 = 0
  · refine okl_e0 hR one_ne ?_ (v := 0) ?_
    · unfold fL_nextShelf fX11_nextShelf fX11_requireAnyShelf
      rw [show M 2 3 = nI (a 0) from hc.n, if_pos (eqL (n := 0) w)]
      rfl
    · unfold fX12_nextShelf
      simp only [lM]
      rw [n119 hN, rowI_at, if_pos (eqL (n := 0) w)]
      rfl
  · obtain ⟨N', i1, i2⟩ := mWalked (F := F) hW hF (n119 (n129 hN (nI (sWalked a))) 0)
    refine okl_v hR (v := nI (sWalked a)) (M1 := M) ?_ (fun _ _ _ _ => rfl) (M2 := N') ?_ (fun c q1 q2 => by rw [i2 c q1, u2_ne _ q2]) (fun i q => by rw [i2 _ (by decide), u2_same, if_neg q]) (by rw [i2 _ (by decide), u2_same, if_pos rfl])
    · unfold fL_nextShelf fX11_nextShelf fX11_requireAnyShelf
      rw [show M 2 3 = nI (a 0) from hc.n, if_neg (neL (n := 0) (by omega) (by decide) w)]
      simp only [bX]
      rw [cWalk hW (by omega) (by decide) hc]
      rfl
    · unfold fX12_nextShelf
      simp only [lM]
      rw [n119 (n129 hN _), rowI_at, if_neg (neL (n := 0) (by omega) (by decide) w), i1]
      rfl
theorem ok_lapLength (hF : 1500 ≤ F) (hR : Rel M) : OKL (fL_lapLength F) (fX12_lapLength F) M := by
  obtain ⟨a, hW, hc, hN⟩ := hR.cur
  have ht := hW.t
  have e1 := cLap (F := F) (b := 1) hW (by omega) (by decide) hc
  cases w : sLap a (a 2) 0 0 with
  | none =>
    rw [w] at e1
    obtain ⟨N', i2, i1⟩ := mLap_loop (F := F) hW hF (fun w23 M22 => some (w23, M22)) (a 2) 0 (by omega) F (by omega) 0 (up2 M 119 0 0) (n119 hN 0)
    rw [w] at i1
    refine okl_e hR one_ne (M1 := M) ?_ (fun _ _ _ _ => rfl) (v := 0) (M2 := up2 N' 119 0 1) i1 (fun c q1 q2 => by rw [u2_ne _ q2, i2 c q1, u2_ne _ q2]) (fun i q => by rw [u2_same, if_neg q, i2 _ (by decide), u2_same, if_neg q]) (by rw [u2_same, if_pos rfl])
    unfold fL_lapLength fX11_lapLength
    rw [e1]
    rfl
  | some r =>
    rw [w] at e1
    have hr := sLap_le hW _ _ _ _ (by omega) w
    obtain ⟨N', i2, i1⟩ := mLap_loop (F := F) hW hF (fun w23 M22 => some (w23, M22)) (a 2) 0 (by omega) F (by omega) 0 (up2 (up2 M 129 0 (nI r)) 119 0 0) (n119 (n129 hN (nI r)) 0)
    rw [w] at i1
    refine okl_v hR (v := nI r) (M1 := M) ?_ (fun _ _ _ _ => rfl) (M2 := N') i1 (fun c q1 q2 => by rw [i2 c q1, u2_ne _ q2]) (fun i q => by rw [i2 _ (by decide), u2_same, if_neg q]) (by rw [i2 _ (by decide), u2_same, if_pos rfl])
    unfold fL_lapLength fX11_lapLength
    rw [e1]
    simp only [bM]
    rw [if_neg (nI_m1 (by omega))]
    rfl
theorem okl_mouse (hR : Rel M) (p : Int32) {j : Nat} (hj : j < 3) {cl md : Mem → Option (Int32 × Mem)} (h1 : ∀ a, CC M 1 a → a 8 ≤ 8 → isW p (a 8) = false → cl M = some (1, M)) (h2 : ∀ a, CC M 1 a → a 8 ≤ 8 → ∀ k, p = nI k → k < a 8 → cl M = some (0, up2 M 129 0 (nI (a (192 + j + 3 * k))))) (hm : ∀ N, md N = fX12_asksMouse F p (nI j) N) : OKL cl md M := by
  obtain ⟨a, hW, hc, hN⟩ := hR.cur
  have h8 := hW.m
  cases w : isW p (a 8) with
  | false =>
    refine okl_e0 hR one_ne (h1 a hc h8 w) (v := 0) ?_
    rw [hm]
    unfold fX12_asksMouse
    simp only [lM]
    rw [n119 hN, rowI_at, mWithin p (by omega), w]
    rfl
  | true =>
    obtain ⟨k, hk, rfl⟩ := isW_t w (by omega)
    refine okl_v0 hR (h2 a hc h8 k rfl hk) ?_
    rw [hm]
    unfold fX12_asksMouse
    simp only [lM]
    rw [n119 (n129 hN _), rowI_at, mWithin _ (by omega), w]
    simp only [bM]
    rw [if_pos trivial, mw_eq (n119 (n129 hN (nI (a (192 + j + 3 * k)))) 0), mMouse (by omega) hj]
    rfl
theorem reqM (hc : CC M 1 a) (p : Int32) : fX11_requireMouse F p M = if isW p (a 8) = true then some (Sum.inl (), M) else some (Sum.inr 1, M) := by
  unfold fX11_requireMouse
  rw [show M 7 3 = nI (a 8 + 0) from hc.m, Nat.add_zero, cWithin]
  rfl
theorem ok_mouseShelf (hR : Rel M) (p : Int32) : OKL (fL_mouseShelf F p) (fX12_mouseShelf F p) M := by
  refine okl_mouse (F := F) hR p (j := 0) (by omega) (fun a hc h8 w => ?_) (fun a hc h8 k hk hk2 => ?_) (fun N => bind_id _)
  · unfold fL_mouseShelf fX11_mouseShelf
    rw [reqM hc, w]
    rfl
  · subst hk
    unfold fL_mouseShelf fX11_mouseShelf
    rw [reqM hc, isW_lt hk2 (by omega), if_pos rfl]
    simp only [bX]
    rw [at_in (c := 8) (al1_7 (b := 1) (by decide)) (by decide) (by omega)]
    have z := hc.ms k hk2
    rw [pos_00] at z
    simp only [bM, bH, lM]
    rw [show M 8 k = nI (a (192 + 3 * k)) from z]
theorem ok_mouseEaten (hR : Rel M) (p : Int32) : OKL (fL_mouseEaten F p) (fX12_mouseEaten F p) M := by
  refine okl_mouse (F := F) hR p (j := 1) (by omega) (fun a hc h8 w => ?_) (fun a hc h8 k hk hk2 => ?_) (fun N => bind_id _)
  · unfold fL_mouseEaten fX11_mouseEaten
    rw [reqM hc, w]
    rfl
  · subst hk
    unfold fL_mouseEaten fX11_mouseEaten
    rw [reqM hc, isW_lt hk2 (by omega), if_pos rfl]
    simp only [bX]
    rw [at_in (c := 9) (al1_8 (b := 1) (by decide)) (by decide) (by omega)]
    have z := hc.me k hk2
    rw [pos_00] at z
    simp only [bM, bH, lM]
    rw [show M 9 k = nI (a (193 + 3 * k)) from z]
theorem ok_mouseHunger (hR : Rel M) (p : Int32) : OKL (fL_mouseHunger F p) (fX12_mouseHunger F p) M := by
  refine okl_mouse (F := F) hR p (j := 2) (by omega) (fun a hc h8 w => ?_) (fun a hc h8 k hk hk2 => ?_) (fun N => bind_id _)
  · unfold fL_mouseHunger fX11_mouseHunger
    rw [reqM hc, w]
    rfl
  · subst hk
    unfold fL_mouseHunger fX11_mouseHunger
    rw [reqM hc, isW_lt hk2 (by omega), if_pos rfl]
    simp only [bX]
    rw [at_in (c := 10) (al1_9 (b := 1) (by decide)) (by decide) (by omega)]
    have z := hc.mh k hk2
    rw [pos_00] at z
    simp only [bM, bH, lM]
    rw [show M 10 k = nI (a (194 + 3 * k)) from z]
def onC (a : Nat → Nat) (k : Nat) : Nat → Bool := fun j => decide (a (192 + 3 * j) = k)
theorem cOn_loop {b : Nat} (hb : lay b = 1) (h8 : a 8 ≤ 8) (h3 : M (b + 6) 3 = nI (a 8)) (hs : ∀ k, k < a 8 → M (b + 7) k = nI (a (192 + 3 * k))) (hs2 : ∀ k, k < a 8 → a (192 + 3 * k) < 12) {p : Nat} (hp : p < 12) (kx : Int32 → Mem → Option (Int32 × Mem)) (m : Nat) : ∀ v, v + m = a 8 → ∀ n, m < n → fX5_countOn_4 F (b + 6) (nI p) kx n (nI (cntB v (onC a p))) (nI v) M = kx (nI (cntB (a 8) (onC a p))) M := by
  induction m with
  | zero =>
    intro v hv n hn2
    obtain ⟨n', rfl⟩ : ∃ n', n = n' + 1 := ⟨n - 1, by omega⟩
    rw [fX5_countOn_4, h3, if_pos (le2 (by omega) (by omega) (by omega)), show v = a 8 by omega]
  | succ m ih =>
    intro v hv n hn2
    obtain ⟨n', rfl⟩ : ∃ n', n = n' + 1 := ⟨n - 1, by omega⟩
    have z := ih (v + 1) (by omega) n' (by omega)
    have e : cntB (v + 1) (onC a p) = cntB v (onC a p) + (if onC a p v = true then 1 else 0) := rfl
    have hv2 := hs2 v (by omega)
    rw [fX5_countOn_4, h3, if_neg (nle2 (by omega) (by omega) (by omega)), at_in (c := b + 6 + 1) (al1_7 hb) (by decide) (by omega)]
    simp only [bM, lM]
    rw [show M (b + 6 + 1) v = nI (a (192 + 3 * v)) from hs v (by omega), nI_1, nI_1]
    by_cases q : a (192 + 3 * v) = p
    · rw [if_pos (eq2 q)]
      rw [e, if_pos (show onC a p v = true from decide_eq_true q)] at z
      exact z
    · rw [if_neg (ne2 (by omega) (by omega) q)]
      rw [e, if_neg (show ¬ onC a p v = true by unfold onC; simp [q])] at z
      exact z
theorem mOn_loop (h8 : a 8 ≤ 8) (hs2 : ∀ k, k < a 8 → a (192 + 3 * k) < 12) {p : Nat} (hp : p < 12) (kx : Int32 → Mem → Option (Int32 × Mem)) (m : Nat) : ∀ v, v + m = a 8 → ∀ n, m < n → fX12_miceAt_4 F (nI p) kx n (nI (cntB v (onC a p))) (nI v) (mw N a) = kx (nI (cntB (a 8) (onC a p))) (mw N a) := by
  induction m with
  | zero =>
    intro v hv n hn2
    obtain ⟨n', rfl⟩ : ∃ n', n = n' + 1 := ⟨n - 1, by omega⟩
    rw [fX12_miceAt_4, mw_120, rowI_at, if_pos (le2 (by omega) (by omega) (by omega)), show v = a 8 by omega]
  | succ m ih =>
    intro v hv n hn2
    obtain ⟨n', rfl⟩ : ∃ n', n = n' + 1 := ⟨n - 1, by omega⟩
    have z := ih (v + 1) (by omega) n' (by omega)
    have e : cntB (v + 1) (onC a p) = cntB v (onC a p) + (if onC a p v = true then 1 else 0) := rfl
    have hv2 := hs2 v (by omega)
    rw [fX12_miceAt_4, mw_120, rowI_at, if_neg (nle2 (by omega) (by omega) (by omega)), mMouse0 (by omega)]
    simp only [bM, lM]
    rw [nI_1, nI_1, Int32.add_zero]
    by_cases q : a (192 + 3 * v) = p
    · rw [if_pos (eq2 q)]
      rw [e, if_pos (show onC a p v = true from decide_eq_true q)] at z
      exact z
    · rw [if_neg (ne2 (by omega) (by omega) q)]
      rw [e, if_neg (show ¬ onC a p v = true by unfold onC; simp [q])] at z
      exact z
theorem cOn (hF : 30 ≤ F) (hW : WF a) (hc : CC M 1 a) {p : Nat} (hp : p < 12) : fX5_countOn F 7 (nI p) M = some (nI (cntB (a 8) (onC a p)), M) := by
  have h8 := hW.m
  have hn := hW.n
  exact cOn_loop (F := F) (b := 1) (by decide) h8 (by have := hc.m; rwa [Nat.add_zero] at this) (fun k hk => by have := hc.ms k hk; rwa [pos_00] at this) (fun k hk => by have := hW.ms k hk; omega) hp (fun w13 M12 => some (w13, M12)) (a 8) 0 (by omega) F (by omega)
theorem mOn (hF : 30 ≤ F) (hW : WF a) (hN : N 120 = rowI a) {p : Nat} (hp : p < 12) : fX12_miceAt F (nI p) N = some (nI (cntB (a 8) (onC a p)), N) := by
  have h8 := hW.m
  have hn := hW.n
  rw [mw_eq hN]
  exact mOn_loop (F := F) h8 (fun k hk => by have := hW.ms k hk; omega) hp (fun w13 M12 => some (w13, M12)) (a 8) 0 (by omega) F (by omega)
theorem ok_miceOn (hF : 1500 ≤ F) (hR : Rel M) (p : Int32) : OKL (fL_miceOn F p) (fX12_miceOn F p) M := by
  obtain ⟨a, hW, hc, hN⟩ := hR.cur
  have hn := hW.n
  cases w : isW p (a 0) with
  | false =>
    refine okl_e0 hR one_ne ?_ (v := 0) ?_
    · unfold fL_miceOn fX11_miceOn
      rw [reqF hc w]
      rfl
    · unfold fX12_miceOn
      simp only [lM]
      rw [mShelf hW (n119 hN 0), w]
      rfl
  | true =>
    obtain ⟨k, hk, rfl⟩ := isW_t w (by omega)
    refine okl_v0 hR (v := nI (cntB (a 8) (onC a k))) ?_ ?_
    · unfold fL_miceOn fX11_miceOn
      rw [reqT hc w]
      simp only [bX]
      rw [cOn (by omega) hW hc (by omega)]
      rfl
    · unfold fX12_miceOn
      simp only [lM]
      rw [mShelf hW (n119 (n129 hN _) 0), w]
      simp only [bM]
      rw [if_pos trivial, mOn (by omega) hW (n119 (n129 hN _) 0) (by omega)]
      rfl
end
section
variable {F : Nat} {M N : Mem} {R : Nat → Nat → Nat} {n : Nat → Nat} {T : Nat → Nat → Int32}
theorem nar_id (x : Int32) : vp_nar .char (vp_nar .char x) = vp_nar .char x := by
  show (((x.toUInt32 % 65536).toInt32).toUInt32 % 65536).toInt32 = (x.toUInt32 % 65536).toInt32
  congr 1
  rw [UInt32.toUInt32_toInt32]
  apply UInt32.toNat_inj.mp
  simp
theorem z119 {i : Nat} {v : Int32} (h : i ≠ 0) : up2 M 119 0 v 119 i = M 119 i := by rw [u2_same, if_neg h]
theorem updT_same {α : Type} (a : Nat → α) (i : Nat) (v : α) : (fun k => if k = i then v else a k) i = v := if_pos rfl
theorem ok_feed (hR : Rel M) (p : Int32) : OKL (fL_feed F p) (fX12_feed F p) M := by
  obtain ⟨R, n, T, hO, hC, hMd⟩ := id hR
  have htl := hO.tl
  have c1 : M 115 1 = nI (n 3) := hC.2.2.2.1.1
  have m1 : M 119 18 = nI (n 3) := hMd.2.2.2.1.1
  by_cases w : n 3 = 60
  · refine okl_e0 hR one_ne ?_ (v := 0) ?_
    · unfold fL_feed fX11_feed
      rw [c1, if_neg (nltR (n := 60) (by omega) (by decide) (by omega))]
      rfl
    · unfold fX12_feed
      simp only [lM]
      rw [z119 (by decide), m1, if_pos (eqL (n := 60) w)]
      rfl
  · let M1 := up2 (up2 M 116 (n 3) (vp_nar .char p)) 115 1 (nI (n 3 + 1))
    let N1 := up2 M1 129 0 (nI (n 3 + 1))
    let N2 := up2 (up2 (up2 N1 119 0 0) 127 (n 3) (vp_nar .char p)) 119 18 (nI (n 3 + 1))
    have h1 : fL_feed F p M = some (0, N1) := by
      unfold fL_feed fX11_feed fX8_append
      rw [c1, if_pos (ltR (n := 60) (by omega) (by decide) (by omega)), if_neg (nI_pos (by omega)), if_neg (nleL (n := 60) (by omega) (by decide) (by omega)), inbN (by omega), ckd _ (by omega), nI_cl (by omega)]
      simp only [lM, bV]
      rw [u2_ne _ (show 115 ≠ 115 + 1 by decide), c1, nI_1]
      simp only [bH]
      rw [u2_same, if_pos rfl]
    have e2 : N1 119 18 = nI (n 3) := by
      show up2 (up2 (up2 M 116 (n 3) (vp_nar .char p)) 115 1 (nI (n 3 + 1))) 129 0 (nI (n 3 + 1)) 119 18 = _
      rw [u2_ne _ (by decide), u2_ne _ (by decide), u2_ne _ (by decide)]; exact m1
    have h2 : fX12_feed F p N1 = some (nI (n 3 + 1), N2) := by
      unfold fX12_feed
      simp only [lM]
      rw [z119 (by decide), e2, if_neg (neL (n := 60) (by omega) (by decide) w), inbN (by omega), ckd _ (by omega), nI_cl (by omega), u2_ne _ (show 119 ≠ 127 by decide), z119 (by decide), e2, nI_1, u2_same, if_pos rfl]
    have f : ∀ c, c ≠ 115 → c ≠ 116 → c ≠ 119 → c ≠ 127 → c ≠ 129 → N2 c = M c := fun c q1 q2 q3 q4 q5 => by
      show up2 (up2 (up2 (up2 M1 129 0 _) 119 0 0) 127 _ _) 119 18 _ c = _
      rw [u2_ne _ q3, u2_ne _ q4, u2_ne _ q3, u2_ne _ q5]
      show up2 (up2 M 116 _ _) 115 1 _ c = _
      rw [u2_ne _ q1, u2_ne _ q2]
    have f119 : ∀ i, i ≠ 0 → i ≠ 18 → N2 119 i = M 119 i := fun i q1 q2 => by
      show up2 (up2 (up2 (up2 M1 129 0 _) 119 0 0) 127 _ _) 119 18 _ 119 i = _
      rw [u2_same, if_neg q2, u2_ne _ (by decide), u2_same, if_neg q1, u2_ne _ (by decide)]
      show up2 (up2 M 116 _ _) 115 1 _ 119 i = _
      rw [u2_ne _ (by decide), u2_ne _ (by decide)]
    have f115 : N2 115 = up2 M 115 1 (nI (n 3 + 1)) 115 := by
      show up2 (up2 (up2 (up2 (up2 (up2 M 116 _ _) 115 1 _) 129 0 _) 119 0 0) 127 _ _) 119 18 _ 115 = _
      rw [u2_ne _ (by decide), u2_ne _ (by decide), u2_ne _ (by decide), u2_ne _ (by decide)]
      funext i
      rw [u2_same, u2_same, u2_ne _ (by decide)]
    have f116 : ∀ k, N2 116 k = if k = n 3 then vp_nar .char p else M 116 k := fun k => by
      show up2 (up2 (up2 (up2 (up2 (up2 M 116 _ _) 115 1 _) 129 0 _) 119 0 0) 127 _ _) 119 18 _ 116 k = _
      rw [u2_ne _ (by decide), u2_ne _ (by decide), u2_ne _ (by decide), u2_ne _ (by decide), u2_ne _ (by decide), u2_same]
    have f127 : ∀ k, N2 127 k = if k = n 3 then vp_nar .char p else M 127 k := fun k => by
      show up2 (up2 (up2 (up2 (up2 (up2 M 116 _ _) 115 1 _) 129 0 _) 119 0 0) 127 _ _) 119 18 _ 127 k = _
      rw [u2_ne _ (by decide), u2_same, u2_ne _ (by decide), u2_ne _ (by decide), u2_ne _ (by decide), u2_ne _ (by decide)]
    refine ⟨0, N1, nI (n 3 + 1), N2, h1, h2, ?_, fun _ => ?_, R, updN n 3 (n 3 + 1), updR T 0 (fun k => if k = n 3 then vp_nar .char p else T 0 k), ?_, ?_, ?_⟩
    · show up2 (up2 (up2 N1 119 0 0) 127 _ _) 119 18 _ 119 0 = 0
      rw [u2_same, if_neg (by decide), u2_ne _ (by decide), u2_same, if_pos rfl]
    · show up2 (up2 (up2 (up2 M1 129 0 (nI (n 3 + 1))) 119 0 0) 127 _ _) 119 18 _ 129 0 = _
      rw [u2_ne _ (by decide), u2_ne _ (by decide), u2_ne _ (by decide), u2_same, if_pos rfl]
    · refine ⟨hO.w, hO.f, hO.c, hO.wh, hO.s, hO.ws, by show n 3 + 1 ≤ 60; omega, fun k hk => ?_, hO.ll, hO.ln, hO.d, hO.ca, hO.fa⟩
      have hk' : k < n 3 + 1 := hk
      rw [updR_same]
      show nrc (if k = n 3 then _ else _) = true
      by_cases q : k = n 3
      · rw [if_pos q]
        exact decide_eq_true (nar_id p)
      · rw [if_neg q]
        exact hO.tn k (by omega)
    · obtain ⟨g1, g2, g3, g4, g5, g6, g7, g8, g9⟩ := hC
      refine ⟨CL.fr g1 fun c q1 q2 => f c (by omega) (by omega) (by omega) (by omega) (by omega), HIc.fr g2 fun c q1 q2 => f c (by omega) (by omega) (by omega) (by omega) (by omega), ⟨by rw [f 0 (by decide) (by decide) (by decide) (by decide) (by decide)]; exact g3.1, fun q => CL.fr (g3.2 q) fun c q1 q2 => f c (by omega) (by omega) (by omega) (by omega) (by omega)⟩, ⟨by rw [f115, u2_same, if_pos rfl]; rfl, fun k hk => ?_⟩, ⟨by rw [f 117 (by decide) (by decide) (by decide) (by decide) (by decide)]; exact g5.1, fun k hk => by rw [f 118 (by decide) (by decide) (by decide) (by decide) (by decide)]; exact g5.2 k hk⟩, by rw [f 0 (by decide) (by decide) (by decide) (by decide) (by decide)]; exact g6, by rw [f 0 (by decide) (by decide) (by decide) (by decide) (by decide)]; exact g7, fun q => by rw [f 0 (by decide) (by decide) (by decide) (by decide) (by decide)]; exact g8 q, by rw [f 0 (by decide) (by decide) (by decide) (by decide) (by decide)]; exact g9⟩
      have hk' : k < n 3 + 1 := hk
      rw [f116, updR_same]
      by_cases q : k = n 3
      · rw [if_pos q]; show _ = if k = n 3 then _ else _; rw [if_pos q]
      · rw [if_neg q]; show _ = if k = n 3 then _ else _; rw [if_neg q]; exact g4.2 k (by omega)
    · obtain ⟨g1, g2, g3, g4, g5, g6, g7, g8, g9, g10⟩ := hMd
      refine ⟨by rw [f 120 (by decide) (by decide) (by decide) (by decide) (by decide)]; exact g1, ⟨by rw [f119 _ (by decide) (by decide)]; exact g2.1, by rw [f119 _ (by decide) (by decide)]; exact g2.2.1, fun j hj k hk => by rw [f 121 (by decide) (by decide) (by decide) (by decide) (by decide)]; exact g2.2.2 j hj k hk⟩, ⟨by rw [f119 _ (by decide) (by decide)]; exact g3.1, fun q k hk => by rw [f 122 (by decide) (by decide) (by decide) (by decide) (by decide)]; exact g3.2 q k hk⟩, ⟨?_, fun k hk => ?_⟩, ⟨by rw [f119 _ (by decide) (by decide)]; exact g5.1, fun k hk => by rw [f 126 (by decide) (by decide) (by decide) (by decide) (by decide)]; exact g5.2 k hk⟩, by rw [f119 _ (by decide) (by decide)]; exact g6, by rw [f119 _ (by decide) (by decide)]; exact g7, fun q => by rw [f119 _ (by decide) (by decide)]; exact g8 q, by rw [f119 _ (by decide) (by decide)]; exact g9, by rw [f119 _ (by decide) (by decide)]; exact g10⟩
      · show up2 (up2 (up2 N1 119 0 0) 127 _ _) 119 18 _ 119 18 = _
        rw [u2_same, if_pos rfl]
        rfl
      · have hk' : k < n 3 + 1 := hk
        rw [f127, updR_same]
        by_cases q : k = n 3
        · rw [if_pos q]; show _ = if k = n 3 then _ else _; rw [if_pos q]
        · rw [if_neg q]; show _ = if k = n 3 then _ else _; rw [if_neg q]; exact g4.2 k (by omega)
theorem ok_faultPosition (hR : Rel M) : OKL (fL_faultPosition F) (fX12_faultPosition F) M := by
  obtain ⟨R, n, T, hO, hC, hMd⟩ := id hR
  have h7 := hO.fa
  have c1 : M 0 8 = om (n 7) := hC.2.2.2.2.2.1
  have m1 : M 119 20 = om (n 7) := hMd.2.2.2.2.2.1
  unfold om at c1 m1
  by_cases w : n 7 = 0
  · rw [if_pos w] at c1 m1
    refine okl_e0 hR one_ne ?_ (v := 0) ?_
    · unfold fL_faultPosition fX11_faultPosition
      rw [c1, if_pos rfl]
      rfl
    · unfold fX12_faultPosition
      simp only [lM]
      rw [z119 (by decide), m1, if_neg (by decide)]
      rfl
  · rw [if_neg w] at c1 m1
    refine okl_v0 hR (v := nI (n 7 - 1)) ?_ ?_
    · unfold fL_faultPosition fX11_faultPosition
      rw [c1, if_neg (nI_m1 (by omega))]
      rfl
    · unfold fX12_faultPosition
      simp only [lM]
      rw [z119 (by decide), u2_ne _ (show 119 ≠ 129 by decide), m1, if_pos (nI_pos' (by omega))]
theorem ok_denial (hR : Rel M) : OKL (fL_denial F) (fX12_denial F) M ∧ OKL (fL_denialDetail F) (fX12_denialDetail F) M := by
  obtain ⟨R, n, T, hO, hC, hMd⟩ := id hR
  have h5 := hO.d
  have c1 : M 0 9 = (if n 5 = 0 then -1 else nI (n 5)) := hC.2.2.2.2.2.2.1
  have c2 : n 5 ≠ 0 → M 0 10 = T 2 0 := hC.2.2.2.2.2.2.2.1
  have m1 : M 119 3 = nI (n 5) := hMd.2.2.2.2.2.2.1
  have m2 : n 5 ≠ 0 → M 119 4 = T 2 0 := hMd.2.2.2.2.2.2.2.1
  by_cases w : n 5 = 0
  · rw [if_pos w] at c1
    constructor
    · refine okl_e0 hR one_ne ?_ (v := 0) ?_
      · unfold fL_denial fX11_denial fX11_requireDenial
        rw [c1, if_pos rfl]
        rfl
      · unfold fX12_denial
        simp only [lM]
        rw [z119 (by decide), m1, if_pos (eqL (n := 0) w)]
        rfl
    · refine okl_e0 hR one_ne ?_ (v := 0) ?_
      · unfold fL_denialDetail fX11_denialDetail fX11_requireDenial
        rw [c1, if_pos rfl]
        rfl
      · unfold fX12_denialDetail
        simp only [lM]
        rw [z119 (by decide), m1, if_pos (eqL (n := 0) w)]
        rfl
  · rw [if_neg w] at c1
    constructor
    · refine okl_v0 hR (v := nI (n 5)) ?_ ?_
      · unfold fL_denial fX11_denial fX11_requireDenial
        rw [c1, if_neg (nI_m1 (by omega))]
        simp only [bX, bH, lM]
        rw [c1]
      · unfold fX12_denial
        simp only [lM]
        rw [z119 (by decide), u2_ne _ (show 119 ≠ 129 by decide), m1, if_neg (neL (n := 0) (by omega) (by decide) w)]
    · refine okl_v0 hR (v := T 2 0) ?_ ?_
      · unfold fL_denialDetail fX11_denialDetail fX11_requireDenial
        rw [c1, if_neg (nI_m1 (by omega))]
        simp only [bX, bH, lM]
        rw [c2 w]
      · unfold fX12_denialDetail
        simp only [lM]
        rw [z119 (by decide), u2_ne _ (show 119 ≠ 129 by decide), m1, if_neg (neL (n := 0) (by omega) (by decide) w), z119 (by decide), u2_ne _ (by decide), m2 w]
theorem ok_denialCause (hR : Rel M) : OKL (fL_denialCause F) (fX12_denialCause F) M := by
  obtain ⟨R, n, T, hO, hC, hMd⟩ := id hR
  have h5 := hO.ca
  have c1 : M 0 11 = (if n 6 = 0 then -1 else nI (n 6)) := hC.2.2.2.2.2.2.2.2
  have m1 : M 119 5 = nI (n 6) := hMd.2.2.2.2.2.2.2.2.1
  by_cases w : n 6 = 0
  · rw [if_pos w] at c1
    refine okl_e0 hR one_ne ?_ (v := 0) ?_
    · unfold fL_denialCause fX11_denialCause
      rw [c1, if_pos rfl]
      rfl
    · unfold fX12_denialCause
      simp only [lM]
      rw [z119 (by decide), m1, if_pos (eqL (n := 0) w)]
      rfl
  · rw [if_neg w] at c1
    refine okl_v0 hR (v := nI (n 6)) ?_ ?_
    · unfold fL_denialCause fX11_denialCause
      rw [c1, if_neg (nI_m1 (by omega))]
      rfl
    · unfold fX12_denialCause
      simp only [lM]
      rw [z119 (by decide), u2_ne _ (show 119 ≠ 129 by decide), m1, if_neg (neL (n := 0) (by omega) (by decide) w)]
theorem ok_lineCharacter (hR : Rel M) (p : Int32) : OKL (fL_lineCharacter F p) (fX12_lineCharacter F p) M := by
  obtain ⟨R, n, T, hO, hC, hMd⟩ := id hR
  have hll := hO.ll
  have c1 : M 117 1 = nI (n 4) := hC.2.2.2.2.1.1
  have c2 := hC.2.2.2.2.1.2
  have m1 : M 119 16 = nI (n 4) := hMd.2.2.2.2.1.1
  have m2 := hMd.2.2.2.2.1.2
  cases w : isW p (n 4) with
  | false =>
    refine okl_e0 hR one_ne ?_ (v := 0) ?_
    · unfold fL_lineCharacter fX11_lineCharacter
      rw [c1, cWithin, w]
      rfl
    · unfold fX12_lineCharacter
      simp only [lM]
      rw [z119 (by decide), m1, mWithin p (by omega), w]
      simp only [bM]
      rw [if_neg (by decide)]
      unfold fX12_fails
      simp only [lM, bM]
      rw [ckb _ (show nrc (i2c 0) = true by decide)]
      rfl
  | true =>
    obtain ⟨k, hk, rfl⟩ := isW_t w (by omega)
    have hnr := hO.ln k hk
    refine okl_v0 hR (v := T 1 k) ?_ ?_
    · unfold fL_lineCharacter fX11_lineCharacter
      rw [c1, cWithin, w]
      simp only [bM]
      rw [if_pos trivial, show (64 : Int32) = nI 64 from rfl, cWithin, isW_lt (by omega) (by decide)]
      simp only [bM]
      rw [if_pos trivial, inbN (by omega), ckd _ (by omega), nI_cl (by omega), c2 k hk, ckb _ hnr]
      rfl
    · unfold fX12_lineCharacter
      simp only [lM]
      rw [z119 (by decide), u2_ne _ (show 119 ≠ 129 by decide), m1, mWithin _ (by omega), w]
      simp only [bM]
      rw [if_pos trivial, inbN (by omega), ckd _ (by omega), nI_cl (by omega), u2_ne _ (by decide), u2_ne _ (by decide), m2 k hk, ckb _ hnr]
theorem ok_predictCaught (hF : 1500 ≤ F) (hR : Rel M) (p : Int32) : OKL (fL_predictCaught F p) (fX12_predictCaught F p) M := by
  obtain ⟨a, hW, hc, hN⟩ := hR.cur
  have bad : ∀ e1 : fX11_predictCaught F p M = some (Sum.inr 2, M), decide (¬ p < 0 ∧ ¬ (60 : Int32) < p) = false → OKL (fL_predictCaught F p) (fX12_predictCaught F p) M := fun e1 e2 => by
    refine okl_e0 hR one_ne ?_ (v := 0) ?_
    · unfold fL_predictCaught
      rw [e1]
      rfl
    · unfold fX12_predictCaught
      simp only [lM]
      rw [mBetw, e2]
      rfl
  by_cases h0 : p < 0
  · exact bad (by unfold fX11_predictCaught; rw [if_pos h0]) (decide_eq_false fun z => z.1 h0)
  · obtain ⟨t, ht, rfl⟩ := nI_of h0
    by_cases h1 : t ≤ 60
    · obtain ⟨M1, i1, i2, i3⟩ := copyL (F := F) (M := M) (b := 11) (p := 1) (by decide) (by decide) (by omega) hW hc
      obtain ⟨M2, j1, j2, j3⟩ := cPass (F := F) (b := 11) hW (by decide) (by omega) h1 i2
      have f1 : ∀ c, ¬ (11 ≤ c ∧ c < 21) → M2 c = M c := fun c q => by rw [j3 c (by omega), i3 c (by omega)]
      have e1 : fL_predictCaught F (nI t) M = some (0, up2 M2 129 0 (nI (sPass t a).1)) := by
        unfold fL_predictCaught fX11_predictCaught
        rw [if_neg h0, if_pos (leR (n := 60) ht (by decide) h1), i1]
        simp only [bV]
        rw [j1]
        rfl
      have n120 : up2 (up2 M2 129 0 (nI (sPass t a).1)) 119 0 0 120 = rowI a := n119 (n129 (by rw [f1 _ (by omega)]; exact hN) _) 0
      obtain ⟨N1, k1, k2, k3, k4⟩ := cpLoop (src := 120) (dst := 124) 0 0 (by decide) (fun kx n v M => fX12_predictCaught_23 F (nI t) kx n v M) (fun M14 => bindM (fX12_passes F (nI t) M14) (fun r17 M15 => fX12_predictCaught_56 F r17 (fun M25 => some (r17, M25)) F 0 M15)) (fun n M => by
        show fX12_predictCaught_23 F (nI t) _ (n + 1) _ M = _
        rw [fX12_predictCaught_23, if_pos (leL (n := 216) (by decide) (by decide) (by decide))]) (fun n v M hv => by
        show fX12_predictCaught_23 F (nI t) _ (n + 1) _ M = _
        rw [fX12_predictCaught_23, if_neg (nleL (n := 216) (by omega) (by decide) hv), inbN (by omega), ckd _ hv, ckd _ hv, nI_cl (by omega), Nat.zero_add]
        simp only [lM]
        rw [nI_1]) 216 0 (by omega) F (by omega) (up2 (up2 M2 129 0 (nI (sPass t a).1)) 119 0 0)
      have n1 : N1 120 = rowI a := by rw [k2 _ (by decide)]; exact n120
      obtain ⟨N2, l1, l2⟩ := mPass (F := F) (M := N1) hW hF h1
      obtain ⟨N3, p1, p2, p3, p4⟩ := cpLoop (src := 124) (dst := 120) 0 0 (by decide) (fun kx n v M => fX12_predictCaught_56 F (nI (sPass t a).1) kx n v M) (fun M25 => some (nI (sPass t a).1, M25)) (fun n M => by
        show fX12_predictCaught_56 F _ _ (n + 1) _ M = _
        rw [fX12_predictCaught_56, if_pos (leL (n := 216) (by decide) (by decide) (by decide))]) (fun n v M hv => by
        show fX12_predictCaught_56 F _ _ (n + 1) _ M = _
        rw [fX12_predictCaught_56, if_neg (nleL (n := 216) (by omega) (by decide) hv), inbN (by omega), ckd _ hv, ckd _ hv, nI_cl (by omega), Nat.zero_add]
        simp only [lM]
        rw [nI_1]) 216 0 (by omega) F (by omega) (mw N2 (sPass t a).2)
      have row : N3 120 = rowI a := by
        funext k
        by_cases q : k < 216
        · have z := p4 k (by omega) q
          rw [Nat.zero_add] at z
          have z2 := k4 k (by omega) q
          rw [Nat.zero_add] at z2
          rw [z, mw_ne _ _ (by decide), l2 _ (by decide), z2, n120]
        · rw [p3 k (by omega), mw_120, rowI_at, rowI_at, (WF.pass t a hW).z k (by omega), hW.z k (by omega)]
      have f3 : ∀ c, c ≠ 120 → c ≠ 124 → c ≠ 125 → N3 c = up2 (up2 M2 129 0 (nI (sPass t a).1)) 119 0 0 c := fun c q1 q2 q3 => by rw [p2 c q1, mw_ne _ _ q1, l2 c q3, k2 c q2]
      refine ⟨0, _, nI (sPass t a).1, N3, e1, ?_, by rw [f3 _ (by decide) (by decide) (by decide), u2_same, if_pos rfl], fun _ => by rw [f3 _ (by decide) (by decide) (by decide), u2_ne _ (by decide), u2_same, if_pos rfl], ?_⟩
      · unfold fX12_predictCaught
        simp only [lM]
        rw [mBetw, decide_eq_true ⟨h0, nltL (n := 60) ht (by decide) h1⟩]
        simp only [bM]
        rw [if_pos trivial]
        refine k1.trans ?_
        rw [mw_eq n1, l1]
        exact p1
      · obtain ⟨R, n, T, hO, hC, hMd⟩ := id hR
        have eR : rowI (R 8) = rowI a := hMd.1.symm.trans hN
        refine ⟨R, n, T, hO, hC.fr fun c q1 q2 q3 q4 q5 => by rw [f3 c (by omega) (by omega) (by omega), u2_ne _ (by omega), u2_ne _ (by omega), f1 c q2], ?_⟩
        obtain ⟨g1, g2, g3, g4, g5, g6, g7, g8, g9, g10⟩ := hMd
        have e : ∀ c, c ≠ 119 → c ≠ 120 → c ≠ 124 → c ≠ 125 → c ≠ 129 → ¬ (11 ≤ c ∧ c < 21) → N3 c = M c := fun c q0 q1 q2 q3 q4 q5 => by rw [f3 c q1 q2 q3, u2_ne _ q0, u2_ne _ q4, f1 c q5]
        have e119 : ∀ i, i ≠ 0 → N3 119 i = M 119 i := fun i q => by rw [f3 _ (by decide) (by decide) (by decide), u2_same, if_neg q, u2_ne _ (by decide), f1 _ (by omega)]
        refine ⟨by rw [row, ← eR], ⟨by rw [e119 _ (by decide)]; exact g2.1, by rw [e119 _ (by decide)]; exact g2.2.1, fun j hj k hk => by rw [e 121 (by decide) (by decide) (by decide) (by decide) (by decide) (by decide)]; exact g2.2.2 j hj k hk⟩, ⟨by rw [e119 _ (by decide)]; exact g3.1, fun q k hk => by rw [e 122 (by decide) (by decide) (by decide) (by decide) (by decide) (by decide)]; exact g3.2 q k hk⟩, ⟨by rw [e119 _ (by decide)]; exact g4.1, fun k hk => by rw [e 127 (by decide) (by decide) (by decide) (by decide) (by decide) (by decide)]; exact g4.2 k hk⟩, ⟨by rw [e119 _ (by decide)]; exact g5.1, fun k hk => by rw [e 126 (by decide) (by decide) (by decide) (by decide) (by decide) (by decide)]; exact g5.2 k hk⟩, by rw [e119 _ (by decide)]; exact g6, by rw [e119 _ (by decide)]; exact g7, fun q => by rw [e119 _ (by decide)]; exact g8 q, by rw [e119 _ (by decide)]; exact g9, by rw [e119 _ (by decide)]; exact g10⟩
    · exact bad (by unfold fX11_predictCaught; rw [if_neg h0, if_neg (nleR (n := 60) ht (by decide) (by omega))]) (decide_eq_false fun z => z.2 (ltL (n := 60) ht (by decide) (by omega)))
end
section
variable {F : Nat} {M N : Mem} {R : Nat → Nat → Nat} {n : Nat → Nat} {T : Nat → Nat → Int32}
theorem rowBack {a r : Nat → Nat} {N' : Mem} (hW : WF a) (hr : WF r) (hN : N 120 = rowI a) (h1 : ∀ k, k < 216 → N' 120 k = nI (r k)) (h2 : ∀ k, 216 ≤ k → N' 120 k = N 120 k) : N' 120 = rowI r := by
  funext k
  by_cases q : k < 216
  · rw [h1 k q, rowI_at]
  · rw [h2 k (by omega), hN, rowI_at, rowI_at, hW.z k (by omega), hr.z k (by omega)]
theorem ok_undo (hF : 1500 ≤ F) (hR : Rel M) : OKL (fL_undo F) (fX12_undo F) M := by
  obtain ⟨R, n, T, hO, hC, hMd⟩ := id hR
  have h0 := hO.f
  have h1 := hO.c
  have c1 : M 31 1 = nI (n 0) := hC.2.1.1
  have c2 : M 31 2 = nI (n 1) := hC.2.1.2.1
  have m1 : M 119 12 = nI (n 0) := hMd.2.1.1
  have m2 : M 119 11 = nI (n 1) := hMd.2.1.2.1
  by_cases w : n 1 = 0
  · refine okl_e0 hR one_ne ?_ (v := 0) ?_
    · unfold fL_undo fX11_undo
      rw [c2, if_pos (eqL (n := 0) w)]
      rfl
    · unfold fX12_undo
      simp only [lM]
      rw [z119 (by decide), m2, if_pos (eqL (n := 0) w)]
      rfl
  · have hs : (n 0 + (n 1 - 1)) % 8 < 8 := by omega
    have hl := lay1 _ hs
    have hw := hO.wh (n 1 - 1) (by omega)
    have e31 : up2 M 31 2 (nI (n 1 - 1)) 31 1 = nI (n 0) := by rw [u2_same, if_neg (by decide)]; exact c1
    have hcs : CC (up2 M 31 2 (nI (n 1 - 1))) (33 + 10 * ((n 0 + (n 1 - 1)) % 8)) (R ((n 0 + (n 1 - 1)) % 8)) := CL.fr (hC.2.1.2.2 (n 1 - 1) (by omega)) fun c q1 q2 => u2_ne _ (by omega)
    obtain ⟨M2, i1, i2, i3⟩ := copyL (F := F) (b := 1) (p := 33 + 10 * ((n 0 + (n 1 - 1)) % 8)) (by decide) hl (by omega) hw hcs
    have f2 : ∀ c, ¬ (1 ≤ c ∧ c < 11) → c ≠ 31 → M2 c = M c := fun c q1 q2 => by rw [i3 c (by omega), u2_ne _ q2]
    have f31 : M2 31 = up2 M 31 2 (nI (n 1 - 1)) 31 := i3 31 (by omega)
    have e1 : fL_undo F M = some (0, up2 M2 129 0 (nI (n 1 - 1))) := by
      unfold fL_undo fX11_undo fX2_pop
      rw [c2, if_neg (neL (n := 0) (by omega) (by decide) w), show nI (n 1) - 1 = nI (n 1 - 1) from nI_sub (b := 1) (by omega)]
      simp only [lM]
      rw [show up2 M 31 2 (nI (n 1 - 1)) 31 2 = nI (n 1 - 1) by rw [u2_same, if_pos rfl], earlier_n (c := 0) (by omega) h0 e31]
      simp only [bM]
      rw [ckd _ hl, i1]
      simp only [bV, bH]
      rw [f31, u2_same, if_pos rfl]
    obtain ⟨N3, p1, p2, p3, p4⟩ := cpLoop (src := 121) (dst := 120) (216 * ((n 0 + (n 1 - 1)) % 8)) 0 (by decide) (fun kx n' v M => fX12_undo_43 F (nI ((n 0 + (n 1 - 1)) % 8)) kx n' v M) (fun M15 => some ((M15 119 11), M15)) (fun n' M => by
      show fX12_undo_43 F _ _ (n' + 1) _ M = _
      rw [fX12_undo_43, if_pos (leL (n := 216) (by decide) (by decide) (by decide))]) (fun n' v M hv => by
      show fX12_undo_43 F _ _ (n' + 1) _ M = _
      rw [fX12_undo_43, if_neg (nleL (n := 216) (by omega) (by decide) hv), lit 216, nI_mul, nI_add, inbN (by omega), ckd _ (by omega), inbN (by omega), ckd _ hv, nI_cl (by omega), nI_cl (by omega), Nat.zero_add]
      simp only [lM]
      rw [nI_1]) 216 0 (by omega) F (by omega) (up2 (up2 (up2 M2 129 0 (nI (n 1 - 1))) 119 0 0) 119 11 (nI (n 1 - 1)))
    have g120 : up2 (up2 (up2 M2 129 0 (nI (n 1 - 1))) 119 0 0) 119 11 (nI (n 1 - 1)) 120 = rowI (R 8) := by rw [u2_ne _ (by decide), u2_ne _ (by decide), u2_ne _ (by decide), f2 _ (by omega) (by decide)]; exact hMd.1
    have f3 : ∀ c, c ≠ 119 → c ≠ 120 → c ≠ 129 → N3 c = M2 c := fun c q1 q2 q3 => by rw [p2 c q2, u2_ne _ q1, u2_ne _ q1, u2_ne _ q3]
    have f119 : ∀ i, N3 119 i = if i = 11 then nI (n 1 - 1) else if i = 0 then 0 else M 119 i := fun i => by rw [p2 _ (by decide), u2_same, u2_same, u2_ne _ (by decide), f2 _ (by omega) (by decide)]
    have row : N3 120 = rowI (R ((n 0 + (n 1 - 1)) % 8)) := by
      refine rowBack (N := up2 (up2 (up2 M2 129 0 (nI (n 1 - 1))) 119 0 0) 119 11 (nI (n 1 - 1))) hO.w hw g120 (fun k hk => ?_) (fun k hk => p3 k (by omega))
      have z := p4 k (by omega) hk
      rw [Nat.zero_add] at z
      rw [z, u2_ne _ (by decide), u2_ne _ (by decide), u2_ne _ (by decide), f2 _ (by omega) (by decide)]
      exact hMd.2.1.2.2 (n 1 - 1) (by omega) k hk
    have b119 : ∀ v, up2 M2 129 0 v 119 = M 119 := fun v => by rw [u2_ne _ (by decide), f2 _ (by omega) (by decide)]
    refine ⟨0, _, nI (n 1 - 1), N3, e1, ?_, by rw [f119, if_neg (by decide), if_pos rfl], fun _ => by rw [p2 _ (by decide), u2_ne _ (by decide), u2_ne _ (by decide), u2_same, if_pos rfl], updR R 8 (R ((n 0 + (n 1 - 1)) % 8)), updN n 1 (n 1 - 1), T, ?_, ?_, ?_⟩
    · unfold fX12_undo
      simp only [lM]
      rw [z119 (by decide), b119, m2, if_neg (neL (n := 0) (by omega) (by decide) w), show nI (n 1) - 1 = nI (n 1 - 1) from nI_sub (b := 1) (by omega), show up2 (up2 (up2 M2 129 0 (nI (n 1 - 1))) 119 0 0) 119 11 (nI (n 1 - 1)) 119 12 = nI (n 0) by rw [u2_same, if_neg (by decide), z119 (by decide), b119]; exact m1, show up2 (up2 (up2 M2 129 0 (nI (n 1 - 1))) 119 0 0) 119 11 (nI (n 1 - 1)) 119 11 = nI (n 1 - 1) by rw [u2_same, if_pos rfl], nI_add, lit 8, irmN (by omega) (by omega)]
      refine p1.trans ?_
      rw [f119, if_pos rfl]
    · refine ⟨by rw [updR_same]; exact hw, hO.f, by show n 1 - 1 ≤ 8; omega, fun j hj => ?_, hO.s, fun q => by rw [updR_ne _ _ (by decide)]; exact hO.ws q, hO.tl, hO.tn, hO.ll, hO.ln, hO.d, hO.ca, hO.fa⟩
      have hj' : j < n 1 - 1 := hj
      show WF (updR R 8 _ ((n 0 + j) % 8))
      rw [updR_ne _ _ (by omega)]
      exact hO.wh j (by omega)
    · refine (hC.mk' (M' := M2) (by rw [updR_same]; exact i2) ⟨?_, ?_, fun j hj => ?_⟩ (updR_ne _ _ (by decide)) (fun k hk => updN_ne _ (by omega)) (f2 0 (by omega) (by decide)) (fun c q => f2 c (by omega) (by omega))).fr (fun c q1 q2 q3 q4 q5 => f3 c (by omega) (by omega) (by omega))
      · rw [f31]; exact e31
      · rw [f31, u2_same, if_pos rfl, updN_same]
      · have hj' : j < n 1 - 1 := hj
        show CC M2 (33 + 10 * ((n 0 + j) % 8)) (updR R 8 _ ((n 0 + j) % 8))
        rw [updR_ne _ _ (by omega)]
        exact CL.fr (hC.2.1.2.2 j (by omega)) fun c q1 q2 => f2 c (by omega) (by omega)
    · refine hMd.mk' (by rw [updR_same]; exact row) ⟨?_, ?_, fun j hj k hk => ?_⟩ (updR_ne _ _ (by decide)) (fun k hk => updN_ne _ (by omega)) (fun c q => by rw [f3 c (by omega) (by omega) (by omega), f2 c (by omega) (by omega)]) (fun i q1 q2 q3 => by rw [f119, if_neg q2, if_neg q1])
      · rw [f119, if_neg (by decide), if_neg (by decide)]; exact m1
      · rw [f119, if_pos rfl, updN_same]
      · have hj' : j < n 1 - 1 := hj
        show N3 121 (216 * ((n 0 + j) % 8) + k) = nI (updR R 8 _ ((n 0 + j) % 8) k)
        rw [updR_ne _ _ (by omega), f3 _ (by decide) (by decide) (by decide), f2 _ (by omega) (by decide)]
        exact hMd.2.1.2.2 j (by omega) k hk
theorem ok_saveSnapshot (hF : 1500 ≤ F) (hR : Rel M) : OKD (fX11_saveSnapshot F) (fX12_saveSnapshot F) M := by
  obtain ⟨R, n, T, hO, hC, hMd⟩ := id hR
  have hw := hO.w
  obtain ⟨M2, i1, i2, i3⟩ := copyL (F := F) (M := M) (b := 21) (p := 1) (by decide) (by decide) (by omega) hw hC.1
  have hn2 : M2 2 3 = nI (R 8 0) := by rw [i3 2 (by omega)]; exact hC.1.n
  obtain ⟨N3, p1, p2, p3, p4⟩ := cpLoop (src := 120) (dst := 122) 0 0 (by decide) (fun kx n' v M => fX12_saveSnapshot_7 F kx n' v M) (fun M10 => letM (up2 M10 119 13 1) (fun M11 => some ((M11 120 0), M11))) (fun n' M => by
    show fX12_saveSnapshot_7 F _ (n' + 1) _ M = _
    rw [fX12_saveSnapshot_7, if_pos (leL (n := 216) (by decide) (by decide) (by decide))]) (fun n' v M hv => by
    show fX12_saveSnapshot_7 F _ (n' + 1) _ M = _
    rw [fX12_saveSnapshot_7, if_neg (nleL (n := 216) (by omega) (by decide) hv), inbN (by omega), ckd _ hv, ckd _ hv, nI_cl (by omega), Nat.zero_add]
    simp only [lM]
    rw [nI_1]) 216 0 (by omega) F (by omega) (up2 (up2 M2 0 3 1) 119 0 0)
  have f2 : ∀ c, c ≠ 0 → ¬ (21 ≤ c ∧ c < 31) → up2 M2 0 3 1 c = M c := fun c q1 q2 => by rw [u2_ne _ q1, i3 c (by omega)]
  have r0 : ∀ i, i ≠ 3 → up2 M2 0 3 1 0 i = M 0 i := fun i q => by rw [u2_same, if_neg q, i3 0 (by omega)]
  have g120 : N3 120 = rowI (R 8) := by rw [p2 _ (by decide), u2_ne _ (by decide), f2 _ (by decide) (by omega)]; exact hMd.1
  have f3 : ∀ c, c ≠ 119 → c ≠ 122 → up2 N3 119 13 1 c = up2 M2 0 3 1 c := fun c q1 q2 => by rw [u2_ne _ q1, p2 c q2, u2_ne _ q1]
  have f119 : ∀ i, up2 N3 119 13 1 119 i = if i = 13 then 1 else if i = 0 then 0 else M 119 i := fun i => by rw [u2_same, p2 _ (by decide), u2_same, f2 _ (by decide) (by omega)]
  refine ⟨nI (R 8 0), up2 M2 0 3 1, up2 N3 119 13 1, ?_, ?_, updR R 9 (R 8), updN n 2 1, T, ?_, ?_, ?_⟩
  · unfold fX11_saveSnapshot
    rw [i1]
    simp only [bV, lM]
    rw [u2_ne _ (by decide), hn2]
  · unfold fX12_saveSnapshot
    simp only [lM]
    refine p1.trans ?_
    simp only [lM]
    rw [u2_ne _ (by decide), g120, rowI_at]
  · refine ⟨by rw [updR_ne _ _ (by decide)]; exact hw, hO.f, hO.c, fun j hj => ?_, by show 1 ≤ 1; omega, fun q => by rw [updR_same]; exact hw, hO.tl, hO.tn, hO.ll, hO.ln, hO.d, hO.ca, hO.fa⟩
    show WF (updR R 9 _ ((n 0 + j) % 8))
    rw [updR_ne _ _ (by omega)]
    exact hO.wh j hj
  · refine RC.fr (M := up2 M2 0 3 1) ?_ (fun c q1 q2 q3 q4 q5 => f3 c (by omega) (by omega))
    obtain ⟨g1, g2, g3, g4, g5, g6, g7, g8, g9⟩ := hC
    refine ⟨?_, ⟨by rw [f2 _ (by decide) (by omega)]; exact g2.1, by rw [f2 _ (by decide) (by omega)]; exact g2.2.1, fun j hj => ?_⟩, ⟨by rw [u2_same, if_pos rfl]; rfl, fun q => ?_⟩, ⟨by rw [f2 _ (by decide) (by omega)]; exact g4.1, fun k hk => by rw [f2 _ (by decide) (by omega)]; exact g4.2 k hk⟩, ⟨by rw [f2 _ (by decide) (by omega)]; exact g5.1, fun k hk => by rw [f2 _ (by decide) (by omega)]; exact g5.2 k hk⟩, by rw [r0 _ (by decide)]; exact g6, by rw [r0 _ (by decide)]; exact g7, fun q => by rw [r0 _ (by decide)]; exact g8 q, by rw [r0 _ (by decide)]; exact g9⟩
    · rw [updR_ne _ _ (by decide)]
      exact CL.fr g1 fun c q1 q2 => f2 c (by omega) (by omega)
    · show CC _ (33 + 10 * ((n 0 + j) % 8)) (updR R 9 _ ((n 0 + j) % 8))
      rw [updR_ne _ _ (by omega)]
      exact CL.fr (g2.2.2 j hj) fun c q1 q2 => f2 c (by omega) (by omega)
    · rw [updR_same]
      exact CL.fr i2 fun c q1 q2 => u2_ne _ (by omega)
  · obtain ⟨g1, g2, g3, g4, g5, g6, g7, g8, g9, g10⟩ := hMd
    have e : ∀ c, c ≠ 119 → c ≠ 122 → c ≠ 0 → ¬ (21 ≤ c ∧ c < 31) → up2 N3 119 13 1 c = M c := fun c q1 q2 q3 q4 => by rw [f3 c q1 q2, f2 c q3 q4]
    have e119 : ∀ i, i ≠ 0 → i ≠ 13 → up2 N3 119 13 1 119 i = M 119 i := fun i q1 q2 => by rw [f119, if_neg q2, if_neg q1]
    refine ⟨by rw [updR_ne _ _ (by decide), e _ (by decide) (by decide) (by decide) (by omega)]; exact g1, ⟨by rw [e119 _ (by decide) (by decide)]; exact g2.1, by rw [e119 _ (by decide) (by decide)]; exact g2.2.1, fun j hj k hk => ?_⟩, ⟨by rw [f119, if_pos rfl]; rfl, fun q k hk => ?_⟩, ⟨by rw [e119 _ (by decide) (by decide)]; exact g4.1, fun k hk => by rw [e _ (by decide) (by decide) (by decide) (by omega)]; exact g4.2 k hk⟩, ⟨by rw [e119 _ (by decide) (by decide)]; exact g5.1, fun k hk => by rw [e _ (by decide) (by decide) (by decide) (by omega)]; exact g5.2 k hk⟩, by rw [e119 _ (by decide) (by decide)]; exact g6, by rw [e119 _ (by decide) (by decide)]; exact g7, fun q => by rw [e119 _ (by decide) (by decide)]; exact g8 q, by rw [e119 _ (by decide) (by decide)]; exact g9, by rw [e119 _ (by decide) (by decide)]; exact g10⟩
    · show up2 N3 119 13 1 121 (216 * ((n 0 + j) % 8) + k) = nI (updR R 9 _ ((n 0 + j) % 8) k)
      rw [updR_ne _ _ (by omega), e _ (by decide) (by decide) (by decide) (by omega)]
      exact g2.2.2 j hj k hk
    · have z := p4 k (by omega) hk
      rw [Nat.zero_add] at z
      rw [updR_same, u2_ne _ (by decide), z, u2_ne _ (by decide), f2 _ (by decide) (by omega), g1, rowI_at]
theorem ok_restoreSnapshot (hF : 1500 ≤ F) (hR : Rel M) : OKL (fL_restoreSnapshot F) (fX12_restoreSnapshot F) M := by
  obtain ⟨R, n, T, hO, hC, hMd⟩ := id hR
  have hs := hO.s
  have c1 : M 0 3 = nI (n 2) := hC.2.2.1.1
  have m1 : M 119 13 = nI (n 2) := hMd.2.2.1.1
  by_cases w : n 2 = 0
  · refine okl_e0 hR one_ne ?_ (v := 0) ?_
    · unfold fL_restoreSnapshot fX11_restoreSnapshot
      rw [c1, if_pos (eqL (n := 0) w)]
      rfl
    · unfold fX12_restoreSnapshot
      simp only [lM]
      rw [z119 (by decide), m1, if_pos (eqL (n := 0) w)]
      rfl
  · have hw := hO.ws (by omega)
    obtain ⟨M2, i1, i2, i3⟩ := copyL (F := F) (M := M) (b := 1) (p := 21) (by decide) (by decide) (by omega) hw (hC.2.2.1.2 (by omega))
    have f2 : ∀ c, ¬ (1 ≤ c ∧ c < 11) → M2 c = M c := fun c q => i3 c (by omega)
    have f4 : ∀ c, ¬ (1 ≤ c ∧ c < 11) → c ≠ 31 → up2 (up2 M2 31 1 0) 31 2 0 c = M c := fun c q1 q2 => by rw [u2_ne _ q2, u2_ne _ q2, f2 c q1]
    have e23 : up2 (up2 M2 31 1 0) 31 2 0 2 3 = nI (R 9 0) := by rw [u2_ne _ (by decide), u2_ne _ (by decide)]; exact i2.n
    have e1 : fL_restoreSnapshot F M = some (0, up2 (up2 (up2 M2 31 1 0) 31 2 0) 129 0 (nI (R 9 0))) := by
      unfold fL_restoreSnapshot fX11_restoreSnapshot fX2_clear
      rw [c1, if_neg (neL (n := 0) (by omega) (by decide) w), i1]
      simp only [bV, lM, bH]
      rw [e23]
    obtain ⟨N3, p1, p2, p3, p4⟩ := cpLoop (src := 122) (dst := 120) 0 0 (by decide) (fun kx n' v M => fX12_restoreSnapshot_20 F kx n' v M) (fun M11 => letM (up2 M11 119 11 0) (fun M12 => letM (up2 M12 119 12 0) (fun M14 => some ((M14 120 0), M14)))) (fun n' M => by
      show fX12_restoreSnapshot_20 F _ (n' + 1) _ M = _
      rw [fX12_restoreSnapshot_20, if_pos (leL (n := 216) (by decide) (by decide) (by decide))]) (fun n' v M hv => by
      show fX12_restoreSnapshot_20 F _ (n' + 1) _ M = _
      rw [fX12_restoreSnapshot_20, if_neg (nleL (n := 216) (by omega) (by decide) hv), inbN (by omega), ckd _ hv, ckd _ hv, nI_cl (by omega), Nat.zero_add]
      simp only [lM]
      rw [nI_1]) 216 0 (by omega) F (by omega) (up2 (up2 (up2 (up2 M2 31 1 0) 31 2 0) 129 0 (nI (R 9 0))) 119 0 0)
    have f3 : ∀ c, c ≠ 119 → c ≠ 120 → c ≠ 129 → up2 (up2 N3 119 11 0) 119 12 0 c = up2 (up2 M2 31 1 0) 31 2 0 c := fun c q1 q2 q3 => by rw [u2_ne _ q1, u2_ne _ q1, p2 c q2, u2_ne _ q1, u2_ne _ q3]
    have f119 : ∀ i, up2 (up2 N3 119 11 0) 119 12 0 119 i = if i = 12 then 0 else if i = 11 then 0 else if i = 0 then 0 else M 119 i := fun i => by rw [u2_same, u2_same, p2 _ (by decide), u2_same, u2_ne _ (by decide), f4 _ (by omega) (by decide)]
    have g120 : up2 (up2 (up2 (up2 M2 31 1 0) 31 2 0) 129 0 (nI (R 9 0))) 119 0 0 120 = rowI (R 8) := by rw [u2_ne _ (by decide), u2_ne _ (by decide), f4 _ (by omega) (by decide)]; exact hMd.1
    have row : up2 (up2 N3 119 11 0) 119 12 0 120 = rowI (R 9) := by
      rw [u2_ne _ (by decide), u2_ne _ (by decide)]
      refine rowBack hO.w hw g120 (fun k hk => ?_) (fun k hk => p3 k (by omega))
      have z := p4 k (by omega) hk
      rw [Nat.zero_add] at z
      rw [z, u2_ne _ (by decide), u2_ne _ (by decide), f4 _ (by omega) (by decide)]
      exact hMd.2.2.1.2 (by omega) k hk
    refine ⟨0, _, nI (R 9 0), up2 (up2 N3 119 11 0) 119 12 0, e1, ?_, by rw [f119, if_neg (by decide), if_neg (by decide), if_pos rfl], fun _ => by rw [u2_ne _ (by decide), u2_ne _ (by decide), p2 _ (by decide), u2_ne _ (by decide), u2_same, if_pos rfl], updR R 8 (R 9), updN (updN n 0 0) 1 0, T, ?_, ?_, ?_⟩
    · unfold fX12_restoreSnapshot
      simp only [lM]
      rw [z119 (by decide), u2_ne _ (show 119 ≠ 129 by decide), f4 _ (by omega) (by decide), m1, if_neg (neL (n := 0) (by omega) (by decide) w)]
      refine p1.trans ?_
      simp only [lM]
      rw [row, rowI_at]
    · exact ⟨by rw [updR_same]; exact hw, by show 0 < 8; omega, by show 0 ≤ 8; omega, fun j hj => absurd hj (Nat.not_lt_zero j), hO.s, fun q => by rw [updR_ne _ _ (by decide)]; exact hw, hO.tl, hO.tn, hO.ll, hO.ln, hO.d, hO.ca, hO.fa⟩
    · refine (hC.mk' (M' := up2 (up2 M2 31 1 0) 31 2 0) (R' := updR R 8 (R 9)) (n' := updN (updN n 0 0) 1 0) (by rw [updR_same]; exact CL.fr i2 fun c q1 q2 => by rw [u2_ne _ (by omega), u2_ne _ (by omega)]) ⟨?_, ?_, fun j hj => absurd hj (Nat.not_lt_zero j)⟩ (updR_ne _ _ (by decide)) (fun k hk => by rw [updN_ne _ (by omega), updN_ne _ (by omega)]) (f4 0 (by omega) (by decide)) (fun c q => f4 c (by omega) (by omega))).fr (fun c q1 q2 q3 q4 q5 => f3 c (by omega) (by omega) (by omega))
      · rw [u2_same, if_neg (by decide), u2_same, if_pos rfl]; rfl
      · rw [u2_same, if_pos rfl]; rfl
    · refine hMd.mk' (R' := updR R 8 (R 9)) (n' := updN (updN n 0 0) 1 0) (by rw [updR_same]; exact row) ⟨?_, ?_, fun j hj => absurd hj (Nat.not_lt_zero j)⟩ (updR_ne _ _ (by decide)) (fun k hk => by rw [updN_ne _ (by omega), updN_ne _ (by omega)]) (fun c q => by rw [f3 c (by omega) (by omega) (by omega), f4 c (by omega) (by omega)]) (fun i q1 q2 q3 => by rw [f119, if_neg q3, if_neg q2, if_neg q1])
      · rw [f119, if_pos rfl]; rfl
      · rw [f119, if_neg (by decide), if_pos rfl]; rfl
end
