section
variable {F : Nat} {M N : Mem} {R : Nat → Nat → Nat} {n : Nat → Nat} {T : Nat → Nat → Int32}
theorem refU {b : Nat} {a : Nat → Nat} (h : WF a) (hb : lay b = 1) (hc : CC M b a) {op : Nat} (hop : op ≤ 10) (p1 p2 : Int32) : ∃ r : Nat, r < 8 ∧ fX3_refusalOf F b op p1 p2 M = some (r, M) ∧ ((r = 0 ∧ ∃ x y, p1 = nI x ∧ ((op = 1 ∨ op = 2 ∨ op = 5) → p2 = nI y) ∧ opOK op x y a ∧ ∀ N : Mem, N 120 = rowI a → mNot F op p1 p2 N = some (0, N)) ∨ (r = 6 ∧ op ≠ 0 ∧ op < 8 ∧ ∀ N : Mem, N 120 = rowI a → mNot F op p1 p2 N = some (1, N)) ∨ (r = 7 ∧ (op = 0 ∨ op = 5 ∨ 8 ≤ op) ∧ ∀ N : Mem, N 120 = rowI a → mNot F op p1 p2 N = some (if op = 5 then 2 else 1, N)) ∨ (1 ≤ r ∧ r ≤ 5 ∧ op ≤ 6 ∧ ∃ d, fX3_detailOf F b r op p1 M = some (d, M) ∧ ∀ N : Mem, N 120 = rowI a → mNot F op p1 p2 N = some (if op = 5 then 3 else 2, up2 (up2 N 119 1 (nI r)) 119 2 d))) := by
  obtain ⟨r, hr, e, hcs⟩ := refAll (F := F) (N := fun _ => rowI a) h hb hc rfl hop p1 p2
  have same : ∀ N : Mem, N 120 = rowI a → ∃ r' : Nat, r' = r ∧ ((r' = 0 ∧ mNot F op p1 p2 N = some (0, N) ∧ ∃ x y, p1 = nI x ∧ ((op = 1 ∨ op = 2 ∨ op = 5) → p2 = nI y) ∧ opOK op x y a) ∨ (r' = 6 ∧ op ≠ 0 ∧ op < 8 ∧ mNot F op p1 p2 N = some (1, N)) ∨ (r' = 7 ∧ (op = 0 ∨ op = 5 ∨ 8 ≤ op) ∧ mNot F op p1 p2 N = some (if op = 5 then 2 else 1, N)) ∨ (1 ≤ r' ∧ r' ≤ 5 ∧ op ≤ 6 ∧ ∃ d, fX3_detailOf F b r' op p1 M = some (d, M) ∧ mNot F op p1 p2 N = some (if op = 5 then 3 else 2, up2 (up2 N 119 1 (nI r')) 119 2 d))) := fun N hN => by
    obtain ⟨r', _, e', hcs'⟩ := refAll (F := F) (N := N) h hb hc hN hop p1 p2
    rw [e] at e'
    have e2 := (Prod.mk.inj (Option.some.inj e')).1
    exact ⟨r', e2.symm, hcs'⟩
  refine ⟨r, hr, e, ?_⟩
  rcases hcs with ⟨h0, _, x, y, hx, hy, ho⟩ | ⟨h0, h1, h2, _⟩ | ⟨h0, h1, _⟩ | ⟨h0, h1, h2, d, hd, _⟩
  · refine Or.inl ⟨h0, x, y, hx, hy, ho, fun N hN => ?_⟩
    obtain ⟨r', e2, ⟨_, q, _⟩ | ⟨q0, _⟩ | ⟨q0, _⟩ | ⟨q0, _⟩⟩ := same N hN
    · exact q
    · omega
    · omega
    · omega
  · refine Or.inr (Or.inl ⟨h0, h1, h2, fun N hN => ?_⟩)
    obtain ⟨r', e2, ⟨q0, _⟩ | ⟨_, _, _, q⟩ | ⟨q0, _⟩ | ⟨q0, q1, _⟩⟩ := same N hN
    · omega
    · exact q
    · omega
    · omega
  · refine Or.inr (Or.inr (Or.inl ⟨h0, h1, fun N hN => ?_⟩))
    obtain ⟨r', e2, ⟨q0, _⟩ | ⟨q0, _⟩ | ⟨_, _, q⟩ | ⟨q0, q1, _⟩⟩ := same N hN
    · omega
    · omega
    · exact q
    · omega
  · refine Or.inr (Or.inr (Or.inr ⟨h0, h1, h2, d, hd, fun N hN => ?_⟩))
    obtain ⟨r', e2, ⟨q0, _⟩ | ⟨q0, _⟩ | ⟨q0, _⟩ | ⟨_, _, _, d', hd', q⟩⟩ := same N hN
    · omega
    · omega
    · omega
    · subst e2
      rw [hd] at hd'
      have e3 := (Prod.mk.inj (Option.some.inj hd')).1
      rw [e3]
      exact q
theorem RC.mk' (h : RC M R n T) {M' : Mem} {R' : Nat → Nat → Nat} {n' : Nat → Nat} (hc : CC M' 1 (R' 8)) (hh : HIc M' R' n') (h9 : R' 9 = R 9) (hn : ∀ k, 2 ≤ k → n' k = n k) (h0 : M' 0 = M 0) (hM : ∀ c, (21 ≤ c ∧ c < 31) ∨ (115 ≤ c ∧ c < 119) → M' c = M c) : RC M' R' n' T := by
  obtain ⟨h1, h2, h3, h4, h5, h6, h7, h8, h10⟩ := h
  have e2 := hn 2 (by omega)
  have e3 := hn 3 (by omega)
  have e4 := hn 4 (by omega)
  have e5 := hn 5 (by omega)
  have e6 := hn 6 (by omega)
  have e7 := hn 7 (by omega)
  refine ⟨hc, hh, ⟨by rw [h0, e2]; exact h3.1, fun q => ?_⟩, ⟨by rw [hM 115 (by omega), e3]; exact h4.1, fun k hk => by rw [hM 116 (by omega)]; exact h4.2 k (by omega)⟩, ⟨by rw [hM 117 (by omega), e4]; exact h5.1, fun k hk => by rw [hM 118 (by omega)]; exact h5.2 k (by omega)⟩, by rw [h0, e7]; exact h6, by rw [h0, e5]; exact h7, fun q => by rw [h0]; exact h8 (by omega), by rw [h0, e6]; exact h10⟩
  rw [h9]
  exact CL.fr (h3.2 (by omega)) fun c q1 q2 => hM c (by omega)
theorem RM.mk' (h : RM M R n T) {M' : Mem} {R' : Nat → Nat → Nat} {n' : Nat → Nat} (hc : M' 120 = rowI (R' 8)) (hh : HIm M' R' n') (h9 : R' 9 = R 9) (hn : ∀ k, 2 ≤ k → n' k = n k) (hM : ∀ c, (c = 122 ∨ c = 126 ∨ c = 127) → M' c = M c) (h119 : ∀ i, i ≠ 0 → i ≠ 11 → i ≠ 12 → M' 119 i = M 119 i) : RM M' R' n' T := by
  obtain ⟨h1, h2, h3, h4, h5, h6, h7, h8, h10, h11⟩ := h
  have e2 := hn 2 (by omega)
  have e3 := hn 3 (by omega)
  have e4 := hn 4 (by omega)
  have e5 := hn 5 (by omega)
  have e6 := hn 6 (by omega)
  have e7 := hn 7 (by omega)
  refine ⟨hc, hh, ⟨by rw [h119 _ (by decide) (by decide) (by decide), e2]; exact h3.1, fun q k hk => by rw [hM 122 (by omega), h9]; exact h3.2 (by omega) k hk⟩, ⟨by rw [h119 _ (by decide) (by decide) (by decide), e3]; exact h4.1, fun k hk => by rw [hM 127 (by omega)]; exact h4.2 k (by omega)⟩, ⟨by rw [h119 _ (by decide) (by decide) (by decide), e4]; exact h5.1, fun k hk => by rw [hM 126 (by omega)]; exact h5.2 k (by omega)⟩, by rw [h119 _ (by decide) (by decide) (by decide), e7]; exact h6, by rw [h119 _ (by decide) (by decide) (by decide), e5]; exact h7, fun q => by rw [h119 _ (by decide) (by decide) (by decide)]; exact h8 (by omega), by rw [h119 _ (by decide) (by decide) (by decide), e6]; exact h10, by rw [h119 _ (by decide) (by decide) (by decide)]; exact h11⟩
theorem mRemember {r : Nat → Nat} (hF : 300 ≤ F) (h0 : n 0 < 8) (h1 : n 1 ≤ 8) (hh : HIm N R n) (hr : N 120 = rowI r) : ∃ N', fX12_remembers F N = some N' ∧ HIm N' (hR R n r) (hN n) ∧ (∀ c, c ≠ 119 → c ≠ 121 → c ≠ 123 → N' c = N c) ∧ (∀ i, i ≠ 0 → i ≠ 11 → i ≠ 12 → N' 119 i = N 119 i) ∧ N' 119 0 = 0 := by
  unfold fX12_remembers
  simp only [lM]
  obtain ⟨M1, i1, i2, i3⟩ := mCopies (F := F) (M := up2 N 119 0 0) hF
  rw [i1]
  simp only [bV]
  have hh1 : HIm M1 R n := ⟨by rw [i2 _ (by decide), u2_same, if_neg (by decide)]; exact hh.1, by rw [i2 _ (by decide), u2_same, if_neg (by decide)]; exact hh.2.1, fun j hj k hk => by rw [i2 _ (by decide), u2_ne _ (by decide)]; exact hh.2.2 j hj k hk⟩
  obtain ⟨M2, j1, j2, j3, j4⟩ := mKeeps (F := F) (M := M1) (r := r) hF h0 h1 hh1 (fun k hk => by rw [i3 k hk, u2_ne _ (by decide), hr, rowI_at])
  rw [j1]
  refine ⟨M2, rfl, j2, fun c q1 q2 q3 => by rw [j3 c q1 q2, i2 c q3, u2_ne _ q1], fun i q0 q1 q2 => by rw [j4 i q1 q2, i2 _ (by decide), u2_same, if_neg q0], by rw [j4 0 (by decide) (by decide), i2 _ (by decide), u2_same, if_pos rfl]⟩
def mChg (F op : Nat) (p1 p2 : Int32) (M : Mem) : Option (Int32 × Mem) := bindM (mNot F op p1 p2 M) (fun r3 M1 => if r3 = 0 then bindV (fX12_remembers F M1) (fun M5 => bindM (mDo F op p1 p2 M5) (fun r9 M7 => some (r9, M7))) else bindM (fX12_refuses F (if 7 ≤ op then 1 else r3) M1) (fun r12 M10 => some (r12, M10)))
theorem rnum_n : ∀ r, r ≤ 5 → rnum r = nI r := by decide
theorem hR_hi (r : Nat → Nat) {i : Nat} (h : 8 ≤ i) : hR R n r i = R i := updR_ne _ _ (by omega)
theorem HIc.up (h : HIc M R n) (r : Nat → Nat) : HIc M (updR R 8 r) n := ⟨h.1, h.2.1, fun j hj => by rw [updR_ne _ _ (by omega)]; exact h.2.2 j hj⟩
theorem HIm.up (h : HIm M R n) (r : Nat → Nat) : HIm M (updR R 8 r) n := ⟨h.1, h.2.1, fun j hj k hk => by rw [updR_ne _ _ (by omega)]; exact h.2.2 j hj k hk⟩
theorem OG.push (h : OG R n T) {r : Nat → Nat} (hr : WF r) : OG (updR (hR R n (R 8)) 8 r) (hN n) T := by
  have h0 := h.f
  have h1 := h.c
  have e2 := hN_hi n (k := 2) (by omega)
  have e3 := hN_hi n (k := 3) (by omega)
  have e4 := hN_hi n (k := 4) (by omega)
  have e5 := hN_hi n (k := 5) (by omega)
  have e6 := hN_hi n (k := 6) (by omega)
  have e7 := hN_hi n (k := 7) (by omega)
  have f0 : hN n 0 < 8 := by
    unfold hN
    split
    · rw [updN_same]; omega
    · rw [updN_ne _ (by decide)]; exact h0
  have f1 : hN n 1 ≤ 8 := by
    unfold hN
    split
    · rw [updN_ne _ (by decide)]; omega
    · rw [updN_same]; omega
  refine ⟨by rw [updR_same]; exact hr, f0, f1, fun j hj => ?_, by rw [e2]; exact h.s, fun q => ?_, by rw [e3]; exact h.tl, fun k hk => h.tn k (by omega), by rw [e4]; exact h.ll, fun k hk => h.ln k (by omega), by rw [e5]; exact h.d, by rw [e6]; exact h.ca, by rw [e7]; exact h.fa⟩
  · rw [updR_ne _ _ (by omega)]
    exact hist_new (P := fun _ r => WF r) (R := R) h0 h1 (fun j hj _ => h.wh j hj) h.w j hj
  · rw [updR_ne _ _ (by omega), hR_hi _ (by omega)]
    exact h.ws (by omega)
theorem chg (hF : 1500 ≤ F) (hO : OG R n T) (hC : RC M R n T) (hMd : RM M R n T) {op : Nat} (hop : op ≤ 10) (p1 p2 : Int32) :
    (∃ v M1, fX11_change F op p1 p2 M = some (Sum.inl v, M1) ∧ ∀ w, ∃ M3, mChg F op p1 p2 (up2 M1 129 0 w) = some (v, M3) ∧ M3 119 0 = 0 ∧ M3 129 0 = w ∧ Rel M3) ∨
    (∃ z e M1, fX11_change F op p1 p2 M = some (Sum.inr z, M1) ∧ ((z = 1 ∧ e = 1 ∧ op ≠ 0 ∧ op < 8) ∨ (z = 2 ∧ e = (if op = 5 then 2 else 1) ∧ (op = 0 ∨ op = 5 ∨ 8 ≤ op)) ∨ (z = 3 ∧ e = (if op = 5 then 3 else 2) ∧ op ≤ 6)) ∧ ∃ v M3, mChg F op p1 p2 M1 = some (v, M3) ∧ M3 119 0 = nI e ∧ Rel M3) := by
  have hw := hO.w
  obtain ⟨r, hr, e, hcs⟩ := refU (F := F) (b := 1) hw (by decide) hC.1 hop p1 p2
  unfold fX11_change
  rw [e]
  simp only [bM]
  rw [ckd _ hr, ckd _ hr, ckd _ hr, ckd _ hr, ckd _ hr]
  rcases hcs with ⟨h0, x, y, hx, hy, ho, hm⟩ | ⟨h0, h1, h2, hm⟩ | ⟨h0, h1, hm⟩ | ⟨h0, h1, h2, d, hd, hm⟩
  · -- done
    refine Or.inl ?_
    subst hx
    rw [if_neg (by omega), if_neg (by omega), if_pos h0]
    obtain ⟨M1, i1, i2, i3⟩ := cPush (F := F) hO.f hO.c hC.2.1 hw hC.1
    rw [i1]
    simp only [bV]
    have c1 : CC M1 1 (R 8) := CL.fr hC.1 fun c q1 q2 => i3 c (by omega)
    obtain ⟨M2, j1, j2, j3⟩ := cOp (F := F) hw (by decide) (by omega) c1 hop ho hy
    rw [j1]
    simp only [bM]
    refine ⟨_, _, rfl, fun w => ?_⟩
    have h2 : WF (opRow op x y (R 8)) := hw.op hop ho
    have eq : ∀ c, (c < 1 ∨ 113 ≤ c ∨ (11 ≤ c ∧ c < 31)) → M2 c = M c := fun c q => by rw [j3 c (by omega), i3 c (by omega)]
    have rc : RC M2 (updR (hR R n (R 8)) 8 (opRow op x y (R 8))) (hN n) T := by
      refine hC.mk' (by rw [updR_same]; exact j2) ((HIc.fr i2 fun c q1 q2 => j3 c (by omega)).up _) (by rw [updR_ne _ _ (by omega), hR_hi _ (by omega)]) (fun k hk => hN_hi n hk) (eq 0 (by omega)) (fun c q => eq c (by omega))
    have eN : ∀ c, c ≠ 129 → up2 M2 129 0 w c = M2 c := fun c q => u2_ne _ q
    have n120 : up2 M2 129 0 w 120 = rowI (R 8) := by rw [eN _ (by decide), eq _ (by omega)]; exact hMd.1
    unfold mChg
    rw [hm _ n120]
    simp only [bM]
    rw [if_pos trivial]
    have him : HIm (up2 M2 129 0 w) R n := ⟨by rw [eN _ (by decide), eq _ (by omega)]; exact hMd.2.1.1, by rw [eN _ (by decide), eq _ (by omega)]; exact hMd.2.1.2.1, fun j hj k hk => by rw [eN _ (by decide), eq _ (by omega)]; exact hMd.2.1.2.2 j hj k hk⟩
    obtain ⟨N1, k1, k2, k3, k4, k5⟩ := mRemember (F := F) (r := R 8) (by omega) hO.f hO.c him n120
    rw [k1]
    simp only [bV]
    have n1 : N1 120 = rowI (R 8) := by rw [k3 _ (by decide) (by decide) (by decide)]; exact n120
    rw [mw_eq n1]
    obtain ⟨N2, l1, l2⟩ := mOp (F := F) (N := N1) hw hF hop ho hy
    rw [l1]
    simp only [bM]
    have f2 : ∀ c, c ≠ 120 → c ≠ 125 → mw N2 (opRow op x y (R 8)) c = N1 c := fun c q1 q2 => by rw [mw_ne _ _ q1, l2 c q2]
    have f3 : ∀ c, c ≠ 119 → c ≠ 120 → c ≠ 121 → c ≠ 123 → c ≠ 125 → c ≠ 129 → mw N2 (opRow op x y (R 8)) c = M2 c := fun c q1 q2 q3 q4 q5 q6 => by rw [f2 c q2 q5, k3 c q1 q3 q4, eN c q6]
    refine ⟨_, rfl, by rw [f2 _ (by decide) (by decide)]; exact k5, by rw [f2 _ (by decide) (by decide), k3 _ (by decide) (by decide) (by decide), u2_same, if_pos rfl], _, _, _, hO.push h2, rc.fr (fun c q1 q2 q3 q4 q5 => f3 c (by omega) (by omega) (by omega) (by omega) (by omega) (by omega)), ?_⟩
    refine hMd.mk' (by rw [mw_120, updR_same]) (HIm.up ⟨by rw [f2 _ (by decide) (by decide)]; exact k2.1, by rw [f2 _ (by decide) (by decide)]; exact k2.2.1, fun j hj k hk => by rw [f2 _ (by decide) (by decide)]; exact k2.2.2 j hj k hk⟩ _) (by rw [updR_ne _ _ (by omega), hR_hi _ (by omega)]) (fun k hk => hN_hi n hk) (fun c q => by rw [f3 c (by omega) (by omega) (by omega) (by omega) (by omega) (by omega), eq c (by omega)]) (fun i q1 q2 q3 => by rw [f2 _ (by decide) (by decide), k4 i q1 q2 q3, eN _ (by decide), eq _ (by omega)])
  · refine Or.inr ?_
    rw [if_pos h0]
    refine ⟨1, 1, M, rfl, Or.inl ⟨rfl, rfl, h1, h2⟩, ?_⟩
    unfold mChg
    rw [hm M hMd.1]
    have c0 : ¬ (1 : Int32) = 0 := by decide
    simp only [bM]
    rw [if_neg c0]
    unfold fX12_refuses fX12_fails
    have p0 : M 119 1 = 0 := hMd.2.2.2.2.2.2.2.2.2
    rw [p0, if_pos (by decide), show (if 7 ≤ op then (1 : Int32) else 1) = nI 1 by split <;> rfl]
    refine ⟨_, _, rfl, by rw [u2_same, if_pos rfl], R, n, T, hO, hC.fr (fun c q1 q2 q3 q4 q5 => by rw [u2_ne _ (by omega), u2_ne _ (by omega)]), hMd.fr (fun c q => by rw [u2_ne _ (by omega), u2_ne _ (by omega)]) (fun i q => ?_)⟩
    rw [u2_same, if_neg q, u2_same]
    split
    · rename_i q2; rw [q2, p0]
    · rfl
  · refine Or.inr ?_
    rw [if_neg (by omega), if_pos h0]
    refine ⟨2, if op = 5 then 2 else 1, M, rfl, Or.inr (Or.inl ⟨rfl, rfl, h1⟩), ?_⟩
    unfold mChg
    rw [hm M hMd.1]
    have c0 : ¬ (if op = 5 then (2 : Int32) else 1) = 0 := by split <;> decide
    simp only [bM]
    rw [if_neg c0]
    unfold fX12_refuses fX12_fails
    have p0 : M 119 1 = 0 := hMd.2.2.2.2.2.2.2.2.2
    have c1 : (if 7 ≤ op then (1 : Int32) else if op = 5 then 2 else 1) = nI (if op = 5 then 2 else 1) := by
      by_cases w : op = 5
      · subst w; rfl
      · rw [if_neg w, if_neg w]; split <;> rfl
    rw [p0, if_pos (by decide), c1]
    refine ⟨_, _, rfl, by rw [u2_same, if_pos rfl], R, n, T, hO, hC.fr (fun c q1 q2 q3 q4 q5 => by rw [u2_ne _ (by omega), u2_ne _ (by omega)]), hMd.fr (fun c q => by rw [u2_ne _ (by omega), u2_ne _ (by omega)]) (fun i q => ?_)⟩
    rw [u2_same, if_neg q, u2_same]
    split
    · rename_i q2; rw [q2, p0]
    · rfl
  · refine Or.inr ?_
    rw [if_neg (by omega), if_neg (by omega), if_neg (by omega), hd]
    simp only [bM]
    unfold fX11_keepDenial
    simp only [lM, bV]
    refine ⟨3, if op = 5 then 3 else 2, _, rfl, Or.inr (Or.inr ⟨rfl, rfl, h2⟩), ?_⟩
    have eN : ∀ c, c ≠ 0 → up2 (up2 (up2 M 0 9 (rnum r)) 0 10 d) 0 11 (-1) c = M c := fun c q => by rw [u2_ne _ q, u2_ne _ q, u2_ne _ q]
    have r0 : ∀ i, up2 (up2 (up2 M 0 9 (rnum r)) 0 10 d) 0 11 (-1) 0 i = if i = 11 then -1 else if i = 10 then d else if i = 9 then rnum r else M 0 i := fun i => by rw [u2_same, u2_same, u2_same]
    generalize up2 (up2 (up2 M 0 9 (rnum r)) 0 10 d) 0 11 (-1) = N at eN r0 ⊢
    unfold mChg
    rw [hm N (by rw [eN _ (by decide)]; exact hMd.1)]
    have c0 : ¬ (if op = 5 then (3 : Int32) else 2) = 0 := by split <;> decide
    simp only [bM]
    rw [if_neg c0, if_neg (show ¬ 7 ≤ op by omega)]
    unfold fX12_refuses fX12_fails
    have p1 : up2 (up2 N 119 1 (nI r)) 119 2 d 119 1 = nI r := by rw [u2_same, if_neg (by decide), u2_same, if_pos rfl]
    have p2 : ∀ v, up2 (up2 (up2 N 119 1 (nI r)) 119 2 d) 119 3 v 119 2 = d := fun v => by rw [u2_same, if_neg (by decide), u2_same, if_pos rfl]
    simp only [lM]
    rw [p1, if_neg (nle0 (by omega) (by omega)), p2]
    have c1 : (if op = 5 then (3 : Int32) else 2) = nI (if op = 5 then 3 else 2) := by split <;> rfl
    rw [c1]
    refine ⟨_, _, rfl, by rw [u2_same, if_pos rfl], R, updN (updN n 5 r) 6 0, updR T 2 (fun _ => d), ?_, ?_, ?_⟩
    · have e : ∀ k, k ≠ 5 → k ≠ 6 → updN (updN n 5 r) 6 0 k = n k := fun k q1 q2 => by rw [updN_ne _ q2, updN_ne _ q1]
      exact ⟨hw, hO.f, hO.c, hO.wh, hO.s, hO.ws, hO.tl, hO.tn, hO.ll, hO.ln, by show r ≤ 7; omega, by show 0 ≤ 7; omega, hO.fa⟩
    · refine RC.fr (M := N) ?_ (fun c q1 q2 q3 q4 q5 => by rw [u2_ne _ (by omega), u2_ne _ (by omega), u2_ne _ (by omega), u2_ne _ (by omega), u2_ne _ (by omega), u2_ne _ (by omega), u2_ne _ (by omega)])
      obtain ⟨g1, g2, g3, g4, g5, g6, g7, g8, g9⟩ := hC
      refine ⟨CL.fr g1 fun c q1 q2 => eN c (by omega), HIc.fr g2 fun c q1 q2 => eN c (by omega), ⟨by rw [r0, if_neg (by decide), if_neg (by decide), if_neg (by decide)]; exact g3.1, fun q => CL.fr (g3.2 q) fun c q1 q2 => eN c (by omega)⟩, ⟨by rw [eN _ (by decide)]; exact g4.1, fun k hk => by rw [eN _ (by decide)]; exact g4.2 k hk⟩, ⟨by rw [eN _ (by decide)]; exact g5.1, fun k hk => by rw [eN _ (by decide)]; exact g5.2 k hk⟩, by rw [r0, if_neg (by decide), if_neg (by decide), if_neg (by decide)]; exact g6, ?_, fun q => ?_, ?_⟩
      · rw [r0, if_neg (by decide), if_neg (by decide), if_pos rfl, rnum_n r h1]
        show nI r = if r = 0 then -1 else nI r
        rw [if_neg (by omega)]
      · rw [r0, if_neg (by decide), if_pos rfl]; rfl
      · rw [r0, if_pos rfl]; rfl
    · have m : ∀ (X : Mem) (i : Nat) (v : Int32) (c : Nat), c ≠ 119 → up2 X 119 i v c = X c := fun X i v c q => u2_ne X q
      obtain ⟨g1, g2, g3, g4, g5, g6, g7, g8, g9, g10⟩ := hMd
      refine ⟨by simp only [m _ _ _ 120 (by decide)]; rw [eN _ (by decide)]; exact g1, ⟨?_, ?_, fun j hj k hk => by simp only [m _ _ _ 121 (by decide)]; rw [eN _ (by decide)]; exact g2.2.2 j hj k hk⟩, ⟨?_, fun q k hk => by simp only [m _ _ _ 122 (by decide)]; rw [eN _ (by decide)]; exact g3.2 q k hk⟩, ⟨?_, fun k hk => by simp only [m _ _ _ 127 (by decide)]; rw [eN _ (by decide)]; exact g4.2 k hk⟩, ⟨?_, fun k hk => by simp only [m _ _ _ 126 (by decide)]; rw [eN _ (by decide)]; exact g5.2 k hk⟩, ?_, ?_, fun q => ?_, ?_, ?_⟩
      · simp only [u2_same]; rw [if_neg (by decide), if_neg (by decide), if_neg (by decide), if_neg (by decide), if_neg (by decide), if_neg (by decide), if_neg (by decide), eN _ (by decide)]; exact g2.1
      · simp only [u2_same]; rw [if_neg (by decide), if_neg (by decide), if_neg (by decide), if_neg (by decide), if_neg (by decide), if_neg (by decide), if_neg (by decide), eN _ (by decide)]; exact g2.2.1
      · simp only [u2_same]; rw [if_neg (by decide), if_neg (by decide), if_neg (by decide), if_neg (by decide), if_neg (by decide), if_neg (by decide), if_neg (by decide), eN _ (by decide)]; exact g3.1
      · simp only [u2_same]; rw [if_neg (by decide), if_neg (by decide), if_neg (by decide), if_neg (by decide), if_neg (by decide), if_neg (by decide), if_neg (by decide), eN _ (by decide)]; exact g4.1
      · simp only [u2_same]; rw [if_neg (by decide), if_neg (by decide), if_neg (by decide), if_neg (by decide), if_neg (by decide), if_neg (by decide), if_neg (by decide), eN _ (by decide)]; exact g5.1
      · simp only [u2_same]; rw [if_neg (by decide), if_neg (by decide), if_neg (by decide), if_neg (by decide), if_neg (by decide), if_neg (by decide), if_neg (by decide), eN _ (by decide)]; exact g6
      · simp only [u2_same]; rw [if_neg (by decide), if_neg (by decide), if_neg (by decide), if_neg (by decide), if_pos trivial]; rfl
      · simp only [u2_same]; rw [if_neg (by decide), if_neg (by decide), if_neg (by decide), if_pos trivial]; rfl
      · simp only [u2_same]; rw [if_neg (by decide), if_neg (by decide), if_pos trivial]; rfl
      · simp only [u2_same]; rw [if_neg (by decide), if_pos trivial]
end
section
variable {F : Nat} {M N : Mem} {R : Nat → Nat → Nat} {n : Nat → Nat} {T : Nat → Nat → Int32}
def OKL (cl md : Mem → Option (Int32 × Mem)) (M : Mem) : Prop := ∃ r M1 v M2, cl M = some (r, M1) ∧ md M1 = some (v, M2) ∧ M2 119 0 = r ∧ (r = 0 → M2 129 0 = v) ∧ Rel M2
def OKD (cl md : Mem → Option (Int32 × Mem)) (M : Mem) : Prop := ∃ r M1 M2, cl M = some (r, M1) ∧ md M1 = some (r, M2) ∧ Rel M2
theorem lcm_self (x : Int32) : lcm x x = 0 := by
  unfold lcm lg_cmp
  rw [if_neg Int64.lt_irrefl, if_pos rfl]
theorem okl_chg (hF : 1500 ≤ F) (hR : Rel M) {op : Nat} (hop : op ≤ 10) (p1 p2 : Int32) {cl md : Mem → Option (Int32 × Mem)} (h0 : ∀ v M1, fX11_change F op p1 p2 M = some (Sum.inl v, M1) → cl M = some (0, up2 M1 129 0 v)) (h1 : ∀ z e M1, fX11_change F op p1 p2 M = some (Sum.inr z, M1) → ((z = 1 ∧ e = 1 ∧ op ≠ 0 ∧ op < 8) ∨ (z = 2 ∧ e = (if op = 5 then 2 else 1) ∧ (op = 0 ∨ op = 5 ∨ 8 ≤ op)) ∨ (z = 3 ∧ e = (if op = 5 then 3 else 2) ∧ op ≤ 6)) → cl M = some (nI e, M1)) (hm : ∀ N, md N = mChg F op p1 p2 N) : OKL cl md M := by
  obtain ⟨R, n, T, hO, hC, hMd⟩ := hR
  rcases chg hF hO hC hMd hop p1 p2 with ⟨v, M1, e1, e2⟩ | ⟨z, e, M1, e1, e2, v, M3, e3, e4, e5⟩
  · obtain ⟨M3, f1, f2, f3, f4⟩ := e2 v
    exact ⟨0, _, v, M3, h0 v M1 e1, by rw [hm]; exact f1, f2, fun _ => f3, f4⟩
  · refine ⟨nI e, M1, v, M3, h1 z e M1 e1 e2, by rw [hm]; exact e3, e4, fun q => ?_, e5⟩
    exfalso
    have : e ≠ 0 ∧ e < 4 := by
      rcases e2 with ⟨_, q, _⟩ | ⟨_, q, _⟩ | ⟨_, q, _⟩
      · omega
      · split at q <;> omega
      · split at q <;> omega
    have e0 : nI e = nI 0 := q
    rw [nI_eq (by omega) (by omega)] at e0
    omega
theorem ok_addShelf (hF : 1500 ≤ F) (hR : Rel M) (p1 : Int32) : OKL (fL_addShelf F p1) (fX12_addShelf F p1) M := by
  refine okl_chg hF hR (op := 0) (by omega) p1 0 (fun v M1 h => ?_) (fun z e M1 h hz => ?_) (fun N => rfl)
  · show bindH (bindX (fX11_change F 0 p1 0 M) _) _ _ = _
    rw [h]
    rfl
  · show bindH (bindX (fX11_change F 0 p1 0 M) _) _ _ = _
    rw [h]
    rcases hz with ⟨rfl, rfl, q⟩ | ⟨rfl, rfl, q⟩ | ⟨rfl, rfl, q⟩
    · omega
    · rfl
    · rfl
theorem ok_link (hF : 1500 ≤ F) (hR : Rel M) (p1 p2 : Int32) : OKL (fL_link F p1 p2) (fX12_link F p1 p2) M := by
  refine okl_chg hF hR (op := 1) (by omega) p1 p2 (fun v M1 h => ?_) (fun z e M1 h hz => ?_) (fun N => rfl)
  · show bindH (bindX (fX11_change F 1 p1 p2 M) _) _ _ = _
    rw [h]
    rfl
  · show bindH (bindX (fX11_change F 1 p1 p2 M) _) _ _ = _
    rw [h]
    rcases hz with ⟨rfl, rfl, q⟩ | ⟨rfl, rfl, q⟩ | ⟨rfl, rfl, q⟩
    · rfl
    · omega
    · rfl
theorem ok_unlink (hF : 1500 ≤ F) (hR : Rel M) (p1 p2 : Int32) : OKL (fL_unlink F p1 p2) (fX12_unlink F p1 p2) M := by
  refine okl_chg hF hR (op := 2) (by omega) p1 p2 (fun v M1 h => ?_) (fun z e M1 h hz => ?_) (fun N => rfl)
  · show bindH (bindX (fX11_change F 2 p1 p2 M) _) _ _ = _
    rw [h]
    rfl
  · show bindH (bindX (fX11_change F 2 p1 p2 M) _) _ _ = _
    rw [h]
    rcases hz with ⟨rfl, rfl, q⟩ | ⟨rfl, rfl, q⟩ | ⟨rfl, rfl, q⟩
    · rfl
    · omega
    · rfl
theorem ok_fill (hF : 1500 ≤ F) (hR : Rel M) (p1 p2 : Int32) : OKL (fL_fill F p1 p2) (fX12_fill F p1 p2) M := by
  refine okl_chg hF hR (op := 5) (by omega) p1 p2 (fun v M1 h => ?_) (fun z e M1 h hz => ?_) (fun N => rfl)
  · show bindH (bindX (fX11_change F 5 p1 p2 M) _) _ _ = _
    rw [h]
    rfl
  · show bindH (bindX (fX11_change F 5 p1 p2 M) _) _ _ = _
    rw [h]
    rcases hz with ⟨rfl, rfl, q⟩ | ⟨rfl, rfl, q⟩ | ⟨rfl, rfl, q⟩
    · rfl
    · rfl
    · rfl
theorem ok_addStop (hF : 1500 ≤ F) (hR : Rel M) (p1 : Int32) : OKL (fL_addStop F p1) (fX12_addStop F p1) M := by
  refine okl_chg hF hR (op := 6) (by omega) p1 0 (fun v M1 h => ?_) (fun z e M1 h hz => ?_) (fun N => rfl)
  · show bindH (bindX (fX11_change F 6 p1 0 M) _) _ _ = _
    rw [h]
    rfl
  · show bindH (bindX (fX11_change F 6 p1 0 M) _) _ _ = _
    rw [h]
    rcases hz with ⟨rfl, rfl, q⟩ | ⟨rfl, rfl, q⟩ | ⟨rfl, rfl, q⟩
    · rfl
    · omega
    · rfl
theorem ok_removeStop (hF : 1500 ≤ F) (hR : Rel M) (p1 : Int32) : OKL (fL_removeStop F p1) (fX12_removeStop F p1) M := by
  refine okl_chg hF hR (op := 7) (by omega) p1 0 (fun v M1 h => ?_) (fun z e M1 h hz => ?_) (fun N => rfl)
  · show bindH (bindX (fX11_change F 7 p1 0 M) _) _ _ = _
    rw [h]
    rfl
  · show bindH (bindX (fX11_change F 7 p1 0 M) _) _ _ = _
    rw [h]
    rcases hz with ⟨rfl, rfl, q⟩ | ⟨rfl, rfl, q⟩ | ⟨rfl, rfl, q⟩
    · rfl
    · omega
    · omega
theorem ok_setRate (hF : 1500 ≤ F) (hR : Rel M) (p1 : Int32) : OKL (fL_setRate F p1) (fX12_setRate F p1) M := by
  refine okl_chg hF hR (op := 8) (by omega) p1 0 (fun v M1 h => ?_) (fun z e M1 h hz => ?_) (fun N => rfl)
  · show bindH (bindX (fX11_change F 8 p1 0 M) _) _ _ = _
    rw [h]
    rfl
  · show bindH (bindX (fX11_change F 8 p1 0 M) _) _ _ = _
    rw [h]
    rcases hz with ⟨rfl, rfl, q⟩ | ⟨rfl, rfl, q⟩ | ⟨rfl, rfl, q⟩
    · omega
    · rfl
    · omega
theorem ok_setSeed (hF : 1500 ≤ F) (hR : Rel M) (p1 : Int32) : OKL (fL_setSeed F p1) (fX12_setSeed F p1) M := by
  refine okl_chg hF hR (op := 9) (by omega) p1 0 (fun v M1 h => ?_) (fun z e M1 h hz => ?_) (fun N => rfl)
  · show bindH (bindX (fX11_change F 9 p1 0 M) _) _ _ = _
    rw [h]
    rfl
  · show bindH (bindX (fX11_change F 9 p1 0 M) _) _ _ = _
    rw [h]
    rcases hz with ⟨rfl, rfl, q⟩ | ⟨rfl, rfl, q⟩ | ⟨rfl, rfl, q⟩
    · omega
    · rfl
    · omega
theorem ok_pass (hF : 1500 ≤ F) (hR : Rel M) (p1 : Int32) : OKL (fL_pass F p1) (fX12_pass F p1) M := by
  refine okl_chg hF hR (op := 10) (by omega) p1 0 (fun v M1 h => ?_) (fun z e M1 h hz => ?_) (fun N => rfl)
  · show bindH (bindX (fX11_change F 10 p1 0 M) _) _ _ = _
    rw [h]
    rfl
  · show bindH (bindX (fX11_change F 10 p1 0 M) _) _ _ = _
    rw [h]
    rcases hz with ⟨rfl, rfl, q⟩ | ⟨rfl, rfl, q⟩ | ⟨rfl, rfl, q⟩
    · omega
    · rfl
    · omega
theorem ok_setBlind (hF : 1500 ≤ F) (hR : Rel M) (p1 : Int32) (q : Bool) : OKL (fL_setBlind F p1 q) (fX12_setBlind F p1 q) M := by
  cases q with
  | true =>
    refine okl_chg hF hR (op := 3) (by omega) p1 0 (fun v M1 h => ?_) (fun z e M1 h hz => ?_) (fun N => rfl)
    · show bindH (bindX (fX11_change F 3 p1 0 M) _) _ _ = _
      rw [h]
      rfl
    · show bindH (bindX (fX11_change F 3 p1 0 M) _) _ _ = _
      rw [h]
      rcases hz with ⟨rfl, rfl, q⟩ | ⟨rfl, rfl, q⟩ | ⟨rfl, rfl, q⟩
      · rfl
      · omega
      · rfl
  | false =>
    refine okl_chg hF hR (op := 4) (by omega) p1 0 (fun v M1 h => ?_) (fun z e M1 h hz => ?_) (fun N => rfl)
    · show bindH (bindX (fX11_change F 4 p1 0 M) _) _ _ = _
      rw [h]
      rfl
    · show bindH (bindX (fX11_change F 4 p1 0 M) _) _ _ = _
      rw [h]
      rcases hz with ⟨rfl, rfl, q⟩ | ⟨rfl, rfl, q⟩ | ⟨rfl, rfl, q⟩
      · rfl
      · omega
      · rfl
theorem Rel.q (h : Rel M) {M' : Mem} (h1 : ∀ c, c ≠ 119 → c ≠ 113 → c ≠ 114 → c ≠ 125 → c ≠ 129 → c ≠ 130 → ¬ (11 ≤ c ∧ c < 21) → M' c = M c) (h2 : ∀ i, i ≠ 0 → M' 119 i = M 119 i) : Rel M' := by
  obtain ⟨R, n, T, hO, hC, hMd⟩ := h
  exact ⟨R, n, T, hO, hC.fr fun c q1 q2 q3 q4 q5 => h1 c (by omega) q4 q5 (by omega) (by omega) (by omega) q2, hMd.fr (fun c q => h1 c (by omega) (by omega) (by omega) (by omega) (by omega) (by omega) (by omega)) h2⟩
theorem Rel.q1 (h : Rel M) (w : Int32) : Rel (up2 M 119 0 w) := h.q (fun c q1 _ _ _ _ _ _ => u2_ne _ q1) (fun i q => by rw [u2_same, if_neg q])
theorem Rel.q2 (h : Rel M) (v w : Int32) : Rel (up2 (up2 M 129 0 v) 119 0 w) := h.q (fun c q1 _ _ _ q2 _ _ => by rw [u2_ne _ q1, u2_ne _ q2]) (fun i q => by rw [u2_same, if_neg q, u2_ne _ (by decide)])
theorem Rel.cur (h : Rel M) : ∃ a, WF a ∧ CC M 1 a ∧ M 120 = rowI a := by
  obtain ⟨R, n, T, hO, hC, hMd⟩ := h
  exact ⟨R 8, hO.w, hC.1, hMd.1⟩
end
section
variable {F : Nat} {M N : Mem} {a : Nat → Nat}
theorem okl_v (hR : Rel M) {cl md : Mem → Option (Int32 × Mem)} {v : Int32} {M1 M2 : Mem} (h1 : cl M = some (0, up2 M1 129 0 v)) (q1 : ∀ c, c ≠ 113 → c ≠ 114 → ¬ (11 ≤ c ∧ c < 21) → M1 c = M c) (h2 : md (up2 M1 129 0 v) = some (v, M2)) (q2 : ∀ c, c ≠ 125 → c ≠ 119 → M2 c = up2 M1 129 0 v c) (q3 : ∀ i, i ≠ 0 → M2 119 i = up2 M1 129 0 v 119 i) (q4 : M2 119 0 = 0) : OKL cl md M := by
  refine ⟨0, _, v, M2, h1, h2, q4, fun _ => by rw [q2 _ (by decide) (by decide), u2_same, if_pos rfl], hR.q (fun c a1 a2 a3 a4 a5 a6 a7 => by rw [q2 c a4 a1, u2_ne _ a5, q1 c a2 a3 a7]) (fun i q => by rw [q3 i q, u2_ne _ (by decide), q1 _ (by decide) (by decide) (by omega)])⟩
theorem okl_v0 (hR : Rel M) {cl md : Mem → Option (Int32 × Mem)} {v : Int32} (h1 : cl M = some (0, up2 M 129 0 v)) (h2 : md (up2 M 129 0 v) = some (v, up2 (up2 M 129 0 v) 119 0 0)) : OKL cl md M := okl_v hR h1 (fun _ _ _ _ => rfl) h2 (fun c _ q => u2_ne _ q) (fun i q => by rw [u2_same, if_neg q]) (by rw [u2_same, if_pos rfl])
theorem okl_e (hR : Rel M) {cl md : Mem → Option (Int32 × Mem)} {v e : Int32} (he : e ≠ 0) {M1 M2 : Mem} (h1 : cl M = some (e, M1)) (q1 : ∀ c, c ≠ 113 → c ≠ 114 → ¬ (11 ≤ c ∧ c < 21) → M1 c = M c) (h2 : md M1 = some (v, M2)) (q2 : ∀ c, c ≠ 125 → c ≠ 119 → M2 c = M1 c) (q3 : ∀ i, i ≠ 0 → M2 119 i = M1 119 i) (q4 : M2 119 0 = e) : OKL cl md M := by
  refine ⟨e, _, v, M2, h1, h2, q4, fun q => absurd q he, hR.q (fun c a1 a2 a3 a4 a5 a6 a7 => by rw [q2 c a4 a1, q1 c a2 a3 a7]) (fun i q => by rw [q3 i q, q1 _ (by decide) (by decide) (by omega)])⟩
theorem okl_e0 (hR : Rel M) {cl md : Mem → Option (Int32 × Mem)} {v e : Int32} (he : e ≠ 0) (h1 : cl M = some (e, M)) (h2 : md M = some (v, up2 (up2 M 119 0 0) 119 0 e)) : OKL cl md M := okl_e hR he h1 (fun _ _ _ _ => rfl) h2 (fun c _ q => by rw [u2_ne _ q, u2_ne _ q]) (fun i q => by rw [u2_same, if_neg q, u2_same, if_neg q]) (by rw [u2_same, if_pos rfl])
theorem n129 (h : M 120 = rowI a) (v : Int32) : up2 M 129 0 v 120 = rowI a := by rw [u2_ne _ (by decide)]; exact h
theorem n119 (h : M 120 = rowI a) (v : Int32) : up2 M 119 0 v 120 = rowI a := by rw [u2_ne _ (by decide)]; exact h
theorem reqT (hc : CC M 1 a) {p : Int32} (h : isW p (a 0) = true) : fX11_requireShelf F p M = some (Sum.inl (), M) := by
  unfold fX11_requireShelf
  rw [show fX9_has F 2 p M = some (isW p (a 0), M) from cHas hc p, h]
  rfl
theorem reqF (hc : CC M 1 a) {p : Int32} (h : isW p (a 0) = false) : fX11_requireShelf F p M = some (Sum.inr 1, M) := by
  unfold fX11_requireShelf
  rw [show fX9_has F 2 p M = some (isW p (a 0), M) from cHas hc p, h]
  rfl
theorem one_ne : (1 : Int32) ≠ 0 := by decide
theorem two_ne : (2 : Int32) ≠ 0 := by decide
theorem asks_n (h : N 120 = rowI a) {i : Nat} (hi : i < 216) : fX12_asks F (nI i) N = some (nI (a i), up2 N 119 0 0) := by
  unfold fX12_asks
  simp only [lM]
  rw [inbN (by omega), ckd _ hi, nI_cl (by omega), n119 h, rowI_at]
theorem ok_shelfCount (hR : Rel M) : OKD (fX11_shelfCount F) (fX12_shelfCount F) M := by
  obtain ⟨a, hW, hc, hN⟩ := hR.cur
  have e : M 2 3 = nI (a 0) := hc.n
  refine ⟨nI (a 0), M, up2 M 119 0 0, by unfold fX11_shelfCount; rw [e], ?_, hR.q1 0⟩
  unfold fX12_shelfCount
  rw [show fX12_asks F 0 M = some (nI (a 0), up2 M 119 0 0) from asks_n (i := 0) hN (by decide)]
  rfl
theorem ok_passageCount (hR : Rel M) : OKD (fX11_passageCount F) (fX12_passageCount F) M := by
  obtain ⟨a, hW, hc, hN⟩ := hR.cur
  have e : M 2 4 = nI (a 1) := hc.p
  refine ⟨nI (a 1), M, up2 M 119 0 0, by unfold fX11_passageCount; rw [e], ?_, hR.q1 0⟩
  unfold fX12_passageCount
  rw [show fX12_asks F 1 M = some (nI (a 1), up2 M 119 0 0) from asks_n (i := 1) hN (by decide)]
  rfl
theorem ok_stopCount (hR : Rel M) : OKD (fX11_stopCount F) (fX12_stopCount F) M := by
  obtain ⟨a, hW, hc, hN⟩ := hR.cur
  have e : M 5 1 = nI (a 2) := hc.t
  refine ⟨nI (a 2), M, up2 M 119 0 0, by unfold fX11_stopCount; rw [e], ?_, hR.q1 0⟩
  unfold fX12_stopCount
  rw [show fX12_asks F 2 M = some (nI (a 2), up2 M 119 0 0) from asks_n (i := 2) hN (by decide)]
  rfl
theorem ok_seed (hR : Rel M) : OKD (fX11_seed F) (fX12_seed F) M := by
  obtain ⟨a, hW, hc, hN⟩ := hR.cur
  have e : M 1 4 = nI (a 6) := hc.seed
  refine ⟨nI (a 6), M, up2 M 119 0 0, by unfold fX11_seed; rw [e], ?_, hR.q1 0⟩
  unfold fX12_seed
  rw [show fX12_asks F 6 M = some (nI (a 6), up2 M 119 0 0) from asks_n (i := 6) hN (by decide)]
  rfl
theorem ok_minute (hR : Rel M) : OKD (fX11_minute F) (fX12_minute F) M := by
  obtain ⟨a, hW, hc, hN⟩ := hR.cur
  have e : M 1 5 = nI (a 7) := hc.mi
  refine ⟨nI (a 7), M, up2 M 119 0 0, by unfold fX11_minute; rw [e], ?_, hR.q1 0⟩
  unfold fX12_minute
  rw [show fX12_asks F 7 M = some (nI (a 7), up2 M 119 0 0) from asks_n (i := 7) hN (by decide)]
  rfl
theorem ok_mouseCount (hR : Rel M) : OKD (fX11_mouseCount F) (fX12_mouseCount F) M := by
  obtain ⟨a, hW, hc, hN⟩ := hR.cur
  have e : M 7 3 = nI (a 8) := hc.m
  refine ⟨nI (a 8), M, up2 M 119 0 0, by unfold fX11_mouseCount; rw [e], ?_, hR.q1 0⟩
  unfold fX12_mouseCount
  rw [show fX12_asks F 8 M = some (nI (a 8), up2 M 119 0 0) from asks_n (i := 8) hN (by decide)]
  rfl
theorem ok_eaten (hR : Rel M) : OKD (fX11_eaten F) (fX12_eaten F) M := by
  obtain ⟨a, hW, hc, hN⟩ := hR.cur
  have e : M 1 7 = nI (a 12) := hc.ea
  refine ⟨nI (a 12), M, up2 M 119 0 0, by unfold fX11_eaten; rw [e], ?_, hR.q1 0⟩
  unfold fX12_eaten
  rw [show fX12_asks F 12 M = some (nI (a 12), up2 M 119 0 0) from asks_n (i := 12) hN (by decide)]
  rfl
theorem ok_caught (hR : Rel M) : OKD (fX11_caught F) (fX12_caught F) M := by
  obtain ⟨a, hW, hc, hN⟩ := hR.cur
  have e : M 1 8 = nI (a 9) := hc.ca
  refine ⟨nI (a 9), M, up2 M 119 0 0, by unfold fX11_caught; rw [e], ?_, hR.q1 0⟩
  unfold fX12_caught
  rw [show fX12_asks F 9 M = some (nI (a 9), up2 M 119 0 0) from asks_n (i := 9) hN (by decide)]
  rfl
theorem ok_gone (hR : Rel M) : OKD (fX11_gone F) (fX12_gone F) M := by
  obtain ⟨a, hW, hc, hN⟩ := hR.cur
  have e : M 1 9 = nI (a 10) := hc.go
  refine ⟨nI (a 10), M, up2 M 119 0 0, by unfold fX11_gone; rw [e], ?_, hR.q1 0⟩
  unfold fX12_gone
  rw [show fX12_asks F 10 M = some (nI (a 10), up2 M 119 0 0) from asks_n (i := 10) hN (by decide)]
  rfl
theorem ok_rinds (hR : Rel M) : OKD (fX11_rinds F) (fX12_rinds F) M := by
  obtain ⟨a, hW, hc, hN⟩ := hR.cur
  have e : M 1 10 = nI (a 11) := hc.ri
  refine ⟨nI (a 11), M, up2 M 119 0 0, by unfold fX11_rinds; rw [e], ?_, hR.q1 0⟩
  unfold fX12_rinds
  rw [show fX12_asks F 11 M = some (nI (a 11), up2 M 119 0 0) from asks_n (i := 11) hN (by decide)]
  rfl
theorem ok_totalCheeseByAccounts (hR : Rel M) : OKD (fX11_totalCheeseByAccounts F) (fX12_totalCheeseByAccounts F) M := by
  obtain ⟨a, hW, hc, hN⟩ := hR.cur
  have e1 : M 1 6 = nI (a 13) := hc.pu
  have e2 : M 1 7 = nI (a 12) := hc.ea
  refine ⟨nI (a 13) - nI (a 12), M, up2 M 119 0 0, by unfold fX11_totalCheeseByAccounts; rw [e1, e2], ?_, hR.q1 0⟩
  unfold fX12_totalCheeseByAccounts
  simp only [lM]
  rw [n119 hN, rowI_at, rowI_at]
theorem ok_undoCount (hR : Rel M) : OKD (fX11_undoCount F) (fX12_undoCount F) M := by
  obtain ⟨R, n, T, hO, hC, hMd⟩ := id hR
  refine ⟨nI (n 1), M, up2 M 119 0 0, by unfold fX11_undoCount; rw [hC.2.1.2.1], ?_, hR.q1 0⟩
  unfold fX12_undoCount
  simp only [lM]
  rw [u2_same, if_neg (by decide), hMd.2.1.2.1]
theorem ok_groupCount (hF : 1500 ≤ F) (hR : Rel M) : OKD (fX11_groupCount F) (fX12_groupCount F) M := by
  obtain ⟨a, hW, hc, hN⟩ := hR.cur
  have hn := hW.n
  obtain ⟨M', i1, i2⟩ := mGroups_loop (F := F) hW hF (fun w29 M28 => some (w29, M28)) (a 0) 0 (by omega) F (by omega) (up2 M 119 0 0) (n119 hN 0)
  refine ⟨nI (cntB (a 0) (isF a)), M, M', ?_, ?_, hR.q (fun c q1 _ _ q2 _ _ _ => by rw [i2 c q2, u2_ne _ q1]) (fun i q => by rw [i2 _ (by decide), u2_same, if_neg q])⟩
  · unfold fX11_groupCount
    rw [cGroups hW.ls (by omega) (NB.of hc) hW.n hc.n]
    rfl
  · exact i1
theorem cSum_loop {b : Nat} (hb : lay b = 1) (hn : a 0 ≤ 12) (h3 : M (b + 1) 3 = nI (a 0)) (hg : ∀ k, k < 12 → M (b + 2) k = nI (a (14 + k))) (kx : Int32 → Mem → Option (Int32 × Mem)) (m : Nat) : ∀ v, v + m = a 0 → ∀ n, m < n → fX9_sumOfGrams_4 F (b + 1) kx n (nI (sumF v (fun k => a (14 + k)))) (nI v) M = kx (nI (sumF (a 0) (fun k => a (14 + k)))) M := by
  induction m with
  | zero =>
    intro v hv n hn2
    obtain ⟨n', rfl⟩ : ∃ n', n = n' + 1 := ⟨n - 1, by omega⟩
    rw [fX9_sumOfGrams_4, h3, if_pos (le2 (by omega) (by omega) (by omega)), show v = a 0 by omega]
  | succ m ih =>
    intro v hv n hn2
    obtain ⟨n', rfl⟩ : ∃ n', n = n' + 1 := ⟨n - 1, by omega⟩
    rw [fX9_sumOfGrams_4, h3, if_neg (nle2 (by omega) (by omega) (by omega)), at_in (c := b + 1 + 1) (al1_2 hb) (by decide) (by omega)]
    simp only [bM, lM]
    rw [show M (b + 1 + 1) v = nI (a (14 + v)) from hg v (by omega), nI_add, nI_1]
    exact ih (v + 1) (by omega) n' (by omega)
theorem cSum (hF : 30 ≤ F) (hW : WF a) (hc : CC M 1 a) : fX9_sumOfGrams F 2 M = some (nI (sumF (a 0) (fun k => a (14 + k))), M) := by
  have hn := hW.n
  exact cSum_loop (F := F) (b := 1) (by decide) hn hc.n hc.gr (fun w10 M9 => some (w10, M9)) (a 0) 0 (by omega) F (by omega)
theorem mSum_loop (hN : N 120 = rowI a) (hn : a 0 ≤ 12) (kx : Int32 → Mem → Option (Int32 × Mem)) (m : Nat) : ∀ v, v + m = a 0 → ∀ n, m < n → fX12_cheeseAll_4 F kx n (nI (sumF v (fun k => a (14 + k)))) (nI v) N = kx (nI (sumF (a 0) (fun k => a (14 + k)))) N := by
  induction m with
  | zero =>
    intro v hv n hn2
    obtain ⟨n', rfl⟩ : ∃ n', n = n' + 1 := ⟨n - 1, by omega⟩
    rw [fX12_cheeseAll_4, hN, rowI_at, if_pos (le2 (by omega) (by omega) (by omega)), show v = a 0 by omega]
  | succ m ih =>
    intro v hv n hn2
    obtain ⟨n', rfl⟩ : ∃ n', n = n' + 1 := ⟨n - 1, by omega⟩
    rw [fX12_cheeseAll_4, hN, rowI_at, if_neg (nle2 (by omega) (by omega) (by omega)), lit 14, nI_add, inbN (by omega), ckd _ (by omega), nI_cl (by omega), rowI_at]
    simp only [lM]
    rw [nI_add, nI_1]
    exact ih (v + 1) (by omega) n' (by omega)
theorem mSum (hF : 30 ≤ F) (hW : WF a) (hN : N 120 = rowI a) : fX12_cheeseAll F N = some (nI (sumF (a 0) (fun k => a (14 + k))), N) := by
  have hn := hW.n
  exact mSum_loop (F := F) hN hn (fun w10 M9 => some (w10, M9)) (a 0) 0 (by omega) F (by omega)
theorem ok_totalCheese (hF : 1500 ≤ F) (hR : Rel M) : OKD (fX11_totalCheese F) (fX12_totalCheese F) M := by
  obtain ⟨a, hW, hc, hN⟩ := hR.cur
  refine ⟨nI (sumF (a 0) (fun k => a (14 + k))), M, up2 M 119 0 0, ?_, ?_, hR.q1 0⟩
  · unfold fX11_totalCheese
    rw [cSum (by omega) hW hc]
    rfl
  · unfold fX12_totalCheese
    simp only [lM]
    rw [mSum (by omega) hW (n119 hN 0)]
    rfl
theorem ok_cheese (hR : Rel M) (p : Int32) : OKL (fL_cheese F p) (fX12_cheese F p) M := by
  obtain ⟨a, hW, hc, hN⟩ := hR.cur
  have hn := hW.n
  cases w : isW p (a 0) with
  | false =>
    refine okl_e0 hR one_ne ?_ (v := 0) ?_
    · unfold fL_cheese fX11_cheese
      rw [reqF hc w]
      rfl
    · unfold fX12_cheese
      simp only [lM]
      rw [mShelf hW (n119 hN 0), w]
      rfl
  | true =>
    obtain ⟨k, hk, rfl⟩ := isW_t w (by omega)
    refine okl_v0 hR (v := nI (a (14 + k))) ?_ ?_
    · unfold fL_cheese fX11_cheese
      rw [reqT hc w]
      simp only [bX]
      rw [at_in (c := 3) (al1_2 (b := 1) (by decide)) (by decide) (by omega)]
      simp only [bM, bH, lM]
      rw [show M 3 k = nI (a (14 + k)) from hc.gr k (by omega)]
    · unfold fX12_cheese
      simp only [lM]
      rw [mShelf hW (n119 (n129 hN _) 0), w]
      simp only [bM]
      rw [if_pos trivial, lit 14, nI_add, inbN (by omega), ckd _ (by omega), nI_cl (by omega), n119 (n129 hN _), rowI_at]
theorem nbCount (hN : N 120 = rowI a) (hW : WF a) {p : Nat} (hp : p < 12) (kx : Int32 → Mem → Option (Int32 × Mem)) (m : Nat) : ∀ v, v + m = a 0 → ∀ n, m < n → fX12_neighbourCount_23 F (nI p) kx n (nI (cntB v (fun j => decide (lk a p j = 1)))) (nI v) N = kx (nI (cntB (a 0) (fun j => decide (lk a p j = 1)))) N := by
  have hn := hW.n
  induction m with
  | zero =>
    intro v hv n hn2
    obtain ⟨n', rfl⟩ : ∃ n', n = n' + 1 := ⟨n - 1, by omega⟩
    rw [fX12_neighbourCount_23, hN, rowI_at, if_pos (le2 (by omega) (by omega) (by omega)), show v = a 0 by omega]
  | succ m ih =>
    intro v hv n hn2
    obtain ⟨n', rfl⟩ : ∃ n', n = n' + 1 := ⟨n - 1, by omega⟩
    rw [fX12_neighbourCount_23, hN, rowI_at, if_neg (nle2 (by omega) (by omega) (by omega)), isLinked_m hN hp (by omega) (hW.l1 p v hp (by omega))]
    simp only [bM, lM]
    rw [nI_1, nI_1, ← ih (v + 1) (by omega) n' (by omega)]
    have e : cntB (v + 1) (fun j => decide (lk a p j = 1)) = cntB v (fun j => decide (lk a p j = 1)) + (if decide (lk a p v = 1) = true then 1 else 0) := rfl
    by_cases q : lk a p v = 1
    · rw [if_pos (decide_eq_true q), e, if_pos (decide_eq_true q)]
    · have q' : ¬ decide (lk a p v = 1) = true := by simp [q]
      rw [if_neg q', e, if_neg q', Int32.add_zero]
      rfl
theorem cntB_12 (hW : WF a) {p : Nat} (hp : p < 12) : cntB 12 (fun j => decide (lk a p j = 1)) = cntB (a 0) (fun j => decide (lk a p j = 1)) := by
  have hn := hW.n
  have c := cntB_ext (p := fun j => decide (lk a p j = 1)) (n := a 0) (12 - a 0) (fun i q1 q2 => by
    refine decide_eq_false fun z => ?_
    have := (hW.ln i p (by omega) hp (by rw [hW.ls i p (by omega) hp]; exact z)).1
    omega)
  rw [show a 0 + (12 - a 0) = 12 by omega] at c
  exact c
theorem ok_neighbourCount (hF : 1500 ≤ F) (hR : Rel M) (p : Int32) : OKL (fL_neighbourCount F p) (fX12_neighbourCount F p) M := by
  obtain ⟨a, hW, hc, hN⟩ := hR.cur
  have hn := hW.n
  cases w : isW p (a 0) with
  | false =>
    refine okl_e0 hR one_ne ?_ (v := 0) ?_
    · unfold fL_neighbourCount fX11_neighbourCount
      rw [reqF hc w]
      rfl
    · unfold fX12_neighbourCount
      simp only [lM]
      rw [mShelf hW (n119 hN 0), w]
      rfl
  | true =>
    obtain ⟨k, hk, rfl⟩ := isW_t w (by omega)
    refine okl_v0 hR (v := nI (cntB (a 0) (fun j => decide (lk a k j = 1)))) ?_ ?_
    · unfold fL_neighbourCount fX11_neighbourCount
      rw [reqT hc w]
      simp only [bX]
      rw [at_in (c := 4) (al1_3 (b := 1) (by decide)) (by decide) (by omega)]
      simp only [bM, bH, lM]
      have hb : ∀ j, j < 32 → bitb (M 4 k) j = decide (j < 12 ∧ lk a k j = 1) := fun j hj => hc.nb k j (by omega) hj
      rw [bcN (fun j hj h12 => by rw [hb j hj]; exact decide_eq_false (by omega)), ← cntB_12 hW (by omega)]
      have e : cntB 12 (fun j => bitb (M 4 k) j) = cntB 12 (fun j => decide (lk a k j = 1)) := cntB_cg fun j hj => by
        rw [hb j (by omega)]
        simp [hj]
      rw [e]
    · unfold fX12_neighbourCount
      simp only [lM]
      rw [mShelf hW (n119 (n129 hN _) 0), w]
      simp only [bM]
      rw [if_pos trivial]
      exact nbCount (F := F) (n119 (n129 hN _) 0) hW (by omega) (fun w22 M21 => some (w22, M21)) (a 0) 0 (by omega) F (by omega)
theorem mDist {p q : Nat} (hF : 1500 ≤ F) (hW : WF a) (hN : N 120 = rowI a) (hp : p < a 0) (hq : q < a 0) : ∃ N', (∀ c, c ≠ 125 → N' c = up2 N 119 0 0 c) ∧ fX12_distance F (nI p) (nI q) N = if ds a q p = 99 then some (0, up2 N' 119 0 2) else some (nI (ds a q p), N') := by
  have hn := hW.n
  obtain ⟨N', i1, i2, i3⟩ := dTo (F := F) (M := up2 N 119 0 0) hW hF hq (n119 hN 0)
  refine ⟨N', i2, ?_⟩
  unfold fX12_distance
  simp only [lM]
  rw [mShelf hW (n119 hN 0), isW_lt hp (by omega)]
  simp only [bM]
  rw [if_pos trivial, mShelf hW (n119 hN 0), isW_lt hq (by omega)]
  simp only [bM]
  rw [if_pos trivial, i1]
  simp only [bV]
  rw [inbN (by omega), ckd _ (by omega), ckd _ (by omega), nI_cl (by omega), i3 p hp]
  by_cases w : ds a q p = 99
  · rw [if_pos (eqL (n := 99) w), if_pos w]
    rfl
  · have := ds_le99 (a := a) (t := q) (k := p) (by omega) (by omega)
    rw [if_neg (neL (n := 99) (by omega) (by decide) w), if_neg w]
theorem okl_dist (hF : 1500 ≤ F) (hR : Rel M) (p q : Int32) {cl : Mem → Option (Int32 × Mem)} {md : Mem → Option (Int32 × Mem)} (hmd : ∀ N, md N = bindM (fX12_distance F p q N) (fun r N1 => some (r, N1))) (h1 : ∀ a, CC M 1 a → (isW p (a 0) && isW q (a 0)) = false → cl M = some (1, M)) (h2 : ∀ a, WF a → CC M 1 a → ∀ x y, p = nI x → q = nI y → x < a 0 → y < a 0 → ∃ M1, (∀ c, c ≠ 114 → M1 c = M c) ∧ cl M = if ds a y x = 99 then some (2, M1) else some (0, up2 M1 129 0 (nI (ds a y x)))) : OKL cl md M := by
  obtain ⟨a, hW, hc, hN⟩ := hR.cur
  have hn := hW.n
  cases w : isW p (a 0) && isW q (a 0) with
  | false =>
    refine okl_e0 hR one_ne (h1 a hc w) (v := 0) ?_
    rw [hmd]
    unfold fX12_distance
    simp only [lM]
    rw [mShelf hW (n119 hN 0)]
    simp only [bM]
    cases w1 : isW p (a 0) with
    | false => rfl
    | true =>
      rw [w1] at w
      have w2 : isW q (a 0) = false := w
      rw [if_pos rfl, mShelf hW (n119 hN 0), w2]
      rfl
  | true =>
    obtain ⟨w1, w2⟩ := (Bool.and_eq_true _ _ ▸ w : isW p (a 0) = true ∧ isW q (a 0) = true)
    obtain ⟨x, hx, rfl⟩ := isW_t w1 (by omega)
    obtain ⟨y, hy, rfl⟩ := isW_t w2 (by omega)
    obtain ⟨M1, f1, e1⟩ := h2 a hW hc x y rfl rfl hx hy
    have hN1 : M1 120 = rowI a := by rw [f1 _ (by decide)]; exact hN
    by_cases z : ds a y x = 99
    · rw [if_pos z] at e1
      obtain ⟨N', i1, i2⟩ := mDist (F := F) hF hW hN1 hx hy
      rw [if_pos z] at i2
      refine okl_e hR two_ne e1 (fun c _ q _ => f1 c q) (v := 0) (M2 := up2 N' 119 0 2) (by rw [hmd, i2]; rfl) (fun c q1 q2 => by rw [u2_ne _ q2, i1 c q1, u2_ne _ q2]) (fun i q => by rw [u2_same, if_neg q, i1 _ (by decide), u2_same, if_neg q]) (by rw [u2_same, if_pos rfl])
    · rw [if_neg z] at e1
      obtain ⟨N', i1, i2⟩ := mDist (F := F) hF hW (n129 hN1 (nI (ds a y x))) hx hy
      rw [if_neg z] at i2
      refine okl_v hR e1 (fun c _ q _ => f1 c q) (M2 := N') (by rw [hmd, i2]; rfl) (fun c q1 q2 => by rw [i1 c q1, u2_ne _ q2]) (fun i q => by rw [i1 _ (by decide), u2_same, if_neg q]) (by rw [i1 _ (by decide), u2_same, if_pos rfl])
theorem bind_id {α : Type} (x : Option (α × Mem)) : bindM x (fun r M => some (r, M)) = x := by
  cases x with
  | none => rfl
  | some y => rfl
theorem ok_distance (hF : 1500 ≤ F) (hR : Rel M) (p q : Int32) : OKL (fL_distance F p q) (fX12_distance F p q) M := by
  refine okl_dist hF hR p q (fun N => (bind_id _).symm) (fun a hc w => ?_) (fun a hW hc x y h1 h2 hx hy => ?_)
  · unfold fL_distance fX11_distance
    cases w1 : isW p (a 0) with
    | false => rw [reqF hc w1]; rfl
    | true =>
      rw [w1] at w
      rw [reqT hc w1]
      simp only [bX]
      rw [reqF hc (show isW q (a 0) = false from w)]
      rfl
  · subst h1; subst h2
    have hn := hW.n
    refine ⟨M, fun _ _ => rfl, ?_⟩
    unfold fL_distance fX11_distance
    rw [reqT hc (isW_lt hx (by omega))]
    simp only [bX]
    rw [reqT hc (isW_lt hy (by omega))]
    simp only [bX]
    rw [show fX9_stepsBetween F 2 (nI x) (nI y) M = _ from cSteps (c := 2) hW.ls (by omega) (NB.of hc) (by omega) (by omega), ds_sym hW.ls (by omega) (by omega)]
    simp only [bM]
    by_cases z : ds a y x = 99
    · rw [if_pos z, if_pos rfl, if_pos z]
      rfl
    · have := ds_le99 (a := a) (t := y) (k := x) (by omega) (by omega)
      rw [if_neg z, if_neg (nI_m1 (by omega)), if_neg z]
      rfl
theorem ok_distanceByTable (hF : 1500 ≤ F) (hR : Rel M) (p q : Int32) : OKL (fL_distanceByTable F p q) (fX12_distanceByTable F p q) M := by
  refine okl_dist hF hR p q (fun N => rfl) (fun a hc w => ?_) (fun a hW hc x y h1 h2 hx hy => ?_)
  · unfold fL_distanceByTable fX11_distanceByTable
    cases w1 : isW p (a 0) with
    | false => rw [reqF hc w1]; rfl
    | true =>
      rw [w1] at w
      rw [reqT hc w1]
      simp only [bX]
      rw [reqF hc (show isW q (a 0) = false from w)]
      rfl
  · subst h1; subst h2
    have hn := hW.n
    obtain ⟨M1, i1, i2⟩ := cTable (F := F) (c := 2) hW (by omega) (by decide) (by decide) (by decide) (NB.of hc) hc.n hx hy
    refine ⟨M1, i2, ?_⟩
    unfold fL_distanceByTable fX11_distanceByTable
    rw [reqT hc (isW_lt hx (by omega))]
    simp only [bX]
    rw [reqT hc (isW_lt hy (by omega))]
    simp only [bX]
    rw [i1]
    simp only [bM]
    by_cases z : ds a y x = 99
    · rw [if_pos z, if_pos z, if_neg (nltR (n := 1000) (by decide) (by decide) (by decide))]
      rfl
    · have := ds_le99 (a := a) (t := y) (k := x) (by omega) (by omega)
      rw [if_neg z, if_neg z, if_pos (ltR (n := 1000) (by omega) (by decide) (by omega))]
      rfl
end
