section
variable {F : Nat} {M N : Mem} {t : Nat → Int32} {L : Nat} {a : Nat → Nat}
def FRM (N N' : Mem) : Prop := (∀ c, c ≠ 119 → c ≠ 120 → c ≠ 125 → c ≠ 128 → N' c = N c) ∧ ∀ i, i ≠ 1 → i ≠ 2 → i ≠ 19 → i ≠ 22 → i ≠ 23 → N' 119 i = N 119 i
theorem FRM.tr {N N' N'' : Mem} (h : FRM N N') (g : FRM N' N'') : FRM N N'' := ⟨fun c q1 q2 q3 q4 => (g.1 c q1 q2 q3 q4).trans (h.1 c q1 q2 q3 q4), fun i q1 q2 q3 q4 q5 => (g.2 i q1 q2 q3 q4 q5).trans (h.2 i q1 q2 q3 q4 q5)⟩
theorem MG.frm {N N' : Mem} (h : MG N N') : FRM N N' := ⟨fun c q1 _ _ q4 => h.1 c q1 q4, fun i _ _ q3 q4 _ => h.2 i q3 q4⟩
def okM (a' : Nat → Nat) (e : Nat) (r : Option (Bool × Mem)) (N : Mem) : Prop := ∃ N', r = some (true, N') ∧ N' 120 = rowI a' ∧ N' 119 23 = nI e ∧ FRM N N' ∧ N' 119 1 = 0
def flM (jf cz : Nat) (r : Option (Bool × Mem)) (N : Mem) : Prop := ∃ N', r = some (false, N') ∧ N' 119 23 = nI jf ∧ FRM N N' ∧ N' 119 1 = nI (if cz = 7 then 0 else cz) ∧ ∀ k, 216 ≤ k → N' 120 k = 0
def MRun (F : Nat) (t : Nat → Int32) (L p j len : Nat) (a : Nat → Nat) (P : Option (Bool × Mem) → Mem → Prop) : Prop := ∀ (N : Mem) (n' : Nat), len < n' → MS N t L p → N 120 = rowI a → N 119 23 = nI j → N 119 1 = 0 → P (fX12_doesAll_12 F (fun M21 => some (true, M21)) n' 1 N) N
def cFail (M M' : Mem) (jf cz : Nat) : Prop := (∀ c, c ≠ 0 → c ≠ 115 → ¬ (11 ≤ c ∧ c < 21) → M' c = M c) ∧ M' 115 1 = M 115 1 ∧ ∀ i, M' 0 i = if i = 11 then nI cz else if i = 10 then nI jf else if i = 9 then 6 else M 0 i
theorem rnum_67 : rnum 6 = nI 7 ∧ rnum 7 = nI 7 := by decide
theorem runFail {p j cz len op : Nat} {p1 p2 : Int32} (hF : 30 ≤ F) (hW : WF a) (ht : (tree t L p).2.1 = true) (hop : (tree t L p).1 = op) (h1 : (tree t L p).2.2.2.1 = p1) (h2 : (tree t L p).2.2.2.2 = p2) {c : Int32} (hc : c ≠ 0) {mem : Mem → Mem} (hm : ∀ N : Mem, N 120 = rowI a → mNot F op p1 p2 N = some (c, mem N)) (hme : ∀ N : Mem, (FRM N (mem N) ∧ (mem N) 120 = N 120) ∧ (mem N) 119 23 = N 119 23 ∧ (N 119 1 = 0 → (mem N) 119 1 = nI (if cz = 7 then 0 else cz))) : MRun F t L p j len a (flM j cz) := by
  intro N n' hn hS hN h23 h01
  obtain ⟨n', rfl⟩ : ∃ n'', n' = n'' + 1 := ⟨n' - 1, by omega⟩
  have hxy := tree_xy p ht
  obtain ⟨N1, i1, i2, i3, i4⟩ := mCommand (F := F) hF hS
  have i5 := i4 ht
  rw [hop] at i5
  have hop10 : op ≤ 10 := by rw [← hop]; exact tree_op p
  have n1 : N1 120 = rowI a := by rw [i3.1 _ (by decide) (by decide)]; exact hN
  rw [fX12_doesAll_12, if_neg (by decide), i1]
  simp only [bM]
  rw [notNow_eq hop10 i5.1]
  have e0 : N1 128 0 = p1 := by rw [← h1]; exact i5.2.1 hxy.1
  have em : mNot F op (N1 128 0) (N1 128 1) N1 = some (c, mem N1) := by
    rw [e0]
    by_cases w : op = 1 ∨ op = 2 ∨ op = 5
    · have e1 : N1 128 1 = p2 := by rw [← h2]; exact i5.2.2 (hxy.2 (by rw [hop]; exact w))
      rw [e1]
      exact hm N1 n1
    · rw [mNot_p2 w hop10 _ _ p2]
      exact hm N1 n1
  rw [em]
  simp only [bM]
  rw [if_neg hc]
  have z := hme N1
  exact ⟨_, rfl, by rw [z.2.1, i3.2 _ (by decide) (by decide)]; exact h23, i3.frm.tr z.1.1, z.2.2 (by rw [i3.2 _ (by decide) (by decide)]; exact h01), fun k hk => by rw [z.1.2, n1, rowI_at, hW.z k hk]; rfl⟩
theorem runStep {p j len op x y : Nat} {p2 : Int32} (hF : 1500 ≤ F) (hW : WF a) (ht : (tree t L p).2.1 = true) (hop : (tree t L p).1 = op) (h1 : (tree t L p).2.2.2.1 = nI x) (h2 : (tree t L p).2.2.2.2 = p2) (ho : opOK op x y a) (hp2 : (op = 1 ∨ op = 2 ∨ op = 5) → p2 = nI y) (hm : ∀ N : Mem, N 120 = rowI a → mNot F op (nI x) p2 N = some (0, N)) {P Q : Option (Bool × Mem) → Mem → Prop} (hQ : ∀ r N N', FRM N N' → P r N' → Q r N) (hk : if ch t L (tree t L p).2.2.1 = 59 then MRun F t L ((tree t L p).2.2.1 + 1) (j + 1) len (opRow op x y a) P else ∀ N : Mem, N 120 = rowI (opRow op x y a) → N 119 23 = nI (j + 1) → N 119 1 = 0 → P (some (true, N)) N) : MRun F t L p j (len + 1) a Q := by
  intro N n' hn hS hN h23 h01
  obtain ⟨n', rfl⟩ : ∃ n'', n' = n'' + 1 := ⟨n' - 1, by omega⟩
  have hxy := tree_xy p ht
  obtain ⟨N1, i1, i2, i3, i4⟩ := mCommand (F := F) (by omega) hS
  have i5 := i4 ht
  rw [hop] at i5
  have hop10 : op ≤ 10 := by rw [← hop]; exact tree_op p
  have n1 : N1 120 = rowI a := by rw [i3.1 _ (by decide) (by decide)]; exact hN
  rw [fX12_doesAll_12, if_neg (by decide), i1]
  simp only [bM]
  rw [notNow_eq hop10 i5.1]
  have e0 : N1 128 0 = nI x := by rw [← h1]; exact i5.2.1 hxy.1
  have e1 : (op = 1 ∨ op = 2 ∨ op = 5) → N1 128 1 = p2 := fun w => by rw [← h2]; exact i5.2.2 (hxy.2 (by rw [hop]; exact w))
  have em : mNot F op (N1 128 0) (N1 128 1) N1 = some (0, N1) := by
    rw [e0]
    by_cases w : op = 1 ∨ op = 2 ∨ op = 5
    · rw [e1 w]
      exact hm N1 n1
    · rw [mNot_p2 w hop10 _ _ p2]
      exact hm N1 n1
  rw [em]
  simp only [bM]
  rw [if_pos trivial, doesNow_eq hop10 i5.1, e0, mw_eq n1]
  obtain ⟨N2, l1, l2⟩ := mOp (F := F) (N := N1) hW hF hop10 ho (p2 := mw N1 a 128 1) (fun w => by rw [mw_ne _ _ (by decide), e1 w]; exact hp2 w)
  rw [l1]
  simp only [bM, lM]
  have f2 : ∀ c, c ≠ 120 → c ≠ 125 → mw N2 (opRow op x y a) c = N1 c := fun c q1 q2 => by rw [mw_ne _ _ q1, l2 c q2]
  have e23 : mw N2 (opRow op x y a) 119 23 = nI j := by rw [f2 _ (by decide) (by decide), i3.2 _ (by decide) (by decide)]; exact h23
  rw [e23, nI_1]
  have f3 : ∀ c, c ≠ 119 → c ≠ 120 → c ≠ 125 → up2 (mw N2 (opRow op x y a)) 119 23 (nI (j + 1)) c = N1 c := fun c q0 q1 q2 => by rw [u2_ne _ q0, f2 c q1 q2]
  have f4 : ∀ i, i ≠ 23 → up2 (mw N2 (opRow op x y a)) 119 23 (nI (j + 1)) 119 i = N1 119 i := fun i q => by rw [u2_same, if_neg q, f2 _ (by decide) (by decide)]
  have r3 : up2 (mw N2 (opRow op x y a)) 119 23 (nI (j + 1)) 120 = rowI (opRow op x y a) := by rw [u2_ne _ (by decide), mw_120]
  have d3 : up2 (mw N2 (opRow op x y a)) 119 23 (nI (j + 1)) 119 23 = nI (j + 1) := by rw [u2_same, if_pos rfl]
  generalize up2 (mw N2 (opRow op x y a)) 119 23 (nI (j + 1)) = N3 at f3 f4 r3 d3 ⊢
  have s3 : MS N3 t L (tree t L p).2.2.1 := ⟨by rw [f4 _ (by decide)]; exact i2.1, by rw [f4 _ (by decide)]; exact i2.2.1, fun k hk => by rw [f3 _ (by decide) (by decide) (by decide)]; exact i2.2.2.1 k hk, i2.2.2.2.1, i2.2.2.2.2⟩
  have g3 : FRM N N3 := i3.frm.tr ⟨fun c q1 q2 q3 q4 => f3 c q1 q2 q3, fun i q1 q2 q3 q4 q5 => f4 i q5⟩
  have z1 : N3 119 1 = 0 := by rw [f4 _ (by decide), i3.2 _ (by decide) (by decide)]; exact h01
  by_cases w3 : ch t L (tree t L p).2.2.1 = 59
  · have hlt := ch_lt w3 (by decide)
    rw [if_pos w3] at hk
    rw [mReadsT s3 (by decide) (by decide) w3]
    simp only [bM]
    refine hQ _ N (up2 N3 119 19 (nI ((tree t L p).2.2.1 + 1))) (g3.tr MG.u19.frm) ?_
    exact hk (up2 N3 119 19 (nI ((tree t L p).2.2.1 + 1))) n' (by omega) (s3.u19 (by omega)) (by rw [u2_ne _ (by decide)]; exact r3) (by rw [u2_same, if_neg (by decide)]; exact d3) (by rw [u2_same, if_neg (by decide)]; exact z1)
  · rw [if_neg w3] at hk
    rw [mReadsF s3 (by decide) (by decide) w3]
    simp only [bM]
    refine hQ _ N N3 g3 ?_
    obtain ⟨n', rfl⟩ : ∃ n'', n' = n'' + 1 := ⟨n' - 1, by omega⟩
    show P (fX12_doesAll_12 F (fun M21 => some (true, M21)) (n' + 1) 0 N3) N3
    rw [fX12_doesAll_12, if_pos rfl]
    exact hk N3 r3 d3 z1
theorem runBoth (hF : 1500 ≤ F) (l : List (Nat × Int32 × Int32)) : ∀ (m p j : Nat) (a : Nat → Nat) (M : Mem), (scan t L m p).1 = some l → WF a → CC M 11 a → CS M t L p → M 115 3 = nI (j + l.length) → j + l.length < 2 ^ 20 → ∀ n, l.length < n →
    (∃ a' M', WF a' ∧ CC M' 11 a' ∧ fX11_tryCommands_20 F (fun M23 => some (true, M23)) n (nI j) M = some (true, M') ∧ (∀ c, c ≠ 115 → ¬ (11 ≤ c ∧ c < 21) → M' c = M c) ∧ M' 115 3 = M 115 3 ∧ M' 115 1 = M 115 1 ∧ MRun F t L p j (l.length + 1) a (okM a' (j + l.length))) ∨
    (∃ jf cz M', 1 ≤ cz ∧ cz ≤ 7 ∧ fX11_tryCommands_20 F (fun M23 => some (true, M23)) n (nI j) M = some (false, M') ∧ cFail M M' jf cz ∧ MRun F t L p j (l.length + 1) a (flM jf cz)) := by
  induction l with
  | nil => intro m p j a M hs; have := scan_ne hs; exact absurd this (by simp)
  | cons c l ih =>
    intro m p j a M hs hW hc h h3 hj n hn
    obtain ⟨n, rfl⟩ : ∃ n'', n = n'' + 1 := ⟨n - 1, by rw [List.length_cons] at hn; omega⟩
    obtain ⟨m', rfl, ht, hcs⟩ := scan_some hs
    rw [List.length_cons] at h3 hj hn ⊢
    have hop10 := tree_op (t := t) (L := L) p
    have hle := tree_le (t := t) h.2.2.2.2.2
    obtain ⟨M1, i1, i2, i3, i4, i5, i6⟩ := cCommand (F := F) (by omega) h ht
    have c1 : CC M1 11 a := CL.fr hc fun c q1 q2 => i2.1 c (by omega)
    obtain ⟨r, hr, e, hcases⟩ := refU (F := F) (b := 11) hW (by decide) c1 hop10 (tree t L p).2.2.2.1 (tree t L p).2.2.2.2
    rw [fX11_tryCommands_20, h3, if_neg (nle2 (by omega) (by omega) (by omega)), i1]
    simp only [bV]
    rw [i4, nI_cl (by omega), ckd _ (by omega), i5, i6, e]
    simp only [bM]
    rw [ckd _ hr, ckd _ hr]
    have e26 : (∀ c, c ≠ 115 → M1 c = M c) := i2.1
    have fail : ∀ cz, rnum r = nI cz → ∃ M', (bindV (fX11_keepDenial F 6 (nI j) (rnum r) M1) (fun M21 => some (false, M21))) = some (false, M') ∧ cFail M M' j cz := fun cz hcz => by
      unfold fX11_keepDenial
      simp only [lM, bV]
      rw [hcz]
      refine ⟨_, rfl, fun c q1 q2 q3 => by rw [u2_ne _ q1, u2_ne _ q1, u2_ne _ q1]; exact e26 c q2, by rw [u2_ne _ (by decide), u2_ne _ (by decide), u2_ne _ (by decide)]; exact i2.2.1, fun i => by rw [u2_same, u2_same, u2_same, e26 0 (by decide)]⟩
    rcases hcases with ⟨h0, x, y, hx, hy, ho, hm⟩ | ⟨h0, _, _, hm⟩ | ⟨h0, _, hm⟩ | ⟨h0, h1, h2, d, hd, hm⟩
    · -- carried out
      rw [if_pos h0, i4, nI_cl (by omega), ckd _ (by omega), i5, i6, hx]
      obtain ⟨M2, j1, j2, j3⟩ := cOp (F := F) hW (by decide) (by omega) c1 hop10 ho hy
      rw [j1]
      simp only [bM, lM]
      have h2 := hW.op hop10 ho
      have e115 : M2 115 = M1 115 := j3 115 (by omega)
      have f2 : ∀ c, c ≠ 115 → ¬ (11 ≤ c ∧ c < 21) → M2 c = M c := fun c q1 q2 => by rw [j3 c (by omega), e26 c q1]
      have m0 : ∀ N : Mem, N 120 = rowI a → mNot F (tree t L p).1 (nI x) (tree t L p).2.2.2.2 N = some (0, N) := fun N hN => by rw [← hx]; exact hm N hN
      rw [nI_1]
      rcases hcs with ⟨l', hl, w3, hs'⟩ | ⟨hl, w2, w3⟩
      · have hl2 := (List.cons.inj hl).2
        subst hl2
        rw [if_pos w3] at i3
        have cs2 : CS M2 t L ((tree t L p).2.2.1 + 1) := ⟨by rw [e115]; exact i3.1, by rw [e115]; exact i3.2.1, fun k hk => by rw [f2 116 (by decide) (by omega)]; exact h.2.2.1 k hk, i3.2.2.2.1, i3.2.2.2.2.1, i3.2.2.2.2.2⟩
        rcases ih m' _ (j + 1) _ M2 hs' h2 j2 cs2 (by rw [e115, i2.2.2, h3]; congr 1; omega) (by omega) n (by omega) with ⟨a', M3, k1, k2, k3, k4, k5, k6, k7⟩ | ⟨jf, cz, M3, k1, k2, k3, k4, k5⟩
        · refine Or.inl ⟨a', M3, k1, k2, k3, fun c q1 q2 => by rw [k4 c q1 q2, f2 c q1 q2], by rw [k5, e115]; exact i2.2.2.trans h3, by rw [k6, e115]; exact i2.2.1, ?_⟩
          refine runStep hF hW ht rfl hx rfl ho hy m0 (P := okM a' (j + 1 + l.length)) (fun r N N' hf hP => ?_) (by rw [if_pos w3]; exact k7)
          obtain ⟨N3, z1, z2, z3, z4, z5⟩ := hP
          exact ⟨N3, z1, z2, by rw [z3]; congr 1; omega, hf.tr z4, z5⟩
        · refine Or.inr ⟨jf, cz, M3, k1, k2, k3, ⟨fun c q1 q2 q3 => by rw [k4.1 c q1 q2 q3, f2 c q2 q3], by rw [k4.2.1, e115]; exact i2.2.1, fun i => by rw [k4.2.2 i, f2 0 (by decide) (by omega)]⟩, ?_⟩
          refine runStep hF hW ht rfl hx rfl ho hy m0 (P := flM jf cz) (fun r N N' hf hP => ?_) (by rw [if_pos w3]; exact k5)
          obtain ⟨N3, z1, z2, z3, z4⟩ := hP
          exact ⟨N3, z1, z2, hf.tr z3, z4.1, z4.2⟩
      · have hl2 := (List.cons.inj hl).2
        subst hl2
        obtain ⟨n, rfl⟩ : ∃ n'', n = n'' + 1 := ⟨n - 1, by omega⟩
        have hc3 : M2 115 3 = nI (j + 1) := by rw [e115, i2.2.2, h3]; rfl
        rw [fX11_tryCommands_20, hc3, if_pos (le2 (by omega) (by omega) (by omega))]
        refine Or.inl ⟨_, M2, h2, j2, rfl, f2, by rw [e115]; exact i2.2.2.trans h3, by rw [e115]; exact i2.2.1, ?_⟩
        refine runStep hF hW ht rfl hx rfl ho hy m0 (P := okM (opRow (tree t L p).1 x y a) (j + 1)) (fun r N N' hf hP => ?_) ?_
        · obtain ⟨N3, z1, z2, z3, z4, z5⟩ := hP
          exact ⟨N3, z1, z2, z3, hf.tr z4, z5⟩
        · rw [if_neg w3]
          intro N r3 d3 z1
          exact ⟨N, rfl, r3, d3, ⟨fun _ _ _ _ _ => rfl, fun _ _ _ _ _ _ => rfl⟩, z1⟩
    · rw [if_neg (by omega)]
      obtain ⟨M', f1, f2⟩ := fail 7 (by rw [h0]; exact rnum_67.1)
      refine Or.inr ⟨j, 7, M', by decide, by decide, f1, f2, ?_⟩
      exact runFail (by omega) hW ht rfl rfl rfl (c := 1) (by decide) (mem := fun N => N) hm fun N => ⟨⟨⟨fun _ _ _ _ _ => rfl, fun _ _ _ _ _ _ => rfl⟩, rfl⟩, rfl, fun z => by rw [z]; rfl⟩
    · rw [if_neg (by omega)]
      obtain ⟨M', f1, f2⟩ := fail 7 (by rw [h0]; exact rnum_67.2)
      refine Or.inr ⟨j, 7, M', by decide, by decide, f1, f2, ?_⟩
      exact runFail (by omega) hW ht rfl rfl rfl (c := if (tree t L p).1 = 5 then 2 else 1) (by split <;> decide) (mem := fun N => N) hm fun N => ⟨⟨⟨fun _ _ _ _ _ => rfl, fun _ _ _ _ _ _ => rfl⟩, rfl⟩, rfl, fun z => by rw [z]; rfl⟩
    · rw [if_neg (by omega)]
      obtain ⟨M', f1, f2⟩ := fail r (rnum_n r h1)
      refine Or.inr ⟨j, r, M', h0, by omega, f1, f2, ?_⟩
      refine runFail (by omega) hW ht rfl rfl rfl (c := if (tree t L p).1 = 5 then 3 else 2) (by split <;> decide) (mem := fun N => up2 (up2 N 119 1 (nI r)) 119 2 d) hm fun N => ⟨⟨⟨fun c q1 _ _ _ => by rw [u2_ne _ q1, u2_ne _ q1], fun i q1 q2 _ _ _ => by rw [u2_same, if_neg q2, u2_same, if_neg q1]⟩, by rw [u2_ne _ (by decide), u2_ne _ (by decide)]⟩, by rw [u2_same, if_neg (by decide), u2_same, if_neg (by decide)], fun _ => ?_⟩
      rw [u2_same, if_neg (by decide), u2_same, if_pos rfl, if_neg (by omega)]
end
section
variable {F : Nat} {M N : Mem} {R : Nat → Nat → Nat} {n : Nat → Nat} {T : Nat → Nat → Int32}
theorem RC.ex (h : RC M R n T) {M' : Mem} {R' : Nat → Nat → Nat} {n' : Nat → Nat} {T' : Nat → Nat → Int32} (hc : CC M' 1 (R' 8)) (hh : HIc M' R' n') (h9 : R' 9 = R 9) (n2 : n' 2 = n 2) (n3 : n' 3 = 0) (n4 : n' 4 = n 4) (t1 : T' 1 = T 1) (e115 : M' 115 1 = 0) (hM : ∀ c, (21 ≤ c ∧ c < 31) ∨ c = 117 ∨ c = 118 → M' c = M c) (e3 : M' 0 3 = M 0 3) (e8 : M' 0 8 = om (n' 7)) (e9 : M' 0 9 = (if n' 5 = 0 then -1 else nI (n' 5))) (e10 : n' 5 ≠ 0 → M' 0 10 = T' 2 0) (e11 : M' 0 11 = (if n' 6 = 0 then -1 else nI (n' 6))) : RC M' R' n' T' := by
  obtain ⟨h1, h2, h3, h4, h5, h6, h7, h8, h10⟩ := h
  refine ⟨hc, hh, ⟨by rw [e3, n2]; exact h3.1, fun q => ?_⟩, ⟨by rw [e115, n3]; rfl, fun k hk => absurd hk (by omega)⟩, ⟨by rw [hM 117 (by omega), n4]; exact h5.1, fun k hk => by rw [hM 118 (by omega), t1]; exact h5.2 k (by omega)⟩, e8, e9, e10, e11⟩
  rw [h9]
  exact CL.fr (h3.2 (by omega)) fun c q1 q2 => hM c (by omega)
theorem RM.ex (h : RM M R n T) {M' : Mem} {R' : Nat → Nat → Nat} {n' : Nat → Nat} {T' : Nat → Nat → Int32} (hc : M' 120 = rowI (R' 8)) (hh : HIm M' R' n') (h9 : R' 9 = R 9) (n2 : n' 2 = n 2) (n3 : n' 3 = 0) (n4 : n' 4 = n 4) (t1 : T' 1 = T 1) (e18 : M' 119 18 = 0) (hM : ∀ c, c = 122 ∨ c = 126 → M' c = M c) (e13 : M' 119 13 = M 119 13) (e16 : M' 119 16 = M 119 16) (e20 : M' 119 20 = om (n' 7)) (e3 : M' 119 3 = nI (n' 5)) (e4 : n' 5 ≠ 0 → M' 119 4 = T' 2 0) (e5 : M' 119 5 = nI (n' 6)) (e1 : M' 119 1 = 0) : RM M' R' n' T' := by
  obtain ⟨h1, h2, h3, h4, h5, h6, h7, h8, h10, h11⟩ := h
  refine ⟨hc, hh, ⟨by rw [e13, n2]; exact h3.1, fun q k hk => by rw [hM 122 (by omega), h9]; exact h3.2 (by omega) k hk⟩, ⟨by rw [e18, n3]; rfl, fun k hk => absurd hk (by omega)⟩, ⟨by rw [e16, n4]; exact h5.1, fun k hk => by rw [hM 126 (by omega), t1]; exact h5.2 k (by omega)⟩, e20, e3, e4, e5, e1⟩
theorem scan_len {t : Nat → Int32} {L : Nat} (m : Nat) : ∀ p l, (scan t L m p).1 = some l → l.length ≤ m := by
  induction m with
  | zero => intro p l h; exact absurd h (by simp [scan])
  | succ m ih =>
    intro p l h
    obtain ⟨m', e, _, ⟨l', e2, _, e3⟩ | ⟨e2, _⟩⟩ := scan_some h
    · have : m' = m := by omega
      subst this
      have := ih _ _ e3
      rw [e2, List.length_cons]; omega
    · rw [e2]; simp
theorem up2_idem (M : Mem) (c i : Nat) (v : Int32) : up2 (up2 M c i v) c i v = up2 M c i v := by
  funext d k
  rw [u2_at, u2_at]
  by_cases h : d = c
  · rw [if_pos h, if_pos h]
    split <;> rfl
  · rw [if_neg h, if_neg h]
theorem find_pos (M : Mem) : fX8_findFault F 115 M = fX8_findFault F 115 (up2 M 115 2 0) := by
  unfold fX8_findFault
  simp only [lM]
  rw [up2_idem]
theorem HIm.fr {M' : Mem} (h : HIm M R n) (h1 : M' 119 12 = M 119 12) (h2 : M' 119 11 = M 119 11) (h3 : M' 121 = M 121) : HIm M' R n := ⟨h1.trans h.1, h2.trans h.2.1, fun j hj k hk => by rw [h3]; exact h.2.2 j hj k hk⟩
theorem ok_execute (hF : 1500 ≤ F) (hR : Rel M) : OKL (fL_execute F) (fX12_execute F) M := by
  obtain ⟨R, n, T, hO, hC, hMd⟩ := hR
  have htl := hO.tl
  have hW := hO.w
  have cs0 : CS (up2 M 115 2 0) (T 0) (n 3) 0 := ⟨by rw [u2_same, if_neg (by decide)]; exact hC.2.2.2.1.1, by rw [u2_same, if_pos rfl]; rfl, fun k hk => by rw [u2_ne _ (by decide)]; exact hC.2.2.2.1.2 k hk, htl, hO.tn, Nat.zero_le _⟩
  obtain ⟨M1, q1, a1, a2, a3, a4⟩ := cFindFault (F := F) (by omega) cs0
  rw [← find_pos] at a1
  have f1 : ∀ c, c ≠ 115 → M1 c = M c := fun c q => by rw [a2 c q, u2_ne _ q]
  have mAll : ∀ N : Mem, (∀ c, (c = 119 ∨ c = 127) → N c = M c) → ∃ N' q, fX12_readsAll F (up2 N 119 0 0) = some (match (scan (T 0) (n 3) 61 0).1 with | some _ => true | none => false, N') ∧ MS N' (T 0) (n 3) q ∧ MG (up2 N 119 0 0) N' ∧ ((scan (T 0) (n 3) 61 0).1 = none → q = (scan (T 0) (n 3) 61 0).2) := fun N hN => by
    have s0 : MS (up2 (up2 N 119 0 0) 119 19 0) (T 0) (n 3) 0 := ⟨by rw [u2_same, if_neg (by decide), u2_same, if_neg (by decide), hN _ (by omega)]; exact hMd.2.2.2.1.1, by rw [u2_same, if_pos rfl]; rfl, fun k hk => by rw [u2_ne _ (by decide), u2_ne _ (by decide), hN _ (by omega)]; exact hMd.2.2.2.1.2 k hk, htl, Nat.zero_le _⟩
    obtain ⟨N', q, b1, b2, b3, b4⟩ := mAll7 (F := F) (by omega) 61 0 _ s0 (by omega) F (by omega)
    refine ⟨N', q, ?_, b2, MG.u19.tr b3, b4⟩
    unfold fX12_readsAll
    simp only [lM]
    exact b1
  have c5 := hC.2.2.2.2.2.2.1
  have c10 := hC.2.2.2.2.2.2.2.1
  have c11 := hC.2.2.2.2.2.2.2.2
  have c8 := hC.2.2.2.2.2.1
  have d20 := hMd.2.2.2.2.2.1
  have d3 := hMd.2.2.2.2.2.2.1
  have d4 := hMd.2.2.2.2.2.2.2.1
  have d5 := hMd.2.2.2.2.2.2.2.2.1
  have d1 := hMd.2.2.2.2.2.2.2.2.2
  cases hs : (scan (T 0) (n 3) 61 0).1 with
  | none =>
    rw [hs] at a1
    have he := scan_le (t := T 0) (L := n 3) 61 0 (Nat.zero_le _)
    have hr3 : ¬ nI (scan (T 0) (n 3) 61 0).2 = -1 := nI_m1 (by omega)
    have e1 : fL_execute F M = some (1, up2 (up2 M1 115 1 0) 0 8 (nI (scan (T 0) (n 3) 61 0).2)) := by
      unfold fL_execute fX11_execute
      rw [a1]
      simp only [bM]
      rw [if_neg hr3]
      rfl
    have fN : ∀ c, c ≠ 115 → c ≠ 0 → up2 (up2 M1 115 1 0) 0 8 (nI (scan (T 0) (n 3) 61 0).2) c = M c := fun c q1 q2 => by rw [u2_ne _ q2, u2_ne _ q1, f1 c q1]
    obtain ⟨N1, q, b1, b2, b3, b4⟩ := mAll (up2 (up2 M1 115 1 0) 0 8 (nI (scan (T 0) (n 3) 61 0).2)) (fun c hc => fN c (by omega) (by omega))
    rw [hs] at b1
    have b5 := b4 hs
    rw [b5] at b2
    have g : ∀ c, c ≠ 119 → c ≠ 128 → N1 c = up2 (up2 M1 115 1 0) 0 8 (nI (scan (T 0) (n 3) 61 0).2) c := fun c q1 q2 => by rw [b3.1 c q1 q2, u2_ne _ q1]
    have g2 : ∀ i, i ≠ 0 → i ≠ 19 → i ≠ 22 → N1 119 i = M 119 i := fun i q1 q2 q3 => by rw [b3.2 i q2 q3, u2_same, if_neg q1, fN _ (by decide) (by decide)]
    have w : ∀ i, up2 (up2 (up2 N1 119 20 (nI (scan (T 0) (n 3) 61 0).2)) 119 18 0) 119 0 1 119 i = if i = 0 then 1 else if i = 18 then 0 else if i = 20 then nI (scan (T 0) (n 3) 61 0).2 else N1 119 i := fun i => by rw [u2_same, u2_same, u2_same]
    have w2 : ∀ c, c ≠ 119 → up2 (up2 (up2 N1 119 20 (nI (scan (T 0) (n 3) 61 0).2)) 119 18 0) 119 0 1 c = N1 c := fun c q => by rw [u2_ne _ q, u2_ne _ q, u2_ne _ q]
    refine ⟨1, _, 0, up2 (up2 (up2 N1 119 20 (nI (scan (T 0) (n 3) 61 0).2)) 119 18 0) 119 0 1, e1, ?_, by rw [u2_same, if_pos rfl], fun z => absurd z (by decide), R, updN (updN n 3 0) 7 ((scan (T 0) (n 3) 61 0).2 + 1), T, ?_, ?_, ?_⟩
    · unfold fX12_execute
      simp only [lM]
      rw [b1]
      simp only [bM]
      rw [if_neg (by decide), b2.2.1]
      rfl
    · exact ⟨hW, hO.f, hO.c, hO.wh, hO.s, hO.ws, by show 0 ≤ 60; omega, fun k hk => absurd hk (Nat.not_lt_zero k), hO.ll, hO.ln, hO.d, hO.ca, by show (scan (T 0) (n 3) 61 0).2 + 1 ≤ 61; omega⟩
    · refine (RC.ex hC (M' := up2 (up2 M1 115 1 0) 0 8 (nI (scan (T 0) (n 3) 61 0).2)) (R' := R) (n' := updN (updN n 3 0) 7 ((scan (T 0) (n 3) 61 0).2 + 1)) (T' := T) (CL.fr hC.1 fun c q1 q2 => fN c (by omega) (by omega)) (HIc.fr hC.2.1 fun c q1 q2 => fN c (by omega) (by omega)) rfl rfl rfl rfl rfl (by rw [u2_ne _ (by decide), u2_same, if_pos rfl]) (fun c q => fN c (by omega) (by omega)) (by rw [u2_same, if_neg (by decide), u2_ne _ (by decide), f1 _ (by decide)]) (by rw [u2_same, if_pos rfl]; rfl) (by rw [u2_same, if_neg (by decide), u2_ne _ (by decide), f1 _ (by decide)]; exact c5) (fun q => by rw [u2_same, if_neg (by decide), u2_ne _ (by decide), f1 _ (by decide)]; exact c10 q) (by rw [u2_same, if_neg (by decide), u2_ne _ (by decide), f1 _ (by decide)]; exact c11)).fr fun c q1 q2 q3 q4 q5 => by rw [w2 c (by omega), g c (by omega) (by omega)]
    · refine RM.ex hMd (R' := R) (by rw [w2 _ (by decide), g _ (by decide) (by decide), fN _ (by decide) (by decide)]; exact hMd.1) (HIm.fr hMd.2.1 (by rw [w, if_neg (by decide), if_neg (by decide), if_neg (by decide), g2 _ (by decide) (by decide) (by decide)]) (by rw [w, if_neg (by decide), if_neg (by decide), if_neg (by decide), g2 _ (by decide) (by decide) (by decide)]) (by rw [w2 _ (by decide), g _ (by decide) (by decide), fN _ (by decide) (by decide)])) rfl rfl rfl rfl rfl (by rw [w, if_neg (by decide), if_pos rfl]) (fun c q => by rw [w2 c (by omega), g c (by omega) (by omega), fN c (by omega) (by omega)]) (by rw [w, if_neg (by decide), if_neg (by decide), if_neg (by decide), g2 _ (by decide) (by decide) (by decide)]) (by rw [w, if_neg (by decide), if_neg (by decide), if_neg (by decide), g2 _ (by decide) (by decide) (by decide)]) (by rw [w, if_neg (by decide), if_neg (by decide), if_pos rfl]; rfl) (by rw [w, if_neg (by decide), if_neg (by decide), if_neg (by decide), g2 _ (by decide) (by decide) (by decide)]; exact d3) (fun q => by rw [w, if_neg (by decide), if_neg (by decide), if_neg (by decide), g2 _ (by decide) (by decide) (by decide)]; exact d4 q) (by rw [w, if_neg (by decide), if_neg (by decide), if_neg (by decide), g2 _ (by decide) (by decide) (by decide)]; exact d5) (by rw [w, if_neg (by decide), if_neg (by decide), if_neg (by decide), g2 _ (by decide) (by decide) (by decide)]; exact d1)
  | some l =>
    rw [hs] at a1
    have a5 := a4 l hs
    have hlen := scan_len 61 0 l hs
    have cc1 : CC M1 1 (R 8) := CL.fr hC.1 fun c q1 q2 => f1 c (by omega)
    obtain ⟨M2, g1, g2, g3⟩ := copyL (F := F) (M := M1) (b := 11) (p := 1) (by decide) (by decide) (by omega) hW cc1
    have e115 : M2 115 = M1 115 := g3 115 (by omega)
    have f2 : ∀ c, c ≠ 115 → ¬ (11 ≤ c ∧ c < 21) → M2 c = M c := fun c q1 q2 => by rw [g3 c (by omega), f1 c q1]
    have cs2 : CS (up2 M2 115 2 0) (T 0) (n 3) 0 := ⟨by rw [u2_same, if_neg (by decide), e115]; exact a3.1, by rw [u2_same, if_pos rfl]; rfl, fun k hk => by rw [u2_ne _ (by decide), f2 _ (by decide) (by omega)]; exact hC.2.2.2.1.2 k hk, htl, hO.tn, Nat.zero_le _⟩
    have hrun := runBoth (F := F) hF l 61 0 0 (R 8) (up2 M2 115 2 0) hs hW (CL.fr g2 fun c q1 q2 => u2_ne _ (by omega)) cs2 (by rw [u2_same, if_neg (by decide), e115, a5, Nat.zero_add]) (by omega) F (by omega)
    have htry : fX11_tryCommands F M1 = fX11_tryCommands_20 F (fun M23 => some (true, M23)) F (nI 0) (up2 M2 115 2 0) := by
      unfold fX11_tryCommands fX8_rewind
      rw [g1]
      rfl
    have mGo : ∀ (N : Mem), (∀ c, (119 ≤ c ∧ c < 129) → N c = M c) → ∀ {P : Option (Bool × Mem) → Mem → Prop}, MRun F (T 0) (n 3) 0 0 (l.length + 1) (R 8) P → ∃ N4, (∀ c, c ≠ 119 → c ≠ 123 → c ≠ 128 → N4 c = N c) ∧ (∀ k, k < 216 → N4 123 k = nI (R 8 k)) ∧ (∀ i, i ≠ 0 → i ≠ 1 → i ≠ 19 → i ≠ 22 → i ≠ 23 → N4 119 i = M 119 i) ∧ N4 119 0 = 0 ∧ P (fX12_doesAll_12 F (fun M21 => some (true, M21)) F 1 N4) N4 ∧ fX12_execute F N = bindM (fX12_doesAll_12 F (fun M21 => some (true, M21)) F 1 N4) (fun r13 M11 => letM (up2 M11 119 18 0) (fun M14 => if r13 = true then bindV (fX12_keeps F M14) (fun M42 => some ((M42 119 23), M42)) else bindV (fX12_goesBack F M14) (fun M17 => if (M17 119 1) ≤ 0 then letM (up2 M17 119 5 7) (fun M20 => letM (up2 M20 119 1 0) (fun M22 => letM (up2 M22 119 3 6) (fun M24 => letM (up2 M24 119 4 (M24 119 23)) (fun M26 => bindM (fX12_fails F 2 M26) (fun r30 M28 => some (r30, M28)))))) else letM (up2 M17 119 5 (M17 119 1)) (fun M31 => letM (up2 M31 119 1 0) (fun M33 => letM (up2 M33 119 3 6) (fun M35 => letM (up2 M35 119 4 (M35 119 23)) (fun M37 => bindM (fX12_fails F 2 M37) (fun r41 M39 => some (r41, M39))))))))) := fun N hN P hP => by
      obtain ⟨N1, q, b1, b2, b3, b4⟩ := mAll N (fun c hc => hN c (by omega))
      rw [hs] at b1
      obtain ⟨N2, k1, k2, k3⟩ := mCopies (F := F) (M := N1) (by omega)
      have w : ∀ i, up2 (up2 (up2 N2 119 1 0) 119 23 0) 119 19 0 119 i = if i = 19 then 0 else if i = 23 then 0 else if i = 1 then 0 else N1 119 i := fun i => by rw [u2_same, u2_same, u2_same, k2 _ (by decide)]
      have w2 : ∀ c, c ≠ 119 → up2 (up2 (up2 N2 119 1 0) 119 23 0) 119 19 0 c = N2 c := fun c q => by rw [u2_ne _ q, u2_ne _ q, u2_ne _ q]
      have g4 : ∀ c, c ≠ 119 → c ≠ 123 → c ≠ 128 → up2 (up2 (up2 N2 119 1 0) 119 23 0) 119 19 0 c = N c := fun c q1 q2 q3 => by rw [w2 c q1, k2 c q2, b3.1 c q1 q3, u2_ne _ q1]
      refine ⟨up2 (up2 (up2 N2 119 1 0) 119 23 0) 119 19 0, g4, fun k hk => by rw [w2 _ (by decide), k3 k hk, b3.1 _ (by decide) (by decide), u2_ne _ (by decide), hN _ (by omega), hMd.1, rowI_at], fun i q1 q2 q3 q4 q5 => by rw [w, if_neg q3, if_neg q5, if_neg q2, b3.2 i q3 q4, u2_same, if_neg q1, hN _ (by omega)], by rw [w, if_neg (by decide), if_neg (by decide), if_neg (by decide), b3.2 _ (by decide) (by decide), u2_same, if_pos rfl], ?_, ?_⟩
      · refine hP _ F (by omega) ⟨?_, ?_, fun k hk => ?_, htl, Nat.zero_le _⟩ ?_ ?_ ?_
        · rw [w, if_neg (by decide), if_neg (by decide), if_neg (by decide), b2.1]
        · rw [w, if_pos rfl]; rfl
        · rw [w2 _ (by decide), k2 _ (by decide)]; exact b2.2.2.1 k hk
        · rw [g4 _ (by decide) (by decide) (by decide), hN _ (by omega)]; exact hMd.1
        · rw [w, if_neg (by decide), if_pos rfl]; rfl
        · rw [w, if_neg (by decide), if_neg (by decide), if_pos rfl]
      · unfold fX12_execute fX12_doesAll
        simp only [lM]
        rw [b1]
        simp only [bM]
        rw [if_pos trivial, k1]
        rfl
    rcases hrun with ⟨a', M3, r1, r2, r3, r4, r5, r6, r7⟩ | ⟨jf, cz, M3, r1, r2, r3, r4, r5⟩
    · -- all carried out
      have f3 : ∀ c, c ≠ 115 → ¬ (11 ≤ c ∧ c < 21) → M3 c = M c := fun c q1 q2 => by rw [r4 c q1 q2, u2_ne _ q1, f2 c q1 q2]
      have e3 : M3 115 3 = nI l.length := by rw [r5, u2_same, if_neg (by decide), e115, a5]
      have fc : ∀ c, c ≠ 115 → up2 M3 115 1 0 c = M3 c := fun c q => u2_ne _ q
      obtain ⟨M4, p1, p2, p3⟩ := cPush (F := F) (M := up2 M3 115 1 0) (R := R) (n := n) hO.f hO.c (HIc.fr hC.2.1 fun c q1 q2 => by rw [fc c (by omega), f3 c (by omega) (by omega)]) hW (CL.fr hC.1 fun c q1 q2 => by rw [fc c (by omega), f3 c (by omega) (by omega)])
      have cc4 : CC M4 11 a' := CL.fr r2 fun c q1 q2 => by rw [p3 c (by omega), fc c (by omega)]
      obtain ⟨M5, s1, s2, s3⟩ := copyL (F := F) (M := M4) (b := 1) (p := 11) (by decide) (by decide) (by omega) r1 cc4
      have f5 : ∀ c, (c < 1 ∨ (21 ≤ c ∧ c < 31) ∨ 113 ≤ c) → c ≠ 115 → M5 c = M c := fun c q1 q2 => by rw [s3 c (by omega), p3 c (by omega), fc c q2, f3 c q2 (by omega)]
      have e5 : M5 115 = up2 M3 115 1 0 115 := by rw [s3 115 (by omega), p3 115 (by omega)]
      have e1 : fL_execute F M = some (0, up2 M5 129 0 (nI l.length)) := by
        unfold fL_execute fX11_execute
        rw [a1]
        simp only [bM]
        rw [if_pos trivial, htry, r3]
        simp only [bM]
        unfold fX8_clear
        simp only [lM, bV]
        rw [if_pos trivial, p1]
        simp only [bV]
        rw [s1]
        simp only [bV, bH]
        rw [e5, u2_same, if_neg (by decide), e3]
      have fN : ∀ c, (119 ≤ c ∧ c < 129) → up2 M5 129 0 (nI l.length) c = M c := fun c q => by rw [u2_ne _ (by omega), f5 c (by omega) (by omega)]
      obtain ⟨N4, x1, x2, x3, x4, x5, x6⟩ := mGo (up2 M5 129 0 (nI l.length)) fN r7
      obtain ⟨N5, y1, y2, y3, y4, y5⟩ := x5
      have him : HIm (up2 N5 119 18 0) R n := by
        refine HIm.fr hMd.2.1 ?_ ?_ ?_
        · rw [u2_same, if_neg (by decide), y4.2 _ (by decide) (by decide) (by decide) (by decide) (by decide), x3 _ (by decide) (by decide) (by decide) (by decide) (by decide)]
        · rw [u2_same, if_neg (by decide), y4.2 _ (by decide) (by decide) (by decide) (by decide) (by decide), x3 _ (by decide) (by decide) (by decide) (by decide) (by decide)]
        · rw [u2_ne _ (by decide), y4.1 _ (by decide) (by decide) (by decide) (by decide), x1 _ (by decide) (by decide) (by decide), fN _ (by omega)]
      obtain ⟨N6, z1, z2, z3, z4⟩ := mKeeps (F := F) (M := up2 N5 119 18 0) (r := R 8) (by omega) hO.f hO.c him (fun k hk => by rw [u2_ne _ (by decide), y4.1 _ (by decide) (by decide) (by decide) (by decide), x2 k hk])
      have w : ∀ i, i ≠ 0 → i ≠ 1 → i ≠ 2 → i ≠ 11 → i ≠ 12 → i ≠ 18 → i ≠ 19 → i ≠ 22 → i ≠ 23 → N6 119 i = M 119 i := fun i q0 q1 q2 q11 q12 q18 q19 q22 q23 => by rw [z4 i q11 q12, u2_same, if_neg q18, y4.2 i q1 q2 q19 q22 q23, x3 i q0 q1 q19 q22 q23]
      have w2 : ∀ c, c ≠ 119 → c ≠ 120 → c ≠ 121 → c ≠ 123 → c ≠ 125 → c ≠ 128 → N6 c = up2 M5 129 0 (nI l.length) c := fun c q1 q2 q3 q4 q5 q6 => by rw [z3 c q1 q3, u2_ne _ q1, y4.1 c q1 q2 q5 q6, x1 c q1 q4 q6]
      have n3 : ∀ k, 2 ≤ k → k ≠ 3 → updN (hN n) 3 0 k = n k := fun k q1 q2 => by rw [updN_ne _ q2, hN_hi n q1]
      refine ⟨0, _, nI l.length, N6, e1, ?_, ?_, fun _ => by rw [w2 _ (by decide) (by decide) (by decide) (by decide) (by decide) (by decide), u2_same, if_pos rfl], updR (hR R n (R 8)) 8 a', updN (hN n) 3 0, T, ?_, ?_, ?_⟩
      · rw [x6, y1]
        simp only [bM, lM]
        rw [if_pos trivial, z1]
        simp only [bV]
        rw [z4 _ (by decide) (by decide), u2_same, if_neg (by decide), y3, Nat.zero_add]
      · rw [z4 _ (by decide) (by decide), u2_same, if_neg (by decide), y4.2 _ (by decide) (by decide) (by decide) (by decide) (by decide), x4]
      · have ho := hO.push r1
        exact ⟨ho.w, ho.f, ho.c, ho.wh, ho.s, ho.ws, by show 0 ≤ 60; omega, fun k hk => absurd hk (Nat.not_lt_zero k), ho.ll, ho.ln, ho.d, ho.ca, ho.fa⟩
      · refine (RC.ex hC (M' := M5) (R' := updR (hR R n (R 8)) 8 a') (n' := updN (hN n) 3 0) (T' := T) (by rw [updR_same]; exact s2) ?_ (by rw [updR_ne _ _ (by decide), hR_hi _ (by decide)]) (n3 2 (by decide) (by decide)) (updN_same _ _ _) (n3 4 (by decide) (by decide)) rfl (by rw [e5, u2_same, if_pos rfl]) (fun c q => f5 c (by omega) (by omega)) (by rw [f5 0 (by omega) (by decide)]) (by rw [f5 0 (by omega) (by decide), n3 7 (by decide) (by decide)]; exact c8) (by rw [f5 0 (by omega) (by decide), n3 5 (by decide) (by decide)]; exact c5) (fun q => by rw [f5 0 (by omega) (by decide)]; exact c10 (by rw [← n3 5 (by decide) (by decide)]; exact q)) (by rw [f5 0 (by omega) (by decide), n3 6 (by decide) (by decide)]; exact c11)).fr fun c q1 q2 q3 q4 q5 => by rw [w2 c (by omega) (by omega) (by omega) (by omega) (by omega) (by omega), u2_ne _ (by omega)]
        have hh := (HIc.fr p2 (M' := M5) fun c q1 q2 => s3 c (by omega)).up a'
        exact ⟨hh.1, hh.2.1, hh.2.2⟩
      · have hh := z2.up a'
        refine RM.ex hMd (R' := updR (hR R n (R 8)) 8 a') (n' := updN (hN n) 3 0) (T' := T) (by rw [updR_same, z3 _ (by decide) (by decide), u2_ne _ (by decide)]; exact y2) ⟨hh.1, hh.2.1, hh.2.2⟩ (by rw [updR_ne _ _ (by decide), hR_hi _ (by decide)]) (n3 2 (by decide) (by decide)) (updN_same _ _ _) (n3 4 (by decide) (by decide)) rfl (by rw [z4 _ (by decide) (by decide), u2_same, if_pos rfl]) (fun c q => by rw [w2 c (by omega) (by omega) (by omega) (by omega) (by omega) (by omega), fN c (by omega)]) (w _ (by decide) (by decide) (by decide) (by decide) (by decide) (by decide) (by decide) (by decide) (by decide)) (w _ (by decide) (by decide) (by decide) (by decide) (by decide) (by decide) (by decide) (by decide) (by decide)) ?_ ?_ (fun q => ?_) ?_ ?_
        · rw [w _ (by decide) (by decide) (by decide) (by decide) (by decide) (by decide) (by decide) (by decide) (by decide), n3 7 (by decide) (by decide)]; exact d20
        · rw [w _ (by decide) (by decide) (by decide) (by decide) (by decide) (by decide) (by decide) (by decide) (by decide), n3 5 (by decide) (by decide)]; exact d3
        · rw [w _ (by decide) (by decide) (by decide) (by decide) (by decide) (by decide) (by decide) (by decide) (by decide)]; exact d4 (by rw [← n3 5 (by decide) (by decide)]; exact q)
        · rw [w _ (by decide) (by decide) (by decide) (by decide) (by decide) (by decide) (by decide) (by decide) (by decide), n3 6 (by decide) (by decide)]; exact d5
        · rw [z4 _ (by decide) (by decide), u2_same, if_neg (by decide), y5]
    · -- one was refused
      have f3 : ∀ c, c ≠ 0 → c ≠ 115 → ¬ (11 ≤ c ∧ c < 21) → M3 c = M c := fun c q0 q1 q2 => by rw [r4.1 c q0 q1 q2, u2_ne _ q1, f2 c q1 q2]
      have e0 : ∀ i, M3 0 i = if i = 11 then nI cz else if i = 10 then nI jf else if i = 9 then 6 else M 0 i := fun i => by rw [r4.2.2 i, u2_ne _ (by decide), f2 0 (by decide) (by omega)]
      have e1 : fL_execute F M = some (2, up2 M3 115 1 0) := by
        unfold fL_execute fX11_execute
        rw [a1]
        simp only [bM]
        rw [if_pos trivial, htry, r3]
        simp only [bM]
        unfold fX8_clear
        simp only [lM, bV]
        rw [if_neg (by decide)]
        rfl
      have fN : ∀ c, (119 ≤ c ∧ c < 129) → up2 M3 115 1 0 c = M c := fun c q => by rw [u2_ne _ (by omega), f3 c (by omega) (by omega) (by omega)]
      obtain ⟨N4, x1, x2, x3, x4, x5, x6⟩ := mGo (up2 M3 115 1 0) fN r5
      obtain ⟨N5, y1, y3, y4, y5⟩ := x5
      obtain ⟨N6, z1, z2, z3, z4⟩ := mGoesBack (F := F) (M := up2 N5 119 18 0) (by omega)
      have row : N6 120 = rowI (R 8) := by
        funext k
        by_cases q : k < 216
        · rw [z4 k q, u2_ne _ (by decide), y4.1 _ (by decide) (by decide) (by decide) (by decide), x2 k q, rowI_at]
        · rw [z3 k (by omega), u2_ne _ (by decide), y5.2 k (by omega), rowI_at, hW.z k (by omega)]
          rfl
      have v : ∀ i, i ≠ 1 → i ≠ 2 → i ≠ 19 → i ≠ 22 → i ≠ 23 → i ≠ 18 → i ≠ 0 → N6 119 i = M 119 i := fun i q1 q2 q19 q22 q23 q18 q0 => by rw [z2 _ (by decide), u2_same, if_neg q18, y4.2 i q1 q2 q19 q22 q23, x3 i q0 q1 q19 q22 q23]
      have v1 : N6 119 1 = nI (if cz = 7 then 0 else cz) := by rw [z2 _ (by decide), u2_same, if_neg (by decide), y5.1]
      have v23 : N6 119 23 = nI jf := by rw [z2 _ (by decide), u2_same, if_neg (by decide), y3]
      have v2 : ∀ c, c ≠ 119 → c ≠ 120 → c ≠ 123 → c ≠ 125 → c ≠ 128 → N6 c = up2 M3 115 1 0 c := fun c q1 q2 q3 q4 q5 => by rw [z2 c q2, u2_ne _ q1, y4.1 c q1 q2 q4 q5, x1 c q1 q3 q5]
      have fin : ∃ N7, fX12_execute F (up2 M3 115 1 0) = some (0, N7) ∧ (∀ c, c ≠ 119 → N7 c = N6 c) ∧ ∀ i, N7 119 i = if i = 0 then 2 else if i = 4 then nI jf else if i = 3 then 6 else if i = 1 then 0 else if i = 5 then nI cz else N6 119 i := by
        rw [x6, y1]
        simp only [bM, lM]
        rw [if_neg (by decide), z1]
        simp only [bV]
        rw [v1]
        by_cases w7 : cz = 7
        · rw [if_pos w7, if_pos (by decide)]
          refine ⟨_, rfl, fun c q => by rw [u2_ne _ q, u2_ne _ q, u2_ne _ q, u2_ne _ q, u2_ne _ q], fun i => ?_⟩
          rw [u2_same, u2_same, u2_same, u2_same, u2_same, u2_same, if_neg (show ¬ 23 = 3 by decide), u2_same, if_neg (show ¬ 23 = 1 by decide), u2_same, if_neg (show ¬ 23 = 5 by decide), v23, w7]
          rfl
        · rw [if_neg w7, if_neg (nle0 (by omega) (by omega))]
          refine ⟨_, rfl, fun c q => by rw [u2_ne _ q, u2_ne _ q, u2_ne _ q, u2_ne _ q, u2_ne _ q], fun i => ?_⟩
          rw [u2_same, u2_same, u2_same, u2_same, u2_same, u2_same, if_neg (show ¬ 23 = 3 by decide), u2_same, if_neg (show ¬ 23 = 1 by decide), u2_same, if_neg (show ¬ 23 = 5 by decide), v23]
      obtain ⟨N7, t1, t2, t3⟩ := fin
      have t4 : ∀ i, i ≠ 0 → i ≠ 1 → i ≠ 2 → i ≠ 3 → i ≠ 4 → i ≠ 5 → i ≠ 18 → i ≠ 19 → i ≠ 22 → i ≠ 23 → N7 119 i = M 119 i := fun i q0 q1 q2 q3 q4 q5 q18 q19 q22 q23 => by rw [t3, if_neg q0, if_neg q4, if_neg q3, if_neg q1, if_neg q5, v i q1 q2 q19 q22 q23 q18 q0]
      refine ⟨2, _, 0, N7, e1, t1, by rw [t3, if_pos rfl], fun z => absurd z (by decide), R, updN (updN (updN n 3 0) 5 6) 6 cz, updR T 2 (fun _ => nI jf), ?_, ?_, ?_⟩
      · exact ⟨hW, hO.f, hO.c, hO.wh, hO.s, hO.ws, by show 0 ≤ 60; omega, fun k hk => absurd hk (Nat.not_lt_zero k), hO.ll, hO.ln, by show 6 ≤ 7; omega, by show cz ≤ 7; omega, hO.fa⟩
      · refine (RC.ex hC (M' := up2 M3 115 1 0) (R' := R) (n' := updN (updN (updN n 3 0) 5 6) 6 cz) (T' := updR T 2 (fun _ => nI jf)) (CL.fr hC.1 fun c q1 q2 => by rw [u2_ne _ (by omega), f3 c (by omega) (by omega) (by omega)]) (HIc.fr hC.2.1 fun c q1 q2 => by rw [u2_ne _ (by omega), f3 c (by omega) (by omega) (by omega)]) rfl rfl rfl rfl rfl (by rw [u2_same, if_pos rfl]) (fun c q => by rw [u2_ne _ (by omega), f3 c (by omega) (by omega) (by omega)]) (by rw [u2_ne _ (by decide), e0, if_neg (by decide), if_neg (by decide), if_neg (by decide)]) (by rw [u2_ne _ (by decide), e0, if_neg (by decide), if_neg (by decide), if_neg (by decide)]; exact c8) (by rw [u2_ne _ (by decide), e0, if_neg (by decide), if_neg (by decide), if_pos rfl]; rfl) (fun _ => by rw [u2_ne _ (by decide), e0, if_neg (by decide), if_pos rfl]; rfl) ?_).fr fun c q1 q2 q3 q4 q5 => by rw [t2 c (by omega), v2 c (by omega) (by omega) (by omega) (by omega) (by omega)]
        rw [u2_ne _ (by decide), e0, if_pos rfl]
        show nI cz = if cz = 0 then -1 else nI cz
        rw [if_neg (by omega)]
      · refine RM.ex hMd (R' := R) (n' := updN (updN (updN n 3 0) 5 6) 6 cz) (T' := updR T 2 (fun _ => nI jf)) (by rw [t2 _ (by decide)]; exact row) (HIm.fr hMd.2.1 ?_ ?_ ?_) rfl rfl rfl rfl rfl ?_ (fun c q => by rw [t2 c (by omega), v2 c (by omega) (by omega) (by omega) (by omega) (by omega), fN c (by omega)]) ?_ ?_ ?_ ?_ (fun _ => ?_) ?_ ?_
        · exact t4 _ (by decide) (by decide) (by decide) (by decide) (by decide) (by decide) (by decide) (by decide) (by decide) (by decide)
        · exact t4 _ (by decide) (by decide) (by decide) (by decide) (by decide) (by decide) (by decide) (by decide) (by decide) (by decide)
        · rw [t2 _ (by decide), v2 _ (by decide) (by decide) (by decide) (by decide) (by decide), fN _ (by omega)]
        · rw [t3, if_neg (by decide), if_neg (by decide), if_neg (by decide), if_neg (by decide), if_neg (by decide), z2 _ (by decide), u2_same, if_pos rfl]
        · exact t4 _ (by decide) (by decide) (by decide) (by decide) (by decide) (by decide) (by decide) (by decide) (by decide) (by decide)
        · exact t4 _ (by decide) (by decide) (by decide) (by decide) (by decide) (by decide) (by decide) (by decide) (by decide) (by decide)
        · rw [t4 _ (by decide) (by decide) (by decide) (by decide) (by decide) (by decide) (by decide) (by decide) (by decide) (by decide)]; exact d20
        · rw [t3, if_neg (by decide), if_neg (by decide), if_pos rfl]; rfl
        · rw [t3, if_neg (by decide), if_pos rfl]; rfl
        · rw [t3, if_neg (by decide), if_neg (by decide), if_neg (by decide), if_neg (by decide), if_pos rfl]; rfl
        · rw [t3, if_neg (by decide), if_neg (by decide), if_neg (by decide), if_pos rfl]
end
