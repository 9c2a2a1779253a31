section
variable {F : Nat} {M : Mem} {a : Nat → Nat} {Ls : Nat} {xs : Nat → Int32} {kx : Mem → Option Bool} {v5 : Int32}
theorem ok_mean (hF : 1500 ≤ F) (hR : Rel M) : ∃ r M1 v M2, fL_meanCheese F M = some (r, M1) ∧ fX12_meanCheese F M1 = some (v, M2) ∧ M2 119 0 = r ∧ (r = 0 → mk64 (M2 130 0) (M2 130 1) = v ∧ dcm v v = 0) ∧ Rel M2 := by
  obtain ⟨a, hW, hc, hN⟩ := hR.cur
  have hn := hW.n
  by_cases w : a 0 = 0
  · refine ⟨1, M, FP.i2d 0, up2 (up2 M 119 0 0) 119 0 1, ?_, ?_, by rw [u2_same, if_pos rfl], fun z => absurd z (by decide), ?_⟩
    · unfold fL_meanCheese fX11_meanCheese
      rw [show M 2 3 = nI (a 0) from hc.n, if_pos (eqL (n := 0) w)]
      rfl
    · unfold fX12_meanCheese
      simp only [lM]
      rw [n119 hN, rowI_at, if_pos (eqL (n := 0) w)]
      rfl
    · exact hR.q (fun c q _ _ _ _ _ _ => by rw [u2_ne _ q, u2_ne _ q]) (fun i q => by rw [u2_same, if_neg q, u2_same, if_neg q])
  · have w0 : ¬ nI (a 0) = 0 := neL (n := 0) (by omega) (by decide) w
    have hnn : nn64 (FP.ddiv (FP.i2d (nI (sumF (a 0) (fun k => a (14 + k))))) (FP.i2d (nI (a 0)))) = true := ddiv_nn w0
    have hN2 : ∀ (x y : Int32), up2 (up2 (up2 M 130 0 x) 130 1 y) 119 0 0 120 = rowI a := fun x y => by rw [u2_ne _ (by decide), u2_ne _ (by decide), u2_ne _ (by decide)]; exact hN
    obtain ⟨q, hq⟩ : ∃ q, q = FP.ddiv (FP.i2d (nI (sumF (a 0) (fun k => a (14 + k))))) (FP.i2d (nI (a 0))) := ⟨_, rfl⟩
    rw [← hq] at hnn
    refine ⟨0, up2 (up2 M 130 0 (hi32 q)) 130 1 (lo32 q), q, up2 (up2 (up2 M 130 0 (hi32 q)) 130 1 (lo32 q)) 119 0 0, ?_, ?_, by rw [u2_same, if_pos rfl], fun _ => ⟨?_, dcm_self hnn⟩, ?_⟩
    · unfold fL_meanCheese fX11_meanCheese
      rw [show M 2 3 = nI (a 0) from hc.n, if_neg w0, cSum (by omega) hW hc]
      simp only [bM]
      rw [show M 2 3 = nI (a 0) from hc.n, ← hq, ckb _ hnn]
      rfl
    · unfold fX12_meanCheese
      simp only [lM]
      rw [hN2, rowI_at, if_neg w0, mSum (by omega) hW (hN2 _ _)]
      simp only [bM]
      rw [hN2, rowI_at, ← hq, ckb _ hnn]
    · rw [u2_ne _ (by decide), u2_same, if_neg (by decide), u2_same, if_pos rfl, u2_same, if_pos rfl, mk64_hl]
    · exact hR.q (fun c q1 _ _ _ _ q2 _ => by rw [u2_ne _ q1, u2_ne _ q2, u2_ne _ q2]) (fun i q => by rw [u2_same, if_neg q, u2_ne _ (by decide), u2_ne _ (by decide)])
theorem ok_share (hR : Rel M) : ∃ r M1 v M2, fL_caughtShare F M = some (r, M1) ∧ fX12_caughtShare F M1 = some (v, M2) ∧ M2 119 0 = r ∧ (r = 0 → nn64 (FP.f2d v) = true ∧ mk64 (M2 130 0) (M2 130 1) = FP.f2d v ∧ dcm (FP.f2d v) (FP.f2d v) = 0) ∧ Rel M2 := by
  obtain ⟨a, hW, hc, hN⟩ := hR.cur
  have e8 : M 1 8 = nI (a 9) := hc.ca
  have e9 : M 1 9 = nI (a 10) := hc.go
  by_cases w : nI (a 9) + nI (a 10) = 0
  · refine ⟨1, M, FP.i2f 0, up2 (up2 M 119 0 0) 119 0 1, ?_, ?_, by rw [u2_same, if_pos rfl], fun z => absurd z (by decide), ?_⟩
    · unfold fL_caughtShare fX11_caughtShare
      simp only [lM]
      rw [e8, e9, if_pos w]
      rfl
    · unfold fX12_caughtShare
      simp only [lM]
      rw [n119 hN, rowI_at, rowI_at, if_pos w]
      rfl
    · exact hR.q (fun c q _ _ _ _ _ _ => by rw [u2_ne _ q, u2_ne _ q]) (fun i q => by rw [u2_same, if_neg q, u2_same, if_neg q])
  · have hnn : nn32 (FP.fdiv (FP.i2f (nI (a 9))) (FP.i2f (nI (a 9) + nI (a 10)))) = true := fdiv_nn w
    have hn2 := f2d_nn hnn
    have hN2 : ∀ (x y : Int32), up2 (up2 (up2 M 130 0 x) 130 1 y) 119 0 0 120 = rowI a := fun x y => by rw [u2_ne _ (by decide), u2_ne _ (by decide), u2_ne _ (by decide)]; exact hN
    obtain ⟨q, hq⟩ : ∃ q, q = FP.fdiv (FP.i2f (nI (a 9))) (FP.i2f (nI (a 9) + nI (a 10))) := ⟨_, rfl⟩
    rw [← hq] at hnn hn2
    refine ⟨0, up2 (up2 M 130 0 (hi32 (FP.f2d q))) 130 1 (lo32 (FP.f2d q)), q, up2 (up2 (up2 M 130 0 (hi32 (FP.f2d q))) 130 1 (lo32 (FP.f2d q))) 119 0 0, ?_, ?_, by rw [u2_same, if_pos rfl], fun _ => ⟨hn2, ?_, dcm_self hn2⟩, ?_⟩
    · unfold fL_caughtShare fX11_caughtShare
      simp only [lM]
      rw [e8, e9, if_neg w, ← hq, ckb _ hnn]
      simp only [bH]
      rw [ckb _ hn2]
    · unfold fX12_caughtShare
      simp only [lM]
      rw [hN2, rowI_at, rowI_at, if_neg w, ← hq, ckb _ hnn]
    · rw [u2_ne _ (by decide), u2_same, if_neg (by decide), u2_same, if_pos rfl, u2_same, if_pos rfl, mk64_hl]
    · exact hR.q (fun c q1 _ _ _ _ q2 _ => by rw [u2_ne _ q1, u2_ne _ q2, u2_ne _ q2]) (fun i q => by rw [u2_same, if_neg q, u2_ne _ (by decide), u2_ne _ (by decide)])
theorem lw_276 (hF : 1500 ≤ F) (hR : Rel M) (h1 : inb (v5 + 1) Ls = true) (h2 : inb (v5 + 2) Ls = true) : ∃ M', fL_law_276 F Ls xs kx v5 M = kx M' ∧ Rel M' := by
  obtain ⟨r, M1, v, M2, a1, a2, a3, a4, a5⟩ := ok_addShelf (F := F) hF hR (xs (v5 + 1).toNatClampNeg)
  refine ⟨M2, ?_, a5⟩
  unfold fL_law_276
  simp only [h1, ck]
  rw [a1]
  simp only [bM]
  rw [a2]
  simp only [bM, fX12_thrown]
  rw [if_pos a3]
  by_cases w : r = 0
  · rw [if_pos w, a4 w, lcm_self, if_pos rfl]
  · rw [if_neg w]
theorem lw_332 (hF : 1500 ≤ F) (hR : Rel M) (h1 : inb (v5 + 1) Ls = true) (h2 : inb (v5 + 2) Ls = true) : ∃ M', fL_law_332 F Ls xs kx v5 M = kx M' ∧ Rel M' := by
  obtain ⟨r, M1, v, M2, a1, a2, a3, a4, a5⟩ := ok_link (F := F) hF hR (xs (v5 + 1).toNatClampNeg) (xs (v5 + 2).toNatClampNeg)
  refine ⟨M2, ?_, a5⟩
  unfold fL_law_332
  simp only [h1, h2, ck]
  rw [a1]
  simp only [bM]
  rw [a2]
  simp only [bM, fX12_thrown]
  rw [if_pos a3]
  by_cases w : r = 0
  · rw [if_pos w, a4 w, lcm_self, if_pos rfl]
  · rw [if_neg w]
theorem lw_400 (hF : 1500 ≤ F) (hR : Rel M) (h1 : inb (v5 + 1) Ls = true) (h2 : inb (v5 + 2) Ls = true) : ∃ M', fL_law_400 F Ls xs kx v5 M = kx M' ∧ Rel M' := by
  obtain ⟨r, M1, v, M2, a1, a2, a3, a4, a5⟩ := ok_unlink (F := F) hF hR (xs (v5 + 1).toNatClampNeg) (xs (v5 + 2).toNatClampNeg)
  refine ⟨M2, ?_, a5⟩
  unfold fL_law_400
  simp only [h1, h2, ck]
  rw [a1]
  simp only [bM]
  rw [a2]
  simp only [bM, fX12_thrown]
  rw [if_pos a3]
  by_cases w : r = 0
  · rw [if_pos w, a4 w, lcm_self, if_pos rfl]
  · rw [if_neg w]
theorem lw_468 (hF : 1500 ≤ F) (hR : Rel M) (h1 : inb (v5 + 1) Ls = true) (h2 : inb (v5 + 2) Ls = true) : ∃ M', fL_law_468 F Ls xs kx v5 M = kx M' ∧ Rel M' := by
  unfold fL_law_468
  simp only [h1, h2, ck]
  by_cases hz : xs (v5 + 2).toNatClampNeg = 0
  · simp only [if_pos hz]
    obtain ⟨r, M1, v, M2, a1, a2, a3, a4, a5⟩ := ok_setBlind (F := F) hF hR (xs (v5 + 1).toNatClampNeg) false
    refine ⟨M2, ?_, a5⟩
    rw [a1]
    simp only [bM]
    rw [a2]
    simp only [bM, fX12_thrown]
    rw [if_pos a3]
    by_cases w : r = 0
    · rw [if_pos w, a4 w, lcm_self, if_pos rfl]
    · rw [if_neg w]
  · simp only [if_neg hz]
    obtain ⟨r, M1, v, M2, a1, a2, a3, a4, a5⟩ := ok_setBlind (F := F) hF hR (xs (v5 + 1).toNatClampNeg) true
    refine ⟨M2, ?_, a5⟩
    rw [a1]
    simp only [bM]
    rw [a2]
    simp only [bM, fX12_thrown]
    rw [if_pos a3]
    by_cases w : r = 0
    · rw [if_pos w, a4 w, lcm_self, if_pos rfl]
    · rw [if_neg w]
theorem lw_552 (hF : 1500 ≤ F) (hR : Rel M) (h1 : inb (v5 + 1) Ls = true) (h2 : inb (v5 + 2) Ls = true) : ∃ M', fL_law_552 F Ls xs kx v5 M = kx M' ∧ Rel M' := by
  obtain ⟨r, M1, v, M2, a1, a2, a3, a4, a5⟩ := ok_fill (F := F) hF hR (xs (v5 + 1).toNatClampNeg) (xs (v5 + 2).toNatClampNeg)
  refine ⟨M2, ?_, a5⟩
  unfold fL_law_552
  simp only [h1, h2, ck]
  rw [a1]
  simp only [bM]
  rw [a2]
  simp only [bM, fX12_thrown]
  rw [if_pos a3]
  by_cases w : r = 0
  · rw [if_pos w, a4 w, lcm_self, if_pos rfl]
  · rw [if_neg w]
theorem lw_620 (hF : 1500 ≤ F) (hR : Rel M) (h1 : inb (v5 + 1) Ls = true) (h2 : inb (v5 + 2) Ls = true) : ∃ M', fL_law_620 F Ls xs kx v5 M = kx M' ∧ Rel M' := by
  obtain ⟨r, M1, M2, a1, a2, a3⟩ := ok_shelfCount (F := F) hR
  refine ⟨M2, ?_, a3⟩
  unfold fL_law_620
  rw [a1]
  simp only [bM]
  rw [a2]
  simp only [bM]
  rw [if_pos trivial]
theorem lw_633 (hF : 1500 ≤ F) (hR : Rel M) (h1 : inb (v5 + 1) Ls = true) (h2 : inb (v5 + 2) Ls = true) : ∃ M', fL_law_633 F Ls xs kx v5 M = kx M' ∧ Rel M' := by
  obtain ⟨r, M1, M2, a1, a2, a3⟩ := ok_passageCount (F := F) hR
  refine ⟨M2, ?_, a3⟩
  unfold fL_law_633
  rw [a1]
  simp only [bM]
  rw [a2]
  simp only [bM]
  rw [if_pos trivial]
theorem lw_646 (hF : 1500 ≤ F) (hR : Rel M) (h1 : inb (v5 + 1) Ls = true) (h2 : inb (v5 + 2) Ls = true) : ∃ M', fL_law_646 F Ls xs kx v5 M = kx M' ∧ Rel M' := by
  obtain ⟨r, M1, v, M2, a1, a2, a3, a4, a5⟩ := ok_cheese (F := F) hR (xs (v5 + 1).toNatClampNeg)
  refine ⟨M2, ?_, a5⟩
  unfold fL_law_646
  simp only [h1, ck]
  rw [a1]
  simp only [bM]
  rw [a2]
  simp only [bM, fX12_thrown]
  rw [if_pos a3]
  by_cases w : r = 0
  · rw [if_pos w, a4 w, lcm_self, if_pos rfl]
  · rw [if_neg w]
theorem lw_702 (hF : 1500 ≤ F) (hR : Rel M) (h1 : inb (v5 + 1) Ls = true) (h2 : inb (v5 + 2) Ls = true) : ∃ M', fL_law_702 F Ls xs kx v5 M = kx M' ∧ Rel M' := by
  obtain ⟨r, M1, v, M2, a1, a2, a3, a4, a5⟩ := ok_isBlind (F := F) hR (xs (v5 + 1).toNatClampNeg)
  refine ⟨M2, ?_, a5⟩
  unfold fL_law_702
  simp only [h1, ck]
  rw [a1]
  simp only [bM]
  have a2' : bindM (fX12_isBlind F (xs (v5 + 1).toNatClampNeg) M1) (fun r M => some (b2i r, M)) = some (v, M2) := a2
  cases e : fX12_isBlind F (xs (v5 + 1).toNatClampNeg) M1 with
  | none => rw [e] at a2'; exact absurd a2' (by simp [bindM])
  | some x =>
    obtain ⟨q, M3⟩ := x
    rw [e] at a2'
    simp only [bM] at a2' ⊢
    have e2 := Prod.mk.inj (Option.some.inj a2')
    rw [← e2.2] at a3 a4 ⊢
    simp only [bM, fX12_thrown]
    rw [if_pos a3]
    by_cases w : r = 0
    · rw [if_pos w]
      have z := a4 w
      rw [← e2.1] at z
      cases q with
      | true =>
        rw [if_pos rfl, z, show b2i true = 1 from rfl, lcm_self, if_pos rfl]
      | false =>
        rw [if_neg (by decide), z, show b2i false = 0 from rfl, lcm_self, if_pos rfl]
    · rw [if_neg w]
theorem lw_765 (hF : 1500 ≤ F) (hR : Rel M) (h1 : inb (v5 + 1) Ls = true) (h2 : inb (v5 + 2) Ls = true) : ∃ M', fL_law_765 F Ls xs kx v5 M = kx M' ∧ Rel M' := by
  obtain ⟨r, M1, v, M2, a1, a2, a3, a4, a5⟩ := ok_neighbourCount (F := F) hF hR (xs (v5 + 1).toNatClampNeg)
  refine ⟨M2, ?_, a5⟩
  unfold fL_law_765
  simp only [h1, ck]
  rw [a1]
  simp only [bM]
  rw [a2]
  simp only [bM, fX12_thrown]
  rw [if_pos a3]
  by_cases w : r = 0
  · rw [if_pos w, a4 w, lcm_self, if_pos rfl]
  · rw [if_neg w]
theorem lw_821 (hF : 1500 ≤ F) (hR : Rel M) (h1 : inb (v5 + 1) Ls = true) (h2 : inb (v5 + 2) Ls = true) : ∃ M', fL_law_821 F Ls xs kx v5 M = kx M' ∧ Rel M' := by
  obtain ⟨r, M1, v, M2, a1, a2, a3, a4, a5⟩ := ok_distance (F := F) hF hR (xs (v5 + 1).toNatClampNeg) (xs (v5 + 2).toNatClampNeg)
  refine ⟨M2, ?_, a5⟩
  unfold fL_law_821
  simp only [h1, h2, ck]
  rw [a1]
  simp only [bM]
  rw [a2]
  simp only [bM, fX12_thrown]
  rw [if_pos a3]
  by_cases w : r = 0
  · rw [if_pos w, a4 w, lcm_self, if_pos rfl]
  · rw [if_neg w]
theorem lw_889 (hF : 1500 ≤ F) (hR : Rel M) (h1 : inb (v5 + 1) Ls = true) (h2 : inb (v5 + 2) Ls = true) : ∃ M', fL_law_889 F Ls xs kx v5 M = kx M' ∧ Rel M' := by
  obtain ⟨r, M1, v, M2, a1, a2, a3, a4, a5⟩ := ok_distanceByTable (F := F) hF hR (xs (v5 + 1).toNatClampNeg) (xs (v5 + 2).toNatClampNeg)
  refine ⟨M2, ?_, a5⟩
  unfold fL_law_889
  simp only [h1, h2, ck]
  rw [a1]
  simp only [bM]
  rw [a2]
  simp only [bM, fX12_thrown]
  rw [if_pos a3]
  by_cases w : r = 0
  · rw [if_pos w, a4 w, lcm_self, if_pos rfl]
  · rw [if_neg w]
theorem lw_957 (hF : 1500 ≤ F) (hR : Rel M) (h1 : inb (v5 + 1) Ls = true) (h2 : inb (v5 + 2) Ls = true) : ∃ M', fL_law_957 F Ls xs kx v5 M = kx M' ∧ Rel M' := by
  obtain ⟨r, M1, M2, a1, a2, a3⟩ := ok_groupCount (F := F) hF hR
  refine ⟨M2, ?_, a3⟩
  unfold fL_law_957
  rw [a1]
  simp only [bM]
  rw [a2]
  simp only [bM]
  rw [if_pos trivial]
theorem lw_970 (hF : 1500 ≤ F) (hR : Rel M) (h1 : inb (v5 + 1) Ls = true) (h2 : inb (v5 + 2) Ls = true) : ∃ M', fL_law_970 F Ls xs kx v5 M = kx M' ∧ Rel M' := by
  obtain ⟨r, M1, v, M2, a1, a2, a3, a4, a5⟩ := ok_shelfByCheese (F := F) hF hR (xs (v5 + 1).toNatClampNeg)
  refine ⟨M2, ?_, a5⟩
  unfold fL_law_970
  simp only [h1, ck]
  rw [a1]
  simp only [bM]
  rw [a2]
  simp only [bM, fX12_thrown]
  rw [if_pos a3]
  by_cases w : r = 0
  · rw [if_pos w, a4 w, lcm_self, if_pos rfl]
  · rw [if_neg w]
theorem lw_1026 (hF : 1500 ≤ F) (hR : Rel M) (h1 : inb (v5 + 1) Ls = true) (h2 : inb (v5 + 2) Ls = true) : ∃ M', fL_law_1026 F Ls xs kx v5 M = kx M' ∧ Rel M' := by
  obtain ⟨r, M1, v, M2, a1, a2, a3, a4, a5⟩ := ok_addStop (F := F) hF hR (xs (v5 + 1).toNatClampNeg)
  refine ⟨M2, ?_, a5⟩
  unfold fL_law_1026
  simp only [h1, ck]
  rw [a1]
  simp only [bM]
  rw [a2]
  simp only [bM, fX12_thrown]
  rw [if_pos a3]
  by_cases w : r = 0
  · rw [if_pos w, a4 w, lcm_self, if_pos rfl]
  · rw [if_neg w]
theorem lw_1082 (hF : 1500 ≤ F) (hR : Rel M) (h1 : inb (v5 + 1) Ls = true) (h2 : inb (v5 + 2) Ls = true) : ∃ M', fL_law_1082 F Ls xs kx v5 M = kx M' ∧ Rel M' := by
  obtain ⟨r, M1, v, M2, a1, a2, a3, a4, a5⟩ := ok_removeStop (F := F) hF hR (xs (v5 + 1).toNatClampNeg)
  refine ⟨M2, ?_, a5⟩
  unfold fL_law_1082
  simp only [h1, ck]
  rw [a1]
  simp only [bM]
  rw [a2]
  simp only [bM, fX12_thrown]
  rw [if_pos a3]
  by_cases w : r = 0
  · rw [if_pos w, a4 w, lcm_self, if_pos rfl]
  · rw [if_neg w]
theorem lw_1138 (hF : 1500 ≤ F) (hR : Rel M) (h1 : inb (v5 + 1) Ls = true) (h2 : inb (v5 + 2) Ls = true) : ∃ M', fL_law_1138 F Ls xs kx v5 M = kx M' ∧ Rel M' := by
  obtain ⟨r, M1, M2, a1, a2, a3⟩ := ok_stopCount (F := F) hR
  refine ⟨M2, ?_, a3⟩
  unfold fL_law_1138
  rw [a1]
  simp only [bM]
  rw [a2]
  simp only [bM]
  rw [if_pos trivial]
theorem lw_1151 (hF : 1500 ≤ F) (hR : Rel M) (h1 : inb (v5 + 1) Ls = true) (h2 : inb (v5 + 2) Ls = true) : ∃ M', fL_law_1151 F Ls xs kx v5 M = kx M' ∧ Rel M' := by
  obtain ⟨r, M1, v, M2, a1, a2, a3, a4, a5⟩ := ok_shelfOfStop (F := F) hR (xs (v5 + 1).toNatClampNeg)
  refine ⟨M2, ?_, a5⟩
  unfold fL_law_1151
  simp only [h1, ck]
  rw [a1]
  simp only [bM]
  rw [a2]
  simp only [bM, fX12_thrown]
  rw [if_pos a3]
  by_cases w : r = 0
  · rw [if_pos w, a4 w, lcm_self, if_pos rfl]
  · rw [if_neg w]
theorem lw_1207 (hF : 1500 ≤ F) (hR : Rel M) (h1 : inb (v5 + 1) Ls = true) (h2 : inb (v5 + 2) Ls = true) : ∃ M', fL_law_1207 F Ls xs kx v5 M = kx M' ∧ Rel M' := by
  obtain ⟨r, M1, v, M2, a1, a2, a3, a4, a5⟩ := ok_catShelf (F := F) hR
  refine ⟨M2, ?_, a5⟩
  unfold fL_law_1207
  rw [a1]
  simp only [bM]
  rw [a2]
  simp only [bM, fX12_thrown]
  rw [if_pos a3]
  by_cases w : r = 0
  · rw [if_pos w, a4 w, lcm_self, if_pos rfl]
  · rw [if_neg w]
theorem lw_1251 (hF : 1500 ≤ F) (hR : Rel M) (h1 : inb (v5 + 1) Ls = true) (h2 : inb (v5 + 2) Ls = true) : ∃ M', fL_law_1251 F Ls xs kx v5 M = kx M' ∧ Rel M' := by
  obtain ⟨r, M1, v, M2, a1, a2, a3, a4, a5⟩ := ok_goal (F := F) hR
  refine ⟨M2, ?_, a5⟩
  unfold fL_law_1251
  rw [a1]
  simp only [bM]
  rw [a2]
  simp only [bM, fX12_thrown]
  rw [if_pos a3]
  by_cases w : r = 0
  · rw [if_pos w, a4 w, lcm_self, if_pos rfl]
  · rw [if_neg w]
theorem lw_1295 (hF : 1500 ≤ F) (hR : Rel M) (h1 : inb (v5 + 1) Ls = true) (h2 : inb (v5 + 2) Ls = true) : ∃ M', fL_law_1295 F Ls xs kx v5 M = kx M' ∧ Rel M' := by
  obtain ⟨r, M1, v, M2, a1, a2, a3, a4, a5⟩ := ok_nextShelf (F := F) hF hR
  refine ⟨M2, ?_, a5⟩
  unfold fL_law_1295
  rw [a1]
  simp only [bM]
  rw [a2]
  simp only [bM, fX12_thrown]
  rw [if_pos a3]
  by_cases w : r = 0
  · rw [if_pos w, a4 w, lcm_self, if_pos rfl]
  · rw [if_neg w]
theorem lw_1339 (hF : 1500 ≤ F) (hR : Rel M) (h1 : inb (v5 + 1) Ls = true) (h2 : inb (v5 + 2) Ls = true) : ∃ M', fL_law_1339 F Ls xs kx v5 M = kx M' ∧ Rel M' := by
  obtain ⟨r, M1, v, M2, a1, a2, a3, a4, a5⟩ := ok_lapLength (F := F) hF hR
  refine ⟨M2, ?_, a5⟩
  unfold fL_law_1339
  rw [a1]
  simp only [bM]
  rw [a2]
  simp only [bM, fX12_thrown]
  rw [if_pos a3]
  by_cases w : r = 0
  · rw [if_pos w, a4 w, lcm_self, if_pos rfl]
  · rw [if_neg w]
theorem lw_1383 (hF : 1500 ≤ F) (hR : Rel M) (h1 : inb (v5 + 1) Ls = true) (h2 : inb (v5 + 2) Ls = true) : ∃ M', fL_law_1383 F Ls xs kx v5 M = kx M' ∧ Rel M' := by
  obtain ⟨r, M1, v, M2, a1, a2, a3, a4, a5⟩ := ok_pass (F := F) hF hR (xs (v5 + 1).toNatClampNeg)
  refine ⟨M2, ?_, a5⟩
  unfold fL_law_1383
  simp only [h1, ck]
  rw [a1]
  simp only [bM]
  rw [a2]
  simp only [bM, fX12_thrown]
  rw [if_pos a3]
  by_cases w : r = 0
  · rw [if_pos w, a4 w, lcm_self, if_pos rfl]
  · rw [if_neg w]
theorem lw_1439 (hF : 1500 ≤ F) (hR : Rel M) (h1 : inb (v5 + 1) Ls = true) (h2 : inb (v5 + 2) Ls = true) : ∃ M', fL_law_1439 F Ls xs kx v5 M = kx M' ∧ Rel M' := by
  obtain ⟨r, M1, v, M2, a1, a2, a3, a4, a5⟩ := ok_predictCaught (F := F) hF hR (xs (v5 + 1).toNatClampNeg)
  refine ⟨M2, ?_, a5⟩
  unfold fL_law_1439
  simp only [h1, ck]
  rw [a1]
  simp only [bM]
  rw [a2]
  simp only [bM, fX12_thrown]
  rw [if_pos a3]
  by_cases w : r = 0
  · rw [if_pos w, a4 w, lcm_self, if_pos rfl]
  · rw [if_neg w]
theorem lw_1495 (hF : 1500 ≤ F) (hR : Rel M) (h1 : inb (v5 + 1) Ls = true) (h2 : inb (v5 + 2) Ls = true) : ∃ M', fL_law_1495 F Ls xs kx v5 M = kx M' ∧ Rel M' := by
  obtain ⟨r, M1, v, M2, a1, a2, a3, a4, a5⟩ := ok_setRate (F := F) hF hR (xs (v5 + 1).toNatClampNeg)
  refine ⟨M2, ?_, a5⟩
  unfold fL_law_1495
  simp only [h1, ck]
  rw [a1]
  simp only [bM]
  rw [a2]
  simp only [bM, fX12_thrown]
  rw [if_pos a3]
  by_cases w : r = 0
  · rw [if_pos w, a4 w, lcm_self, if_pos rfl]
  · rw [if_neg w]
theorem lw_1551 (hF : 1500 ≤ F) (hR : Rel M) (h1 : inb (v5 + 1) Ls = true) (h2 : inb (v5 + 2) Ls = true) : ∃ M', fL_law_1551 F Ls xs kx v5 M = kx M' ∧ Rel M' := by
  obtain ⟨r, M1, v, M2, a1, a2, a3, a4, a5⟩ := ok_setSeed (F := F) hF hR (xs (v5 + 1).toNatClampNeg)
  refine ⟨M2, ?_, a5⟩
  unfold fL_law_1551
  simp only [h1, ck]
  rw [a1]
  simp only [bM]
  rw [a2]
  simp only [bM, fX12_thrown]
  rw [if_pos a3]
  by_cases w : r = 0
  · rw [if_pos w, a4 w, lcm_self, if_pos rfl]
  · rw [if_neg w]
theorem lw_1607 (hF : 1500 ≤ F) (hR : Rel M) (h1 : inb (v5 + 1) Ls = true) (h2 : inb (v5 + 2) Ls = true) : ∃ M', fL_law_1607 F Ls xs kx v5 M = kx M' ∧ Rel M' := by
  obtain ⟨r, M1, M2, a1, a2, a3⟩ := ok_seed (F := F) hR
  refine ⟨M2, ?_, a3⟩
  unfold fL_law_1607
  rw [a1]
  simp only [bM]
  rw [a2]
  simp only [bM]
  rw [if_pos trivial]
theorem lw_1620 (hF : 1500 ≤ F) (hR : Rel M) (h1 : inb (v5 + 1) Ls = true) (h2 : inb (v5 + 2) Ls = true) : ∃ M', fL_law_1620 F Ls xs kx v5 M = kx M' ∧ Rel M' := by
  obtain ⟨r, M1, M2, a1, a2, a3⟩ := ok_minute (F := F) hR
  refine ⟨M2, ?_, a3⟩
  unfold fL_law_1620
  rw [a1]
  simp only [bM]
  rw [a2]
  simp only [bM]
  rw [if_pos trivial]
theorem lw_1633 (hF : 1500 ≤ F) (hR : Rel M) (h1 : inb (v5 + 1) Ls = true) (h2 : inb (v5 + 2) Ls = true) : ∃ M', fL_law_1633 F Ls xs kx v5 M = kx M' ∧ Rel M' := by
  obtain ⟨r, M1, M2, a1, a2, a3⟩ := ok_mouseCount (F := F) hR
  refine ⟨M2, ?_, a3⟩
  unfold fL_law_1633
  rw [a1]
  simp only [bM]
  rw [a2]
  simp only [bM]
  rw [if_pos trivial]
theorem lw_1646 (hF : 1500 ≤ F) (hR : Rel M) (h1 : inb (v5 + 1) Ls = true) (h2 : inb (v5 + 2) Ls = true) : ∃ M', fL_law_1646 F Ls xs kx v5 M = kx M' ∧ Rel M' := by
  obtain ⟨r, M1, v, M2, a1, a2, a3, a4, a5⟩ := ok_mouseShelf (F := F) hR (xs (v5 + 1).toNatClampNeg)
  refine ⟨M2, ?_, a5⟩
  unfold fL_law_1646
  simp only [h1, ck]
  rw [a1]
  simp only [bM]
  rw [a2]
  simp only [bM, fX12_thrown]
  rw [if_pos a3]
  by_cases w : r = 0
  · rw [if_pos w, a4 w, lcm_self, if_pos rfl]
  · rw [if_neg w]
theorem lw_1702 (hF : 1500 ≤ F) (hR : Rel M) (h1 : inb (v5 + 1) Ls = true) (h2 : inb (v5 + 2) Ls = true) : ∃ M', fL_law_1702 F Ls xs kx v5 M = kx M' ∧ Rel M' := by
  obtain ⟨r, M1, v, M2, a1, a2, a3, a4, a5⟩ := ok_mouseEaten (F := F) hR (xs (v5 + 1).toNatClampNeg)
  refine ⟨M2, ?_, a5⟩
  unfold fL_law_1702
  simp only [h1, ck]
  rw [a1]
  simp only [bM]
  rw [a2]
  simp only [bM, fX12_thrown]
  rw [if_pos a3]
  by_cases w : r = 0
  · rw [if_pos w, a4 w, lcm_self, if_pos rfl]
  · rw [if_neg w]
theorem lw_1758 (hF : 1500 ≤ F) (hR : Rel M) (h1 : inb (v5 + 1) Ls = true) (h2 : inb (v5 + 2) Ls = true) : ∃ M', fL_law_1758 F Ls xs kx v5 M = kx M' ∧ Rel M' := by
  obtain ⟨r, M1, v, M2, a1, a2, a3, a4, a5⟩ := ok_mouseHunger (F := F) hR (xs (v5 + 1).toNatClampNeg)
  refine ⟨M2, ?_, a5⟩
  unfold fL_law_1758
  simp only [h1, ck]
  rw [a1]
  simp only [bM]
  rw [a2]
  simp only [bM, fX12_thrown]
  rw [if_pos a3]
  by_cases w : r = 0
  · rw [if_pos w, a4 w, lcm_self, if_pos rfl]
  · rw [if_neg w]
theorem lw_1814 (hF : 1500 ≤ F) (hR : Rel M) (h1 : inb (v5 + 1) Ls = true) (h2 : inb (v5 + 2) Ls = true) : ∃ M', fL_law_1814 F Ls xs kx v5 M = kx M' ∧ Rel M' := by
  obtain ⟨r, M1, v, M2, a1, a2, a3, a4, a5⟩ := ok_miceOn (F := F) hF hR (xs (v5 + 1).toNatClampNeg)
  refine ⟨M2, ?_, a5⟩
  unfold fL_law_1814
  simp only [h1, ck]
  rw [a1]
  simp only [bM]
  rw [a2]
  simp only [bM, fX12_thrown]
  rw [if_pos a3]
  by_cases w : r = 0
  · rw [if_pos w, a4 w, lcm_self, if_pos rfl]
  · rw [if_neg w]
theorem lw_1870 (hF : 1500 ≤ F) (hR : Rel M) (h1 : inb (v5 + 1) Ls = true) (h2 : inb (v5 + 2) Ls = true) : ∃ M', fL_law_1870 F Ls xs kx v5 M = kx M' ∧ Rel M' := by
  obtain ⟨r, M1, M2, a1, a2, a3⟩ := ok_totalCheese (F := F) hF hR
  refine ⟨M2, ?_, a3⟩
  unfold fL_law_1870
  rw [a1]
  simp only [bM]
  rw [a2]
  simp only [bM]
  rw [if_pos trivial]
theorem lw_1883 (hF : 1500 ≤ F) (hR : Rel M) (h1 : inb (v5 + 1) Ls = true) (h2 : inb (v5 + 2) Ls = true) : ∃ M', fL_law_1883 F Ls xs kx v5 M = kx M' ∧ Rel M' := by
  obtain ⟨r, M1, M2, a1, a2, a3⟩ := ok_totalCheeseByAccounts (F := F) hR
  refine ⟨M2, ?_, a3⟩
  unfold fL_law_1883
  rw [a1]
  simp only [bM]
  rw [a2]
  simp only [bM]
  rw [if_pos trivial]
theorem lw_1896 (hF : 1500 ≤ F) (hR : Rel M) (h1 : inb (v5 + 1) Ls = true) (h2 : inb (v5 + 2) Ls = true) : ∃ M', fL_law_1896 F Ls xs kx v5 M = kx M' ∧ Rel M' := by
  obtain ⟨r, M1, M2, a1, a2, a3⟩ := ok_eaten (F := F) hR
  refine ⟨M2, ?_, a3⟩
  unfold fL_law_1896
  rw [a1]
  simp only [bM]
  rw [a2]
  simp only [bM]
  rw [if_pos trivial]
theorem lw_1909 (hF : 1500 ≤ F) (hR : Rel M) (h1 : inb (v5 + 1) Ls = true) (h2 : inb (v5 + 2) Ls = true) : ∃ M', fL_law_1909 F Ls xs kx v5 M = kx M' ∧ Rel M' := by
  obtain ⟨r, M1, M2, a1, a2, a3⟩ := ok_caught (F := F) hR
  refine ⟨M2, ?_, a3⟩
  unfold fL_law_1909
  rw [a1]
  simp only [bM]
  rw [a2]
  simp only [bM]
  rw [if_pos trivial]
theorem lw_1922 (hF : 1500 ≤ F) (hR : Rel M) (h1 : inb (v5 + 1) Ls = true) (h2 : inb (v5 + 2) Ls = true) : ∃ M', fL_law_1922 F Ls xs kx v5 M = kx M' ∧ Rel M' := by
  obtain ⟨r, M1, M2, a1, a2, a3⟩ := ok_gone (F := F) hR
  refine ⟨M2, ?_, a3⟩
  unfold fL_law_1922
  rw [a1]
  simp only [bM]
  rw [a2]
  simp only [bM]
  rw [if_pos trivial]
theorem lw_1935 (hF : 1500 ≤ F) (hR : Rel M) (h1 : inb (v5 + 1) Ls = true) (h2 : inb (v5 + 2) Ls = true) : ∃ M', fL_law_1935 F Ls xs kx v5 M = kx M' ∧ Rel M' := by
  obtain ⟨r, M1, M2, a1, a2, a3⟩ := ok_rinds (F := F) hR
  refine ⟨M2, ?_, a3⟩
  unfold fL_law_1935
  rw [a1]
  simp only [bM]
  rw [a2]
  simp only [bM]
  rw [if_pos trivial]
theorem lw_1948 (hF : 1500 ≤ F) (hR : Rel M) (h1 : inb (v5 + 1) Ls = true) (h2 : inb (v5 + 2) Ls = true) : ∃ M', fL_law_1948 F Ls xs kx v5 M = kx M' ∧ Rel M' := by
  obtain ⟨r, M1, v, M2, a1, a2, a3, a4, a5⟩ := ok_mean (F := F) hF hR
  refine ⟨M2, ?_, a5⟩
  unfold fL_law_1948
  rw [a1]
  simp only [bM]
  rw [a2]
  simp only [bM, fX12_thrown]
  rw [if_pos a3]
  by_cases w : r = 0
  · have z := a4 w
    rw [if_pos w, z.1, z.2, if_pos rfl]
  · rw [if_neg w]
theorem lw_2013 (hF : 1500 ≤ F) (hR : Rel M) (h1 : inb (v5 + 1) Ls = true) (h2 : inb (v5 + 2) Ls = true) : ∃ M', fL_law_2013 F Ls xs kx v5 M = kx M' ∧ Rel M' := by
  obtain ⟨r, M1, v, M2, a1, a2, a3, a4, a5⟩ := ok_share (F := F) hR
  refine ⟨M2, ?_, a5⟩
  unfold fL_law_2013
  rw [a1]
  simp only [bM]
  rw [a2]
  simp only [bM, fX12_thrown]
  rw [if_pos a3]
  by_cases w : r = 0
  · have z := a4 w
    rw [if_pos w, ckb _ z.1, z.2.1, z.2.2, if_pos rfl]
  · rw [if_neg w]
theorem lw_2079 (hF : 1500 ≤ F) (hR : Rel M) (h1 : inb (v5 + 1) Ls = true) (h2 : inb (v5 + 2) Ls = true) : ∃ M', fL_law_2079 F Ls xs kx v5 M = kx M' ∧ Rel M' := by
  obtain ⟨r, M1, v, M2, a1, a2, a3, a4, a5⟩ := ok_feed (F := F) hR (i2c (xs (v5 + 1).toNatClampNeg))
  refine ⟨M2, ?_, a5⟩
  unfold fL_law_2079
  simp only [h1, ck]
  rw [a1]
  simp only [bM]
  rw [a2]
  simp only [bM, fX12_thrown]
  rw [if_pos a3]
  by_cases w : r = 0
  · rw [if_pos w, a4 w, lcm_self, if_pos rfl]
  · rw [if_neg w]
theorem lw_2137 (hF : 1500 ≤ F) (hR : Rel M) (h1 : inb (v5 + 1) Ls = true) (h2 : inb (v5 + 2) Ls = true) : ∃ M', fL_law_2137 F Ls xs kx v5 M = kx M' ∧ Rel M' := by
  obtain ⟨r, M1, v, M2, a1, a2, a3, a4, a5⟩ := ok_execute (F := F) hF hR
  refine ⟨M2, ?_, a5⟩
  unfold fL_law_2137
  rw [a1]
  simp only [bM]
  rw [a2]
  simp only [bM, fX12_thrown]
  rw [if_pos a3]
  by_cases w : r = 0
  · rw [if_pos w, a4 w, lcm_self, if_pos rfl]
  · rw [if_neg w]
theorem lw_2181 (hF : 1500 ≤ F) (hR : Rel M) (h1 : inb (v5 + 1) Ls = true) (h2 : inb (v5 + 2) Ls = true) : ∃ M', fL_law_2181 F Ls xs kx v5 M = kx M' ∧ Rel M' := by
  obtain ⟨r, M1, v, M2, a1, a2, a3, a4, a5⟩ := ok_faultPosition (F := F) hR
  refine ⟨M2, ?_, a5⟩
  unfold fL_law_2181
  rw [a1]
  simp only [bM]
  rw [a2]
  simp only [bM, fX12_thrown]
  rw [if_pos a3]
  by_cases w : r = 0
  · rw [if_pos w, a4 w, lcm_self, if_pos rfl]
  · rw [if_neg w]
theorem lw_2225 (hF : 1500 ≤ F) (hR : Rel M) (h1 : inb (v5 + 1) Ls = true) (h2 : inb (v5 + 2) Ls = true) : ∃ M', fL_law_2225 F Ls xs kx v5 M = kx M' ∧ Rel M' := by
  obtain ⟨r, M1, v, M2, a1, a2, a3, a4, a5⟩ := ok_writeShelf (F := F) hF hR (xs (v5 + 1).toNatClampNeg)
  refine ⟨M2, ?_, a5⟩
  unfold fL_law_2225
  simp only [h1, ck]
  rw [a1]
  simp only [bM]
  rw [a2]
  simp only [bM, fX12_thrown]
  rw [if_pos a3]
  by_cases w : r = 0
  · rw [if_pos w, a4 w, lcm_self, if_pos rfl]
  · rw [if_neg w]
theorem lw_2281 (hF : 1500 ≤ F) (hR : Rel M) (h1 : inb (v5 + 1) Ls = true) (h2 : inb (v5 + 2) Ls = true) : ∃ M', fL_law_2281 F Ls xs kx v5 M = kx M' ∧ Rel M' := by
  obtain ⟨r, M1, M2, a1, a2, a3⟩ := ok_writePatrol (F := F) hF hR
  refine ⟨M2, ?_, a3⟩
  unfold fL_law_2281
  rw [a1]
  simp only [bM]
  rw [a2]
  simp only [bM]
  rw [if_pos trivial]
theorem lw_2294 (hF : 1500 ≤ F) (hR : Rel M) (h1 : inb (v5 + 1) Ls = true) (h2 : inb (v5 + 2) Ls = true) : ∃ M', fL_law_2294 F Ls xs kx v5 M = kx M' ∧ Rel M' := by
  obtain ⟨r, M1, v, M2, a1, a2, a3, a4, a5⟩ := ok_lineCharacter (F := F) hR (xs (v5 + 1).toNatClampNeg)
  refine ⟨M2, ?_, a5⟩
  unfold fL_law_2294
  simp only [h1, ck]
  rw [a1]
  simp only [bM]
  rw [a2]
  simp only [bM, fX12_thrown]
  rw [if_pos a3]
  by_cases w : r = 0
  · rw [if_pos w, a4 w, lcm_self, if_pos rfl]
  · rw [if_neg w]
theorem lw_2350 (hF : 1500 ≤ F) (hR : Rel M) (h1 : inb (v5 + 1) Ls = true) (h2 : inb (v5 + 2) Ls = true) : ∃ M', fL_law_2350 F Ls xs kx v5 M = kx M' ∧ Rel M' := by
  obtain ⟨r, M1, v, M2, a1, a2, a3, a4, a5⟩ := (ok_denial (F := F) hR).1
  refine ⟨M2, ?_, a5⟩
  unfold fL_law_2350
  rw [a1]
  simp only [bM]
  rw [a2]
  simp only [bM, fX12_thrown]
  rw [if_pos a3]
  by_cases w : r = 0
  · rw [if_pos w, a4 w, lcm_self, if_pos rfl]
  · rw [if_neg w]
theorem lw_2394 (hF : 1500 ≤ F) (hR : Rel M) (h1 : inb (v5 + 1) Ls = true) (h2 : inb (v5 + 2) Ls = true) : ∃ M', fL_law_2394 F Ls xs kx v5 M = kx M' ∧ Rel M' := by
  obtain ⟨r, M1, v, M2, a1, a2, a3, a4, a5⟩ := (ok_denial (F := F) hR).2
  refine ⟨M2, ?_, a5⟩
  unfold fL_law_2394
  rw [a1]
  simp only [bM]
  rw [a2]
  simp only [bM, fX12_thrown]
  rw [if_pos a3]
  by_cases w : r = 0
  · rw [if_pos w, a4 w, lcm_self, if_pos rfl]
  · rw [if_neg w]
theorem lw_2438 (hF : 1500 ≤ F) (hR : Rel M) (h1 : inb (v5 + 1) Ls = true) (h2 : inb (v5 + 2) Ls = true) : ∃ M', fL_law_2438 F Ls xs kx v5 M = kx M' ∧ Rel M' := by
  obtain ⟨r, M1, v, M2, a1, a2, a3, a4, a5⟩ := ok_denialCause (F := F) hR
  refine ⟨M2, ?_, a5⟩
  unfold fL_law_2438
  rw [a1]
  simp only [bM]
  rw [a2]
  simp only [bM, fX12_thrown]
  rw [if_pos a3]
  by_cases w : r = 0
  · rw [if_pos w, a4 w, lcm_self, if_pos rfl]
  · rw [if_neg w]
theorem lw_2482 (hF : 1500 ≤ F) (hR : Rel M) (h1 : inb (v5 + 1) Ls = true) (h2 : inb (v5 + 2) Ls = true) : ∃ M', fL_law_2482 F Ls xs kx v5 M = kx M' ∧ Rel M' := by
  obtain ⟨r, M1, v, M2, a1, a2, a3, a4, a5⟩ := ok_undo (F := F) hF hR
  refine ⟨M2, ?_, a5⟩
  unfold fL_law_2482
  rw [a1]
  simp only [bM]
  rw [a2]
  simp only [bM, fX12_thrown]
  rw [if_pos a3]
  by_cases w : r = 0
  · rw [if_pos w, a4 w, lcm_self, if_pos rfl]
  · rw [if_neg w]
theorem lw_2526 (hF : 1500 ≤ F) (hR : Rel M) (h1 : inb (v5 + 1) Ls = true) (h2 : inb (v5 + 2) Ls = true) : ∃ M', fL_law_2526 F Ls xs kx v5 M = kx M' ∧ Rel M' := by
  obtain ⟨r, M1, M2, a1, a2, a3⟩ := ok_undoCount (F := F) hR
  refine ⟨M2, ?_, a3⟩
  unfold fL_law_2526
  rw [a1]
  simp only [bM]
  rw [a2]
  simp only [bM]
  rw [if_pos trivial]
theorem lw_2539 (hF : 1500 ≤ F) (hR : Rel M) (h1 : inb (v5 + 1) Ls = true) (h2 : inb (v5 + 2) Ls = true) : ∃ M', fL_law_2539 F Ls xs kx v5 M = kx M' ∧ Rel M' := by
  obtain ⟨r, M1, M2, a1, a2, a3⟩ := ok_saveSnapshot (F := F) hF hR
  refine ⟨M2, ?_, a3⟩
  unfold fL_law_2539
  rw [a1]
  simp only [bM]
  rw [a2]
  simp only [bM]
  rw [if_pos trivial]
theorem lw_2552 (hF : 1500 ≤ F) (hR : Rel M) (h1 : inb (v5 + 1) Ls = true) (h2 : inb (v5 + 2) Ls = true) : ∃ M', fL_law_2552 F Ls xs kx v5 M = kx M' ∧ Rel M' := by
  obtain ⟨r, M1, v, M2, a1, a2, a3, a4, a5⟩ := ok_restoreSnapshot (F := F) hF hR
  refine ⟨M2, ?_, a5⟩
  unfold fL_law_2552
  rw [a1]
  simp only [bM]
  rw [a2]
  simp only [bM, fX12_thrown]
  rw [if_pos a3]
  by_cases w : r = 0
  · rw [if_pos w, a4 w, lcm_self, if_pos rfl]
  · rw [if_neg w]
theorem law_end {v : Nat} (hL : Ls ≤ 1536) (hv : v < 2 ^ 20) : (nI Ls - 3 < nI v) ↔ Ls < v + 3 := by
  by_cases h : 3 ≤ Ls
  · rw [show nI Ls - 3 = nI (Ls - 3) from nI_sub (b := 3) h, nI_ltI (by omega) (by omega)]
    omega
  · have e : nI Ls - 3 < -1 ∨ nI Ls - 3 = -1 := by
      match Ls, h with
      | 0, _ => decide
      | 1, _ => decide
      | 2, _ => decide
      | k + 3, h => exact absurd (by omega) h
    have g : -1 < nI v := m1_lt (by omega)
    refine ⟨fun _ => by omega, fun _ => ?_⟩
    rcases e with e | e
    · exact Int32.lt_trans e g
    · rw [e]; exact g
theorem iteF {α : Type} {c : Prop} [Decidable c] {x y r : α} (h1 : c → x = r) (h2 : ¬ c → y = r) : (if c then x else y) = r := by
  by_cases h : c
  · rw [if_pos h]; exact h1 h
  · rw [if_neg h]; exact h2 h
theorem law_all (hF : 1500 ≤ F) (hL : Ls ≤ 1536) (n : Nat) : ∀ (v : Nat) (M : Mem), v ≤ Ls + 2 → Ls + 3 ≤ v + 3 * n → Rel M → fL_law_loop F Ls xs n (nI v) M = some true := by
  induction n with
  | zero => intro v M h1 h2; omega
  | succ n ih =>
    intro v M hv hn hR
    unfold fL_law_loop
    by_cases w : Ls < v + 3
    · rw [if_pos ((law_end hL (by omega)).mpr w)]
    · rw [if_neg (fun z => w ((law_end hL (by omega)).mp z)), inbN (by omega), ckd _ (by omega)]
      have i1 : inb (nI v + 1) Ls = true := by rw [nI_1, inbN (by omega)]; exact decide_eq_true (by omega)
      have i2 : inb (nI v + 2) Ls = true := by rw [lit 2, nI_add, inbN (by omega)]; exact decide_eq_true (by omega)
      have nx : ∀ M2 : Mem, Rel M2 → letM (nI v + 3) (fun i2 => fL_law_loop F Ls xs n i2 M2) = some true := fun M2 h2 => by
        rw [lit 3, nI_add]
        exact ih (v + 3) M2 (by omega) (by omega) h2
      have fin : ∀ {t : Option Bool}, (∃ M', t = (fun M2 => letM (nI v + 3) (fun i2 => fL_law_loop F Ls xs n i2 M2)) M' ∧ Rel M') → t = some true := fun ⟨M', e, h⟩ => by rw [e]; exact nx M' h
      refine Eq.trans (lM _ _) ?_
      refine iteF (fun _ => fin (lw_276 hF hR i1 i2)) (fun _ => ?_)
      refine iteF (fun _ => fin (lw_332 hF hR i1 i2)) (fun _ => ?_)
      refine iteF (fun _ => fin (lw_400 hF hR i1 i2)) (fun _ => ?_)
      refine iteF (fun _ => fin (lw_468 hF hR i1 i2)) (fun _ => ?_)
      refine iteF (fun _ => fin (lw_552 hF hR i1 i2)) (fun _ => ?_)
      refine iteF (fun _ => fin (lw_620 hF hR i1 i2)) (fun _ => ?_)
      refine iteF (fun _ => fin (lw_633 hF hR i1 i2)) (fun _ => ?_)
      refine iteF (fun _ => fin (lw_646 hF hR i1 i2)) (fun _ => ?_)
      refine iteF (fun _ => fin (lw_702 hF hR i1 i2)) (fun _ => ?_)
      refine iteF (fun _ => fin (lw_765 hF hR i1 i2)) (fun _ => ?_)
      refine iteF (fun _ => fin (lw_821 hF hR i1 i2)) (fun _ => ?_)
      refine iteF (fun _ => fin (lw_889 hF hR i1 i2)) (fun _ => ?_)
      refine iteF (fun _ => fin (lw_957 hF hR i1 i2)) (fun _ => ?_)
      refine iteF (fun _ => fin (lw_970 hF hR i1 i2)) (fun _ => ?_)
      refine iteF (fun _ => fin (lw_1026 hF hR i1 i2)) (fun _ => ?_)
      refine iteF (fun _ => fin (lw_1082 hF hR i1 i2)) (fun _ => ?_)
      refine iteF (fun _ => fin (lw_1138 hF hR i1 i2)) (fun _ => ?_)
      refine iteF (fun _ => fin (lw_1151 hF hR i1 i2)) (fun _ => ?_)
      refine iteF (fun _ => fin (lw_1207 hF hR i1 i2)) (fun _ => ?_)
      refine iteF (fun _ => fin (lw_1251 hF hR i1 i2)) (fun _ => ?_)
      refine iteF (fun _ => fin (lw_1295 hF hR i1 i2)) (fun _ => ?_)
      refine iteF (fun _ => fin (lw_1339 hF hR i1 i2)) (fun _ => ?_)
      refine iteF (fun _ => fin (lw_1383 hF hR i1 i2)) (fun _ => ?_)
      refine iteF (fun _ => fin (lw_1439 hF hR i1 i2)) (fun _ => ?_)
      refine iteF (fun _ => fin (lw_1495 hF hR i1 i2)) (fun _ => ?_)
      refine iteF (fun _ => fin (lw_1551 hF hR i1 i2)) (fun _ => ?_)
      refine iteF (fun _ => fin (lw_1607 hF hR i1 i2)) (fun _ => ?_)
      refine iteF (fun _ => fin (lw_1620 hF hR i1 i2)) (fun _ => ?_)
      refine iteF (fun _ => fin (lw_1633 hF hR i1 i2)) (fun _ => ?_)
      refine iteF (fun _ => fin (lw_1646 hF hR i1 i2)) (fun _ => ?_)
      refine iteF (fun _ => fin (lw_1702 hF hR i1 i2)) (fun _ => ?_)
      refine iteF (fun _ => fin (lw_1758 hF hR i1 i2)) (fun _ => ?_)
      refine iteF (fun _ => fin (lw_1814 hF hR i1 i2)) (fun _ => ?_)
      refine iteF (fun _ => fin (lw_1870 hF hR i1 i2)) (fun _ => ?_)
      refine iteF (fun _ => fin (lw_1883 hF hR i1 i2)) (fun _ => ?_)
      refine iteF (fun _ => fin (lw_1896 hF hR i1 i2)) (fun _ => ?_)
      refine iteF (fun _ => fin (lw_1909 hF hR i1 i2)) (fun _ => ?_)
      refine iteF (fun _ => fin (lw_1922 hF hR i1 i2)) (fun _ => ?_)
      refine iteF (fun _ => fin (lw_1935 hF hR i1 i2)) (fun _ => ?_)
      refine iteF (fun _ => fin (lw_1948 hF hR i1 i2)) (fun _ => ?_)
      refine iteF (fun _ => fin (lw_2013 hF hR i1 i2)) (fun _ => ?_)
      refine iteF (fun _ => fin (lw_2079 hF hR i1 i2)) (fun _ => ?_)
      refine iteF (fun _ => fin (lw_2137 hF hR i1 i2)) (fun _ => ?_)
      refine iteF (fun _ => fin (lw_2181 hF hR i1 i2)) (fun _ => ?_)
      refine iteF (fun _ => fin (lw_2225 hF hR i1 i2)) (fun _ => ?_)
      refine iteF (fun _ => fin (lw_2281 hF hR i1 i2)) (fun _ => ?_)
      refine iteF (fun _ => fin (lw_2294 hF hR i1 i2)) (fun _ => ?_)
      refine iteF (fun _ => fin (lw_2350 hF hR i1 i2)) (fun _ => ?_)
      refine iteF (fun _ => fin (lw_2394 hF hR i1 i2)) (fun _ => ?_)
      refine iteF (fun _ => fin (lw_2438 hF hR i1 i2)) (fun _ => ?_)
      refine iteF (fun _ => fin (lw_2482 hF hR i1 i2)) (fun _ => ?_)
      refine iteF (fun _ => fin (lw_2526 hF hR i1 i2)) (fun _ => ?_)
      refine iteF (fun _ => fin (lw_2539 hF hR i1 i2)) (fun _ => ?_)
      refine iteF (fun _ => fin (lw_2552 hF hR i1 i2)) (fun _ => ?_)
      exact fin ⟨M, rfl, hR⟩
end
def r00 : Nat → Nat := fun k => if k = 5 then 4 else 0
theorem r00_z {k : Nat} (h : k ≠ 5) : r00 k = 0 := if_neg h
theorem WF_r00 : WF r00 := by
  have z : ∀ k, k ≠ 5 → r00 k = 0 := fun k h => r00_z h
  refine ⟨by decide, by decide, by decide, by decide, by decide, by decide, Or.inr rfl, Or.inr rfl, fun k q => ?_, fun k q => ?_, fun k q _ => ?_, fun i j hi hj => ?_, fun i j hi hj => ?_, fun i j hi hj q => ?_, ?_, fun k q => absurd q (by show ¬ k < 0; omega), fun k q => absurd q (by show ¬ k < 0; omega), fun k q => absurd q (by show ¬ k < 0; omega), fun k q => z k (by omega)⟩
  · rw [z _ (by omega)]; omega
  · rw [z _ (by omega)]; omega
  · rw [z _ (by omega)]
  · unfold lk; rw [z _ (by omega)]; omega
  · unfold lk; rw [z _ (by omega), z _ (by omega)]
  · unfold lk at q; rw [z _ (by omega)] at q; omega
  · have w := sumF_c (n := 144) (c := 0) (f := fun k => r00 (38 + k)) (fun k hk => by
      show r00 (38 + k) ≤ 0
      rw [z _ (by omega)]
      omega)
    show sumF 144 (fun k => r00 (38 + k)) = 0
    omega
theorem M0_at (k i : Nat) (h : k ≠ 120) (h1 : lay k ≠ 1) (h0 : lay k ≠ 0) (h9 : lay k ≠ 9) : M0 k i = 0 := by
  unfold M0
  rw [if_neg h, if_neg h1, if_neg h0, if_neg h9]
theorem M0_l (i : Nat) : M0 1 i = if i = 3 then 4 else 0 := by
  unfold M0
  rw [if_neg (by decide), if_pos (by decide)]
theorem M0_0 (i : Nat) : M0 0 i = if i = 8 ∨ i = 9 ∨ i = 11 then -1 else 0 := by
  unfold M0
  rw [if_neg (by decide), if_neg (by decide), if_pos (by decide)]
theorem M0_119 (i : Nat) : M0 119 i = if i = 20 then -1 else 0 := by
  unfold M0
  rw [if_neg (by decide), if_neg (by decide), if_neg (by decide), if_pos (by decide)]
theorem M0_120 (i : Nat) : M0 120 i = if i = 5 then 4 else 0 := by
  unfold M0
  rw [if_pos rfl]
theorem M0_in : ∀ k, k < 11 → 2 ≤ k → k ≠ 120 ∧ lay k ≠ 1 ∧ lay k ≠ 0 ∧ lay k ≠ 9 := by decide
theorem M0_n (k i : Nat) (h2 : 2 ≤ k) (h3 : k < 11) : M0 k i = 0 := by
  have h := M0_in k h3 h2
  exact M0_at k i h.1 h.2.1 h.2.2.1 h.2.2.2
theorem CC_M0 : CC M0 1 r00 := by
  have z : ∀ k, k ≠ 5 → r00 k = 0 := fun k h => r00_z h
  have nz : nI 0 = 0 := rfl
  refine ⟨by rw [M0_l]; rfl, by rw [M0_l]; rfl, by rw [M0_l]; rfl, by rw [M0_l]; rfl, by rw [M0_l]; rfl, by rw [M0_l]; rfl, by rw [M0_l]; rfl, by rw [M0_l]; rfl, fun j hj => ?_, by rw [M0_n _ _ (by decide) (by decide)]; rfl, by rw [M0_n _ _ (by decide) (by decide)]; rfl, fun k hk => ?_, fun k j hk hj => ?_, by rw [M0_n _ _ (by decide) (by decide)]; rfl, by rw [M0_n _ _ (by decide) (by decide)]; rfl, by rw [M0_n _ _ (by decide) (by decide)]; rfl, fun k hk => absurd hk (by show ¬ k < 0; omega), by rw [M0_n _ _ (by decide) (by decide)]; rfl, fun k hk => absurd hk (by show ¬ k < 0; omega), fun k hk => absurd hk (by show ¬ k < 0; omega), fun k hk => absurd hk (by show ¬ k < 0; omega)⟩
  · rw [M0_n _ _ (by decide) (by decide), bit_zero]
    exact (decide_eq_false (fun w => by have := w.2; rw [z _ (by omega)] at this; omega)).symm
  · rw [M0_n _ _ (by decide) (by decide), z _ (by omega)]; rfl
  · rw [M0_n _ _ (by decide) (by decide), bit_zero]
    exact (decide_eq_false (fun w => by have := w.2; unfold lk at this; rw [z _ (by omega)] at this; omega)).symm
theorem Rel_M0 : Rel M0 := by
  have nl : ∀ {k : Nat}, ¬ k < 0 := fun h => absurd h (Nat.not_lt_zero _)
  refine ⟨fun _ => r00, fun _ => 0, fun _ _ => 0, ⟨WF_r00, by decide, by decide, fun j hj => absurd hj nl, by decide, fun q => absurd q (by decide), by decide, fun k hk => absurd hk nl, by decide, fun k hk => absurd hk nl, by decide, by decide, by decide⟩, ⟨CC_M0, ⟨?_, ?_, fun j hj => absurd hj nl⟩, ⟨by rw [M0_0]; rfl, fun q => absurd q (by decide)⟩, ⟨?_, fun k hk => absurd hk nl⟩, ⟨?_, fun k hk => absurd hk nl⟩, by rw [M0_0]; rfl, by rw [M0_0]; rfl, fun q => absurd rfl q, by rw [M0_0]; rfl⟩, ⟨?_, ⟨by rw [M0_119]; rfl, by rw [M0_119]; rfl, fun j hj => absurd hj nl⟩, ⟨by rw [M0_119]; rfl, fun q => absurd q (by decide)⟩, ⟨by rw [M0_119]; rfl, fun k hk => absurd hk nl⟩, ⟨by rw [M0_119]; rfl, fun k hk => absurd hk nl⟩, by rw [M0_119]; rfl, by rw [M0_119]; rfl, fun q => absurd rfl q, by rw [M0_119]; rfl, by rw [M0_119]; rfl⟩⟩
  · exact M0_at 31 1 (by decide) (by decide) (by decide) (by decide)
  · exact M0_at 31 2 (by decide) (by decide) (by decide) (by decide)
  · exact M0_at 115 1 (by decide) (by decide) (by decide) (by decide)
  · exact M0_at 117 1 (by decide) (by decide) (by decide) (by decide)
  · funext k
    rw [M0_120, rowI_at]
    show (if k = 5 then (4 : Int32) else 0) = nI (if k = 5 then 4 else 0)
    by_cases h : k = 5
    · rw [if_pos h, if_pos h]; rfl
    · rw [if_neg h, if_neg h]; rfl
theorem law_true (xs : Nat → Int32) {L : Nat} (h : L ≤ 1536) : fL_law_loop 2000 L xs 513 0 M0 = some true := law_all (F := 2000) (by decide) h 513 0 M0 (by omega) (by omega) Rel_M0
