section
variable {F : Nat} {M N : Mem} {R : Nat → Nat → Nat} {n : Nat → Nat} {T : Nat → Nat → Int32} {a : Nat → Nat}
def cc (x : Int32) : Int32 := vp_nar .char (i2c x)
def sNum (p : Nat) : List Int32 := if p < 10 then [cc (nI (48 + p % 10))] else [cc (nI (48 + p / 10)), cc (nI (48 + p % 10))]
def sLk (a : Nat → Nat) (p : Nat) : Nat → Nat → List Int32
  | 0, _ => []
  | m + 1, v => (if lk a p v = 1 then cc 45 :: sNum v else []) ++ sLk a p m (v + 1)
def sStops (a : Nat → Nat) : Nat → Nat → List Int32
  | 0, _ => []
  | m + 1, v => ((if v = 0 then [] else [cc 32]) ++ sNum (a (182 + v)) ++ (if v = a 4 then [cc 42] else [])) ++ sStops a m (v + 1)
def sHead (a : Nat → Nat) (p : Nat) : List Int32 := sNum p ++ [cc 58] ++ sNum (a (14 + p)) ++ (if a (26 + p) = 1 then [cc 98] else []) ++ (if a 3 = p then [cc 67] else [])
def sShelf (a : Nat → Nat) (p : Nat) : List Int32 := sHead a p ++ List.replicate (cntB (a 8) (onC a p)) (cc 109) ++ sLk a p (a 0) 0
theorem sNum_len (p : Nat) : (sNum p).length ≤ 2 := by
  unfold sNum
  split <;> simp
theorem sLk_len (p m : Nat) : ∀ v, (sLk a p m v).length ≤ 3 * m := by
  induction m with
  | zero => intro v; simp [sLk]
  | succ m ih =>
    intro v
    have h1 := ih (v + 1)
    have h2 := sNum_len v
    unfold sLk
    rw [List.length_append]
    split
    · rw [List.length_cons]; omega
    · simp; omega
theorem sStops_len (m : Nat) : ∀ v, (sStops a m v).length ≤ 4 * m := by
  induction m with
  | zero => intro v; simp [sStops]
  | succ m ih =>
    intro v
    have h1 := ih (v + 1)
    have h2 := sNum_len (a (182 + v))
    unfold sStops
    rw [List.length_append, List.length_append, List.length_append]
    split <;> split <;> simp <;> omega
theorem sHead_len (p : Nat) : (sHead a p).length ≤ 7 := by
  have h1 := sNum_len p
  have h2 := sNum_len (a (14 + p))
  unfold sHead
  rw [List.length_append, List.length_append, List.length_append, List.length_append]
  split <;> split <;> simp <;> omega
def LC (M : Mem) (l : List Int32) : Prop := M 117 1 = nI l.length ∧ (∀ k, k < l.length → M 118 k = l.getD k 0) ∧ ∀ x, x ∈ l → nrc x = true
def LM (M : Mem) (l : List Int32) : Prop := M 119 16 = nI l.length ∧ ∀ k, k < l.length → M 126 k = l.getD k 0
theorem getD_snoc (l : List Int32) (x : Int32) (k : Nat) (h : k < l.length + 1) : (l ++ [x]).getD k 0 = if k = l.length then x else l.getD k 0 := by
  by_cases q : k = l.length
  · rw [if_pos q, q]
    simp [List.getD]
  · rw [if_neg q]
    simp only [List.getD]
    rw [List.getElem?_append_left (by omega)]
theorem cApp1 {l : List Int32} (h : LC M l) (hl : l.length < 64) (x : Int32) : ∃ M', fX4_append F 117 x M = some M' ∧ LC M' (l ++ [vp_nar .char x]) ∧ ∀ c, c ≠ 117 → c ≠ 118 → M' c = M c := by
  unfold fX4_append
  rw [h.1, if_neg (nI_pos (by omega)), if_neg (nleL (n := 64) (by omega) (by decide) hl), inbN (by omega), ckd _ hl, nI_cl (by omega)]
  simp only [lM]
  rw [u2_ne _ (show 117 ≠ 117 + 1 by decide), h.1, nI_1]
  refine ⟨_, rfl, ⟨?_, fun k hk => ?_, fun y hy => ?_⟩, fun c q1 q2 => by rw [u2_ne _ q1, u2_ne _ (by omega)]⟩
  · rw [u2_same, if_pos rfl, List.length_append]; rfl
  · rw [List.length_append] at hk
    have hk' : k < l.length + 1 := hk
    rw [getD_snoc l _ k hk', u2_ne _ (show 118 ≠ 117 by decide), show 117 + 1 = 118 from rfl, u2_same]
    split
    · rfl
    · exact h.2.1 k (by omega)
  · rcases List.mem_append.mp hy with q | q
    · exact h.2.2 y q
    · rw [List.mem_singleton.mp q]
      exact decide_eq_true (nar_id x)
theorem mWr1 {l : List Int32} (h : LM M l) (hl : l.length < 80) (x : Int32) : ∃ M', fX12_writes F x M = some M' ∧ LM M' (l ++ [cc x]) ∧ (∀ c, c ≠ 119 → c ≠ 126 → M' c = M c) ∧ ∀ i, i ≠ 16 → M' 119 i = M 119 i := by
  unfold fX12_writes
  rw [h.1, inbN (by omega), ckd _ hl, nI_cl (by omega)]
  simp only [lM]
  rw [u2_ne _ (show 119 ≠ 126 by decide), h.1, nI_1]
  refine ⟨_, rfl, ⟨?_, fun k hk => ?_⟩, fun c q1 q2 => by rw [u2_ne _ q1, u2_ne _ q2], fun i q => by rw [u2_same, if_neg q, u2_ne _ (by decide)]⟩
  · rw [u2_same, if_pos rfl, List.length_append]; rfl
  · rw [List.length_append] at hk
    have hk' : k < l.length + 1 := hk
    rw [getD_snoc l _ k hk', u2_ne _ (show 126 ≠ 119 by decide), u2_same]
    split
    · rfl
    · exact h.2 k (by omega)
def LF (M M' : Mem) : Prop := ∀ c, c ≠ 117 → c ≠ 118 → M' c = M c
def LG (M M' : Mem) : Prop := (∀ c, c ≠ 119 → c ≠ 126 → M' c = M c) ∧ ∀ i, i ≠ 16 → M' 119 i = M 119 i
theorem LF.tr {M M' M'' : Mem} (h : LF M M') (g : LF M' M'') : LF M M'' := fun c q1 q2 => (g c q1 q2).trans (h c q1 q2)
theorem LG.tr {M M' M'' : Mem} (h : LG M M') (g : LG M' M'') : LG M M'' := ⟨fun c q1 q2 => (g.1 c q1 q2).trans (h.1 c q1 q2), fun i q => (g.2 i q).trans (h.2 i q)⟩
theorem LF.rf : LF M M := fun _ _ _ => rfl
theorem LG.rf : LG M M := ⟨fun _ _ _ => rfl, fun _ _ => rfl⟩
theorem cNum {l : List Int32} (h : LC M l) (hl : l.length + 2 ≤ 64) {p : Nat} (hp : p < 2 ^ 20) : ∃ M', fX4_appendNumber F 117 (nI p) M = some M' ∧ LC M' (l ++ sNum p) ∧ LF M M' := by
  unfold fX4_appendNumber sNum
  by_cases q : p < 10
  · rw [if_pos (ltR (n := 10) (by omega) (by decide) q), if_pos q]
    unfold fX4_appendIf
    rw [if_neg (by decide), lit 10, irmN (by omega) (by omega), lit 48, nI_add]
    simp only [bV]
    obtain ⟨M1, i1, i2, i3⟩ := cApp1 (F := F) h (by omega) (i2c (nI (48 + p % 10)))
    rw [i1]
    exact ⟨M1, rfl, i2, i3⟩
  · rw [if_neg (nltR (n := 10) (by omega) (by decide) (by omega)), if_neg q]
    unfold fX4_appendIf
    rw [if_pos rfl, lit 10, irmN (by omega) (by omega), nI_div (by omega) (by omega), lit 48, nI_add, nI_add]
    obtain ⟨M1, i1, i2, i3⟩ := cApp1 (F := F) h (by omega) (i2c (nI (48 + p / 10)))
    rw [i1]
    simp only [bV]
    obtain ⟨M2, j1, j2, j3⟩ := cApp1 (F := F) i2 (by rw [List.length_append]; simp; omega) (i2c (nI (48 + p % 10)))
    rw [j1]
    refine ⟨M2, rfl, ?_, LF.tr i3 j3⟩
    rw [List.append_assoc] at j2
    exact j2
theorem mNum {l : List Int32} (h : LM M l) (hl : l.length + 2 ≤ 80) {p : Nat} (hp : p < 2 ^ 20) : ∃ M', fX12_writesNumber F (nI p) M = some M' ∧ LM M' (l ++ sNum p) ∧ LG M M' := by
  unfold fX12_writesNumber sNum
  by_cases q : p < 10
  · rw [if_pos (leR (n := 9) (by omega) (by decide) (by omega)), if_pos q, lit 10, irmN (by omega) (by omega), lit 48, nI_add]
    obtain ⟨M1, i1, i2, i3⟩ := mWr1 (F := F) h (by omega) (nI (48 + p % 10))
    rw [i1]
    exact ⟨M1, rfl, i2, i3⟩
  · rw [if_neg (nleR (n := 9) (by omega) (by decide) (by omega)), if_neg q, lit 10, irmN (by omega) (by omega), nI_div (by omega) (by omega), lit 48, nI_add, nI_add]
    obtain ⟨M1, i1, i2, i3⟩ := mWr1 (F := F) h (by omega) (nI (48 + p / 10))
    rw [i1]
    simp only [bV]
    obtain ⟨M2, j1, j2, j3⟩ := mWr1 (F := F) i2 (by rw [List.length_append]; simp; omega) (nI (48 + p % 10))
    rw [j1]
    refine ⟨M2, rfl, ?_, LG.tr i3 j3⟩
    rw [List.append_assoc] at j2
    exact j2
theorem lit_cc : vp_nar .char 58 = cc 58 ∧ vp_nar .char 98 = cc 98 ∧ vp_nar .char 67 = cc 67 ∧ vp_nar .char 109 = cc 109 ∧ vp_nar .char 45 = cc 45 ∧ vp_nar .char 32 = cc 32 ∧ vp_nar .char 42 = cc 42 := by decide
theorem cIf {l : List Int32} (h : LC M l) (hl : l.length < 64) {x : Int32} (hx : vp_nar .char x = cc x) (q : Bool) : ∃ M', fX4_appendIf F 117 q x M = some M' ∧ LC M' (l ++ if q = true then [cc x] else []) ∧ LF M M' := by
  unfold fX4_appendIf
  cases q with
  | true =>
    obtain ⟨M1, i1, i2, i3⟩ := cApp1 (F := F) h hl x
    rw [if_pos rfl, i1]
    rw [hx] at i2
    exact ⟨M1, rfl, i2, i3⟩
  | false =>
    rw [if_neg (by decide)]
    exact ⟨M, rfl, by rw [if_neg (by decide), List.append_nil]; exact h, LF.rf⟩
theorem cMice (kx : Mem → Option Mem) (p : Nat) (q2 : Int32) {t : Nat} (ht : t ≤ 8) (m : Nat) : ∀ v, v + m = t → ∀ n', m < n' → ∀ (l : List Int32) (M : Mem), LC M l → l.length + m ≤ 64 → ∃ M', fX4_showShelf_82 F 117 p q2 (nI t) kx n' (nI v) M = kx M' ∧ LC M' (l ++ List.replicate m (cc 109)) ∧ LF M M' := by
  induction m with
  | zero =>
    intro v hv n' hn l M h hl
    obtain ⟨n', rfl⟩ : ∃ n'', n' = n'' + 1 := ⟨n' - 1, by omega⟩
    rw [fX4_showShelf_82, if_pos (le2 (by omega) (by omega) (by omega))]
    exact ⟨M, rfl, by simpa using h, LF.rf⟩
  | succ m ih =>
    intro v hv n' hn l M h hl
    obtain ⟨n', rfl⟩ : ∃ n'', n' = n'' + 1 := ⟨n' - 1, by omega⟩
    rw [fX4_showShelf_82, if_neg (nle2 (by omega) (by omega) (by omega))]
    obtain ⟨M1, i1, i2, i3⟩ := cApp1 (F := F) h (by omega) 109
    rw [i1]
    simp only [bV, lM]
    rw [lit_cc.2.2.2.1] at i2
    rw [nI_1]
    obtain ⟨M2, j1, j2, j3⟩ := ih (v + 1) (by omega) n' (by omega) _ M1 i2 (by rw [List.length_append]; simp; omega)
    refine ⟨M2, j1, ?_, LF.tr i3 j3⟩
    rw [List.append_assoc] at j2
    exact j2
theorem mMice (kx : Mem → Option (Int32 × Mem)) (q1 : Int32) (m : Nat) (hm : m ≤ 8) : ∀ n', m < n' → ∀ (l : List Int32) (M : Mem), LM M l → l.length + m ≤ 80 → ∃ M', fX12_writeShelf_89 F q1 kx n' (nI m) M = kx M' ∧ LM M' (l ++ List.replicate m (cc 109)) ∧ LG M M' := by
  induction m with
  | zero =>
    intro n' hn l M h hl
    obtain ⟨n', rfl⟩ : ∃ n'', n' = n'' + 1 := ⟨n' - 1, by omega⟩
    rw [fX12_writeShelf_89, if_pos (by decide)]
    exact ⟨M, rfl, by simpa using h, LG.rf⟩
  | succ m ih =>
    intro n' hn l M h hl
    obtain ⟨n', rfl⟩ : ∃ n'', n' = n'' + 1 := ⟨n' - 1, by omega⟩
    rw [fX12_writeShelf_89, if_neg (nle0 (by omega) (by omega))]
    obtain ⟨M1, i1, i2, i3⟩ := mWr1 (F := F) h (by omega) 109
    rw [i1]
    simp only [bV, lM]
    rw [← Int32.sub_eq_add_neg, show nI (m + 1) - 1 = nI m from nI_sub (b := 1) (by omega)]
    obtain ⟨M2, j1, j2, j3⟩ := ih (by omega) n' (by omega) _ M1 i2 (by rw [List.length_append]; simp; omega)
    refine ⟨M2, j1, ?_, LG.tr i3 j3⟩
    rw [List.append_assoc] at j2
    exact j2
theorem cLinks (hW : WF a) (kx : Mem → Option Mem) {p : Nat} (hp : p < 12) (m : Nat) : ∀ v, v + m = a 0 → ∀ n', m < n' → ∀ (l : List Int32) (M : Mem), CC M 1 a → LC M l → l.length + 3 * m ≤ 64 → ∃ M', fX4_showShelf_104 F 117 1 (nI p) kx n' (nI v) M = kx M' ∧ LC M' (l ++ sLk a p m v) ∧ LF M M' := by
  have hn := hW.n
  induction m with
  | zero =>
    intro v hv n' hn2 l M hc h hl
    obtain ⟨n', rfl⟩ : ∃ n'', n' = n'' + 1 := ⟨n' - 1, by omega⟩
    rw [fX4_showShelf_104, show M (1 + 1) 3 = nI (a 0) from hc.n, if_pos (le2 (by omega) (by omega) (by omega))]
    exact ⟨M, rfl, by simpa [sLk] using h, LF.rf⟩
  | succ m ih =>
    intro v hv n' hn2 l M hc h hl
    obtain ⟨n', rfl⟩ : ∃ n'', n' = n'' + 1 := ⟨n' - 1, by omega⟩
    rw [fX4_showShelf_104, show M (1 + 1) 3 = nI (a 0) from hc.n, if_neg (nle2 (by omega) (by omega) (by omega)), areCon (c := 1 + 1) (by decide) (NB.of hc) hp (by omega)]
    simp only [bM, lM]
    rw [nI_1]
    unfold sLk
    by_cases q : lk a p v = 1
    · rw [if_pos (decide_eq_true q), if_pos q]
      obtain ⟨M1, i1, i2, i3⟩ := cApp1 (F := F) h (by omega) 45
      rw [i1]
      simp only [bV]
      rw [lit_cc.2.2.2.2.1] at i2
      obtain ⟨M2, j1, j2, j3⟩ := cNum (F := F) i2 (by rw [List.length_append]; simp; omega) (p := v) (by omega)
      rw [j1]
      have f2 := LF.tr i3 j3
      have hl2 := sNum_len v
      obtain ⟨M3, k1, k2, k3⟩ := ih (v + 1) (by omega) n' (by omega) _ M2 (CL.fr hc fun c q1 q2 => f2 c (by omega) (by omega)) j2 (by rw [List.length_append, List.length_append]; simp; omega)
      refine ⟨M3, k1, ?_, f2.tr k3⟩
      simpa [List.append_assoc] using k2
    · rw [if_neg (by simp [q]), if_neg q]
      obtain ⟨M3, k1, k2, k3⟩ := ih (v + 1) (by omega) n' (by omega) l M hc h (by omega)
      exact ⟨M3, k1, by simpa using k2, k3⟩
theorem mLinks (hW : WF a) (kx : Mem → Option (Int32 × Mem)) {p : Nat} (hp : p < 12) (m : Nat) : ∀ v, v + m = a 0 → ∀ n', m < n' → ∀ (l : List Int32) (M : Mem), M 120 = rowI a → LM M l → l.length + 3 * m ≤ 80 → ∃ M', fX12_writeShelf_107 F (nI p) kx n' (nI v) M = kx M' ∧ LM M' (l ++ sLk a p m v) ∧ LG M M' := by
  have hn := hW.n
  induction m with
  | zero =>
    intro v hv n' hn2 l M hN h hl
    obtain ⟨n', rfl⟩ : ∃ n'', n' = n'' + 1 := ⟨n' - 1, by omega⟩
    rw [fX12_writeShelf_107, hN, rowI_at, if_pos (le2 (by omega) (by omega) (by omega))]
    exact ⟨M, rfl, by simpa [sLk] using h, LG.rf⟩
  | succ m ih =>
    intro v hv n' hn2 l M hN h hl
    obtain ⟨n', rfl⟩ : ∃ n'', n' = n'' + 1 := ⟨n' - 1, by omega⟩
    rw [fX12_writeShelf_107, hN, rowI_at, if_neg (nle2 (by omega) (by omega) (by omega)), isLinked_m hN hp (by omega) (hW.l1 p v hp (by omega))]
    simp only [bM, lM]
    rw [nI_1]
    unfold sLk
    by_cases q : lk a p v = 1
    · rw [if_pos (decide_eq_true q), if_pos q]
      obtain ⟨M1, i1, i2, i3⟩ := mWr1 (F := F) h (by omega) 45
      rw [i1]
      simp only [bV]
      obtain ⟨M2, j1, j2, j3⟩ := mNum (F := F) i2 (by rw [List.length_append]; simp; omega) (p := v) (by omega)
      rw [j1]
      have f2 := LG.tr i3 j3
      have hl2 := sNum_len v
      obtain ⟨M3, k1, k2, k3⟩ := ih (v + 1) (by omega) n' (by omega) _ M2 (by rw [f2.1 _ (by decide) (by decide)]; exact hN) j2 (by rw [List.length_append, List.length_append]; simp; omega)
      refine ⟨M3, k1, ?_, f2.tr k3⟩
      simpa [List.append_assoc] using k2
    · rw [if_neg (by simp [q]), if_neg q]
      obtain ⟨M3, k1, k2, k3⟩ := ih (v + 1) (by omega) n' (by omega) l M hN h (by omega)
      exact ⟨M3, k1, by simpa using k2, k3⟩
theorem cStopsL (hW : WF a) (kx : Mem → Option Mem) (m : Nat) : ∀ v, v + m = a 2 → ∀ n', m < n' → ∀ (l : List Int32) (M : Mem), CC M 1 a → LC M l → l.length + 4 * m ≤ 64 → ∃ M', fX4_showStops_7 F 117 5 kx n' (nI v) M = kx M' ∧ LC M' (l ++ sStops a m v) ∧ LF M M' := by
  have ht := hW.t
  have hg := hW.goal_lt
  have hn := hW.n
  induction m with
  | zero =>
    intro v hv n' hn2 l M hc h hl
    obtain ⟨n', rfl⟩ : ∃ n'', n' = n'' + 1 := ⟨n' - 1, by omega⟩
    rw [fX4_showStops_7, show M 5 1 = nI (a 2) from hc.t, if_pos (le2 (by omega) (by omega) (by omega))]
    exact ⟨M, rfl, by simpa [sStops] using h, LF.rf⟩
  | succ m ih =>
    intro v hv n' hn2 l M hc h hl
    obtain ⟨n', rfl⟩ : ∃ n'', n' = n'' + 1 := ⟨n' - 1, by omega⟩
    have hs := hW.st v (by omega)
    have hl2 := sNum_len (a (182 + v))
    have body : ∀ sp : Bool, sp = decide (¬ v = 0) → ∃ M', bindV (fX4_appendIf F 117 sp 32 M) (fun M5 => bindM (fX11_at F (5 + 1) (nI v) M5) (fun r9 M7 => bindV (fX4_appendNumber F 117 r9 M7) (fun M10 => if nI v = (M10 5 3) then bindV (fX4_appendIf F 117 true 42 M10) (fun M17 => letM (nI v + 1) (fun x19 => fX4_showStops_7 F 117 5 kx n' x19 M17)) else bindV (fX4_appendIf F 117 false 42 M10) (fun M13 => letM (nI v + 1) (fun x15 => fX4_showStops_7 F 117 5 kx n' x15 M13))))) = kx M' ∧ LC M' (l ++ sStops a (m + 1) v) ∧ LF M M' := by
      intro sp hsp
      obtain ⟨M1, i1, i2, i3⟩ := cIf (F := F) h (by omega) lit_cc.2.2.2.2.2.1 sp
      rw [i1]
      simp only [bV]
      rw [at_in (c := 5 + 1) (al1_5 (b := 1) (by decide)) (by decide) (by omega)]
      simp only [bM]
      rw [i3 (5 + 1) (by decide) (by decide), show M (5 + 1) v = nI (a (182 + v)) from hc.st v (by omega)]
      obtain ⟨M2, j1, j2, j3⟩ := cNum (F := F) i2 (by rw [List.length_append]; split <;> simp <;> omega) (p := a (182 + v)) (by omega)
      rw [j1]
      simp only [bV, lM]
      have f2 := LF.tr i3 j3
      have hg2 : M2 5 3 = nI (a 4) := by rw [f2 5 (by decide) (by decide)]; exact hc.goal
      rw [hg2, nI_1]
      have c3 : ∀ q : Bool, q = decide (v = a 4) → ∃ M', bindV (fX4_appendIf F 117 q 42 M2) (fun M13 => fX4_showStops_7 F 117 5 kx n' (nI (v + 1)) M13) = kx M' ∧ LC M' (l ++ sStops a (m + 1) v) ∧ LF M M' := by
        intro q hq
        obtain ⟨M3, k1, k2, k3⟩ := cIf (F := F) j2 (by rw [List.length_append, List.length_append]; split <;> simp <;> omega) lit_cc.2.2.2.2.2.2 q
        rw [k1]
        simp only [bV]
        have f3 := LF.tr f2 k3
        obtain ⟨M4, l1, l2, l3⟩ := ih (v + 1) (by omega) n' (by omega) _ M3 (CL.fr hc fun c q1 q2 => f3 c (by omega) (by omega)) k2 (by rw [List.length_append, List.length_append, List.length_append]; split <;> split <;> simp <;> omega)
        refine ⟨M4, l1, ?_, f3.tr l3⟩
        have e : sStops a (m + 1) v = ((if v = 0 then [] else [cc 32]) ++ sNum (a (182 + v)) ++ (if v = a 4 then [cc 42] else [])) ++ sStops a m (v + 1) := rfl
        rw [e]
        have e1 : (if sp = true then [cc 32] else []) = (if v = 0 then [] else [cc 32]) := by
          rw [hsp]
          by_cases w : v = 0
          · rw [if_pos w, if_neg (by simp [w])]
          · rw [if_neg w, if_pos (by simp [w])]
        have e2 : (if q = true then [cc 42] else []) = (if v = a 4 then [cc 42] else []) := by
          rw [hq]
          by_cases w : v = a 4
          · rw [if_pos w, if_pos (by simp [w])]
          · rw [if_neg w, if_neg (by simp [w])]
        rw [e1, e2] at l2
        simpa [List.append_assoc] using l2
      by_cases w : v = a 4
      · rw [if_pos (eq2 w)]
        exact c3 true (by rw [decide_eq_true w])
      · rw [if_neg (ne2 (by omega) (by omega) w)]
        exact c3 false (by rw [decide_eq_false w])
    rw [fX4_showStops_7, show M 5 1 = nI (a 2) from hc.t, if_neg (nle2 (by omega) (by omega) (by omega))]
    by_cases w : v = 0
    · rw [if_pos (leR (n := 0) (by omega) (by decide) (by omega))]
      exact body false (by simp [w])
    · rw [if_neg (nle0 (by omega) w)]
      exact body true (by simp [w])
theorem mStopsL (hW : WF a) (kx : Mem → Option (Int32 × Mem)) (m : Nat) : ∀ v, v + m = a 2 → ∀ n', m < n' → ∀ (l : List Int32) (M : Mem), M 120 = rowI a → LM M l → l.length + 4 * m ≤ 80 → ∃ M', fX12_writePatrol_12 F kx n' (nI v) M = kx M' ∧ LM M' (l ++ sStops a m v) ∧ LG M M' := by
  have ht := hW.t
  have hg := hW.goal_lt
  have hn := hW.n
  induction m with
  | zero =>
    intro v hv n' hn2 l M hN h hl
    obtain ⟨n', rfl⟩ : ∃ n'', n' = n'' + 1 := ⟨n' - 1, by omega⟩
    rw [fX12_writePatrol_12, hN, rowI_at, if_pos (le2 (by omega) (by omega) (by omega))]
    exact ⟨M, rfl, by simpa [sStops] using h, LG.rf⟩
  | succ m ih =>
    intro v hv n' hn2 l M hN h hl
    obtain ⟨n', rfl⟩ : ∃ n'', n' = n'' + 1 := ⟨n' - 1, by omega⟩
    have hs := hW.st v (by omega)
    have hl2 := sNum_len (a (182 + v))
    have e : sStops a (m + 1) v = ((if v = 0 then [] else [cc 32]) ++ sNum (a (182 + v)) ++ (if v = a 4 then [cc 42] else [])) ++ sStops a m (v + 1) := rfl
    have body : ∀ (M1 : Mem), LM M1 (l ++ if v = 0 then [] else [cc 32]) → LG M M1 → ∃ M', bindV (fX12_writesNumber F (nI (a (182 + v))) M1) (fun M9 => if nI v = (M9 120 4) then bindV (fX12_writes F 42 M9) (fun M15 => letM (nI v + 1) (fun x17 => fX12_writePatrol_12 F kx n' x17 M15)) else letM (nI v + 1) (fun x13 => fX12_writePatrol_12 F kx n' x13 M9)) = kx M' ∧ LM M' (l ++ sStops a (m + 1) v) ∧ LG M M' := by
      intro M1 i2 i3
      obtain ⟨M2, j1, j2, j3⟩ := mNum (F := F) i2 (by rw [List.length_append]; split <;> simp <;> omega) (p := a (182 + v)) (by omega)
      rw [j1]
      simp only [bV, lM]
      have f2 := LG.tr i3 j3
      have n2 : M2 120 = rowI a := by rw [f2.1 _ (by decide) (by decide)]; exact hN
      rw [n2, rowI_at, nI_1]
      by_cases w : v = a 4
      · rw [if_pos (eq2 w)]
        obtain ⟨M3, k1, k2, k3⟩ := mWr1 (F := F) j2 (by rw [List.length_append, List.length_append]; split <;> simp <;> omega) 42
        rw [k1]
        simp only [bV]
        have f3 := LG.tr f2 k3
        obtain ⟨M4, l1, l2, l3⟩ := ih (v + 1) (by omega) n' (by omega) _ M3 (by rw [f3.1 _ (by decide) (by decide)]; exact hN) k2 (by rw [List.length_append, List.length_append, List.length_append]; split <;> simp <;> omega)
        refine ⟨M4, l1, ?_, f3.tr l3⟩
        rw [e, if_pos w]
        simpa [List.append_assoc] using l2
      · rw [if_neg (ne2 (by omega) (by omega) w)]
        obtain ⟨M4, l1, l2, l3⟩ := ih (v + 1) (by omega) n' (by omega) _ M2 n2 j2 (by rw [List.length_append, List.length_append]; split <;> simp <;> omega)
        refine ⟨M4, l1, ?_, f2.tr l3⟩
        rw [e, if_neg w]
        simpa [List.append_assoc] using l2
    rw [fX12_writePatrol_12, hN, rowI_at, if_neg (nle2 (by omega) (by omega) (by omega)), lit 182, nI_add, inbN (by omega), ckd _ (by omega), nI_cl (by omega), rowI_at]
    by_cases w : v = 0
    · rw [if_pos (leR (n := 0) (by omega) (by decide) (by omega))]
      exact body M (by rw [if_pos w, List.append_nil]; exact h) LG.rf
    · rw [if_neg (nle0 (by omega) w)]
      obtain ⟨M1, i1, i2, i3⟩ := mWr1 (F := F) h (by omega) 32
      rw [i1]
      simp only [bV]
      have n1 : M1 120 = rowI a := by rw [i3.1 _ (by decide) (by decide)]; exact hN
      rw [ckd _ (by omega), n1, rowI_at]
      exact body M1 (by rw [if_neg w]; exact i2) i3
theorem RC.line (h : RC M R n T) {M' : Mem} {l : List Int32} (hl : LC M' l) (hf : ∀ c, c < 119 → c ≠ 117 → c ≠ 118 → M' c = M c) : RC M' R (updN n 4 l.length) (updR T 1 (fun k => l.getD k 0)) := by
  obtain ⟨g1, g2, g3, g4, g5, g6, g7, g8, g9⟩ := h
  refine ⟨CL.fr g1 fun c q1 q2 => hf c (by omega) (by omega) (by omega), HIc.fr g2 fun c q1 q2 => hf c (by omega) (by omega) (by omega), ⟨by rw [hf 0 (by decide) (by decide) (by decide)]; exact g3.1, fun q => CL.fr (g3.2 q) fun c q1 q2 => hf c (by omega) (by omega) (by omega)⟩, ⟨by rw [hf 115 (by decide) (by decide) (by decide)]; exact g4.1, fun k hk => by rw [hf 116 (by decide) (by decide) (by decide)]; exact g4.2 k hk⟩, ⟨hl.1, hl.2.1⟩, by rw [hf 0 (by decide) (by decide) (by decide)]; exact g6, by rw [hf 0 (by decide) (by decide) (by decide)]; exact g7, fun q => by rw [hf 0 (by decide) (by decide) (by decide)]; exact g8 q, by rw [hf 0 (by decide) (by decide) (by decide)]; exact g9⟩
theorem RM.line (h : RM M R n T) {M' : Mem} {l : List Int32} (hl : LM M' l) (hf : ∀ c, (c = 120 ∨ c = 121 ∨ c = 122 ∨ c = 127) → M' c = M c) (h119 : ∀ i, i ≠ 0 → i ≠ 16 → M' 119 i = M 119 i) : RM M' R (updN n 4 l.length) (updR T 1 (fun k => l.getD k 0)) := by
  obtain ⟨g1, g2, g3, g4, g5, g6, g7, g8, g9, g10⟩ := h
  exact ⟨by rw [hf 120 (by omega)]; exact g1, ⟨by rw [h119 _ (by decide) (by decide)]; exact g2.1, by rw [h119 _ (by decide) (by decide)]; exact g2.2.1, fun j hj k hk => by rw [hf 121 (by omega)]; exact g2.2.2 j hj k hk⟩, ⟨by rw [h119 _ (by decide) (by decide)]; exact g3.1, fun q k hk => by rw [hf 122 (by omega)]; exact g3.2 q k hk⟩, ⟨by rw [h119 _ (by decide) (by decide)]; exact g4.1, fun k hk => by rw [hf 127 (by omega)]; exact g4.2 k hk⟩, ⟨hl.1, hl.2⟩, by rw [h119 _ (by decide) (by decide)]; exact g6, by rw [h119 _ (by decide) (by decide)]; exact g7, fun q => by rw [h119 _ (by decide) (by decide)]; exact g8 q, by rw [h119 _ (by decide) (by decide)]; exact g9, by rw [h119 _ (by decide) (by decide)]; exact g10⟩
theorem OG.line (h : OG R n T) {l : List Int32} (hl : l.length ≤ 64) (hm : ∀ x, x ∈ l → nrc x = true) : OG R (updN n 4 l.length) (updR T 1 (fun k => l.getD k 0)) := by
  refine ⟨h.w, h.f, h.c, h.wh, h.s, h.ws, h.tl, h.tn, hl, fun k hk => ?_, h.d, h.ca, h.fa⟩
  have hk' : k < l.length := hk
  rw [updR_same]
  show nrc (l.getD k 0) = true
  have e : l.getD k 0 = l[k] := by simp [List.getD, hk']
  rw [e]
  exact hm _ (List.getElem_mem hk')
theorem ok_writePatrol (hF : 1500 ≤ F) (hR : Rel M) : OKD (fX11_writePatrol F) (fX12_writePatrol F) M := by
  obtain ⟨R, n, T, hO, hC, hMd⟩ := id hR
  have hW := hO.w
  have ht := hW.t
  have hlen := sStops_len (a := R 8) (R 8 2) 0
  obtain ⟨M1, i1, i2, i3⟩ := cStopsL (F := F) hW (fun M37 => some M37) (R 8 2) 0 (by omega) F (by omega) [] (up2 M 117 1 0) (CL.fr hC.1 fun c q1 q2 => u2_ne _ (by omega)) ⟨by rw [u2_same, if_pos rfl]; rfl, fun k hk => absurd hk (Nat.not_lt_zero k), fun x hx => absurd hx (by simp)⟩ (by simp; omega)
  rw [List.nil_append] at i2
  have f1 : ∀ c, c ≠ 117 → c ≠ 118 → M1 c = M c := fun c q1 q2 => by rw [i3 c q1 q2, u2_ne _ q1]
  obtain ⟨N1, j1, j2, j3⟩ := mStopsL (F := F) hW (fun M32 => some ((M32 119 16), M32)) (R 8 2) 0 (by omega) F (by omega) [] (up2 (up2 M1 119 0 0) 119 16 0) (by rw [u2_ne _ (by decide), u2_ne _ (by decide), f1 _ (by decide) (by decide)]; exact hMd.1) ⟨by rw [u2_same, if_pos rfl]; rfl, fun k hk => absurd hk (Nat.not_lt_zero k)⟩ (by simp; omega)
  rw [List.nil_append] at j2
  refine ⟨nI (sStops (R 8) (R 8 2) 0).length, M1, N1, ?_, ?_, R, _, _, hO.line (by omega) i2.2.2, ?_, hMd.line j2 (fun c q => by rw [j3.1 c (by omega) (by omega), u2_ne _ (by omega), u2_ne _ (by omega), f1 c (by omega) (by omega)]) (fun i q1 q2 => by rw [j3.2 i q2, u2_same, if_neg q2, u2_same, if_neg q1, f1 _ (by decide) (by decide)])⟩
  · unfold fX11_writePatrol fX4_showStops
    simp only [lM]
    rw [show fX4_showStops_7 F 117 5 (fun M37 => some M37) F 0 (up2 M 117 1 0) = _ from i1]
    simp only [bV]
    rw [i2.1]
  · unfold fX12_writePatrol
    simp only [lM]
    refine j1.trans ?_
    rw [j2.1]
  · refine (hC.line i2 (fun c q1 q2 q3 => f1 c q2 q3)).fr fun c q1 q2 q3 q4 q5 => ?_
    rw [j3.1 c (by omega) (by omega), u2_ne _ (by omega), u2_ne _ (by omega)]
end
section
variable {F : Nat} {M N : Mem} {R : Nat → Nat → Nat} {n : Nat → Nat} {T : Nat → Nat → Int32} {a : Nat → Nat}
theorem cShow (hF : 1500 ≤ F) (hW : WF a) (hc : CC M 1 a) {p : Nat} (hp : p < a 0) : ∃ M', fX4_showShelf F 117 1 (nI p) M = some M' ∧ LC M' (sShelf a p) ∧ LF M M' := by
  have hn := hW.n
  have h8 := hW.m
  have hg := hW.gr p (by omega)
  have hct := hW.cat_lt
  have hcnt : cntB (a 8) (onC a p) ≤ 8 := Nat.le_trans (cntB_le _ _) h8
  unfold fX4_showShelf
  simp only [lM]
  have h0 : LC (up2 M 117 1 0) [] := ⟨by rw [u2_same, if_pos rfl]; rfl, fun k hk => absurd hk (Nat.not_lt_zero k), fun x hx => absurd hx (by simp)⟩
  have f0 : LF M (up2 M 117 1 0) := fun c q1 q2 => u2_ne _ q1
  obtain ⟨M1, a1, a2, a3⟩ := cNum (F := F) h0 (by simp) (p := p) (by omega)
  rw [a1]
  simp only [bV]
  have f1 := f0.tr a3
  have hl1 := sNum_len p
  obtain ⟨M2, b1, b2, b3⟩ := cApp1 (F := F) a2 (by simp; omega) 58
  rw [b1]
  simp only [bV]
  rw [lit_cc.1] at b2
  have f2 := f1.tr b3
  rw [at_in (c := 1 + 2) (al1_2 (b := 1) (by decide)) (by decide) (by omega)]
  simp only [bM]
  rw [f2 (1 + 2) (by decide) (by decide), show M (1 + 2) p = nI (a (14 + p)) from hc.gr p (by omega)]
  have hl2 := sNum_len (a (14 + p))
  obtain ⟨M3, c1, c2, c3⟩ := cNum (F := F) b2 (by simp; omega) (p := a (14 + p)) (by omega)
  rw [c1]
  simp only [bV]
  have f3 := f2.tr c3
  rw [f3 (1 + 1) (by decide) (by decide), bit_holdsF (by omega), show bitb (M (1 + 1) 2) p = decide (p < 12 ∧ a (26 + p) = 1) from hc.bl p (by omega)]
  simp only [bM]
  obtain ⟨M4, d1, d2, d3⟩ := cIf (F := F) c2 (by simp; omega) lit_cc.2.1 (decide (p < 12 ∧ a (26 + p) = 1))
  rw [d1]
  simp only [bV]
  have f4 := f3.tr d3
  have eb : (if decide (p < 12 ∧ a (26 + p) = 1) = true then [cc 98] else []) = (if a (26 + p) = 1 then [cc 98] else []) := by
    by_cases w : a (26 + p) = 1
    · rw [if_pos w, if_pos (decide_eq_true ⟨by omega, w⟩)]
    · rw [if_neg w, if_neg (by simp [w])]
  rw [eb] at d2
  have lb : (if a (26 + p) = 1 then [cc 98] else []).length ≤ 1 := by split <;> simp
  rw [f4 (1 + 4) (by decide) (by decide), show M (1 + 4) 2 = nI (a 3) from hc.cat]
  have rest : ∀ q : Bool, q = decide (a 3 = p) → ∃ M', bindV (fX4_appendIf F 117 q 67 M4) (fun M18 => bindM (fX5_countOn F (1 + 6) (nI p) M18) (fun r22 M20 => fX4_showShelf_82 F 117 1 (nI p) r22 (fun M28 => fX4_showShelf_104 F 117 1 (nI p) (fun M42 => some M42) F 0 M28) F 0 M20)) = some M' ∧ LC M' (sShelf a p) ∧ LF M M' := by
    intro q hq
    obtain ⟨M5, e1, e2, e3⟩ := cIf (F := F) d2 (by simp only [List.length_append, List.length_cons, List.length_nil]; omega) lit_cc.2.2.1 q
    rw [e1]
    simp only [bV]
    have f5 := f4.tr e3
    have c5 : CC M5 1 a := CL.fr hc fun c q1 q2 => f5 c (by omega) (by omega)
    rw [show fX5_countOn F (1 + 6) (nI p) M5 = _ from cOn (F := F) (by omega) hW c5 (by omega)]
    simp only [bM]
    have eh : ([] : List Int32) ++ sNum p ++ [cc 58] ++ sNum (a (14 + p)) ++ (if a (26 + p) = 1 then [cc 98] else []) ++ (if q = true then [cc 67] else []) = sHead a p := by
      unfold sHead
      have : (if q = true then [cc 67] else []) = (if a 3 = p then [cc 67] else []) := by
        rw [hq]
        by_cases w : a 3 = p
        · rw [if_pos w, if_pos (decide_eq_true w)]
        · rw [if_neg w, if_neg (by simp [w])]
      rw [this, List.nil_append]
    rw [eh] at e2
    have hl5 := sHead_len (a := a) p
    obtain ⟨M6, g1, g2, g3⟩ := cMice (F := F) (fun M28 => fX4_showShelf_104 F 117 1 (nI p) (fun M42 => some M42) F 0 M28) 1 (nI p) hcnt (cntB (a 8) (onC a p)) 0 (by omega) F (by omega) _ M5 e2 (by omega)
    rw [show fX4_showShelf_82 F 117 1 (nI p) (nI (cntB (a 8) (onC a p))) (fun M28 => fX4_showShelf_104 F 117 1 (nI p) (fun M42 => some M42) F 0 M28) F 0 M5 = _ from g1]
    have f6 := f5.tr g3
    obtain ⟨M7, k1, k2, k3⟩ := cLinks (F := F) hW (fun M42 => some M42) (p := p) (by omega) (a 0) 0 (by omega) F (by omega) _ M6 (CL.fr hc fun c q1 q2 => f6 c (by omega) (by omega)) g2 (by simp only [List.length_append, List.length_replicate]; omega)
    rw [show fX4_showShelf_104 F 117 1 (nI p) (fun M42 => some M42) F 0 M6 = _ from k1]
    exact ⟨M7, rfl, k2, f6.tr k3⟩
  by_cases w : a 3 = p
  · rw [if_pos (eq2 w)]
    exact rest true (by rw [decide_eq_true w])
  · rw [if_neg (ne2 (by omega) (by omega) w)]
    exact rest false (by rw [decide_eq_false w])
theorem mTail (hF : 1500 ≤ F) (hW : WF a) {p : Nat} (hp : p < a 0) {M : Mem} (hN : M 120 = rowI a) (h : LM M (sHead a p)) : ∃ M', bindM (fX12_miceAt F (nI p) M) (fun r22 M20 => fX12_writeShelf_89 F (nI p) (fun M28 => fX12_writeShelf_107 F (nI p) (fun M43 => some ((M43 119 16), M43)) F 0 M28) F r22 M20) = some (nI (sShelf a p).length, M') ∧ LM M' (sShelf a p) ∧ LG M M' := by
  have hn := hW.n
  have h8 := hW.m
  have hcnt : cntB (a 8) (onC a p) ≤ 8 := Nat.le_trans (cntB_le _ _) h8
  rw [mOn (by omega) hW hN (by omega)]
  simp only [bM]
  have hl5 := sHead_len (a := a) p
  obtain ⟨M6, g1, g2, g3⟩ := mMice (F := F) (fun M28 => fX12_writeShelf_107 F (nI p) (fun M43 => some ((M43 119 16), M43)) F 0 M28) (nI p) (cntB (a 8) (onC a p)) hcnt F (by omega) _ M h (by omega)
  rw [g1]
  obtain ⟨M7, k1, k2, k3⟩ := mLinks (F := F) hW (fun M43 => some ((M43 119 16), M43)) (p := p) (by omega) (a 0) 0 (by omega) F (by omega) _ M6 (by rw [g3.1 _ (by decide) (by decide)]; exact hN) g2 (by simp only [List.length_append, List.length_replicate]; omega)
  rw [show fX12_writeShelf_107 F (nI p) (fun M43 => some ((M43 119 16), M43)) F 0 M6 = _ from k1]
  have e : sHead a p ++ List.replicate (cntB (a 8) (onC a p)) (cc 109) ++ sLk a p (a 0) 0 = sShelf a p := rfl
  rw [e] at k2
  exact ⟨M7, by rw [k2.1], k2, g3.tr k3⟩
theorem mShow (hF : 1500 ≤ F) (hW : WF a) (hN : N 120 = rowI a) {p : Nat} (hp : p < a 0) : ∃ M', fX12_writeShelf F (nI p) N = some (nI (sShelf a p).length, M') ∧ LM M' (sShelf a p) ∧ LG (up2 N 119 0 0) M' := by
  have hn := hW.n
  have hg := hW.gr p (by omega)
  have hb := hW.bl p (by omega)
  have hct := hW.cat_lt
  unfold fX12_writeShelf
  simp only [lM]
  rw [mShelf hW (n119 hN 0), isW_lt hp (by omega)]
  simp only [bM]
  rw [if_pos trivial]
  have h0 : LM (up2 (up2 N 119 0 0) 119 16 0) [] := ⟨by rw [u2_same, if_pos rfl]; rfl, fun k hk => absurd hk (Nat.not_lt_zero k)⟩
  have f0 : LG (up2 N 119 0 0) (up2 (up2 N 119 0 0) 119 16 0) := ⟨fun c q1 q2 => u2_ne _ q1, fun i q => by rw [u2_same, if_neg q]⟩
  have nn : ∀ {X : Mem}, LG (up2 N 119 0 0) X → X 120 = rowI a := fun hX => by rw [hX.1 _ (by decide) (by decide)]; exact n119 hN 0
  obtain ⟨M1, a1, a2, a3⟩ := mNum (F := F) h0 (by simp) (p := p) (by omega)
  rw [a1]
  simp only [bV]
  have f1 := f0.tr a3
  have hl1 := sNum_len p
  obtain ⟨M2, b1, b2, b3⟩ := mWr1 (F := F) a2 (by simp; omega) 58
  rw [b1]
  simp only [bV]
  have f2 := f1.tr b3
  rw [lit 14, nI_add, inbN (by omega), ckd _ (by omega), nI_cl (by omega), nn f2, rowI_at]
  have hl2 := sNum_len (a (14 + p))
  obtain ⟨M3, c1, c2, c3⟩ := mNum (F := F) b2 (by simp; omega) (p := a (14 + p)) (by omega)
  rw [c1]
  simp only [bV]
  have f3 := f2.tr c3
  rw [lit 26, nI_add, inbN (by omega), ckd _ (by omega), nI_cl (by omega), nn f3, rowI_at, rowI_at]
  by_cases w : a (26 + p) = 1
  · rw [if_pos (eqL (n := 1) w)]
    obtain ⟨M4, d1, d2, d3⟩ := mWr1 (F := F) c2 (by simp; omega) 98
    rw [d1]
    simp only [bV]
    have f4 := f3.tr d3
    rw [nn f4, rowI_at]
    by_cases z : a 3 = p
    · rw [if_pos (eq2 z)]
      obtain ⟨M5, e1, e2, e3⟩ := mWr1 (F := F) d2 (by simp; omega) 67
      rw [e1]
      simp only [bV]
      have f5 := f4.tr e3
      have eh : ([] : List Int32) ++ sNum p ++ [cc 58] ++ sNum (a (14 + p)) ++ [cc 98] ++ [cc 67] = sHead a p := by
        unfold sHead
        rw [if_pos w, if_pos z, List.nil_append]
      rw [eh] at e2
      obtain ⟨M6, g1, g2, g3⟩ := mTail (F := F) hF hW hp (nn f5) e2
      exact ⟨M6, g1, g2, f5.tr g3⟩
    · rw [if_neg (ne2 (by omega) (by omega) z)]
      have eh : ([] : List Int32) ++ sNum p ++ [cc 58] ++ sNum (a (14 + p)) ++ [cc 98] = sHead a p := by
        unfold sHead
        rw [if_pos w, if_neg z, List.nil_append, List.append_nil]
      rw [eh] at d2
      obtain ⟨M6, g1, g2, g3⟩ := mTail (F := F) hF hW hp (nn f4) d2
      exact ⟨M6, g1, g2, f4.tr g3⟩
  · rw [if_neg (neL (n := 1) (by omega) (by decide) w)]
    by_cases z : a 3 = p
    · rw [if_pos (eq2 z)]
      obtain ⟨M5, e1, e2, e3⟩ := mWr1 (F := F) c2 (by simp; omega) 67
      rw [e1]
      simp only [bV]
      have f5 := f3.tr e3
      have eh : ([] : List Int32) ++ sNum p ++ [cc 58] ++ sNum (a (14 + p)) ++ [cc 67] = sHead a p := by
        unfold sHead
        rw [if_neg w, if_pos z, List.nil_append, List.append_nil]
      rw [eh] at e2
      obtain ⟨M6, g1, g2, g3⟩ := mTail (F := F) hF hW hp (nn f5) e2
      exact ⟨M6, g1, g2, f5.tr g3⟩
    · rw [if_neg (ne2 (by omega) (by omega) z)]
      have eh : ([] : List Int32) ++ sNum p ++ [cc 58] ++ sNum (a (14 + p)) = sHead a p := by
        unfold sHead
        rw [if_neg w, if_neg z, List.nil_append, List.append_nil, List.append_nil]
      rw [eh] at c2
      obtain ⟨M6, g1, g2, g3⟩ := mTail (F := F) hF hW hp (nn f3) c2
      exact ⟨M6, g1, g2, f3.tr g3⟩
theorem sShelf_len (hW : WF a) (p : Nat) : (sShelf a p).length ≤ 64 := by
  have hn := hW.n
  have h8 := hW.m
  have hcnt : cntB (a 8) (onC a p) ≤ 8 := Nat.le_trans (cntB_le _ _) h8
  have h1 := sHead_len (a := a) p
  have h2 := sLk_len (a := a) p (a 0) 0
  unfold sShelf
  rw [List.length_append, List.length_append, List.length_replicate]
  omega
theorem ok_writeShelf (hF : 1500 ≤ F) (hR : Rel M) (p : Int32) : OKL (fL_writeShelf F p) (fX12_writeShelf F p) M := by
  obtain ⟨R, n, T, hO, hC, hMd⟩ := id hR
  have hW := hO.w
  have hn := hW.n
  have hc := hC.1
  have hN := hMd.1
  cases w : isW p (R 8 0) with
  | false =>
    refine okl_e0 hR one_ne ?_ (v := 0) ?_
    · unfold fL_writeShelf fX11_writeShelf
      rw [reqF hc w]
      rfl
    · unfold fX12_writeShelf
      simp only [lM]
      rw [mShelf hW (n119 hN 0), w]
      rfl
  | true =>
    obtain ⟨k, hk, rfl⟩ := isW_t w (by omega)
    obtain ⟨M1, i1, i2, i3⟩ := cShow (F := F) hF hW hc hk
    obtain ⟨N1, j1, j2, j3⟩ := mShow (F := F) (N := up2 M1 129 0 (nI (sShelf (R 8) k).length)) hF hW (by rw [u2_ne _ (by decide), i3 _ (by decide) (by decide)]; exact hN) hk
    have e1 : fL_writeShelf F (nI k) M = some (0, up2 M1 129 0 (nI (sShelf (R 8) k).length)) := by
      unfold fL_writeShelf fX11_writeShelf
      rw [reqT hc w]
      simp only [bX]
      rw [i1]
      simp only [bV, bH, lM]
      rw [i2.1]
    refine ⟨0, _, nI (sShelf (R 8) k).length, N1, e1, j1, by rw [j3.2 0 (by decide), u2_same, if_pos rfl], fun _ => by rw [j3.1 _ (by decide) (by decide), u2_ne _ (by decide), u2_same, if_pos rfl], R, _, _, hO.line (sShelf_len hW k) i2.2.2, ?_, hMd.line j2 (fun c q => by rw [j3.1 c (by omega) (by omega), u2_ne _ (by omega), u2_ne _ (by omega), i3 c (by omega) (by omega)]) (fun i q1 q2 => by rw [j3.2 i q2, u2_same, if_neg q1, u2_ne _ (by decide), i3 _ (by decide) (by decide)])⟩
    refine (hC.line i2 (fun c q1 q2 q3 => i3 c q2 q3)).fr fun c q1 q2 q3 q4 q5 => ?_
    rw [j3.1 c (by omega) (by omega), u2_ne _ (by omega), u2_ne _ (by omega)]
end
