section
variable {F : Nat} {a : Nat → Nat} {M : Mem}
theorem sumF_cg {n : Nat} {f g : Nat → Nat} (h : ∀ k, k < n → f k = g k) : sumF n f = sumF n g := by
  induction n with
  | zero => rfl
  | succ n ih => unfold sumF; rw [ih (fun k hk => h k (by omega)), h n (by omega)]
theorem WF.of (h : WF a) {a' : Nat → Nat} (hk : ∀ k, (k < 3 ∨ k = 5 ∨ (26 ≤ k ∧ k < 192) ∨ 216 ≤ k) → a' k = a k) (h6 : a' 6 < 1024) (h8 : a' 8 ≤ 8) (h3 : a' 3 < a 0 ∨ a' 3 = 0) (h4 : a' 4 < a 2 ∨ a' 4 = 0) (hg : ∀ k, k < 12 → a' (14 + k) ≤ 99) (hs : ∀ k, k < a' 8 → a' (192 + 3 * k) < a 0) (hh : ∀ k, k < a' 8 → a' (194 + 3 * k) ≤ 2) : WF a' := by
  have e0 := hk 0 (by omega)
  have e1 := hk 1 (by omega)
  have e2 := hk 2 (by omega)
  have t0 := h.t
  have el : ∀ i j, i < 12 → j < 12 → lk a' i j = lk a i j := fun i j hi hj => hk _ (by omega)
  refine ⟨by rw [e0]; exact h.n, by rw [e1]; exact h.p, by rw [e2]; exact h.t, h8, by rw [hk 5 (by omega)]; exact h.rate, h6, by rw [e0]; exact h3, by rw [e2]; exact h4, hg, fun k q => by rw [hk _ (by omega)]; exact h.bl k q, fun k q r => by rw [hk _ (by omega)]; exact h.bl0 k q (by rw [← e0]; exact r), fun i j hi hj => by rw [el i j hi hj]; exact h.l1 i j hi hj, fun i j hi hj => by rw [el i j hi hj, el j i hj hi]; exact h.ls i j hi hj, fun i j hi hj q => by rw [e0]; exact h.ln i j hi hj (by rw [← el i j hi hj]; exact q), ?_, fun k q => by rw [e0, hk _ (by omega)]; exact h.st k (by omega), fun k q => by rw [e0]; exact hs k q, hh, fun k q => by rw [hk k (by omega)]; exact h.z k q⟩
  rw [e1, ← h.sum]
  exact sumF_cg fun k q => hk _ (by omega)
def sWalks (a : Nat → Nat) : Nat → Nat := if a 2 = 0 then a else if sWalked a = tgt a then updN (updN a 3 (sWalked a)) 4 ((a 4 + 1) % a 2) else updN a 3 (sWalked a)
def sRm (p : Nat) (a : Nat → Nat) : Nat → Nat := fun k => if k = 8 then a 8 - 1 else if 192 + 3 * p ≤ k ∧ k < 189 + 3 * a 8 then a (k + 3) else if 189 + 3 * a 8 ≤ k ∧ k < 192 + 3 * a 8 then 0 else a k
def sCatch : Nat → Nat → Nat → (Nat → Nat) → Nat × (Nat → Nat)
  | 0, _, c, a => (c, a)
  | m + 1, v, c, a => if a (192 + 3 * v) = a 3 then sCatch m v (c + 1) (sRm v (updN a 11 (a 11 + a (193 + 3 * v)))) else sCatch m (v + 1) c a
def sCatches (a : Nat → Nat) : Nat × (Nat → Nat) := if a (26 + a 3) = 1 then (0, a) else ((sCatch (a 8) 0 0 a).1, updN (sCatch (a 8) 0 0 a).2 9 ((sCatch (a 8) 0 0 a).2 9 + (sCatch (a 8) 0 0 a).1))
def sRich (a : Nat → Nat) (q : Nat) : Nat → Nat → Nat → Nat
  | 0, _, r => r
  | m + 1, v, r => if lk a q v = 1 then (if r = q then sRich a q m (v + 1) v else if a (14 + v) ≤ a (14 + r) then sRich a q m (v + 1) r else sRich a q m (v + 1) v) else sRich a q m (v + 1) r
def sEat (v s : Nat) (a : Nat → Nat) : Nat → Nat := updN (updN (updN (updN a (14 + s) (a (14 + s) - 1)) (193 + 3 * v) (a (193 + 3 * v) + 1)) 12 (a 12 + 1)) (194 + 3 * v) 0
def sHun (v : Nat) (a : Nat → Nat) : Nat → Nat := updN a (194 + 3 * v) (a (194 + 3 * v) + 1)
def sMov (v : Nat) (a : Nat → Nat) : Nat → Nat := updN a (192 + 3 * v) (sRich a (a (192 + 3 * v)) (a 0) 0 (a (192 + 3 * v)))
def sGo (v : Nat) (a : Nat → Nat) : Nat → Nat := updN (sRm v a) 10 (a 10 + 1)
def sVis : Nat → Nat → (Nat → Nat) → (Nat → Nat)
  | 0, _, a => a
  | m + 1, v, a => if a (14 + a (192 + 3 * v)) = 0 then (if a (194 + 3 * v) = 2 then sVis m v (sGo v a) else sVis m (v + 1) (sMov v (sHun v a))) else sVis m (v + 1) (sEat v (a (192 + 3 * v)) a)
def sSeed (a : Nat → Nat) : Nat := (a 6 * 109 + 89) % 1024
def sNew (a : Nat → Nat) : Nat → Nat := updN (updN (updN (updN a (192 + 3 * a 8) (a 6 / 16 % a 0)) (193 + 3 * a 8) 0) (194 + 3 * a 8) 0) 8 (a 8 + 1)
def sApp (a : Nat → Nat) : Nat → Nat := if a 5 ≤ sSeed a % 16 ∨ a 0 = 0 ∨ a 8 = 8 then updN a 6 (sSeed a) else sNew (updN a 6 (sSeed a))
def sOne (a : Nat → Nat) : Nat × (Nat → Nat) := ((sCatches (sWalks (updN a 7 (a 7 + 1)))).1, sApp (sVis ((sCatches (sWalks (updN a 7 (a 7 + 1)))).2 8) 0 (sCatches (sWalks (updN a 7 (a 7 + 1)))).2))
def sPass : Nat → (Nat → Nat) → Nat × (Nat → Nat)
  | 0, a => (0, a)
  | t + 1, a => ((sOne a).1 + (sPass t (sOne a).2).1, (sPass t (sOne a).2).2)
theorem WF.set (h : WF a) {i : Nat} (x : Nat) (hi : i = 7 ∨ (9 ≤ i ∧ i ≤ 13) ∨ (i = 6 ∧ x < 1024) ∨ (192 ≤ i ∧ i < 216 ∧ (∀ k, k < a 8 → 192 + 3 * k = i → x < a 0) ∧ (∀ k, k < a 8 → 194 + 3 * k = i → x ≤ 2)) ∨ (14 ≤ i ∧ i < 26 ∧ x ≤ 99)) : WF (updN a i x) := by
  have h6 := h.seed
  have h8 := h.m
  refine h.of (fun k q => updN_ne a (by omega)) ?_ ?_ ?_ ?_ (fun k q => ?_) (fun k q => ?_) (fun k q => ?_)
  · rw [updN_at]; split <;> omega
  · rw [updN_ne a (by omega)]; exact h8
  · rw [updN_ne a (by omega)]; exact h.cat
  · rw [updN_ne a (by omega)]; exact h.goal
  · have := h.gr k q
    rw [updN_at]; split <;> omega
  · rw [updN_ne a (by omega)] at q
    have := h.ms k q
    rw [updN_at]
    split
    · rcases hi with w | w | w | w | w
      · omega
      · omega
      · omega
      · exact w.2.2.1 k q ‹_›
      · omega
    · exact this
  · rw [updN_ne a (by omega)] at q
    have := h.mh k q
    rw [updN_at]
    split
    · rcases hi with w | w | w | w | w
      · omega
      · omega
      · omega
      · exact w.2.2.2 k q ‹_›
      · omega
    · exact this
theorem WF.walks (h : WF a) : WF (sWalks a) := by
  unfold sWalks
  split
  · exact h
  · rename_i h2
    have hc : sWalked a < a 0 ∨ sWalked a = 0 := by
      have := sWalked_lt h
      have := h.cat
      omega
    have hm := mod_lt' (x := a 4 + 1) (t := a 2) (by omega)
    have h8 := h.m
    split
    · refine h.of (fun k q => by rw [updN_ne _ (by omega), updN_ne _ (by omega)]) ?_ ?_ ?_ ?_ (fun k q => ?_) (fun k q => ?_) (fun k q => ?_)
      · exact h.seed
      · exact h8
      · exact hc
      · exact Or.inl hm
      · rw [updN_ne _ (by omega), updN_ne _ (by omega)]; exact h.gr k q
      · rw [updN_ne _ (by omega), updN_ne _ (by omega)]; exact h.ms k q
      · rw [updN_ne _ (by omega), updN_ne _ (by omega)]; exact h.mh k q
    · refine h.of (fun k q => by rw [updN_ne _ (by omega)]) ?_ ?_ ?_ ?_ (fun k q => ?_) (fun k q => ?_) (fun k q => ?_)
      · exact h.seed
      · exact h8
      · exact hc
      · exact h.goal
      · rw [updN_ne _ (by omega)]; exact h.gr k q
      · rw [updN_ne _ (by omega)]; exact h.ms k q
      · rw [updN_ne _ (by omega)]; exact h.mh k q
theorem sRm_lo (v : Nat) (a : Nat → Nat) {k : Nat} (h : k < 192) (h8 : k ≠ 8) (hm : 1 ≤ a 8) : sRm v a k = a k := by
  unfold sRm
  rw [if_neg h8, if_neg (by omega), if_neg (by omega)]
theorem sRm_8 (v : Nat) (a : Nat → Nat) : sRm v a 8 = a 8 - 1 := by
  unfold sRm
  rw [if_pos rfl]
theorem sRm_m {v : Nat} {a : Nat → Nat} {k j : Nat} (hj : j < 3) (hk : k < a 8 - 1) : sRm v a (192 + j + 3 * k) = if k < v then a (192 + j + 3 * k) else a (192 + j + 3 * (k + 1)) := by
  unfold sRm
  rw [if_neg (by omega)]
  by_cases q : k < v
  · rw [if_neg (by omega), if_neg (by omega), if_pos q]
  · rw [if_pos (by omega), if_neg q]
    congr 1
theorem WF.rm (h : WF a) {v : Nat} (hv : v < a 8) : WF (sRm v a) := by
  have h8 := h.m
  have e8 := sRm_8 v a
  have lo : ∀ k, k < 192 → k ≠ 8 → sRm v a k = a k := fun k q q8 => sRm_lo v a q q8 (by omega)
  refine h.of (fun k q => ?_) ?_ ?_ ?_ ?_ (fun k q => ?_) (fun k q => ?_) (fun k q => ?_)
  · by_cases w : k < 192
    · exact lo k w (by omega)
    · unfold sRm
      rw [if_neg (by omega), if_neg (by omega), if_neg (by omega)]
  · rw [lo 6 (by omega) (by omega)]; exact h.seed
  · omega
  · rw [lo 3 (by omega) (by omega)]; exact h.cat
  · rw [lo 4 (by omega) (by omega)]; exact h.goal
  · rw [lo _ (by omega) (by omega)]; exact h.gr k q
  · rw [e8] at q
    have z := sRm_m (v := v) (a := a) (j := 0) (by omega) q
    rw [show 192 + 3 * k = 192 + 0 + 3 * k from rfl, z]
    split
    · exact h.ms k (by omega)
    · exact h.ms (k + 1) (by omega)
  · rw [e8] at q
    have z := sRm_m (v := v) (a := a) (j := 2) (by omega) q
    rw [show 194 + 3 * k = 192 + 2 + 3 * k from rfl, z]
    split
    · exact h.mh k (by omega)
    · exact h.mh (k + 1) (by omega)
theorem WF.catch (m : Nat) : ∀ (v c : Nat) (a : Nat → Nat), WF a → v + m = a 8 → WF (sCatch m v c a).2 := by
  induction m with
  | zero => intro v c a h _; exact h
  | succ m ih =>
    intro v c a h hv
    unfold sCatch
    split
    · have h1 := h.set (i := 11) (a 11 + a (193 + 3 * v)) (by omega)
      refine ih v (c + 1) _ (h1.rm (by show v < a 8; omega)) ?_
      rw [sRm_8]
      show v + m = a 8 - 1
      omega
    · exact ih (v + 1) c a h (by omega)
theorem WF.catches (h : WF a) : WF (sCatches a).2 := by
  unfold sCatches
  split
  · exact h
  · exact (WF.catch (a 8) 0 0 a h (by omega)).set _ (by omega)
theorem sRich_12 (h : WF a) {q : Nat} (hq : q < 12) (m : Nat) : ∀ (v r : Nat), v + m = a 0 → r < a 0 → sRich a q m v r < a 0 := by
  induction m with
  | zero => intro v r _ hr; exact hr
  | succ m ih =>
    intro v r hv hr
    unfold sRich
    split
    · split
      · exact ih (v + 1) v (by omega) (by omega)
      · split
        · exact ih (v + 1) r (by omega) hr
        · exact ih (v + 1) v (by omega) (by omega)
    · exact ih (v + 1) r (by omega) hr
theorem WF.eat (h : WF a) {v : Nat} (hv : v < a 8) : WF (sEat v (a (192 + 3 * v)) a) := by
  have h8 := h.m
  have hs := h.ms v hv
  have hn := h.n
  have hg := h.gr (a (192 + 3 * v)) (by omega)
  unfold sEat
  refine WF.set (WF.set (WF.set (WF.set h (i := 14 + a (192 + 3 * v)) _ (by omega)) (i := 193 + 3 * v) _ ?_) (i := 12) _ (by omega)) (i := 194 + 3 * v) _ ?_
  · refine Or.inr (Or.inr (Or.inr (Or.inl ⟨by omega, by omega, fun k q e => by omega, fun k q e => by omega⟩)))
  · refine Or.inr (Or.inr (Or.inr (Or.inl ⟨by omega, by omega, fun k q e => by omega, fun k q e => by omega⟩)))
theorem WF.hun (h : WF a) {v : Nat} (hv : v < a 8) (hh : a (194 + 3 * v) ≠ 2) : WF (sHun v a) := by
  have h8 := h.m
  have hs := h.mh v hv
  refine WF.set h (i := 194 + 3 * v) _ (Or.inr (Or.inr (Or.inr (Or.inl ⟨by omega, by omega, fun k q e => by omega, fun k q e => by omega⟩))))
theorem WF.mov (h : WF a) {v : Nat} (hv : v < a 8) : WF (sMov v a) := by
  have h8 := h.m
  have hs := h.ms v hv
  have hn := h.n
  have hr := sRich_12 h (q := a (192 + 3 * v)) (by omega) (a 0) 0 (a (192 + 3 * v)) (by omega) hs
  refine WF.set h (i := 192 + 3 * v) _ (Or.inr (Or.inr (Or.inr (Or.inl ⟨by omega, by omega, fun k q e => hr, fun k q e => by omega⟩))))
theorem WF.go (h : WF a) {v : Nat} (hv : v < a 8) : WF (sGo v a) := (h.rm hv).set _ (by omega)
theorem WF.vis (m : Nat) : ∀ (v : Nat) (a : Nat → Nat), WF a → v + m = a 8 → WF (sVis m v a) := by
  induction m with
  | zero => intro v a h _; exact h
  | succ m ih =>
    intro v a h hv
    have h8 := h.m
    unfold sVis
    split
    · split
      · refine ih v _ (h.go (by omega)) ?_
        unfold sGo
        rw [updN_ne _ (by omega), sRm_8]
        omega
      · have hh := h.hun (v := v) (by omega) ‹_›
        refine ih (v + 1) _ (hh.mov ?_) ?_
        · unfold sHun; rw [updN_ne _ (by omega)]; omega
        · unfold sMov sHun; rw [updN_ne _ (by omega), updN_ne _ (by omega)]; omega
    · refine ih (v + 1) _ (h.eat (by omega)) ?_
      have hs := h.ms v (by omega)
      have hn := h.n
      unfold sEat
      rw [updN_ne _ (by omega), updN_ne _ (by omega), updN_ne _ (by omega), updN_ne _ (by omega)]
      omega
theorem sSeed_lt (a : Nat → Nat) : sSeed a < 1024 := Nat.mod_lt _ (by decide)
theorem WF.new (h : WF a) (h0 : a 0 ≠ 0) (h8 : a 8 ≠ 8) : WF (sNew a) := by
  have w8 := h.m
  have hm := mod_lt' (x := a 6 / 16) (t := a 0) (by omega)
  have hs : ∀ k, sNew a k = if k = 8 then a 8 + 1 else if k = 194 + 3 * a 8 then 0 else if k = 193 + 3 * a 8 then 0 else if k = 192 + 3 * a 8 then a 6 / 16 % a 0 else a k := fun k => rfl
  refine h.of (fun k q => ?_) ?_ ?_ ?_ ?_ (fun k q => ?_) (fun k q => ?_) (fun k q => ?_)
  · rw [hs, if_neg (by omega), if_neg (by omega), if_neg (by omega), if_neg (by omega)]
  · rw [hs, if_neg (by omega), if_neg (by omega), if_neg (by omega), if_neg (by omega)]; exact h.seed
  · rw [hs, if_pos rfl]; omega
  · rw [hs, if_neg (by omega), if_neg (by omega), if_neg (by omega), if_neg (by omega)]; exact h.cat
  · rw [hs, if_neg (by omega), if_neg (by omega), if_neg (by omega), if_neg (by omega)]; exact h.goal
  · rw [hs, if_neg (by omega), if_neg (by omega), if_neg (by omega), if_neg (by omega)]; exact h.gr k q
  · rw [hs, if_pos rfl] at q
    rw [hs, if_neg (by omega), if_neg (by omega), if_neg (by omega)]
    split
    · exact hm
    · exact h.ms k (by omega)
  · rw [hs, if_pos rfl] at q
    rw [hs, if_neg (by omega)]
    split
    · omega
    · rw [if_neg (by omega), if_neg (by omega)]
      exact h.mh k (by omega)
theorem WF.app (h : WF a) : WF (sApp a) := by
  have h1 := h.set (i := 6) (sSeed a) (by have := sSeed_lt a; omega)
  unfold sApp
  split
  · exact h1
  · rename_i q
    exact h1.new (fun z => q (Or.inr (Or.inl z))) (fun z => q (Or.inr (Or.inr z)))
theorem WF.one (h : WF a) : WF (sOne a).2 := by
  have h1 := ((h.set (i := 7) (a 7 + 1) (by omega)).walks).catches
  exact (WF.vis _ 0 _ h1 (by omega)).app
theorem WF.pass (t : Nat) : ∀ a, WF a → WF (sPass t a).2 := by
  induction t with
  | zero => intro a h; exact h
  | succ t ih => intro a h; exact ih _ h.one
end
section
variable {F : Nat} {a : Nat → Nat} {M : Mem}
theorem rm33 (kx : Mem → Option Mem) (e : Nat) (he : e ≤ 213) (m : Nat) : ∀ (v : Nat), v + m = e → ∀ (n : Nat), m < n → ∀ a, fX12_removesMouse_33 F (nI e) kx n (nI v) (mw M a) = kx (mw M (fun k => if v ≤ k ∧ k < e then a (k + 3) else a k)) := by
  induction m with
  | zero =>
    intro v hv n hn a
    obtain ⟨n', rfl⟩ : ∃ n', n = n' + 1 := ⟨n - 1, by omega⟩
    rw [fX12_removesMouse_33, if_pos (le2 (by omega) (by omega) (by omega))]
    congr 2
    funext k
    rw [if_neg (by omega)]
  | succ m ih =>
    intro v hv n hn a
    obtain ⟨n', rfl⟩ : ∃ n', n = n' + 1 := ⟨n - 1, by omega⟩
    rw [fX12_removesMouse_33, if_neg (nle2 (by omega) (by omega) (by omega)), lit 3, nI_add, inbN (by omega), ckd _ (by omega), inbN (by omega), ckd _ (by omega), nI_cl (by omega), nI_cl (by omega), mw_120, rowI_at, mw_up]
    simp only [lM]
    rw [nI_1, ih (v + 1) (by omega) n' (by omega)]
    congr 2
    funext k
    by_cases q : v + 1 ≤ k ∧ k < e
    · rw [if_pos q, if_pos (by omega), updN_ne _ (by omega)]
    · rw [if_neg q]
      by_cases q2 : k = v
      · rw [if_pos (by omega), q2, updN_same]
      · rw [if_neg (by omega), updN_ne _ q2]
theorem nle0 {x : Nat} (hx : x < 2 ^ 31) (h : ¬ x = 0) : ¬ nI x ≤ 0 := nleR hx (n := 0) (by decide) (by omega)
theorem mw_up0 (M : Mem) (a : Nat → Nat) (i : Nat) : up2 (mw M a) 120 i 0 = mw M (updN a i 0) := mw_up M a i 0
theorem mRm (hF : 30 ≤ F) (h8 : a 8 ≤ 8) {p : Nat} (hp : p < a 8) : fX12_removesMouse F (nI p) (mw M a) = some (mw M (sRm p a)) := by
  unfold fX12_removesMouse
  rw [mw_120, rowI_at, lit 1, nI_sub (by omega), mw_up]
  simp only [lM]
  rw [mw_120, rowI_at, updN_same, lit 3, lit 192, nI_mul, nI_add, nI_mul, nI_add, rm33 _ _ (by omega) (3 * (a 8 - 1) - 3 * p) (192 + 3 * p) (by omega) F (by omega)]
  obtain ⟨f, rfl⟩ : ∃ f, F = f + 4 := ⟨F - 4, by omega⟩
  have e1 : ¬ (3 : Int32) ≤ 0 := by decide
  have e2 : ¬ (3 : Int32) ≤ 0 + 1 := by decide
  have e3 : ¬ (3 : Int32) ≤ 0 + 1 + 1 := by decide
  have e4 : (3 : Int32) ≤ 0 + 1 + 1 + 1 := by decide
  rw [fX12_removesMouse_60, if_neg e1, lit 0, nI_add, inbN (by omega), ckd _ (by omega), nI_cl (by omega), mw_up]
  simp only [lM]
  rw [fX12_removesMouse_60, if_neg (by decide), lit 1, nI_add, nI_add, inbN (by omega), ckd _ (by omega), nI_cl (by omega), mw_up0]
  simp only [lM]
  rw [fX12_removesMouse_60, if_neg (by decide), nI_add, nI_add, inbN (by omega), ckd _ (by omega), nI_cl (by omega), mw_up0]
  simp only [lM]
  rw [fX12_removesMouse_60, if_pos (by decide)]
  congr 2
  funext k
  unfold sRm
  simp only [updN_at]
  by_cases q8 : k = 8
  · rw [if_pos q8, if_neg (by omega), if_neg (by omega), if_neg (by omega), if_neg (by omega), if_pos q8]
  · rw [if_neg q8, if_neg q8]
    by_cases q1 : 192 + 3 * p ≤ k ∧ k < 189 + 3 * a 8
    · rw [if_pos q1, if_neg (by omega), if_neg (by omega), if_neg (by omega), if_pos (by omega), if_neg (by omega)]
    · rw [if_neg q1]
      by_cases q2 : 189 + 3 * a 8 ≤ k ∧ k < 192 + 3 * a 8
      · rw [if_pos q2]
        by_cases w2 : k = 192 + 3 * (a 8 - 1) + (0 + 1 + 1)
        · rw [if_pos w2]
        · rw [if_neg w2]
          by_cases w1 : k = 192 + 3 * (a 8 - 1) + (0 + 1)
          · rw [if_pos w1]
          · rw [if_neg w1, if_pos (by omega)]
      · rw [if_neg q2, if_neg (by omega), if_neg (by omega), if_neg (by omega), if_neg (by omega)]
theorem mMouse {v j : Nat} (hv : v < 8) (hj : j < 3) : fX12_mouse F (nI v) (nI j) (mw M a) = some (nI (a (192 + j + 3 * v)), mw M a) := by
  unfold fX12_mouse
  rw [lit 3, lit 192, nI_mul, nI_add, nI_add, inbN (by omega), ckd _ (by omega), nI_cl (by omega), mw_120, rowI_at, show 192 + 3 * v + j = 192 + j + 3 * v by omega]
theorem mMouse0 {v : Nat} (hv : v < 8) : fX12_mouse F (nI v) 0 (mw M a) = some (nI (a (192 + 3 * v)), mw M a) := mMouse (j := 0) hv (by omega)
theorem mMouse1 {v : Nat} (hv : v < 8) : fX12_mouse F (nI v) 1 (mw M a) = some (nI (a (193 + 3 * v)), mw M a) := mMouse (j := 1) hv (by omega)
theorem mMouse2 {v : Nat} (hv : v < 8) : fX12_mouse F (nI v) 2 (mw M a) = some (nI (a (194 + 3 * v)), mw M a) := mMouse (j := 2) hv (by omega)
theorem mCatch (hF : 30 ≤ F) (kx : Int32 → Mem → Option (Int32 × Mem)) (m : Nat) : ∀ (v c : Nat) (a : Nat → Nat), WF a → v + m = a 8 → ∀ (n : Nat), m < n → fX12_catches_24 F kx n (nI c) (nI v) (mw M a) = kx (nI (sCatch m v c a).1) (mw M (sCatch m v c a).2) := by
  induction m with
  | zero =>
    intro v c a h hv n hn
    have h8 := h.m
    obtain ⟨n', rfl⟩ : ∃ n', n = n' + 1 := ⟨n - 1, by omega⟩
    rw [fX12_catches_24, mw_120, rowI_at, if_pos (le2 (by omega) (by omega) (by omega))]
    rfl
  | succ m ih =>
    intro v c a h hv n hn
    have h8 := h.m
    have hs := h.ms v (by omega)
    have hn0 := h.n
    have hc := h.cat_lt
    obtain ⟨n', rfl⟩ : ∃ n', n = n' + 1 := ⟨n - 1, by omega⟩
    rw [fX12_catches_24, mw_120, rowI_at, if_neg (nle2 (by omega) (by omega) (by omega)), mMouse0 (by omega)]
    simp only [bM]
    rw [mw_120, rowI_at]
    unfold sCatch
    by_cases q : a (192 + 3 * v) = a 3
    · rw [if_pos (eq2 q), if_pos q, mMouse1 (by omega)]
      simp only [bM, lM]
      rw [rowI_at, nI_add, mw_up, mRm hF (by show a 8 ≤ 8; omega) (by show v < a 8; omega)]
      simp only [bV]
      rw [nI_1]
      refine ih v (c + 1) _ ((h.set (i := 11) _ (by omega)).rm (by show v < a 8; omega)) ?_ n' (by omega)
      rw [sRm_8]
      show v + m = a 8 - 1
      omega
    · rw [if_neg (ne2 (by omega) (by omega) q), if_neg q]
      simp only [lM]
      rw [nI_1]
      exact ih (v + 1) c a h (by omega) n' (by omega)
theorem mCatches (h : WF a) (hF : 30 ≤ F) : fX12_catches F (mw M a) = some (nI (sCatches a).1, mw M (sCatches a).2) := by
  have hc := h.cat_lt
  have hb := h.bl (a 3) (by omega)
  have h8 := h.m
  unfold fX12_catches sCatches
  rw [mw_120, rowI_at, lit 26, nI_add, inbN (by omega), ckd _ (by omega), nI_cl (by omega), rowI_at]
  by_cases q : a (26 + a 3) = 1
  · rw [if_pos (eqL q), if_pos q]
    rfl
  · rw [if_neg (show ¬ nI (a (26 + a 3)) = 1 from neL (by omega) (by decide) q), if_neg q, show (0 : Int32) = nI 0 from rfl, mCatch hF _ (a 8) 0 0 a h (by omega) F (by omega)]
    simp only [lM]
    rw [mw_120, rowI_at, nI_add, mw_up]
theorem mRich (h : WF a) {q : Nat} (hq : q < 12) (kx : Int32 → Mem → Option (Int32 × Mem)) (m : Nat) : ∀ (v r : Nat), v + m = a 0 → r < 12 → ∀ (n : Nat), m < n → fX12_richest_4 F (nI q) kx n (nI r) (nI v) (mw M a) = kx (nI (sRich a q m v r)) (mw M a) := by
  have hn0 := h.n
  induction m with
  | zero =>
    intro v r hv hr n hn
    obtain ⟨n', rfl⟩ : ∃ n', n = n' + 1 := ⟨n - 1, by omega⟩
    rw [fX12_richest_4, mw_120, rowI_at, if_pos (le2 (by omega) (by omega) (by omega))]
    rfl
  | succ m ih =>
    intro v r hv hr n hn
    have g1 := h.gr v (by omega)
    have g2 := h.gr r hr
    obtain ⟨n', rfl⟩ : ∃ n', n = n' + 1 := ⟨n - 1, by omega⟩
    rw [fX12_richest_4, mw_120, rowI_at, if_neg (nle2 (by omega) (by omega) (by omega)), isLinked_m (mw_120 M a) hq (by omega) (h.l1 q v hq (by omega))]
    simp only [bM, lM]
    rw [nI_1]
    unfold sRich
    by_cases w : lk a q v = 1
    · rw [if_pos (decide_eq_true w), if_pos w]
      by_cases w2 : r = q
      · rw [if_pos (eq2 w2), if_pos w2]
        exact ih (v + 1) v (by omega) (by omega) n' (by omega)
      · rw [if_neg (ne2 (by omega) (by omega) w2), if_neg w2, lit 14, nI_add, nI_add, inbN (by omega), ckd _ (by omega), inbN (by omega), ckd _ (by omega), nI_cl (by omega), nI_cl (by omega), mw_120, rowI_at, rowI_at]
        by_cases w3 : a (14 + v) ≤ a (14 + r)
        · rw [if_pos (le2 (by omega) (by omega) w3), if_pos w3]
          exact ih (v + 1) r (by omega) hr n' (by omega)
        · rw [if_neg (nle2 (by omega) (by omega) (by omega)), if_neg w3]
          exact ih (v + 1) v (by omega) (by omega) n' (by omega)
    · rw [if_neg (by simp [w]), if_neg w]
      exact ih (v + 1) r (by omega) hr n' (by omega)
theorem mRichest (h : WF a) (hF : 30 ≤ F) {q : Nat} (hq : q < 12) : fX12_richest F (nI q) (mw M a) = some (nI (sRich a q (a 0) 0 q), mw M a) := by
  have hn0 := h.n
  unfold fX12_richest
  rw [show (0 : Int32) = nI 0 from rfl, mRich h hq _ (a 0) 0 q (by omega) hq F (by omega)]
theorem sRm_hun {v x : Nat} (hv : v < a 8) : sRm v (updN a (194 + 3 * v) x) = sRm v a := by
  funext k
  unfold sRm
  have e8 : updN a (194 + 3 * v) x 8 = a 8 := updN_ne a (by omega)
  rw [e8]
  by_cases q8 : k = 8
  · rw [if_pos q8, if_pos q8]
  · rw [if_neg q8, if_neg q8]
    by_cases q1 : 192 + 3 * v ≤ k ∧ k < 189 + 3 * a 8
    · rw [if_pos q1, if_pos q1, updN_ne a (by omega)]
    · rw [if_neg q1, if_neg q1]
      by_cases q2 : 189 + 3 * a 8 ≤ k ∧ k < 192 + 3 * a 8
      · rw [if_pos q2, if_pos q2]
      · rw [if_neg q2, if_neg q2, updN_ne a (by omega)]
theorem mStays (h : WF a) (hF : 30 ≤ F) {v : Nat} (hv : v < a 8) : fX12_stays F (nI v) (mw M a) = if a (14 + a (192 + 3 * v)) = 0 then (if a (194 + 3 * v) = 2 then some (false, mw M (sGo v a)) else some (true, mw M (sMov v (sHun v a)))) else some (true, mw M (sEat v (a (192 + 3 * v)) a)) := by
  have h8 := h.m
  have hn0 := h.n
  have hs := h.ms v hv
  have hg := h.gr (a (192 + 3 * v)) (by omega)
  have hh := h.mh v hv
  unfold fX12_stays
  rw [lit 3, lit 192, nI_mul, nI_add]
  simp only [lM]
  rw [inbN (by omega), ckd _ (by omega), mw_120, nI_cl (by omega), rowI_at, lit 14, nI_add, inbN (by omega), ckd _ (by omega), nI_cl (by omega), rowI_at]
  by_cases q : a (14 + a (192 + 3 * v)) = 0
  · rw [if_pos (show nI (a (14 + a (192 + 3 * v))) ≤ 0 by rw [q]; decide), if_pos q, lit 2, nI_add, inbN (by omega), ckd _ (by omega), ckd _ (by omega), nI_cl (by omega), rowI_at, lit 1, nI_add, mw_up, ckd _ (by omega), mw_120, rowI_at, show 192 + 3 * v + 2 = 194 + 3 * v by omega, updN_same]
    by_cases q2 : a (194 + 3 * v) = 2
    · rw [if_pos (eq2 (by omega)), if_pos q2, mRm hF (by rw [updN_ne _ (by omega)]; omega) (by rw [updN_ne _ (by omega)]; omega)]
      simp only [bV]
      rw [mw_120, rowI_at, nI_add, mw_up, sRm_hun hv, sRm_lo _ _ (by omega) (by omega) (by omega)]
      rfl
    · rw [if_neg (ne2 (by omega) (by omega) (by omega)), if_neg q2, ckd _ (by omega), rowI_at, updN_ne _ (by omega)]
      have hw := h.hun hv q2
      have z := mRichest (M := M) hw hF (q := a (192 + 3 * v)) (by omega)
      unfold sHun at z
      rw [z]
      simp only [bM]
      rw [ckd _ (by omega), mw_up]
      unfold sMov sHun
      rw [updN_ne _ (show 192 + 3 * v ≠ 194 + 3 * v by omega)]
  · rw [if_neg (show ¬ nI (a (14 + a (192 + 3 * v))) ≤ 0 from nle0 (by omega) q), if_neg q, ckd _ (by omega), ckd _ (by omega), ckd _ (by omega), lit 1, nI_sub (by omega), mw_up, nI_add, inbN (by omega), ckd _ (by omega), ckd _ (by omega), nI_cl (by omega), mw_120, rowI_at, nI_add, mw_up, mw_120, rowI_at, nI_add, mw_up, lit 2, nI_add, inbN (by omega), ckd _ (by omega), nI_cl (by omega)]
    have e0 : ∀ M a, up2 (mw M a) 120 (192 + 3 * v + 2) (OfNat.ofNat 0) = mw M (updN a (192 + 3 * v + 2) 0) := fun M a => mw_up M a _ 0
    rw [show (0 : Int32) = OfNat.ofNat 0 from rfl, e0]
    unfold sEat
    rw [updN_ne _ (show 192 + 3 * v + 1 ≠ 14 + a (192 + 3 * v) by omega), updN_ne _ (show 12 ≠ 192 + 3 * v + 1 by omega), updN_ne _ (show 12 ≠ 14 + a (192 + 3 * v) by omega), show 192 + 3 * v + 1 = 193 + 3 * v by omega, show 192 + 3 * v + 2 = 194 + 3 * v by omega]
theorem mVis (hF : 30 ≤ F) (q1 : Int32) (kx : Mem → Option (Int32 × Mem)) (m : Nat) : ∀ (v : Nat) (a : Nat → Nat), WF a → v + m = a 8 → ∀ (n : Nat), m < n → fX12_passesOne_22 F q1 kx n (nI v) (mw M a) = kx (mw M (sVis m v a)) := by
  induction m with
  | zero =>
    intro v a h hv n hn
    have h8 := h.m
    obtain ⟨n', rfl⟩ : ∃ n', n = n' + 1 := ⟨n - 1, by omega⟩
    rw [fX12_passesOne_22, mw_120, rowI_at, if_pos (le2 (by omega) (by omega) (by omega))]
    rfl
  | succ m ih =>
    intro v a h hv n hn
    have h8 := h.m
    have hs := h.ms v (by omega)
    have hn0 := h.n
    obtain ⟨n', rfl⟩ : ∃ n', n = n' + 1 := ⟨n - 1, by omega⟩
    rw [fX12_passesOne_22, mw_120, rowI_at, if_neg (nle2 (by omega) (by omega) (by omega)), mStays h hF (by omega)]
    unfold sVis
    by_cases q : a (14 + a (192 + 3 * v)) = 0
    · rw [if_pos q, if_pos q]
      by_cases q2 : a (194 + 3 * v) = 2
      · rw [if_pos q2, if_pos q2]
        simp only [bM, lM]
        rw [if_neg (by decide), show nI v + 0 = nI v from Int32.add_zero _]
        refine ih v _ (h.go (by omega)) ?_ n' (by omega)
        unfold sGo
        rw [updN_ne _ (by omega), sRm_8]
        omega
      · rw [if_neg q2, if_neg q2]
        simp only [bM, lM]
        rw [if_pos trivial, nI_1]
        refine ih (v + 1) _ ((h.hun (v := v) (by omega) q2).mov ?_) ?_ n' (by omega)
        · unfold sHun; rw [updN_ne _ (by omega)]; omega
        · unfold sMov sHun; rw [updN_ne _ (by omega), updN_ne _ (by omega)]; omega
    · rw [if_neg q, if_neg q]
      simp only [bM, lM]
      rw [if_pos trivial, nI_1]
      refine ih (v + 1) _ (h.eat (by omega)) ?_ n' (by omega)
      unfold sEat
      rw [updN_ne _ (by omega), updN_ne _ (by omega), updN_ne _ (by omega), updN_ne _ (by omega)]
      omega
theorem seedN (h : a 6 < 1024) : irm (nI (a 6) * 109 + 89) 1024 = nI (sSeed a) := by
  rw [lit 109, nI_mul, lit 89, nI_add, lit 1024, irmN (by omega) (by omega)]
  rfl
theorem mApp (h : WF a) : fX12_appears F (mw M a) = some (mw M (sApp a)) := by
  have h8 := h.m
  have hn0 := h.n
  have hr := h.rate
  have h6 := h.seed
  have hx := sSeed_lt a
  unfold fX12_appears
  rw [mw_120, rowI_at, seedN h6, mw_up]
  simp only [lM]
  have e5 : updN a 6 (sSeed a) 5 = a 5 := updN_ne a (by decide)
  have e0 : updN a 6 (sSeed a) 0 = a 0 := updN_ne a (by decide)
  have e8 : updN a 6 (sSeed a) 8 = a 8 := updN_ne a (by decide)
  have e6 : updN a 6 (sSeed a) 6 = sSeed a := updN_same a _ _
  rw [mw_120, rowI_at, rowI_at, rowI_at, rowI_at, e5, e0, e8, e6, lit 16, irmN (by omega) (by omega)]
  unfold sApp
  by_cases q1 : a 5 ≤ sSeed a % 16
  · rw [if_pos (le2 (by omega) (by omega) q1), if_pos (Or.inl q1)]
  · rw [if_neg (nle2 (by omega) (by omega) (by omega))]
    by_cases q2 : a 0 = 0
    · rw [if_pos (eqL q2), if_pos (Or.inr (Or.inl q2))]
    · rw [if_neg (show ¬ nI (a 0) = 0 from neL (by omega) (by decide) q2)]
      by_cases q3 : a 8 = 8
      · rw [if_pos (eqL q3), if_pos (Or.inr (Or.inr q3))]
      · have hm := mod_lt' (x := sSeed a / 16) (t := a 0) (by omega)
        rw [if_neg (show ¬ nI (a 8) = 8 from neL (by omega) (by decide) q3), if_neg (by omega), ckd _ (show ¬ nI (a 0) = 0 from neL (by omega) (by decide) q2), lit 3, lit 192, nI_mul, nI_add, inbN (by omega), ckd _ (by omega), nI_cl (by omega), nI_div (by omega) (by omega), irmN (by omega) (by omega), mw_up, lit 1, nI_add, inbN (by omega), ckd _ (by omega), nI_cl (by omega), show (0 : Int32) = nI 0 from rfl, mw_up, lit 2, nI_add, inbN (by omega), ckd _ (by omega), nI_cl (by omega), mw_up, mw_120, rowI_at, nI_add, mw_up]
        unfold sNew
        rw [e8, e6, e0, updN_ne _ (by omega), updN_ne _ (by omega), updN_ne _ (by omega), e8, show 192 + 3 * a 8 + 1 = 193 + 3 * a 8 by omega, show 192 + 3 * a 8 + 2 = 194 + 3 * a 8 by omega]
theorem mWalks (h : WF a) (hF : 1500 ≤ F) : ∃ M', fX12_walks F (mw M a) = some (mw M' (sWalks a)) ∧ ∀ c, c ≠ 125 → M' c = M c := by
  have ht := h.t
  have hg := h.goal_lt
  have hc := h.cat_lt
  have hn0 := h.n
  unfold fX12_walks sWalks
  rw [mw_120, rowI_at]
  by_cases q : a 2 = 0
  · rw [if_pos (eqL q), if_pos q]
    exact ⟨M, rfl, fun _ _ => rfl⟩
  · rw [if_neg (show ¬ nI (a 2) = 0 from neL (by omega) (by decide) q), if_neg q]
    obtain ⟨M1, e1, e2⟩ := mWalked h hF (mw_120 M a)
    rw [e1]
    simp only [bM]
    have e3 : M1 = mw (fun c => if c = 120 then M 120 else M1 c) a := by
      funext c
      by_cases w : c = 120
      · subst w; rw [e2 120 (by decide), mw_120, mw_120]
      · rw [mw_ne _ a w, if_neg w]
    have h1 := h.tgt_lt q
    have h2 := sWalked_lt h
    have h3 := h.cat_n q
    rw [e3, mw_up]
    refine ⟨fun c => if c = 120 then M 120 else M1 c, ?_, fun c hc => ?_⟩
    rotate_left
    · show (if c = 120 then M 120 else M1 c) = M c
      by_cases w : c = 120
      · rw [if_pos w, w]
      · rw [if_neg w, e2 c hc, mw_ne M a w]
    · simp only [lM]
      rw [mw_120, rowI_at, rowI_at, updN_same, updN_ne _ (show 4 ≠ 3 by decide), lit 182, nI_add, inbN (by omega), ckd _ (by omega), nI_cl (by omega), rowI_at, updN_ne _ (show 182 + a 4 ≠ 3 by omega)]
      have ht2 : a (182 + a 4) = tgt a := rfl
      rw [ht2]
      by_cases w : sWalked a = tgt a
      · rw [if_pos (eq2 w), if_pos w, rowI_at, updN_ne _ (show 2 ≠ 3 by decide), ckd _ (show ¬ nI (a 2) = 0 from neL (by omega) (by decide) q), lit 1, nI_add, irmN (by omega) (by omega), mw_up]
      · rw [if_neg (ne2 (by omega) (by omega) w), if_neg w]
theorem mOne (h : WF a) (hF : 1500 ≤ F) : ∃ M', fX12_passesOne F (mw M a) = some (nI (sOne a).1, mw M' (sOne a).2) ∧ ∀ c, c ≠ 125 → M' c = M c := by
  unfold fX12_passesOne sOne
  rw [mw_120, rowI_at, lit 1, nI_add, mw_up]
  simp only [lM]
  have h1 := h.set (i := 7) (a 7 + 1) (by omega)
  obtain ⟨M1, e1, e2⟩ := mWalks (M := M) h1 hF
  rw [e1]
  simp only [bV]
  rw [mCatches h1.walks (by omega)]
  simp only [bM]
  have h3 := h1.walks.catches
  rw [show (0 : Int32) = nI 0 from rfl, mVis (by omega) _ _ ((sCatches (sWalks (updN a 7 (a 7 + 1)))).2 8) 0 _ h3 (by omega) F (by have := h3.m; omega), mApp (WF.vis _ 0 _ h3 (by omega))]
  exact ⟨M1, rfl, e2⟩
theorem mPass_loop (hF : 1500 ≤ F) {t : Nat} (ht : t ≤ 60) (kx : Int32 → Mem → Option (Int32 × Mem)) (m : Nat) : ∀ (v c : Nat) (a : Nat → Nat) (M : Mem), WF a → v + m = t → ∀ (n : Nat), m < n → ∃ M', fX12_passes_4 F (nI t) kx n (nI c) (nI v) (mw M a) = kx (nI (c + (sPass m a).1)) (mw M' (sPass m a).2) ∧ ∀ c, c ≠ 125 → M' c = M c := by
  induction m with
  | zero =>
    intro v c a M h hv n hn
    obtain ⟨n', rfl⟩ : ∃ n', n = n' + 1 := ⟨n - 1, by omega⟩
    rw [fX12_passes_4, if_pos (le2 (by omega) (by omega) (by omega))]
    exact ⟨M, rfl, fun _ _ => rfl⟩
  | succ m ih =>
    intro v c a M h hv n hn
    obtain ⟨n', rfl⟩ : ∃ n', n = n' + 1 := ⟨n - 1, by omega⟩
    rw [fX12_passes_4, if_neg (nle2 (by omega) (by omega) (by omega))]
    obtain ⟨M1, e1, e2⟩ := mOne (M := M) h hF
    rw [e1]
    simp only [bM, lM]
    obtain ⟨M2, e3, e4⟩ := ih (v + 1) (c + (sOne a).1) _ M1 h.one (by omega) n' (by omega)
    rw [nI_add, nI_1, e3]
    refine ⟨M2, ?_, fun c hc => by rw [e4 c hc, e2 c hc]⟩
    rw [Nat.add_assoc]
    rfl
theorem mPass (h : WF a) (hF : 1500 ≤ F) {t : Nat} (ht : t ≤ 60) : ∃ M', fX12_passes F (nI t) (mw M a) = some (nI (sPass t a).1, mw M' (sPass t a).2) ∧ ∀ c, c ≠ 125 → M' c = M c := by
  unfold fX12_passes
  rw [show (0 : Int32) = nI 0 from rfl]
  obtain ⟨M1, e1, e2⟩ := mPass_loop hF ht (fun w10 M9 => some (w10, M9)) t 0 0 a M h (by omega) F (by omega)
  rw [e1]
  refine ⟨M1, ?_, e2⟩
  rw [Nat.zero_add]
end
