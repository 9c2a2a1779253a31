section
variable {a : Nat → Nat}
def sDrop (x : Nat) (a : Nat → Nat) : Nat → Nat := fun k => if k = 2 then a 2 - 1 else if k = 4 then (if a 4 ≤ x then (if a 4 < a 2 - 1 then a 4 else 0) else a 4 - 1) else if 182 + x ≤ k ∧ k < 181 + a 2 then a (k + 1) else if k = 181 + a 2 then 0 else a k
def sAdd (x : Nat) (a : Nat → Nat) : Nat → Nat := updN (updN (updN a (14 + a 0) x) 13 (a 13 + x)) 0 (a 0 + 1)
def sJoin (x y z w : Nat) (a : Nat → Nat) : Nat → Nat := updN (updN (updN a (38 + 12 * x + y) z) (38 + 12 * y + x) z) 1 w
def sFill (x y : Nat) (a : Nat → Nat) : Nat → Nat := updN (updN a (14 + x) (a (14 + x) + y)) 13 (a 13 + y)
def sStop (x : Nat) (a : Nat → Nat) : Nat → Nat := updN (updN a (182 + a 2) x) 2 (a 2 + 1)
def blC (a : Nat → Nat) : Nat := cntB 12 (fun k => decide (a (26 + k) = 1))
def opOK (op x y : Nat) (a : Nat → Nat) : Prop := match op with
  | 0 => x ≤ 99 ∧ a 0 < 12
  | 1 => x < a 0 ∧ y < a 0 ∧ x ≠ y ∧ lk a x y ≠ 1 ∧ a 1 < 20
  | 2 => x < a 0 ∧ y < a 0 ∧ lk a x y = 1
  | 3 => x < a 0 ∧ a (26 + x) ≠ 1
  | 4 => x < a 0 ∧ a (26 + x) ≠ 0
  | 5 => x < a 0 ∧ 1 ≤ y ∧ y ≤ 99 ∧ a (14 + x) + y ≤ 99
  | 6 => x < a 0 ∧ a 2 < 10
  | 7 => x < a 2
  | 8 => x ≤ 16
  | 9 => x ≤ 1023
  | _ => x ≤ 60
def opRow (op x y : Nat) (a : Nat → Nat) : Nat → Nat := match op with
  | 0 => sAdd x a
  | 1 => sJoin x y 1 (a 1 + 1) a
  | 2 => sJoin x y 0 (a 1 - 1) a
  | 3 => updN a (26 + x) 1
  | 4 => updN a (26 + x) 0
  | 5 => sFill x y a
  | 6 => sStop x a
  | 7 => sDrop x a
  | 8 => updN a 5 x
  | 9 => updN a 6 x
  | _ => (sPass x a).2
def opRes (op x y : Nat) (a : Nat → Nat) : Nat := match op with
  | 0 => a 0
  | 1 => a 1 + 1
  | 2 => a 1 - 1
  | 3 => blC (updN a (26 + x) 1)
  | 4 => blC (updN a (26 + x) 0)
  | 5 => a (14 + x) + y
  | 6 => a 2 + 1
  | 7 => a (182 + x)
  | 8 => a 5
  | 9 => a 6
  | _ => (sPass x a).1
theorem WF.of2 (h : WF a) {a' : Nat → Nat} (hk : ∀ k, (k = 1 ∨ (38 ≤ k ∧ k < 182) ∨ 216 ≤ k) → a' k = a k) (h00 : a 0 ≤ a' 0) (hn : a' 0 ≤ 12) (ht : a' 2 ≤ 10) (hm : a' 8 ≤ 8) (hr : a' 5 ≤ 16) (h6 : a' 6 < 1024) (h3 : a' 3 < a' 0 ∨ a' 3 = 0) (h4 : a' 4 < a' 2 ∨ a' 4 = 0) (hg : ∀ k, k < 12 → a' (14 + k) ≤ 99) (hb : ∀ k, k < 12 → a' (26 + k) ≤ 1) (hb0 : ∀ k, k < 12 → a' 0 ≤ k → a' (26 + k) = 0) (hst : ∀ k, k < a' 2 → a' (182 + k) < a' 0) (hs : ∀ k, k < a' 8 → a' (192 + 3 * k) < a' 0) (hh : ∀ k, k < a' 8 → a' (194 + 3 * k) ≤ 2) : WF a' := by
  have e1 := hk 1 (by omega)
  have el : ∀ i j, i < 12 → j < 12 → lk a' i j = lk a i j := fun i j hi hj => hk _ (by omega)
  refine ⟨hn, by rw [e1]; exact h.p, ht, hm, hr, h6, h3, h4, hg, hb, hb0, fun i j hi hj => by rw [el i j hi hj]; exact h.l1 i j hi hj, fun i j hi hj => by rw [el i j hi hj, el j i hj hi]; exact h.ls i j hi hj, fun i j hi hj q => ?_, ?_, hst, hs, hh, fun k q => by rw [hk k (by omega)]; exact h.z k q⟩
  · have z := h.ln i j hi hj (by rw [← el i j hi hj]; exact q)
    exact ⟨by omega, z.2⟩
  · rw [e1, ← h.sum]
    exact sumF_cg fun k q => hk _ (by omega)
theorem WF.add (h : WF a) {x : Nat} (hx : x ≤ 99) (h0 : a 0 < 12) : WF (sAdd x a) := by
  have hs : ∀ k, sAdd x a k = if k = 0 then a 0 + 1 else if k = 13 then a 13 + x else if k = 14 + a 0 then x else a k := fun k => rfl
  have e : ∀ k, k ≠ 0 → k ≠ 13 → k ≠ 14 + a 0 → sAdd x a k = a k := fun k q1 q2 q3 => by rw [hs, if_neg q1, if_neg q2, if_neg q3]
  have e0 : sAdd x a 0 = a 0 + 1 := rfl
  have ht := h.t
  have hm := h.m
  have h3 := h.cat
  refine h.of2 (fun k q => e k (by omega) (by omega) (by omega)) (by omega) (by omega) ?_ ?_ ?_ ?_ ?_ ?_ (fun k q => ?_) (fun k q => ?_) (fun k q q0 => ?_) (fun k q => ?_) (fun k q => ?_) (fun k q => ?_)
  · rw [e 2 (by omega) (by omega) (by omega)]; exact ht
  · rw [e 8 (by omega) (by omega) (by omega)]; exact hm
  · rw [e 5 (by omega) (by omega) (by omega)]; exact h.rate
  · rw [e 6 (by omega) (by omega) (by omega)]; exact h.seed
  · rw [e 3 (by omega) (by omega) (by omega), e0]; omega
  · rw [e 4 (by omega) (by omega) (by omega), e 2 (by omega) (by omega) (by omega)]; exact h.goal
  · rw [hs, if_neg (by omega), if_neg (by omega)]
    split
    · exact hx
    · exact h.gr k q
  · rw [e _ (by omega) (by omega) (by omega)]; exact h.bl k q
  · rw [e _ (by omega) (by omega) (by omega)]; exact h.bl0 k q (by omega)
  · rw [e 2 (by omega) (by omega) (by omega)] at q
    rw [e _ (by omega) (by omega) (by omega), e0]; have := h.st k q; omega
  · rw [e 8 (by omega) (by omega) (by omega)] at q
    rw [e _ (by omega) (by omega) (by omega), e0]; have := h.ms k q; omega
  · rw [e 8 (by omega) (by omega) (by omega)] at q
    rw [e _ (by omega) (by omega) (by omega)]; exact h.mh k q
theorem WF.fill (h : WF a) {x y : Nat} (hx : x < 12) (hy : a (14 + x) + y ≤ 99) : WF (sFill x y a) := by
  unfold sFill
  exact (h.set (i := 14 + x) _ (Or.inr (Or.inr (Or.inr (Or.inr ⟨by omega, by omega, hy⟩))))).set (i := 13) _ (by omega)
theorem WF.rt (h : WF a) {x : Nat} (hx : x ≤ 16) : WF (updN a 5 x) := by
  refine h.of2 (fun k q => updN_ne a (by omega)) (Nat.le_refl _) h.n h.t h.m hx h.seed h.cat h.goal (fun k q => ?_) (fun k q => ?_) (fun k q q0 => ?_) (fun k q => ?_) (fun k q => ?_) (fun k q => ?_)
  · rw [updN_ne a (by omega)]; exact h.gr k q
  · rw [updN_ne a (by omega)]; exact h.bl k q
  · rw [updN_ne a (by omega)]; exact h.bl0 k q q0
  · rw [updN_ne a (by omega)]; exact h.st k q
  · rw [updN_ne a (by omega)]; exact h.ms k q
  · rw [updN_ne a (by omega)]; exact h.mh k q
theorem WF.blind (h : WF a) {x z : Nat} (hx : x < a 0) (hz : z ≤ 1) : WF (updN a (26 + x) z) := by
  have hn := h.n
  have e : ∀ k, (k < 26 ∨ 38 ≤ k) → updN a (26 + x) z k = a k := fun k q => updN_ne a (by omega)
  have e0 := e 0 (by omega)
  have e2 := e 2 (by omega)
  have e8 := e 8 (by omega)
  refine h.of2 (fun k q => e k (by omega)) (by omega) (by omega) (by rw [e2]; exact h.t) (by rw [e8]; exact h.m) (by rw [e 5 (by omega)]; exact h.rate) (by rw [e 6 (by omega)]; exact h.seed) (by rw [e0, e 3 (by omega)]; exact h.cat) (by rw [e2, e 4 (by omega)]; exact h.goal) (fun k q => ?_) (fun k q => ?_) (fun k q q0 => ?_) (fun k q => ?_) (fun k q => ?_) (fun k q => ?_)
  · rw [e _ (by omega)]; exact h.gr k q
  · rw [updN_at]
    split
    · exact hz
    · exact h.bl k q
  · rw [e0] at q0
    rw [updN_ne a (by omega)]; exact h.bl0 k q q0
  · rw [e2] at q
    rw [e0, e _ (by omega)]; exact h.st k q
  · rw [e8] at q
    rw [e0, e _ (by omega)]; exact h.ms k q
  · rw [e8] at q
    rw [e _ (by omega)]; exact h.mh k q
theorem WF.stop (h : WF a) {x : Nat} (hx : x < a 0) (h2 : a 2 < 10) : WF (sStop x a) := by
  have hs : ∀ k, sStop x a k = if k = 2 then a 2 + 1 else if k = 182 + a 2 then x else a k := fun k => rfl
  have e : ∀ k, k ≠ 2 → k ≠ 182 + a 2 → sStop x a k = a k := fun k q1 q2 => by rw [hs, if_neg q1, if_neg q2]
  have e2 : sStop x a 2 = a 2 + 1 := rfl
  have e0 := e 0 (by omega) (by omega)
  have e8 := e 8 (by omega) (by omega)
  have hg := h.goal
  refine h.of2 (fun k q => e k (by omega) (by omega)) (by omega) (by rw [e0]; exact h.n) (by omega) (by rw [e8]; exact h.m) (by rw [e 5 (by omega) (by omega)]; exact h.rate) (by rw [e 6 (by omega) (by omega)]; exact h.seed) (by rw [e0, e 3 (by omega) (by omega)]; exact h.cat) (by rw [e2, e 4 (by omega) (by omega)]; omega) (fun k q => ?_) (fun k q => ?_) (fun k q q0 => ?_) (fun k q => ?_) (fun k q => ?_) (fun k q => ?_)
  · rw [e _ (by omega) (by omega)]; exact h.gr k q
  · rw [e _ (by omega) (by omega)]; exact h.bl k q
  · rw [e0] at q0
    rw [e _ (by omega) (by omega)]; exact h.bl0 k q q0
  · rw [e2] at q
    rw [e0, hs, if_neg (by omega)]
    split
    · exact hx
    · exact h.st k (by omega)
  · rw [e8] at q
    rw [e0, e _ (by omega) (by omega)]; exact h.ms k q
  · rw [e8] at q
    rw [e _ (by omega) (by omega)]; exact h.mh k q
theorem WF.dropS (h : WF a) {x : Nat} (hx : x < a 2) : WF (sDrop x a) := by
  have ht := h.t
  have hg := h.goal
  have e : ∀ k, k ≠ 2 → k ≠ 4 → (k < 182 ∨ 192 ≤ k) → sDrop x a k = a k := fun k q1 q2 q3 => by
    unfold sDrop
    rw [if_neg q1, if_neg q2, if_neg (by omega), if_neg (by omega)]
  have e2 : sDrop x a 2 = a 2 - 1 := rfl
  have e4 : sDrop x a 4 = if a 4 ≤ x then (if a 4 < a 2 - 1 then a 4 else 0) else a 4 - 1 := rfl
  have e0 := e 0 (by omega) (by omega) (by omega)
  have e8 := e 8 (by omega) (by omega) (by omega)
  refine h.of2 (fun k q => e k (by omega) (by omega) (by omega)) (by omega) (by rw [e0]; exact h.n) (by omega) (by rw [e8]; exact h.m) (by rw [e 5 (by omega) (by omega) (by omega)]; exact h.rate) (by rw [e 6 (by omega) (by omega) (by omega)]; exact h.seed) (by rw [e0, e 3 (by omega) (by omega) (by omega)]; exact h.cat) ?_ (fun k q => ?_) (fun k q => ?_) (fun k q q0 => ?_) (fun k q => ?_) (fun k q => ?_) (fun k q => ?_)
  · rw [e2, e4]
    split
    · split <;> omega
    · omega
  · rw [e _ (by omega) (by omega) (by omega)]; exact h.gr k q
  · rw [e _ (by omega) (by omega) (by omega)]; exact h.bl k q
  · rw [e0] at q0
    rw [e _ (by omega) (by omega) (by omega)]; exact h.bl0 k q q0
  · rw [e2] at q
    rw [e0]
    unfold sDrop
    rw [if_neg (by omega), if_neg (by omega)]
    split
    · exact h.st (k + 1) (by omega)
    · rw [if_neg (by omega)]; exact h.st k (by omega)
  · rw [e8] at q
    rw [e0, e _ (by omega) (by omega) (by omega)]; exact h.ms k q
  · rw [e8] at q
    rw [e _ (by omega) (by omega) (by omega)]; exact h.mh k q
theorem sumF_upd {n i x : Nat} {f g : Nat → Nat} (hi : i < n) (hg : ∀ k, k < n → g k = if k = i then x else f k) : sumF n g + f i = sumF n f + x := by
  induction n with
  | zero => omega
  | succ n ih =>
    unfold sumF
    by_cases q : i = n
    · have z : sumF n g = sumF n f := sumF_cg fun k hk => by rw [hg k (by omega), if_neg (by omega)]
      rw [z, hg n (by omega), if_pos q.symm, q]
      omega
    · have z := ih (by omega) (fun k hk => hg k (by omega))
      rw [hg n (by omega), if_neg (by omega)]
      omega
theorem lk_join {x y z w i j : Nat} (hx : x < 12) (hy : y < 12) (hi : i < 12) (hj : j < 12) : lk (sJoin x y z w a) i j = if (i = x ∧ j = y) ∨ (i = y ∧ j = x) then z else lk a i j := by
  unfold lk sJoin
  rw [updN_ne _ (by omega), updN_at, updN_at]
  by_cases q1 : i = x ∧ j = y
  · rw [if_pos (Or.inl q1)]
    by_cases q2 : 38 + 12 * i + j = 38 + 12 * y + x
    · rw [if_pos q2]
    · rw [if_neg q2, if_pos (by omega)]
  · by_cases q2 : i = y ∧ j = x
    · rw [if_pos (Or.inr q2), if_pos (by omega)]
    · rw [if_neg (by omega), if_neg (by omega), if_neg (by omega)]
theorem WF.join (h : WF a) {x y z w : Nat} (hx : x < a 0) (hy : y < a 0) (hxy : x ≠ y) (hz : z ≤ 1) (hw : w ≤ 20) (hs : 2 * lk a x y + 2 * w = 2 * a 1 + 2 * z) : WF (sJoin x y z w a) := by
  have hn := h.n
  have e : ∀ k, k ≠ 1 → (k < 38 ∨ 182 ≤ k) → sJoin x y z w a k = a k := fun k q1 q2 => by
    unfold sJoin
    rw [updN_ne _ q1, updN_ne _ (by omega), updN_ne _ (by omega)]
  have e1 : sJoin x y z w a 1 = w := rfl
  have el : ∀ i j, i < 12 → j < 12 → lk (sJoin x y z w a) i j = if (i = x ∧ j = y) ∨ (i = y ∧ j = x) then z else lk a i j := fun i j hi hj => lk_join (by omega) (by omega) hi hj
  have e0 := e 0 (by omega) (by omega)
  have e2 := e 2 (by omega) (by omega)
  have e8 := e 8 (by omega) (by omega)
  have ht := h.t
  refine ⟨by rw [e0]; exact h.n, by rw [e1]; exact hw, by rw [e2]; exact h.t, by rw [e8]; exact h.m, by rw [e 5 (by omega) (by omega)]; exact h.rate, by rw [e 6 (by omega) (by omega)]; exact h.seed, by rw [e 3 (by omega) (by omega), e0]; exact h.cat, by rw [e 4 (by omega) (by omega), e2]; exact h.goal, fun k q => by rw [e _ (by omega) (by omega)]; exact h.gr k q, fun k q => by rw [e _ (by omega) (by omega)]; exact h.bl k q, fun k q q0 => by rw [e0] at q0; rw [e _ (by omega) (by omega)]; exact h.bl0 k q q0, fun i j hi hj => ?_, fun i j hi hj => ?_, fun i j hi hj q => ?_, ?_, fun k q => by rw [e2] at q; rw [e _ (by omega) (by omega), e0]; exact h.st k q, fun k q => by rw [e8] at q; rw [e _ (by omega) (by omega), e0]; exact h.ms k q, fun k q => by rw [e8] at q; rw [e _ (by omega) (by omega)]; exact h.mh k q, fun k q => by rw [e _ (by omega) (by omega)]; exact h.z k q⟩
  · rw [el i j hi hj]
    split
    · exact hz
    · exact h.l1 i j hi hj
  · rw [el i j hi hj, el j i hj hi]
    by_cases q : (i = x ∧ j = y) ∨ (i = y ∧ j = x)
    · rw [if_pos q, if_pos (by omega)]
    · rw [if_neg q, if_neg (by omega)]
      exact h.ls i j hi hj
  · rw [e0]
    rw [el i j hi hj] at q
    split at q
    · omega
    · exact h.ln i j hi hj q
  · have l1 : lk a x y = a (38 + (12 * x + y)) := by unfold lk; congr 1; omega
    have l2 : lk a x y = a (38 + (12 * y + x)) := by rw [h.ls x y (by omega) (by omega)]; unfold lk; congr 1; omega
    have s1 := sumF_upd (n := 144) (i := 12 * x + y) (x := z) (f := fun k => a (38 + k)) (g := fun k => updN a (38 + 12 * x + y) z (38 + k)) (by omega) (fun k hk => by
      show updN a (38 + 12 * x + y) z (38 + k) = _
      rw [updN_at]
      by_cases q : k = 12 * x + y
      · rw [if_pos q, if_pos (by omega)]
      · rw [if_neg q, if_neg (by omega)])
    have s2 := sumF_upd (n := 144) (i := 12 * y + x) (x := z) (f := fun k => updN a (38 + 12 * x + y) z (38 + k)) (g := fun k => sJoin x y z w a (38 + k)) (by omega) (fun k hk => by
      show sJoin x y z w a (38 + k) = _
      unfold sJoin
      rw [updN_ne _ (by omega), updN_at]
      by_cases q : k = 12 * y + x
      · rw [if_pos q, if_pos (by omega)]
      · rw [if_neg q, if_neg (by omega)])
    have s3 := h.sum
    have s4 : updN a (38 + 12 * x + y) z (38 + (12 * y + x)) = a (38 + (12 * y + x)) := updN_ne a (by omega)
    rw [s4] at s2
    rw [e1]
    omega
theorem WF.op (h : WF a) {op x y : Nat} (hop : op ≤ 10) (ho : opOK op x y a) : WF (opRow op x y a) := by
  have hn := h.n
  match op, hop, ho with
  | 0, _, ho => exact h.add ho.1 ho.2
  | 1, _, ho =>
    obtain ⟨h1, h2, h3, h4, h5⟩ := ho
    have := h.l1 x y (by omega) (by omega)
    exact h.join h1 h2 h3 (by omega) (by omega) (by omega)
  | 2, _, ho =>
    obtain ⟨h1, h2, h3⟩ := ho
    have hp := h.p
    have z := h.ln x y (by omega) (by omega) h3
    have l1 : lk a x y = a (38 + (12 * x + y)) := by unfold lk; congr 1; omega
    have s := sumF_upd (n := 144) (i := 12 * x + y) (x := 0) (f := fun k => a (38 + k)) (g := fun k => updN (fun k => a (38 + k)) (12 * x + y) 0 k) (by omega) (fun k hk => updN_at _ _ _ _)
    have s3 := h.sum
    exact h.join h1 h2 z.2 (by omega) (by omega) (by omega)
  | 3, _, ho => exact h.blind ho.1 (by omega)
  | 4, _, ho => exact h.blind ho.1 (by omega)
  | 5, _, ho =>
    obtain ⟨h1, h2, h3, h4⟩ := ho
    exact h.fill (by omega) h4
  | 6, _, ho => exact h.stop ho.1 ho.2
  | 7, _, ho => exact h.dropS ho
  | 8, _, ho => exact h.rt ho
  | 9, _, ho => exact h.set (i := 6) x (Or.inr (Or.inr (Or.inl ⟨rfl, by have : x ≤ 1023 := ho; omega⟩)))
  | 10, _, ho => exact WF.pass x a h
end
section
variable {F μ κ v o b : Nat} {M : Mem} {a : Nat → Nat}
theorem CL.pat (h : CL μ κ v o M b a) {M' : Mem} {a' : Nat → Nat} (hM : ∀ c, c ≠ b + 4 → c ≠ b + 5 → M' c = M c) (ha : ∀ k, (k < 2 ∨ (4 < k ∧ k < 182) ∨ 192 ≤ k) → a' k = a k) (h2 : M' (b + 4) 1 = nI (a' 2)) (h3 : M' (b + 4) 2 = nI (a' 3)) (h4 : M' (b + 4) 3 = nI (a' 4)) (h5 : ∀ k, k < a' 2 → M' (b + 5) k = nI (a' (182 + k))) : CL μ κ v o M' b a' := ⟨(by rw [hM _ (by omega) (by omega), ha 5 (by omega)]; exact h.rate),
  (by rw [hM _ (by omega) (by omega), ha 6 (by omega)]; exact h.seed),
  (by rw [hM _ (by omega) (by omega)]; exact h.mi),
  (by rw [hM _ (by omega) (by omega), ha 13 (by omega)]; exact h.pu),
  (by rw [hM _ (by omega) (by omega), ha 12 (by omega)]; exact h.ea),
  (by rw [hM _ (by omega) (by omega)]; exact h.ca),
  (by rw [hM _ (by omega) (by omega), ha 10 (by omega)]; exact h.go),
  (by rw [hM _ (by omega) (by omega), ha 11 (by omega)]; exact h.ri),
  (fun j hj => by rw [hM _ (by omega) (by omega), ha _ (by omega)]; exact h.bl j hj),
  (by rw [hM _ (by omega) (by omega), ha 0 (by omega)]; exact h.n),
  (by rw [hM _ (by omega) (by omega), ha 1 (by omega)]; exact h.p),
  (fun k hk => by rw [hM _ (by omega) (by omega), ha _ (by omega)]; exact h.gr k hk),
  (fun k j hk hj => by rw [hM _ (by omega) (by omega), h.nb k j hk hj]; exact nb_c (fun q => ha _ (by omega))),
  h2,
  h3,
  h4,
  h5,
  (by rw [hM _ (by omega) (by omega), ha 8 (by omega)]; exact h.m),
  (fun k hk => by rw [ha 8 (by omega)] at hk; rw [hM _ (by omega) (by omega), ha _ (by omega)]; exact h.ms k hk),
  (fun k hk => by rw [ha 8 (by omega)] at hk; rw [hM _ (by omega) (by omega), ha _ (by omega)]; exact h.me k hk),
  (fun k hk => by rw [ha 8 (by omega)] at hk; rw [hM _ (by omega) (by omega), ha _ (by omega)]; exact h.mh k hk)⟩
theorem CC.of {M' : Mem} {a' : Nat → Nat} (h : CL (a 7) (a 9) 0 0 M' b a') (h7 : a' 7 = a 7) (h9 : a' 9 = a 9) : CC M' b a' := by
  unfold CC
  rw [h7, h9]
  exact h
theorem cAdd (h : WF a) (hb : lay b = 1) (hc : CC M b a) {x : Nat} (p2 : Int32) (h0 : a 0 < 12) : ∃ M', fX3_carryOut F b 0 (nI x) p2 M = some (nI (a 0), M') ∧ CC M' b (sAdd x a) ∧ FR b M M' := by
  have c1 := CL.s_pu hc (a 13 + x)
  have c2 := c1.s_gr (i := a 0) h0 x
  have c3 := c2.s_n (a 0 + 1)
  have n1 := c1.n
  have n2 := c2.n
  have e1 : updN a 13 (a 13 + x) 0 = a 0 := updN_ne a (by omega)
  rw [e1] at n1
  rw [updN_ne _ (by omega), e1] at n2
  have p1 : M b 6 = nI (a 13) := hc.pu
  unfold fX3_carryOut fX9_add
  simp only [lM]
  rw [p1, nI_add, n1, put_in (c := b + 1 + 1) (al1_2 hb) (by decide) h0]
  simp only [bV, lM, bM]
  rw [show up2 (up2 M b 6 (nI (a 13 + x))) (b + 1 + 1) (a 0) (nI x) (b + 1) 3 = nI (a 0) from n2, nI_1]
  rw [c3.n, updN_same, lit 1, nI_sub (by omega), Nat.add_sub_cancel]
  refine ⟨_, rfl, CC.of (a := a) ?_ ?_ ?_, ((FR.up (by omega)).tr (FR.up (by omega))).tr (FR.up (by omega))⟩
  · unfold sAdd
    rw [updN_cm (show 13 ≠ 14 + a 0 by omega)] at c3
    exact c3
  · unfold sAdd
    rw [updN_ne _ (by omega), updN_ne _ (by omega), updN_ne _ (by omega)]
  · unfold sAdd
    rw [updN_ne _ (by omega), updN_ne _ (by omega), updN_ne _ (by omega)]
theorem sJoin_lo {x y z w k : Nat} (h1 : k ≠ 1) (h : k < 38 ∨ 182 ≤ k) (hx : x < 12) (hy : y < 12) : sJoin x y z w a k = a k := by
  unfold sJoin
  rw [updN_ne _ h1, updN_ne _ (by omega), updN_ne _ (by omega)]
theorem joinBits (hc : CL μ κ v o M b a) {x y z w : Nat} {M' : Mem} (hx : x < 12) (hy : y < 12) (hxy : x ≠ y) (hM : ∀ c, c ≠ b + 3 → M' c = M c) (hk : ∀ k, k ≠ x → k ≠ y → M' (b + 3) k = M (b + 3) k) (h1 : ∀ j, j < 32 → bitb (M' (b + 3) x) j = if j = y then decide (z = 1) else bitb (M (b + 3) x) j) (h2 : ∀ j, j < 32 → bitb (M' (b + 3) y) j = if j = x then decide (z = 1) else bitb (M (b + 3) y) j) : CL μ κ v o (up2 M' (b + 1) 4 (nI w)) b (sJoin x y z w a) := by
  have c1 : CL μ κ v o M' b (updN (updN a (38 + 12 * x + y) z) (38 + 12 * y + x) z) := by
    refine hc.s_nb hM (fun k j q q2 => ?_) (fun k q => by rw [updN_ne _ (by omega), updN_ne _ (by omega)])
    have el : j < 12 → lk (updN (updN a (38 + 12 * x + y) z) (38 + 12 * y + x) z) k j = if (k = x ∧ j = y) ∨ (k = y ∧ j = x) then z else lk a k j := fun q3 => by
      have := lk_join (a := a) (z := z) (w := w) hx hy q q3
      rw [← this]
      unfold lk sJoin
      rw [updN_ne _ (show 38 + 12 * k + j ≠ 1 by omega)]
    have e0 := hc.nb k j q q2
    by_cases w1 : k = x
    · subst w1
      rw [h1 j q2]
      by_cases w2 : j = y
      · subst w2
        rw [if_pos rfl, el hy, if_pos (Or.inl ⟨rfl, rfl⟩)]
        simp [hy]
      · rw [if_neg w2, e0]
        by_cases w3 : j < 12
        · rw [el w3, if_neg (by omega)]
        · simp [w3]
    · by_cases w4 : k = y
      · subst w4
        rw [h2 j q2]
        by_cases w2 : j = x
        · subst w2
          rw [if_pos rfl, el hx, if_pos (Or.inr ⟨rfl, rfl⟩)]
          simp [hx]
        · rw [if_neg w2, e0]
          by_cases w3 : j < 12
          · rw [el w3, if_neg (by omega)]
          · simp [w3]
      · rw [hk k w1 w4, e0]
        by_cases w3 : j < 12
        · rw [el w3, if_neg (by omega)]
        · simp [w3]
  exact c1.s_p w
theorem cJoin1 (h : WF a) (hb : lay b = 1) (hc : CC M b a) {x y : Nat} (hx : x < 12) (hy : y < 12) (hxy : x ≠ y) : ∃ M', fX3_carryOut F b 1 (nI x) (nI y) M = some (nI (a 1 + 1), M') ∧ CC M' b (sJoin x y 1 (a 1 + 1) a) ∧ FR b M M' := by
  have hp : M (b + 1) 4 = nI (a 1) := hc.p
  unfold fX3_carryOut fX9_connect
  rw [at_in (c := b + 1 + 2) (al1_3 hb) (by decide) hx]
  unfold fX11_bit
  simp only [bM]
  rw [put_in (c := b + 1 + 2) (al1_3 hb) (by decide) hx]
  simp only [bV]
  rw [at_in (c := b + 1 + 2) (al1_3 hb) (by decide) hy]
  simp only [bM]
  rw [put_in (c := b + 1 + 2) (al1_3 hb) (by decide) hy]
  simp only [bV, lM]
  rw [u2_same, if_pos rfl]
  rw [u2_ne _ (show b + 1 ≠ b + 1 + 2 by omega), u2_ne _ (show b + 1 ≠ b + 1 + 2 by omega), hp, nI_1]
  refine ⟨_, rfl, CC.of (a := a) (joinBits hc hx hy hxy (fun c q => by rw [u2_ne _ q, u2_ne _ q]) (fun k q1 q2 => ?_) (fun j hj => ?_) (fun j hj => ?_)) (sJoin_lo (by omega) (by omega) hx hy) (sJoin_lo (by omega) (by omega) hx hy), (((FR.up (c := b + 3) (by omega)).tr (FR.up (c := b + 3) (by omega))).tr (FR.up (by omega)))⟩
  · rw [u2_same, if_neg q2, u2_same, if_neg q1]
  · rw [u2_same, if_neg hxy, u2_same, if_pos rfl, bit_or, bit_one (by omega) hj]
    by_cases q : j = y
    · rw [if_pos q]; simp [q]
    · rw [if_neg q]; simp [q]
  · rw [u2_same, if_pos rfl, bit_or, bit_one (by omega) hj, u2_same, if_neg (Ne.symm hxy)]
    by_cases q : j = x
    · rw [if_pos q]; simp [q]
    · rw [if_neg q]; simp [q]
theorem cJoin0 (h : WF a) (hb : lay b = 1) (hc : CC M b a) {x y : Nat} (hx : x < 12) (hy : y < 12) (hxy : x ≠ y) (h1 : 1 ≤ a 1) : ∃ M', fX3_carryOut F b 2 (nI x) (nI y) M = some (nI (a 1 - 1), M') ∧ CC M' b (sJoin x y 0 (a 1 - 1) a) ∧ FR b M M' := by
  have hp : M (b + 1) 4 = nI (a 1) := hc.p
  unfold fX3_carryOut fX9_disconnect
  rw [at_in (c := b + 1 + 2) (al1_3 hb) (by decide) hx]
  unfold fX11_bit
  simp only [bM]
  rw [put_in (c := b + 1 + 2) (al1_3 hb) (by decide) hx]
  simp only [bV]
  rw [at_in (c := b + 1 + 2) (al1_3 hb) (by decide) hy]
  simp only [bM]
  rw [put_in (c := b + 1 + 2) (al1_3 hb) (by decide) hy]
  simp only [bV, lM]
  rw [u2_same, if_pos rfl]
  rw [u2_ne _ (show b + 1 ≠ b + 1 + 2 by omega), u2_ne _ (show b + 1 ≠ b + 1 + 2 by omega), hp, show nI (a 1) - 1 = nI (a 1 - 1) from nI_sub (b := 1) h1]
  refine ⟨_, rfl, CC.of (a := a) (joinBits hc hx hy hxy (fun c q => by rw [u2_ne _ q, u2_ne _ q]) (fun k q1 q2 => ?_) (fun j hj => ?_) (fun j hj => ?_)) (sJoin_lo (by omega) (by omega) hx hy) (sJoin_lo (by omega) (by omega) hx hy), (((FR.up (c := b + 3) (by omega)).tr (FR.up (c := b + 3) (by omega))).tr (FR.up (by omega)))⟩
  · rw [u2_same, if_neg q2, u2_same, if_neg q1]
  · rw [u2_same, if_neg hxy, u2_same, if_pos rfl, bit_and, bit_not _ hj]
    rw [bit_one (by omega) hj]
    by_cases q : j = y
    · rw [if_pos q]; simp [q]
    · rw [if_neg q]; simp [q]
  · rw [u2_same, if_pos rfl, bit_and, bit_not _ hj, u2_same, if_neg (Ne.symm hxy)]
    rw [bit_one (by omega) hj]
    by_cases q : j = x
    · rw [if_pos q]; simp [q]
    · rw [if_neg q]; simp [q]
theorem bc12' : ∀ i, i < 64 → ∀ k, k < 64 → bcnt (nI (64 * i + k)) = nI (cntB 12 (fun j => bitb (nI (64 * i + k)) j)) := by decide +kernel
theorem bc12 (m : Nat) (h : m < 4096) : bcnt (nI m) = nI (cntB 12 (fun j => bitb (nI m) j)) := by
  have z := bc12' (m / 64) (by omega) (m % 64) (by omega)
  rw [show 64 * (m / 64) + m % 64 = m by omega] at z
  exact z
theorem nI_toNat (w : Int32) : nI w.toBitVec.toNat = w := by
  apply Int32.toBitVec_inj.mp
  apply BitVec.eq_of_toNat_eq
  show (BitVec.ofNat 32 w.toBitVec.toNat).toNat = _
  simp
theorem bcN {w : Int32} (h : ∀ j, j < 32 → 12 ≤ j → bitb w j = false) : bcnt w = nI (cntB 12 (fun j => bitb w j)) := by
  have hm : w.toBitVec.toNat < 2 ^ 12 := by
    apply Nat.lt_pow_two_of_testBit
    intro i hi
    by_cases q : i < 32
    · exact h i q hi
    · exact Nat.testBit_lt_two_pow (Nat.lt_of_lt_of_le w.toBitVec.isLt (Nat.pow_le_pow_right (by decide) (by omega)))
  have z := bc12 w.toBitVec.toNat hm
  rw [nI_toNat] at z
  exact z
theorem cntB_cg {n : Nat} {p q : Nat → Bool} (h : ∀ i, i < n → p i = q i) : cntB n p = cntB n q := by
  induction n with
  | zero => rfl
  | succ n ih => unfold cntB; rw [ih (fun k hk => h k (by omega)), h n (by omega)]
theorem cntB_ext {p : Nat → Bool} {n : Nat} (m : Nat) (h : ∀ i, n ≤ i → i < n + m → p i = false) : cntB (n + m) p = cntB n p := by
  induction m with
  | zero => rfl
  | succ m ih =>
    show cntB (n + m) p + (if p (n + m) = true then 1 else 0) = cntB n p
    rw [ih (fun i q1 q2 => h i q1 (by omega)), h (n + m) (by omega) (by omega)]
    rfl
theorem cBlind (h : WF a) (hc : CC M b a) {x z : Nat} (hx : x < 12) {w : Int32} (hw : ∀ j, j < 32 → bitb w j = if j = x then decide (z = 1) else bitb (M (b + 1) 2) j) : ∃ M', fX9_replaceBlind F (b + 1) w M = some (nI (blC (updN a (26 + x) z)), M') ∧ CC M' b (updN a (26 + x) z) ∧ FR b M M' := by
  unfold fX9_replaceBlind
  simp only [lM]
  have hw2 : ∀ j, j < 32 → bitb w j = decide (j < 12 ∧ updN a (26 + x) z (26 + j) = 1) := by
    intro j hj
    rw [hw j hj]
    by_cases q : j = x
    · rw [if_pos q, q, updN_same]; simp [hx]
    · rw [if_neg q, updN_ne _ (by omega)]
      exact hc.bl j hj
  rw [u2_same, if_pos rfl, bcN (fun j hj h12 => by rw [hw2 j hj]; exact decide_eq_false (by omega))]
  refine ⟨_, ?_, CC.of (a := a) (CL.s_bl hc hw2 (fun k q => updN_ne a (by omega))) (updN_ne a (by omega)) (updN_ne a (by omega)), FR.up (by omega)⟩
  have e : cntB 12 (fun j => bitb w j) = blC (updN a (26 + x) z) := cntB_cg fun j hj => by
    rw [hw2 j (by omega)]
    simp [hj]
  rw [e]
theorem cFill (h : WF a) (hb : lay b = 1) (hc : CC M b a) {x y : Nat} (hx : x < 12) : ∃ M', fX3_carryOut F b 5 (nI x) (nI y) M = some (nI (a (14 + x) + y), M') ∧ CC M' b (sFill x y a) ∧ FR b M M' := by
  have c1 := CL.s_pu hc (a 13 + y)
  have c2 := c1.s_gr (i := x) hx (a (14 + x) + y)
  have g1 := c1.gr x hx
  rw [updN_ne _ (by omega)] at g1
  have p1 : M b 6 = nI (a 13) := hc.pu
  unfold fX3_carryOut fX9_addGrams
  simp only [lM]
  rw [p1, nI_add, at_in (c := b + 1 + 1) (al1_2 hb) (by decide) hx]
  simp only [bM]
  rw [show up2 M b 6 (nI (a 13 + y)) (b + 1 + 1) x = nI (a (14 + x)) from g1, nI_add, put_in (c := b + 1 + 1) (al1_2 hb) (by decide) hx]
  simp only [bV]
  rw [at_in (c := b + 1 + 1) (al1_2 hb) (by decide) hx]
  simp only [bM]
  rw [u2_same, if_pos rfl]
  refine ⟨_, rfl, CC.of (a := a) ?_ ?_ ?_, (FR.up (by omega)).tr (FR.up (by omega))⟩
  · unfold sFill
    rw [updN_cm (show 13 ≠ 14 + x by omega)] at c2
    exact c2
  · unfold sFill
    rw [updN_ne _ (by omega), updN_ne _ (by omega)]
  · unfold sFill
    rw [updN_ne _ (by omega), updN_ne _ (by omega)]
theorem cStop (h : WF a) (hb : lay b = 1) (hc : CC M b a) {x : Nat} (p2 : Int32) (h2 : a 2 < 10) : ∃ M', fX3_carryOut F b 6 (nI x) p2 M = some (nI (a 2 + 1), M') ∧ CC M' b (sStop x a) ∧ FR b M M' := by
  have t1 : M (b + 4) 1 = nI (a 2) := hc.t
  have hs : ∀ k, sStop x a k = if k = 2 then a 2 + 1 else if k = 182 + a 2 then x else a k := fun k => rfl
  unfold fX3_carryOut fX6_append
  rw [t1, put_in (c := b + 4 + 1) (al1_5 hb) (by decide) h2]
  simp only [bV, lM, bM]
  rw [u2_same, if_pos rfl, u2_ne _ (show b + 4 ≠ b + 4 + 1 by omega), t1, nI_1]
  refine ⟨_, rfl, CC.of (a := a) (CL.pat hc (fun c q1 q2 => by rw [u2_ne _ q1, u2_ne _ (by omega)]) (fun k q => by rw [hs, if_neg (by omega), if_neg (by omega)]) ?_ ?_ ?_ (fun k q => ?_)) ?_ ?_, (FR.up (by omega)).tr (FR.up (by omega))⟩
  · rw [u2_same, if_pos rfl]; rfl
  · rw [u2_same, if_neg (by decide), u2_ne _ (by omega), hs, if_neg (by omega), if_neg (by omega)]; exact hc.cat
  · rw [u2_same, if_neg (by decide), u2_ne _ (by omega), hs, if_neg (by omega), if_neg (by omega)]; exact hc.goal
  · rw [hs, if_pos rfl] at q
    rw [u2_ne _ (by omega), show b + 4 + 1 = b + 5 from rfl, u2_same, hs]
    by_cases w : k = a 2
    · rw [if_pos w, if_neg (by omega), if_pos (by omega)]
    · rw [if_neg w, if_neg (by omega), if_neg (by omega)]; exact hc.st k (by omega)
  · rw [hs, if_neg (by omega), if_neg (by omega)]
  · rw [hs, if_neg (by omega), if_neg (by omega)]
theorem cDrop21 (hb : lay b = 1) {t : Nat} (ht : t < 10) (q1 q2 : Int32) (kx : Mem → Option (Int32 × Mem)) (m : Nat) : ∀ (v : Nat), v + m = t → ∀ (n : Nat), m < n → ∀ M : Mem, M (b + 4) 1 = nI t → ∃ M', fX6_remove_21 F (b + 4) q1 q2 kx n (nI v) M = kx M' ∧ (∀ c, c ≠ b + 5 → M' c = M c) ∧ ∀ k, M' (b + 5) k = if v ≤ k ∧ k < t then M (b + 5) (k + 1) else M (b + 5) k := by
  induction m with
  | zero =>
    intro v hv n hn M hM
    obtain ⟨n', rfl⟩ : ∃ n', n = n' + 1 := ⟨n - 1, by omega⟩
    rw [fX6_remove_21, hM, if_pos (le2 (by omega) (by omega) (by omega))]
    exact ⟨M, rfl, fun _ _ => rfl, fun k => by rw [if_neg (by omega)]⟩
  | succ m ih =>
    intro v hv n hn M hM
    obtain ⟨n', rfl⟩ : ∃ n', n = n' + 1 := ⟨n - 1, by omega⟩
    rw [fX6_remove_21, hM, if_neg (nle2 (by omega) (by omega) (by omega)), nI_1, at_in (c := b + 4 + 1) (al1_5 hb) (by decide) (by omega)]
    simp only [bM]
    rw [put_in (c := b + 4 + 1) (al1_5 hb) (by decide) (by omega)]
    simp only [bV, lM]
    obtain ⟨M', i1, i2, i3⟩ := ih (v + 1) (by omega) n' (by omega) (up2 M (b + 4 + 1) v (M (b + 4 + 1) (v + 1))) (by rw [u2_ne _ (by omega)]; exact hM)
    refine ⟨M', i1, fun c q => by rw [i2 c q, u2_ne _ (by omega)], fun k => ?_⟩
    rw [i3 k, show b + 4 + 1 = b + 5 from rfl, u2_same, u2_same]
    by_cases w : v + 1 ≤ k ∧ k < t
    · rw [if_pos w, if_neg (by omega), if_pos (by omega)]
    · rw [if_neg w]
      by_cases w2 : k = v
      · rw [if_pos w2, if_pos (by omega), w2]
      · rw [if_neg w2, if_neg (by omega)]
theorem sDrop_st {x k : Nat} (hk : k < a 2 - 1) : sDrop x a (182 + k) = if x ≤ k ∧ k < a 2 - 1 then a (182 + (k + 1)) else a (182 + k) := by
  unfold sDrop
  rw [if_neg (by omega), if_neg (by omega)]
  by_cases w : x ≤ k ∧ k < a 2 - 1
  · rw [if_pos w, if_pos (by omega)]
    rfl
  · rw [if_neg w, if_neg (by omega), if_neg (by omega)]
theorem cDrop (h : WF a) (hb : lay b = 1) (hF : 13 ≤ F) (hc : CC M b a) {x : Nat} (p2 : Int32) (hx : x < a 2) : ∃ M', fX3_carryOut F b 7 (nI x) p2 M = some (nI (a (182 + x)), M') ∧ CC M' b (sDrop x a) ∧ FR b M M' := by
  have ht := h.t
  have hg := h.goal_lt
  have t1 : M (b + 4) 1 = nI (a 2) := hc.t
  have g1 : M (b + 4) 3 = nI (a 4) := hc.goal
  have k1 : M (b + 4) 2 = nI (a 3) := hc.cat
  have s1 := hc.st
  unfold fX3_carryOut fX6_remove
  rw [at_in (c := b + 4 + 1) (al1_5 hb) (by decide) (by omega)]
  simp only [bM, lM]
  rw [show M (b + 4 + 1) x = nI (a (182 + x)) from s1 x hx, t1, lit 1, nI_sub (by omega)]
  obtain ⟨M', i1, i2, i3⟩ := cDrop21 (F := F) hb (t := a 2 - 1) (by omega) (nI x) (nI (a (182 + x))) (fun M14 => if (M14 (b + 4) 3) ≤ nI x then if (M14 (b + 4) 3) < (M14 (b + 4) 1) then some (nI (a (182 + x)), M14) else some (nI (a (182 + x)), up2 M14 (b + 4) 3 0) else some (nI (a (182 + x)), up2 M14 (b + 4) 3 ((M14 (b + 4) 3) - nI 1))) (a 2 - 1 - x) x (by omega) F (by omega) (up2 M (b + 4) 1 (nI (a 2 - 1))) (by rw [u2_same, if_pos rfl])
  rw [i1]
  have g2 : M' (b + 4) 3 = nI (a 4) := by rw [i2 _ (by omega), u2_same, if_neg (by decide)]; exact g1
  have t2 : M' (b + 4) 1 = nI (a 2 - 1) := by rw [i2 _ (by omega), u2_same, if_pos rfl]
  have k2 : M' (b + 4) 2 = nI (a 3) := by rw [i2 _ (by omega), u2_same, if_neg (by decide)]; exact k1
  have f2 : FR b M M' := fun c hc => by rw [i2 c (by omega), u2_ne _ (by omega)]
  have e0 : ∀ k, k ≠ 2 → k ≠ 4 → (k < 182 ∨ 192 ≤ k) → sDrop x a k = a k := fun k q1 q2 q3 => by
    unfold sDrop
    rw [if_neg q1, if_neg q2, if_neg (by omega), if_neg (by omega)]
  have fin : ∀ N : Mem, (∀ c, c ≠ b + 4 → N c = M' c) → N (b + 4) 1 = nI (a 2 - 1) → N (b + 4) 2 = nI (a 3) → N (b + 4) 3 = nI (sDrop x a 4) → CC N b (sDrop x a) := fun N n1 n2 n3 n4 => by
    refine CC.of (a := a) (CL.pat hc (fun c q1 q2 => by rw [n1 c q1, i2 c q2, u2_ne _ q1]) (fun k q => e0 k (by omega) (by omega) (by omega)) n2 ?_ n4 (fun k q => ?_)) (e0 7 (by omega) (by omega) (by omega)) (e0 9 (by omega) (by omega) (by omega))
    · rw [e0 3 (by omega) (by omega) (by omega)]; exact n3
    · have q' : k < a 2 - 1 := q
      rw [n1 _ (by omega), i3 k, sDrop_st q']
      by_cases w : x ≤ k ∧ k < a 2 - 1
      · rw [if_pos w, if_pos w, u2_ne _ (by omega)]; exact s1 (k + 1) (by omega)
      · rw [if_neg w, if_neg w, u2_ne _ (by omega)]; exact s1 k (by omega)
  have e4 : sDrop x a 4 = if a 4 ≤ x then (if a 4 < a 2 - 1 then a 4 else 0) else a 4 - 1 := rfl
  rw [g2, t2]
  by_cases w1 : a 4 ≤ x
  · rw [if_pos (le2 (by omega) (by omega) w1)]
    by_cases w2 : a 4 < a 2 - 1
    · rw [if_pos (lt2 (by omega) (by omega) w2)]
      exact ⟨_, rfl, fin _ (fun _ _ => rfl) t2 k2 (by rw [g2, e4, if_pos w1, if_pos w2]), f2⟩
    · rw [if_neg (nlt2 (by omega) (by omega) (by omega))]
      exact ⟨_, rfl, fin _ (fun c q => u2_ne _ q) (by rw [u2_same, if_neg (by decide)]; exact t2) (by rw [u2_same, if_neg (by decide)]; exact k2) (by rw [u2_same, if_pos rfl, e4, if_pos w1, if_neg w2]; rfl), f2.tr (FR.up (by omega))⟩
  · rw [if_neg (nle2 (by omega) (by omega) (by omega)), nI_sub (by omega)]
    exact ⟨_, rfl, fin _ (fun c q => u2_ne _ q) (by rw [u2_same, if_neg (by decide)]; exact t2) (by rw [u2_same, if_neg (by decide)]; exact k2) (by rw [u2_same, if_pos rfl, e4, if_neg w1]), f2.tr (FR.up (by omega))⟩
theorem cOp (h : WF a) (hb : lay b = 1) (hF : 100 ≤ F) (hc : CC M b a) {op x y : Nat} (hop : op ≤ 10) (ho : opOK op x y a) {p2 : Int32} (hp : (op = 1 ∨ op = 2 ∨ op = 5) → p2 = nI y) : ∃ M', fX3_carryOut F b op (nI x) p2 M = some (nI (opRes op x y a), M') ∧ CC M' b (opRow op x y a) ∧ FR b M M' := by
  have hn := h.n
  match op, hop, ho, hp with
  | 0, _, ho, _ => exact cAdd h hb hc p2 ho.2
  | 1, _, ho, hp =>
    obtain ⟨h1, h2, h3, h4, h5⟩ := ho
    rw [hp (by omega)]
    exact cJoin1 h hb hc (by omega) (by omega) h3
  | 2, _, ho, hp =>
    obtain ⟨h1, h2, h3⟩ := ho
    rw [hp (by omega)]
    have z := h.ln x y (by omega) (by omega) h3
    have s := sumF_upd (n := 144) (i := 12 * x + y) (x := 0) (f := fun k => a (38 + k)) (g := fun k => updN (fun k => a (38 + k)) (12 * x + y) 0 k) (by omega) (fun k hk => updN_at _ _ _ _)
    have s3 := h.sum
    have l1 : lk a x y = a (38 + (12 * x + y)) := by unfold lk; congr 1; omega
    exact cJoin0 h hb hc (by omega) (by omega) z.2 (by omega)
  | 3, _, ho, _ =>
    unfold fX3_carryOut fX11_bit
    simp only [bM]
    obtain ⟨M', i1, i2, i3⟩ := cBlind (F := F) (z := 1) h hc (x := x) (by have := ho.1; omega) (w := M (b + 1) 2 ||| 1 <<< (nI x &&& 31)) (fun j hj => by
      rw [bit_or, bit_one (by have := ho.1; omega) hj]
      by_cases q : j = x
      · rw [if_pos q]; simp [q]
      · rw [if_neg q]; simp [q])
    rw [i1]
    exact ⟨M', rfl, i2, i3⟩
  | 4, _, ho, _ =>
    unfold fX3_carryOut fX11_bit
    simp only [bM]
    obtain ⟨M', i1, i2, i3⟩ := cBlind (F := F) (z := 0) h hc (x := x) (by have := ho.1; omega) (w := M (b + 1) 2 &&& (1 <<< (nI x &&& 31) ^^^ (-1))) (fun j hj => by
      rw [bit_and, bit_not _ hj, bit_one (by have := ho.1; omega) hj]
      by_cases q : j = x
      · rw [if_pos q]; simp [q]
      · rw [if_neg q]; simp [q])
    rw [i1]
    exact ⟨M', rfl, i2, i3⟩
  | 5, _, ho, hp =>
    rw [hp (by omega)]
    exact cFill h hb hc (by have := ho.1; omega)
  | 6, _, ho, _ => exact cStop h hb hc p2 ho.2
  | 7, _, ho, _ => exact cDrop h hb (by omega) hc p2 ho
  | 8, _, ho, _ =>
    unfold fX3_carryOut fX3_replaceRate
    simp only [lM, bM]
    have e : M b 3 = nI (a 5) := hc.rate
    rw [e]
    exact ⟨_, rfl, CC.of (a := a) (CL.s_rate hc x) rfl rfl, FR.up (by omega)⟩
  | 9, _, ho, _ =>
    unfold fX3_carryOut fX3_replaceSeed
    simp only [lM, bM]
    have e : M b 4 = nI (a 6) := hc.seed
    rw [e]
    exact ⟨_, rfl, CC.of (a := a) (CL.s_seed hc x) rfl rfl, FR.up (by omega)⟩
  | 10, _, ho, _ =>
    obtain ⟨M', i1, i2, i3⟩ := cPass (F := F) h hb hF ho hc
    refine ⟨M', ?_, i2, i3⟩
    unfold fX3_carryOut
    simp only []
    rw [i1]
    rfl
end
section
variable {F : Nat} {a : Nat → Nat} {N : Mem}
def mDo (F op : Nat) (p1 p2 : Int32) (M : Mem) : Option (Int32 × Mem) := match op with
  | 0 => fX12_addsShelf F p1 M
  | 1 => fX12_links F p1 p2 M
  | 2 => fX12_unlinks F p1 p2 M
  | 3 => fX12_blinds F p1 1 M
  | 4 => fX12_blinds F p1 0 M
  | 5 => fX12_fills F p1 p2 M
  | 6 => fX12_addsStop F p1 M
  | 7 => fX12_drops F p1 M
  | 8 => fX12_sets F 5 p1 M
  | 9 => fX12_sets F 6 p1 M
  | _ => fX12_passes F p1 M
def mNot (F op : Nat) (p1 p2 : Int32) (M : Mem) : Option (Int32 × Mem) := match op with
  | 0 => fX12_notShelf F p1 M
  | 1 => fX12_notLink F p1 p2 M
  | 2 => fX12_notUnlink F p1 p2 M
  | 3 => fX12_notBlind F p1 1 M
  | 4 => fX12_notBlind F p1 0 M
  | 5 => fX12_notFill F p1 p2 M
  | 6 => fX12_notStop F p1 M
  | 7 => fX12_notDrop F p1 M
  | 8 => fX12_notRate F p1 M
  | 9 => fX12_notSeed F p1 M
  | _ => fX12_notPass F p1 M
theorem mAdd (h0 : a 0 < 12) {x : Nat} : fX12_addsShelf F (nI x) (mw N a) = some (nI (a 0), mw N (sAdd x a)) := by
  unfold fX12_addsShelf
  rw [mw_120, rowI_at, lit 14, nI_add, inbN (by omega), ckd _ (by omega), nI_cl (by omega), mw_up]
  simp only [lM]
  rw [mw_120, rowI_at, nI_add, mw_up, mw_120, rowI_at, lit 1, nI_add, mw_up, mw_120, rowI_at, updN_same, updN_ne _ (by omega), updN_ne _ (by omega), updN_ne _ (by omega), nI_sub (by omega), Nat.add_sub_cancel]
  rfl
theorem mJoins {x y z : Nat} (hx : x < 12) (hy : y < 12) : fX12_joins F (nI x) (nI y) (nI z) (mw N a) = some (mw N (updN (updN a (38 + 12 * x + y) z) (38 + 12 * y + x) z)) := by
  unfold fX12_joins
  rw [lit 38, lit 12, nI_mul, nI_mul, nI_add, nI_add, nI_add, nI_add, inbN (by omega), ckd _ (by omega), nI_cl (by omega), mw_up]
  simp only [lM]
  rw [inbN (by omega), ckd _ (by omega), nI_cl (by omega), mw_up]
theorem mLink {x y : Nat} (hx : x < 12) (hy : y < 12) : fX12_links F (nI x) (nI y) (mw N a) = some (nI (a 1 + 1), mw N (sJoin x y 1 (a 1 + 1) a)) := by
  unfold fX12_links
  rw [show (1 : Int32) = nI 1 from rfl, mJoins hx hy]
  simp only [bV, lM]
  rw [mw_120, rowI_at, nI_add, mw_up, mw_120, rowI_at, updN_same, updN_ne _ (by omega), updN_ne _ (by omega)]
  rfl
theorem mUnlink {x y : Nat} (hx : x < 12) (hy : y < 12) (h1 : 1 ≤ a 1) : fX12_unlinks F (nI x) (nI y) (mw N a) = some (nI (a 1 - 1), mw N (sJoin x y 0 (a 1 - 1) a)) := by
  unfold fX12_unlinks
  rw [show (0 : Int32) = nI 0 from rfl, mJoins hx hy]
  simp only [bV, lM]
  rw [mw_120, rowI_at, updN_ne _ (by omega), updN_ne _ (by omega), show nI (a 1) - 1 = nI (a 1 - 1) from nI_sub (b := 1) h1, mw_up, mw_120, rowI_at, updN_same]
  rfl
theorem mBlinds (hn : a 0 ≤ 12) (hb : ∀ k, k < 12 → a (26 + k) ≤ 1) (kx : Int32 → Mem → Option (Int32 × Mem)) (m : Nat) : ∀ v, v + m = a 0 → ∀ n, m < n → fX12_blinds_15 F kx n (nI (cntB v (fun k => decide (a (26 + k) = 1)))) (nI v) (mw N a) = kx (nI (cntB (a 0) (fun k => decide (a (26 + k) = 1)))) (mw N a) := by
  induction m with
  | zero =>
    intro v hv n hn2
    obtain ⟨n', rfl⟩ : ∃ n', n = n' + 1 := ⟨n - 1, by omega⟩
    rw [fX12_blinds_15, mw_120, rowI_at, if_pos (le2 (by omega) (by omega) (by omega)), show v = a 0 by omega]
  | succ m ih =>
    intro v hv n hn2
    obtain ⟨n', rfl⟩ : ∃ n', n = n' + 1 := ⟨n - 1, by omega⟩
    have hb1 := hb v (by omega)
    rw [fX12_blinds_15, mw_120, rowI_at, if_neg (nle2 (by omega) (by omega) (by omega)), lit 26, nI_add, inbN (by omega), ckd _ (by omega), nI_cl (by omega), rowI_at]
    simp only [lM]
    rw [nI_add, nI_1, ← ih (v + 1) (by omega) n' (by omega)]
    congr 2
    show _ = cntB v _ + (if decide (a (26 + v) = 1) = true then 1 else 0)
    by_cases q : a (26 + v) = 1
    · rw [if_pos (decide_eq_true q), q]
    · rw [if_neg (by simp [q])]; omega
theorem mBlind (h : WF a) (hF : 30 ≤ F) {x z : Nat} (hx : x < a 0) (hz : z ≤ 1) : fX12_blinds F (nI x) (nI z) (mw N a) = some (nI (blC (updN a (26 + x) z)), mw N (updN a (26 + x) z)) := by
  have hn := h.n
  have h2 := h.blind hx hz
  have e0 : updN a (26 + x) z 0 = a 0 := updN_ne a (by omega)
  unfold fX12_blinds
  rw [lit 26, nI_add, inbN (by omega), ckd _ (by omega), nI_cl (by omega), mw_up]
  simp only [lM]
  have e : (0 : Int32) = nI (cntB 0 (fun k => decide (updN a (26 + x) z (26 + k) = 1))) := rfl
  have e' : (0 : Int32) = nI 0 := rfl
  have i := mBlinds (F := F) (N := N) (a := updN a (26 + x) z) (by omega) h2.bl (fun w12 M11 => some (w12, M11)) (updN a (26 + x) z 0) 0 (by omega) F (by omega)
  rw [show fX12_blinds_15 F (fun w12 M11 => some (w12, M11)) F 0 0 (mw N (updN a (26 + x) z)) = _ from i, e0]
  unfold blC
  have c := cntB_ext (p := fun k => decide (updN a (26 + x) z (26 + k) = 1)) (n := a 0) (12 - a 0) (fun i q1 q2 => by
    have := h2.bl0 i (by omega) (by omega)
    simp only [this]
    rfl)
  rw [show a 0 + (12 - a 0) = 12 by omega] at c
  rw [c]
theorem mFill {x y : Nat} (hx : x < 12) : fX12_fills F (nI x) (nI y) (mw N a) = some (nI (a (14 + x) + y), mw N (sFill x y a)) := by
  unfold fX12_fills
  rw [lit 14, nI_add, inbN (by omega), ckd _ (by omega), ckd _ (by omega), nI_cl (by omega), mw_120, rowI_at, nI_add, mw_up]
  simp only [lM]
  rw [ckd _ (by omega), mw_120, rowI_at, nI_add, mw_up, mw_120, rowI_at, updN_ne _ (by omega), updN_same, updN_ne _ (by omega)]
  rfl
theorem mStop (h2 : a 2 < 10) {x : Nat} : fX12_addsStop F (nI x) (mw N a) = some (nI (a 2 + 1), mw N (sStop x a)) := by
  unfold fX12_addsStop
  rw [mw_120, rowI_at, lit 182, nI_add, inbN (by omega), ckd _ (by omega), nI_cl (by omega), mw_up]
  simp only [lM]
  rw [mw_120, rowI_at, lit 1, nI_add, mw_up, mw_120, rowI_at, updN_same, updN_ne _ (by omega)]
  rfl
theorem mDrop23 {t : Nat} (ht : t < 10) (q1 q2 : Int32) (kx : Mem → Option (Int32 × Mem)) (m : Nat) : ∀ v, v + m = t → ∀ n, m < n → ∀ a : Nat → Nat, a 2 = t → fX12_drops_23 F q1 q2 kx n (nI v) (mw N a) = kx (mw N (fun k => if 182 + v ≤ k ∧ k < 182 + t then a (k + 1) else a k)) := by
  induction m with
  | zero =>
    intro v hv n hn a ha
    obtain ⟨n', rfl⟩ : ∃ n', n = n' + 1 := ⟨n - 1, by omega⟩
    rw [fX12_drops_23, mw_120, rowI_at, if_pos (le2 (by omega) (by omega) (by omega))]
    congr 2
    funext k
    rw [if_neg (by omega)]
  | succ m ih =>
    intro v hv n hn a ha
    obtain ⟨n', rfl⟩ : ∃ n', n = n' + 1 := ⟨n - 1, by omega⟩
    rw [fX12_drops_23, mw_120, rowI_at, if_neg (nle2 (by omega) (by omega) (by omega)), lit 182, nI_add, lit 1, nI_add, inbN (by omega), ckd _ (by omega), inbN (by omega), ckd _ (by omega), nI_cl (by omega), nI_cl (by omega), rowI_at, mw_up]
    simp only [lM]
    rw [nI_add, ih (v + 1) (by omega) n' (by omega) _ (by rw [updN_ne _ (by omega)]; exact ha)]
    congr 2
    funext k
    by_cases w : 182 + (v + 1) ≤ k ∧ k < 182 + t
    · rw [if_pos w, if_pos (by omega), updN_ne _ (by omega)]
    · rw [if_neg w]
      by_cases w2 : k = 182 + v
      · rw [if_pos (by omega), w2, updN_same]
      · rw [if_neg (by omega), updN_ne _ w2]
theorem mDrop (h : WF a) (hF : 30 ≤ F) {x : Nat} (hx : x < a 2) : fX12_drops F (nI x) (mw N a) = some (nI (a (182 + x)), mw N (sDrop x a)) := by
  have ht := h.t
  have hg := h.goal_lt
  have hg2 := h.goal
  have hz : ∀ k, updN a 2 (a 2 - 1) k = if k = 2 then a 2 - 1 else a k := fun k => rfl
  unfold fX12_drops
  rw [lit 182, nI_add, inbN (by omega), ckd _ (by omega), nI_cl (by omega), mw_120, rowI_at, rowI_at, show nI (a 2) - 1 = nI (a 2 - 1) from nI_sub (b := 1) (by omega), mw_up]
  simp only [lM]
  have e2 : updN a 2 (a 2 - 1) 2 = a 2 - 1 := updN_same a _ _
  rw [mDrop23 (t := a 2 - 1) (by omega) _ _ _ (a 2 - 1 - x) x (by omega) F (by omega) _ e2]
  have fin : ∀ g, g = (if a 4 ≤ x then (if a 4 < a 2 - 1 then a 4 else 0) else a 4 - 1) → updN (updN (fun k => if 182 + x ≤ k ∧ k < 182 + (a 2 - 1) then updN a 2 (a 2 - 1) (k + 1) else updN a 2 (a 2 - 1) k) (182 + (a 2 - 1)) 0) 4 g = sDrop x a := by
    intro g hg
    funext k
    unfold sDrop
    rw [updN_at, updN_at]
    by_cases w4 : k = 4
    · rw [if_pos w4, if_neg (by omega), if_pos w4, hg]
    · rw [if_neg w4]
      by_cases w2 : k = 2
      · rw [if_neg (by omega), if_neg (by omega), if_pos w2, w2, e2]
      · rw [if_neg w2, if_neg w4]
        by_cases w5 : 182 + x ≤ k ∧ k < 181 + a 2
        · rw [if_neg (by omega), if_pos (by omega), if_pos w5, updN_ne _ (by omega)]
        · rw [if_neg w5]
          by_cases w6 : k = 181 + a 2
          · rw [if_pos (by omega), if_pos w6]
          · rw [if_neg (by omega), if_neg (by omega), if_neg w6, updN_ne _ w2]
  have g2 : (fun k => if 182 + x ≤ k ∧ k < 182 + (a 2 - 1) then updN a 2 (a 2 - 1) (k + 1) else updN a 2 (a 2 - 1) k) 2 = a 2 - 1 := by
    show (if 182 + x ≤ 2 ∧ 2 < 182 + (a 2 - 1) then _ else _) = _
    rw [if_neg (by omega), e2]
  have g4 : (fun k => if 182 + x ≤ k ∧ k < 182 + (a 2 - 1) then updN a 2 (a 2 - 1) (k + 1) else updN a 2 (a 2 - 1) k) 4 = a 4 := by
    show (if 182 + x ≤ 4 ∧ 4 < 182 + (a 2 - 1) then _ else _) = _
    rw [if_neg (by omega), updN_ne _ (by omega)]
  generalize (fun k => if 182 + x ≤ k ∧ k < 182 + (a 2 - 1) then updN a 2 (a 2 - 1) (k + 1) else updN a 2 (a 2 - 1) k) = G at fin g2 g4 ⊢
  have r2 : updN G (182 + (a 2 - 1)) 0 2 = a 2 - 1 := by rw [updN_ne _ (by omega), g2]
  have r4 : updN G (182 + (a 2 - 1)) 0 4 = a 4 := by rw [updN_ne _ (by omega), g4]
  rw [mw_120, rowI_at, g2, nI_add, inbN (by omega), ckd _ (by omega), nI_cl (by omega), mw_up0, mw_120]
  generalize updN G (182 + (a 2 - 1)) 0 = R at fin r2 r4 ⊢
  rw [rowI_at, rowI_at, r2, r4]
  by_cases w1 : a 4 ≤ x
  · rw [if_pos (le2 (by omega) (by omega) w1)]
    by_cases w2 : a 4 < a 2 - 1
    · rw [if_pos (lt2 (by omega) (by omega) w2), ← fin (a 4) (by rw [if_pos w1, if_pos w2]), updN_id r4.symm]
    · rw [if_neg (nlt2 (by omega) (by omega) (by omega)), mw_up0, fin 0 (by rw [if_pos w1, if_neg w2])]
  · rw [if_neg (nle2 (by omega) (by omega) (by omega)), show nI (a 4) - 1 = nI (a 4 - 1) from nI_sub (b := 1) (by omega), mw_up, mw_120, rowI_at, rowI_at, updN_same, updN_ne _ (show 2 ≠ 4 by omega), r2, if_pos (lt2 (by omega) (by omega) (by omega)), fin _ (by rw [if_neg w1])]
theorem mSets {i x : Nat} (hi : i < 216) : fX12_sets F (nI i) (nI x) (mw N a) = some (nI (a i), mw N (updN a i x)) := by
  unfold fX12_sets
  rw [inbN (by omega), ckd _ hi, nI_cl (by omega), mw_120, rowI_at]
  simp only [lM]
  rw [ckd _ hi, mw_up]
theorem mOp (h : WF a) (hF : 1500 ≤ F) {op x y : Nat} (hop : op ≤ 10) (ho : opOK op x y a) {p2 : Int32} (hp : (op = 1 ∨ op = 2 ∨ op = 5) → p2 = nI y) : ∃ N', mDo F op (nI x) p2 (mw N a) = some (nI (opRes op x y a), mw N' (opRow op x y a)) ∧ ∀ c, c ≠ 125 → N' c = N c := by
  have hn := h.n
  match op, hop, ho, hp with
  | 0, _, ho, _ => exact ⟨N, mAdd (F := F) (N := N) ho.2, fun _ _ => rfl⟩
  | 1, _, ho, hp =>
    obtain ⟨h1, h2, h3, h4, h5⟩ := ho
    rw [hp (by omega)]
    exact ⟨N, mLink (F := F) (N := N) (by omega) (by omega), fun _ _ => rfl⟩
  | 2, _, ho, hp =>
    obtain ⟨h1, h2, h3⟩ := ho
    rw [hp (by omega)]
    have z := h.ln x y (by omega) (by omega) h3
    have s := sumF_upd (n := 144) (i := 12 * x + y) (x := 0) (f := fun k => a (38 + k)) (g := fun k => updN (fun k => a (38 + k)) (12 * x + y) 0 k) (by omega) (fun k hk => updN_at _ _ _ _)
    have s3 := h.sum
    have l1 : lk a x y = a (38 + (12 * x + y)) := by unfold lk; congr 1; omega
    exact ⟨N, mUnlink (F := F) (N := N) (by omega) (by omega) (by omega), fun _ _ => rfl⟩
  | 3, _, ho, _ => exact ⟨N, mBlind (N := N) (F := F) (z := 1) h (by omega) ho.1 (by omega), fun _ _ => rfl⟩
  | 4, _, ho, _ => exact ⟨N, mBlind (N := N) (F := F) (z := 0) h (by omega) ho.1 (by omega), fun _ _ => rfl⟩
  | 5, _, ho, hp =>
    rw [hp (by omega)]
    exact ⟨N, mFill (F := F) (N := N) (by have := ho.1; omega), fun _ _ => rfl⟩
  | 6, _, ho, _ => exact ⟨N, mStop (F := F) (N := N) ho.2, fun _ _ => rfl⟩
  | 7, _, ho, _ => exact ⟨N, mDrop (N := N) (F := F) h (by omega) ho, fun _ _ => rfl⟩
  | 8, _, ho, _ => exact ⟨N, mSets (F := F) (N := N) (i := 5) (by decide), fun _ _ => rfl⟩
  | 9, _, ho, _ => exact ⟨N, mSets (F := F) (N := N) (i := 6) (by decide), fun _ _ => rfl⟩
  | 10, _, ho, _ => exact mPass h hF ho
end
