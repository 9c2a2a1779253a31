def updN (a : Nat → Nat) (i v : Nat) : Nat → Nat := fun j => if j = i then v else a j
theorem updN_at (a : Nat → Nat) (i v j : Nat) : updN a i v j = if j = i then v else a j := rfl
theorem updN_ne (a : Nat → Nat) {i v j : Nat} (h : j ≠ i) : updN a i v j = a j := if_neg h
theorem updN_same (a : Nat → Nat) (i v : Nat) : updN a i v i = v := if_pos rfl
def rowI (a : Nat → Nat) : Nat → Int32 := fun k => nI (a k)
theorem rowI_at (a : Nat → Nat) (k : Nat) : rowI a k = nI (a k) := rfl
theorem upd_rowI (a : Nat → Nat) (i v : Nat) : upd (rowI a) i (nI v) = rowI (updN a i v) := by
  funext k
  unfold upd rowI updN
  by_cases h : k = i
  · rw [if_pos h, if_pos h]
  · rw [if_neg h, if_neg h]
def mw (M : Mem) (a : Nat → Nat) : Mem := fun c => if c = 120 then rowI a else M c
theorem mw_120 (M : Mem) (a : Nat → Nat) : mw M a 120 = rowI a := rfl
theorem mw_ne (M : Mem) (a : Nat → Nat) {c : Nat} (h : c ≠ 120) : mw M a c = M c := if_neg h
theorem mw_up (M : Mem) (a : Nat → Nat) (i v : Nat) : up2 (mw M a) 120 i (nI v) = mw M (updN a i v) := by
  funext c
  unfold up2
  by_cases h : c = 120
  · subst h
    rw [if_pos rfl, mw_120, mw_120, upd_rowI]
  · rw [if_neg h, mw_ne M a h, mw_ne M _ h]
theorem mw_up_ne (M : Mem) (a : Nat → Nat) {c : Nat} (h : c ≠ 120) (i : Nat) (v : Int32) : up2 (mw M a) c i v = mw (up2 M c i v) a := by
  funext d
  unfold up2
  by_cases h1 : d = c
  · subst h1
    rw [if_pos rfl, mw_ne M a h, mw_ne _ a h, if_pos rfl]
  · rw [if_neg h1]
    by_cases h2 : d = 120
    · subst h2; rfl
    · rw [mw_ne M a h2, mw_ne _ a h2, if_neg h1]
theorem mw_eq {M : Mem} {a : Nat → Nat} (h : M 120 = rowI a) : M = mw M a := by
  funext c
  by_cases hc : c = 120
  · subst hc; rw [mw_120, h]
  · rw [mw_ne M a hc]
theorem mw_mw (M : Mem) (a a' : Nat → Nat) : mw (mw M a) a' = mw M a' := by
  funext c
  unfold mw
  by_cases hc : c = 120
  · rw [if_pos hc, if_pos hc]
  · rw [if_neg hc, if_neg hc, if_neg hc]
theorem u2_at (M : Mem) (c i : Nat) (v : Int32) (d k : Nat) : up2 M c i v d k = if d = c then (if k = i then v else M d k) else M d k := by
  unfold up2
  by_cases h : d = c
  · subst h; rw [if_pos rfl, if_pos rfl]; rfl
  · rw [if_neg h, if_neg h]
theorem u2_ne (M : Mem) {c i : Nat} {v : Int32} {d : Nat} (h : d ≠ c) : up2 M c i v d = M d := if_neg h
theorem u2_same (M : Mem) {c i k : Nat} {v : Int32} : up2 M c i v c k = if k = i then v else M c k := by rw [u2_at, if_pos rfl]
def lk (a : Nat → Nat) (i j : Nat) : Nat := a (38 + 12 * i + j)
def sumF : Nat → (Nat → Nat) → Nat
  | 0, _ => 0
  | n + 1, f => sumF n f + f n
def WF (a : Nat → Nat) : Prop := (a 0 ≤ 12) ∧ (a 1 ≤ 20) ∧ (a 2 ≤ 10) ∧ (a 8 ≤ 8) ∧ (a 5 ≤ 16) ∧ (a 6 < 1024) ∧ (a 3 < a 0 ∨ a 3 = 0) ∧ (a 4 < a 2 ∨ a 4 = 0) ∧ (∀ k, k < 12 → a (14 + k) ≤ 99) ∧ (∀ k, k < 12 → a (26 + k) ≤ 1) ∧ (∀ k, k < 12 → a 0 ≤ k → a (26 + k) = 0) ∧ (∀ i j, i < 12 → j < 12 → lk a i j ≤ 1) ∧ (∀ i j, i < 12 → j < 12 → lk a i j = lk a j i) ∧ (∀ i j, i < 12 → j < 12 → lk a i j = 1 → i < a 0 ∧ i ≠ j) ∧ (sumF 144 (fun k => a (38 + k)) = 2 * a 1) ∧ (∀ k, k < a 2 → a (182 + k) < a 0) ∧ (∀ k, k < a 8 → a (192 + 3 * k) < a 0) ∧ (∀ k, k < a 8 → a (194 + 3 * k) ≤ 2) ∧ (∀ k, 216 ≤ k → a k = 0)
theorem WF.n {a : Nat → Nat} (h : WF a) : a 0 ≤ 12 := h.1
theorem WF.p {a : Nat → Nat} (h : WF a) : a 1 ≤ 20 := h.2.1
theorem WF.t {a : Nat → Nat} (h : WF a) : a 2 ≤ 10 := h.2.2.1
theorem WF.m {a : Nat → Nat} (h : WF a) : a 8 ≤ 8 := h.2.2.2.1
theorem WF.rate {a : Nat → Nat} (h : WF a) : a 5 ≤ 16 := h.2.2.2.2.1
theorem WF.seed {a : Nat → Nat} (h : WF a) : a 6 < 1024 := h.2.2.2.2.2.1
theorem WF.cat {a : Nat → Nat} (h : WF a) : a 3 < a 0 ∨ a 3 = 0 := h.2.2.2.2.2.2.1
theorem WF.goal {a : Nat → Nat} (h : WF a) : a 4 < a 2 ∨ a 4 = 0 := h.2.2.2.2.2.2.2.1
theorem WF.gr {a : Nat → Nat} (h : WF a) : ∀ k, k < 12 → a (14 + k) ≤ 99 := h.2.2.2.2.2.2.2.2.1
theorem WF.bl {a : Nat → Nat} (h : WF a) : ∀ k, k < 12 → a (26 + k) ≤ 1 := h.2.2.2.2.2.2.2.2.2.1
theorem WF.bl0 {a : Nat → Nat} (h : WF a) : ∀ k, k < 12 → a 0 ≤ k → a (26 + k) = 0 := h.2.2.2.2.2.2.2.2.2.2.1
theorem WF.l1 {a : Nat → Nat} (h : WF a) : ∀ i j, i < 12 → j < 12 → lk a i j ≤ 1 := h.2.2.2.2.2.2.2.2.2.2.2.1
theorem WF.ls {a : Nat → Nat} (h : WF a) : ∀ i j, i < 12 → j < 12 → lk a i j = lk a j i := h.2.2.2.2.2.2.2.2.2.2.2.2.1
theorem WF.ln {a : Nat → Nat} (h : WF a) : ∀ i j, i < 12 → j < 12 → lk a i j = 1 → i < a 0 ∧ i ≠ j := h.2.2.2.2.2.2.2.2.2.2.2.2.2.1
theorem WF.sum {a : Nat → Nat} (h : WF a) : sumF 144 (fun k => a (38 + k)) = 2 * a 1 := h.2.2.2.2.2.2.2.2.2.2.2.2.2.2.1
theorem WF.st {a : Nat → Nat} (h : WF a) : ∀ k, k < a 2 → a (182 + k) < a 0 := h.2.2.2.2.2.2.2.2.2.2.2.2.2.2.2.1
theorem WF.ms {a : Nat → Nat} (h : WF a) : ∀ k, k < a 8 → a (192 + 3 * k) < a 0 := h.2.2.2.2.2.2.2.2.2.2.2.2.2.2.2.2.1
theorem WF.mh {a : Nat → Nat} (h : WF a) : ∀ k, k < a 8 → a (194 + 3 * k) ≤ 2 := h.2.2.2.2.2.2.2.2.2.2.2.2.2.2.2.2.2.1
theorem WF.z {a : Nat → Nat} (h : WF a) : ∀ k, 216 ≤ k → a k = 0 := h.2.2.2.2.2.2.2.2.2.2.2.2.2.2.2.2.2.2
def CL (M : Mem) (b : Nat) (a : Nat → Nat) : Prop := (M b 3 = nI (a 5)) ∧ (M b 4 = nI (a 6)) ∧ (M b 5 = nI (a 7)) ∧ (M b 6 = nI (a 13)) ∧ (M b 7 = nI (a 12)) ∧ (M b 8 = nI (a 9)) ∧ (M b 9 = nI (a 10)) ∧ (M b 10 = nI (a 11)) ∧ (∀ j, j < 32 → bitb (M (b + 1) 2) j = decide (j < 12 ∧ a (26 + j) = 1)) ∧ (M (b + 1) 3 = nI (a 0)) ∧ (M (b + 1) 4 = nI (a 1)) ∧ (∀ k, k < 12 → M (b + 2) k = nI (a (14 + k))) ∧ (∀ k j, k < 12 → j < 32 → bitb (M (b + 3) k) j = decide (j < 12 ∧ lk a k j = 1)) ∧ (M (b + 4) 1 = nI (a 2)) ∧ (M (b + 4) 2 = nI (a 3)) ∧ (M (b + 4) 3 = nI (a 4)) ∧ (∀ k, k < a 2 → M (b + 5) k = nI (a (182 + k))) ∧ (M (b + 6) 3 = nI (a 8)) ∧ (∀ k, k < a 8 → M (b + 7) k = nI (a (192 + 3 * k))) ∧ (∀ k, k < a 8 → M (b + 8) k = nI (a (193 + 3 * k))) ∧ (∀ k, k < a 8 → M (b + 9) k = nI (a (194 + 3 * k)))
theorem CL.rate {M : Mem} {b : Nat} {a : Nat → Nat} (h : CL M b a) : M b 3 = nI (a 5) := h.1
theorem CL.seed {M : Mem} {b : Nat} {a : Nat → Nat} (h : CL M b a) : M b 4 = nI (a 6) := h.2.1
theorem CL.mi {M : Mem} {b : Nat} {a : Nat → Nat} (h : CL M b a) : M b 5 = nI (a 7) := h.2.2.1
theorem CL.pu {M : Mem} {b : Nat} {a : Nat → Nat} (h : CL M b a) : M b 6 = nI (a 13) := h.2.2.2.1
theorem CL.ea {M : Mem} {b : Nat} {a : Nat → Nat} (h : CL M b a) : M b 7 = nI (a 12) := h.2.2.2.2.1
theorem CL.ca {M : Mem} {b : Nat} {a : Nat → Nat} (h : CL M b a) : M b 8 = nI (a 9) := h.2.2.2.2.2.1
theorem CL.go {M : Mem} {b : Nat} {a : Nat → Nat} (h : CL M b a) : M b 9 = nI (a 10) := h.2.2.2.2.2.2.1
theorem CL.ri {M : Mem} {b : Nat} {a : Nat → Nat} (h : CL M b a) : M b 10 = nI (a 11) := h.2.2.2.2.2.2.2.1
theorem CL.bl {M : Mem} {b : Nat} {a : Nat → Nat} (h : CL M b a) : ∀ j, j < 32 → bitb (M (b + 1) 2) j = decide (j < 12 ∧ a (26 + j) = 1) := h.2.2.2.2.2.2.2.2.1
theorem CL.n {M : Mem} {b : Nat} {a : Nat → Nat} (h : CL M b a) : M (b + 1) 3 = nI (a 0) := h.2.2.2.2.2.2.2.2.2.1
theorem CL.p {M : Mem} {b : Nat} {a : Nat → Nat} (h : CL M b a) : M (b + 1) 4 = nI (a 1) := h.2.2.2.2.2.2.2.2.2.2.1
theorem CL.gr {M : Mem} {b : Nat} {a : Nat → Nat} (h : CL M b a) : ∀ k, k < 12 → M (b + 2) k = nI (a (14 + k)) := h.2.2.2.2.2.2.2.2.2.2.2.1
theorem CL.nb {M : Mem} {b : Nat} {a : Nat → Nat} (h : CL M b a) : ∀ k j, k < 12 → j < 32 → bitb (M (b + 3) k) j = decide (j < 12 ∧ lk a k j = 1) := h.2.2.2.2.2.2.2.2.2.2.2.2.1
theorem CL.t {M : Mem} {b : Nat} {a : Nat → Nat} (h : CL M b a) : M (b + 4) 1 = nI (a 2) := h.2.2.2.2.2.2.2.2.2.2.2.2.2.1
theorem CL.cat {M : Mem} {b : Nat} {a : Nat → Nat} (h : CL M b a) : M (b + 4) 2 = nI (a 3) := h.2.2.2.2.2.2.2.2.2.2.2.2.2.2.1
theorem CL.goal {M : Mem} {b : Nat} {a : Nat → Nat} (h : CL M b a) : M (b + 4) 3 = nI (a 4) := h.2.2.2.2.2.2.2.2.2.2.2.2.2.2.2.1
theorem CL.st {M : Mem} {b : Nat} {a : Nat → Nat} (h : CL M b a) : ∀ k, k < a 2 → M (b + 5) k = nI (a (182 + k)) := h.2.2.2.2.2.2.2.2.2.2.2.2.2.2.2.2.1
theorem CL.m {M : Mem} {b : Nat} {a : Nat → Nat} (h : CL M b a) : M (b + 6) 3 = nI (a 8) := h.2.2.2.2.2.2.2.2.2.2.2.2.2.2.2.2.2.1
theorem CL.ms {M : Mem} {b : Nat} {a : Nat → Nat} (h : CL M b a) : ∀ k, k < a 8 → M (b + 7) k = nI (a (192 + 3 * k)) := h.2.2.2.2.2.2.2.2.2.2.2.2.2.2.2.2.2.2.1
theorem CL.me {M : Mem} {b : Nat} {a : Nat → Nat} (h : CL M b a) : ∀ k, k < a 8 → M (b + 8) k = nI (a (193 + 3 * k)) := h.2.2.2.2.2.2.2.2.2.2.2.2.2.2.2.2.2.2.2.1
theorem CL.mh {M : Mem} {b : Nat} {a : Nat → Nat} (h : CL M b a) : ∀ k, k < a 8 → M (b + 9) k = nI (a (194 + 3 * k)) := h.2.2.2.2.2.2.2.2.2.2.2.2.2.2.2.2.2.2.2.2
def FR (b : Nat) (M M' : Mem) : Prop := ∀ c, (c < b ∨ b + 10 ≤ c) → M' c = M c
theorem FR.rf {b : Nat} {M : Mem} : FR b M M := fun _ _ => rfl
theorem FR.tr {b : Nat} {M M' M'' : Mem} (h : FR b M M') (g : FR b M' M'') : FR b M M'' := fun c hc => (g c hc).trans (h c hc)
theorem FR.up {b : Nat} {M : Mem} {c i : Nat} {v : Int32} (h : b ≤ c ∧ c < b + 10) : FR b M (up2 M c i v) := fun d hd => u2_ne M (by omega)
theorem al1_2 {b : Nat} (h : lay b = 1) : alen (b + 2) = 12 := al_20 (ly1_2 h)
theorem al1_3 {b : Nat} (h : lay b = 1) : alen (b + 3) = 12 := al_20 (ly1_3 h)
theorem al1_5 {b : Nat} (h : lay b = 1) : alen (b + 5) = 10 := al_21 (ly1_5 h)
theorem al1_7 {b : Nat} (h : lay b = 1) : alen (b + 7) = 8 := al_22 (ly1_7 h)
theorem al1_8 {b : Nat} (h : lay b = 1) : alen (b + 8) = 8 := al_22 (ly1_8 h)
theorem al1_9 {b : Nat} (h : lay b = 1) : alen (b + 9) = 8 := al_22 (ly1_9 h)
theorem at_in {F c k n : Nat} {M : Mem} (hc : alen c = n) (hn : n < 2 ^ 31) (hk : k < n) : fX11_at F c (nI k) M = some (M c k, M) := by
  unfold fX11_at
  rw [if_neg (nI_pos (by omega)), hc, if_neg (nI_ge hk hn), nI_cl (by omega), inbN (by omega), ckd _ hk]
theorem at_out {F c k n : Nat} {M : Mem} (hc : alen c = n) (hk : n ≤ k) (h2 : k < 2 ^ 31) : fX11_at F c (nI k) M = some (0, M) := by
  unfold fX11_at
  rw [if_neg (nI_pos (by omega)), hc, if_pos (nI_le hk h2)]
theorem put_in {F c k n : Nat} {v : Int32} {M : Mem} (hc : alen c = n) (hn : n < 2 ^ 31) (hk : k < n) : fX11_put F c (nI k) v M = some (up2 M c k v) := by
  unfold fX11_put
  rw [if_neg (nI_pos (by omega)), hc, if_neg (nI_ge hk hn), nI_cl (by omega), inbN (by omega), ckd _ hk]
  rfl
theorem put_out {F c k n : Nat} {v : Int32} {M : Mem} (hc : alen c = n) (hk : n ≤ k) (h2 : k < 2 ^ 31) : fX11_put F c (nI k) v M = some M := by
  unfold fX11_put
  rw [if_neg (nI_pos (by omega)), hc, if_pos (nI_le hk h2)]
