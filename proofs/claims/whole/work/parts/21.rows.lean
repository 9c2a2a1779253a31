def updN (a : Nat → Nat) (i v : Nat) : Nat → Nat := fun j => if j = i then v else a j
theorem updN_at (a : Nat → Nat) (i v j : Nat) : updN a i v j = if j = i then v else a j := rfl
theorem updN_ne (a : Nat → Nat) {i v j : Nat} (h : j ≠ i) : updN a i v j = a j := if_neg h
theorem updN_same (a : Nat → Nat) (i v : Nat) : updN a i v i = v := if_pos rfl
def rowI (a : Nat → Nat) : Nat → Int32 := fun k => nI (a k)
theorem rowI_at (a : Nat → Nat) (k : Nat) : rowI a k = nI (a k) := rfl
theorem upd_rowI (a : Nat → Nat) (i v : Nat) : upd (rowI a) i (nI v) = rowI (updN a i v) := by
  funext k
  unfold upd rowI updN
  by_cases h : k = i
  · rw [if_pos h, if_pos h]
  · rw [if_neg h, if_neg h]
def mw (M : Mem) (a : Nat → Nat) : Mem := fun c => if c = 120 then rowI a else M c
theorem mw_120 (M : Mem) (a : Nat → Nat) : mw M a 120 = rowI a := rfl
theorem mw_ne (M : Mem) (a : Nat → Nat) {c : Nat} (h : c ≠ 120) : mw M a c = M c := if_neg h
theorem mw_up (M : Mem) (a : Nat → Nat) (i v : Nat) : up2 (mw M a) 120 i (nI v) = mw M (updN a i v) := by
  funext c
  unfold up2
  by_cases h : c = 120
  · subst h
    rw [if_pos rfl, mw_120, mw_120, upd_rowI]
  · rw [if_neg h, mw_ne M a h, mw_ne M _ h]
theorem mw_up_ne (M : Mem) (a : Nat → Nat) {c : Nat} (h : c ≠ 120) (i : Nat) (v : Int32) : up2 (mw M a) c i v = mw (up2 M c i v) a := by
  funext d
  unfold up2
  by_cases h1 : d = c
  · subst h1
    rw [if_pos rfl, mw_ne M a h, mw_ne _ a h, if_pos rfl]
  · rw [if_neg h1]
    by_cases h2 : d = 120
    · subst h2; rfl
    · rw [mw_ne M a h2, mw_ne _ a h2, if_neg h1]
theorem mw_eq {M : Mem} {a : Nat → Nat} (h : M 120 = rowI a) : M = mw M a := by
  funext c
  by_cases hc : c = 120
  · subst hc; rw [mw_120, h]
  · rw [mw_ne M a hc]
theorem mw_mw (M : Mem) (a a' : Nat → Nat) : mw (mw M a) a' = mw M a' := by
  funext c
  unfold mw
  by_cases hc : c = 120
  · rw [if_pos hc, if_pos hc]
  · rw [if_neg hc, if_neg hc, if_neg hc]
theorem u2_at (M : Mem) (c i : Nat) (v : Int32) (d k : Nat) : up2 M c i v d k = if d = c then (if k = i then v else M d k) else M d k := by
  unfold up2
  by_cases h : d = c
  · subst h; rw [if_pos rfl, if_pos rfl]; rfl
  · rw [if_neg h, if_neg h]
theorem u2_ne (M : Mem) {c i : Nat} {v : Int32} {d : Nat} (h : d ≠ c) : up2 M c i v d = M d := if_neg h
theorem u2_same (M : Mem) {c i k : Nat} {v : Int32} : up2 M c i v c k = if k = i then v else M c k := by rw [u2_at, if_pos rfl]
def lk (a : Nat → Nat) (i j : Nat) : Nat := a (38 + 12 * i + j)
def sumF : Nat → (Nat → Nat) → Nat
  | 0, _ => 0
  | n + 1, f => sumF n f + f n
def WF (a : Nat → Nat) : Prop := (a 0 ≤ 12) ∧ (a 1 ≤ 20) ∧ (a 2 ≤ 10) ∧ (a 8 ≤ 8) ∧ (a 5 ≤ 16) ∧ (a 6 < 1024) ∧ (a 3 < a 0 ∨ a 3 = 0) ∧ (a 4 < a 2 ∨ a 4 = 0) ∧ (∀ k, k < 12 → a (14 + k) ≤ 99) ∧ (∀ k, k < 12 → a (26 + k) ≤ 1) ∧ (∀ k, k < 12 → a 0 ≤ k → a (26 + k) = 0) ∧ (∀ i j, i < 12 → j < 12 → lk a i j ≤ 1) ∧ (∀ i j, i < 12 → j < 12 → lk a i j = lk a j i) ∧ (∀ i j, i < 12 → j < 12 → lk a i j = 1 → i < a 0 ∧ i ≠ j) ∧ (sumF 144 (fun k => a (38 + k)) = 2 * a 1) ∧ (∀ k, k < a 2 → a (182 + k) < a 0) ∧ (∀ k, k < a 8 → a (192 + 3 * k) < a 0) ∧ (∀ k, k < a 8 → a (194 + 3 * k) ≤ 2) ∧ (∀ k, 216 ≤ k → a k = 0)
theorem WF.n {a : Nat → Nat} (h : WF a) : a 0 ≤ 12 := h.1
theorem WF.p {a : Nat → Nat} (h : WF a) : a 1 ≤ 20 := h.2.1
theorem WF.t {a : Nat → Nat} (h : WF a) : a 2 ≤ 10 := h.2.2.1
theorem WF.m {a : Nat → Nat} (h : WF a) : a 8 ≤ 8 := h.2.2.2.1
theorem WF.rate {a : Nat → Nat} (h : WF a) : a 5 ≤ 16 := h.2.2.2.2.1
theorem WF.seed {a : Nat → Nat} (h : WF a) : a 6 < 1024 := h.2.2.2.2.2.1
theorem WF.cat {a : Nat → Nat} (h : WF a) : a 3 < a 0 ∨ a 3 = 0 := h.2.2.2.2.2.2.1
theorem WF.goal {a : Nat → Nat} (h : WF a) : a 4 < a 2 ∨ a 4 = 0 := h.2.2.2.2.2.2.2.1
theorem WF.gr {a : Nat → Nat} (h : WF a) : ∀ k, k < 12 → a (14 + k) ≤ 99 := h.2.2.2.2.2.2.2.2.1
theorem WF.bl {a : Nat → Nat} (h : WF a) : ∀ k, k < 12 → a (26 + k) ≤ 1 := h.2.2.2.2.2.2.2.2.2.1
theorem WF.bl0 {a : Nat → Nat} (h : WF a) : ∀ k, k < 12 → a 0 ≤ k → a (26 + k) = 0 := h.2.2.2.2.2.2.2.2.2.2.1
theorem WF.l1 {a : Nat → Nat} (h : WF a) : ∀ i j, i < 12 → j < 12 → lk a i j ≤ 1 := h.2.2.2.2.2.2.2.2.2.2.2.1
theorem WF.ls {a : Nat → Nat} (h : WF a) : ∀ i j, i < 12 → j < 12 → lk a i j = lk a j i := h.2.2.2.2.2.2.2.2.2.2.2.2.1
theorem WF.ln {a : Nat → Nat} (h : WF a) : ∀ i j, i < 12 → j < 12 → lk a i j = 1 → i < a 0 ∧ i ≠ j := h.2.2.2.2.2.2.2.2.2.2.2.2.2.1
theorem WF.sum {a : Nat → Nat} (h : WF a) : sumF 144 (fun k => a (38 + k)) = 2 * a 1 := h.2.2.2.2.2.2.2.2.2.2.2.2.2.2.1
theorem WF.st {a : Nat → Nat} (h : WF a) : ∀ k, k < a 2 → a (182 + k) < a 0 := h.2.2.2.2.2.2.2.2.2.2.2.2.2.2.2.1
theorem WF.ms {a : Nat → Nat} (h : WF a) : ∀ k, k < a 8 → a (192 + 3 * k) < a 0 := h.2.2.2.2.2.2.2.2.2.2.2.2.2.2.2.2.1
theorem WF.mh {a : Nat → Nat} (h : WF a) : ∀ k, k < a 8 → a (194 + 3 * k) ≤ 2 := h.2.2.2.2.2.2.2.2.2.2.2.2.2.2.2.2.2.1
theorem WF.z {a : Nat → Nat} (h : WF a) : ∀ k, 216 ≤ k → a k = 0 := h.2.2.2.2.2.2.2.2.2.2.2.2.2.2.2.2.2.2
def pos (v o k : Nat) : Nat := if k < v then k else k + o
def CL (μ κ v o : Nat) (M : Mem) (b : Nat) (a : Nat → Nat) : Prop := (M b 3 = nI (a 5)) ∧ (M b 4 = nI (a 6)) ∧ (M b 5 = nI μ) ∧ (M b 6 = nI (a 13)) ∧ (M b 7 = nI (a 12)) ∧ (M b 8 = nI κ) ∧ (M b 9 = nI (a 10)) ∧ (M b 10 = nI (a 11)) ∧ (∀ j, j < 32 → bitb (M (b + 1) 2) j = decide (j < 12 ∧ a (26 + j) = 1)) ∧ (M (b + 1) 3 = nI (a 0)) ∧ (M (b + 1) 4 = nI (a 1)) ∧ (∀ k, k < 12 → M (b + 2) k = nI (a (14 + k))) ∧ (∀ k j, k < 12 → j < 32 → bitb (M (b + 3) k) j = decide (j < 12 ∧ lk a k j = 1)) ∧ (M (b + 4) 1 = nI (a 2)) ∧ (M (b + 4) 2 = nI (a 3)) ∧ (M (b + 4) 3 = nI (a 4)) ∧ (∀ k, k < a 2 → M (b + 5) k = nI (a (182 + k))) ∧ (M (b + 6) 3 = nI (a 8 + o)) ∧ (∀ k, k < a 8 → M (b + 7) (pos v o k) = nI (a (192 + 3 * k))) ∧ (∀ k, k < a 8 → M (b + 8) (pos v o k) = nI (a (193 + 3 * k))) ∧ (∀ k, k < a 8 → M (b + 9) (pos v o k) = nI (a (194 + 3 * k)))
theorem CL.rate {μ κ v o : Nat} {M : Mem} {b : Nat} {a : Nat → Nat} (h : CL μ κ v o M b a) : M b 3 = nI (a 5) := h.1
theorem CL.seed {μ κ v o : Nat} {M : Mem} {b : Nat} {a : Nat → Nat} (h : CL μ κ v o M b a) : M b 4 = nI (a 6) := h.2.1
theorem CL.mi {μ κ v o : Nat} {M : Mem} {b : Nat} {a : Nat → Nat} (h : CL μ κ v o M b a) : M b 5 = nI μ := h.2.2.1
theorem CL.pu {μ κ v o : Nat} {M : Mem} {b : Nat} {a : Nat → Nat} (h : CL μ κ v o M b a) : M b 6 = nI (a 13) := h.2.2.2.1
theorem CL.ea {μ κ v o : Nat} {M : Mem} {b : Nat} {a : Nat → Nat} (h : CL μ κ v o M b a) : M b 7 = nI (a 12) := h.2.2.2.2.1
theorem CL.ca {μ κ v o : Nat} {M : Mem} {b : Nat} {a : Nat → Nat} (h : CL μ κ v o M b a) : M b 8 = nI κ := h.2.2.2.2.2.1
theorem CL.go {μ κ v o : Nat} {M : Mem} {b : Nat} {a : Nat → Nat} (h : CL μ κ v o M b a) : M b 9 = nI (a 10) := h.2.2.2.2.2.2.1
theorem CL.ri {μ κ v o : Nat} {M : Mem} {b : Nat} {a : Nat → Nat} (h : CL μ κ v o M b a) : M b 10 = nI (a 11) := h.2.2.2.2.2.2.2.1
theorem CL.bl {μ κ v o : Nat} {M : Mem} {b : Nat} {a : Nat → Nat} (h : CL μ κ v o M b a) : ∀ j, j < 32 → bitb (M (b + 1) 2) j = decide (j < 12 ∧ a (26 + j) = 1) := h.2.2.2.2.2.2.2.2.1
theorem CL.n {μ κ v o : Nat} {M : Mem} {b : Nat} {a : Nat → Nat} (h : CL μ κ v o M b a) : M (b + 1) 3 = nI (a 0) := h.2.2.2.2.2.2.2.2.2.1
theorem CL.p {μ κ v o : Nat} {M : Mem} {b : Nat} {a : Nat → Nat} (h : CL μ κ v o M b a) : M (b + 1) 4 = nI (a 1) := h.2.2.2.2.2.2.2.2.2.2.1
theorem CL.gr {μ κ v o : Nat} {M : Mem} {b : Nat} {a : Nat → Nat} (h : CL μ κ v o M b a) : ∀ k, k < 12 → M (b + 2) k = nI (a (14 + k)) := h.2.2.2.2.2.2.2.2.2.2.2.1
theorem CL.nb {μ κ v o : Nat} {M : Mem} {b : Nat} {a : Nat → Nat} (h : CL μ κ v o M b a) : ∀ k j, k < 12 → j < 32 → bitb (M (b + 3) k) j = decide (j < 12 ∧ lk a k j = 1) := h.2.2.2.2.2.2.2.2.2.2.2.2.1
theorem CL.t {μ κ v o : Nat} {M : Mem} {b : Nat} {a : Nat → Nat} (h : CL μ κ v o M b a) : M (b + 4) 1 = nI (a 2) := h.2.2.2.2.2.2.2.2.2.2.2.2.2.1
theorem CL.cat {μ κ v o : Nat} {M : Mem} {b : Nat} {a : Nat → Nat} (h : CL μ κ v o M b a) : M (b + 4) 2 = nI (a 3) := h.2.2.2.2.2.2.2.2.2.2.2.2.2.2.1
theorem CL.goal {μ κ v o : Nat} {M : Mem} {b : Nat} {a : Nat → Nat} (h : CL μ κ v o M b a) : M (b + 4) 3 = nI (a 4) := h.2.2.2.2.2.2.2.2.2.2.2.2.2.2.2.1
theorem CL.st {μ κ v o : Nat} {M : Mem} {b : Nat} {a : Nat → Nat} (h : CL μ κ v o M b a) : ∀ k, k < a 2 → M (b + 5) k = nI (a (182 + k)) := h.2.2.2.2.2.2.2.2.2.2.2.2.2.2.2.2.1
theorem CL.m {μ κ v o : Nat} {M : Mem} {b : Nat} {a : Nat → Nat} (h : CL μ κ v o M b a) : M (b + 6) 3 = nI (a 8 + o) := h.2.2.2.2.2.2.2.2.2.2.2.2.2.2.2.2.2.1
theorem CL.ms {μ κ v o : Nat} {M : Mem} {b : Nat} {a : Nat → Nat} (h : CL μ κ v o M b a) : ∀ k, k < a 8 → M (b + 7) (pos v o k) = nI (a (192 + 3 * k)) := h.2.2.2.2.2.2.2.2.2.2.2.2.2.2.2.2.2.2.1
theorem CL.me {μ κ v o : Nat} {M : Mem} {b : Nat} {a : Nat → Nat} (h : CL μ κ v o M b a) : ∀ k, k < a 8 → M (b + 8) (pos v o k) = nI (a (193 + 3 * k)) := h.2.2.2.2.2.2.2.2.2.2.2.2.2.2.2.2.2.2.2.1
theorem CL.mh {μ κ v o : Nat} {M : Mem} {b : Nat} {a : Nat → Nat} (h : CL μ κ v o M b a) : ∀ k, k < a 8 → M (b + 9) (pos v o k) = nI (a (194 + 3 * k)) := h.2.2.2.2.2.2.2.2.2.2.2.2.2.2.2.2.2.2.2.2
def FR (b : Nat) (M M' : Mem) : Prop := ∀ c, (c < b ∨ b + 10 ≤ c) → M' c = M c
theorem FR.rf {b : Nat} {M : Mem} : FR b M M := fun _ _ => rfl
theorem FR.tr {b : Nat} {M M' M'' : Mem} (h : FR b M M') (g : FR b M' M'') : FR b M M'' := fun c hc => (g c hc).trans (h c hc)
theorem FR.up {b : Nat} {M : Mem} {c i : Nat} {v : Int32} (h : b ≤ c ∧ c < b + 10) : FR b M (up2 M c i v) := fun d hd => u2_ne M (by omega)
theorem al1_2 {b : Nat} (h : lay b = 1) : alen (b + 2) = 12 := al_20 (ly1_2 h)
theorem al1_3 {b : Nat} (h : lay b = 1) : alen (b + 3) = 12 := al_20 (ly1_3 h)
theorem al1_5 {b : Nat} (h : lay b = 1) : alen (b + 5) = 10 := al_21 (ly1_5 h)
theorem al1_7 {b : Nat} (h : lay b = 1) : alen (b + 7) = 8 := al_22 (ly1_7 h)
theorem al1_8 {b : Nat} (h : lay b = 1) : alen (b + 8) = 8 := al_22 (ly1_8 h)
theorem al1_9 {b : Nat} (h : lay b = 1) : alen (b + 9) = 8 := al_22 (ly1_9 h)
theorem at_in {F c k n : Nat} {M : Mem} (hc : alen c = n) (hn : n < 2 ^ 31) (hk : k < n) : fX11_at F c (nI k) M = some (M c k, M) := by
  unfold fX11_at
  rw [if_neg (nI_pos (by omega)), hc, if_neg (nI_ge hk hn), nI_cl (by omega), inbN (by omega), ckd _ hk]
theorem at_out {F c k n : Nat} {M : Mem} (hc : alen c = n) (hk : n ≤ k) (h2 : k < 2 ^ 31) : fX11_at F c (nI k) M = some (0, M) := by
  unfold fX11_at
  rw [if_neg (nI_pos (by omega)), hc, if_pos (nI_le hk h2)]
theorem put_in {F c k n : Nat} {v : Int32} {M : Mem} (hc : alen c = n) (hn : n < 2 ^ 31) (hk : k < n) : fX11_put F c (nI k) v M = some (up2 M c k v) := by
  unfold fX11_put
  rw [if_neg (nI_pos (by omega)), hc, if_neg (nI_ge hk hn), nI_cl (by omega), inbN (by omega), ckd _ hk]
  rfl
theorem put_out {F c k n : Nat} {v : Int32} {M : Mem} (hc : alen c = n) (hk : n ≤ k) (h2 : k < 2 ^ 31) : fX11_put F c (nI k) v M = some M := by
  unfold fX11_put
  rw [if_neg (nI_pos (by omega)), hc, if_pos (nI_le hk h2)]
section
variable {μ κ v o b : Nat} {M : Mem} {a : Nat → Nat}
theorem pos_inj {v o k k' : Nat} (h : pos v o k = pos v o k') : k = k' := by
  unfold pos at h
  split at h <;> split at h <;> omega
theorem pos_00 (k : Nat) : pos 0 0 k = k := by
  unfold pos
  rw [if_neg (by omega)]
  rfl
theorem pos_at (v o : Nat) : pos v o v = v + o := by
  unfold pos
  rw [if_neg (by omega)]
theorem lk_ne {i x k j : Nat} (hi : i < 38 ∨ 182 ≤ i) (hk : k < 12) (hj : j < 12) : lk (updN a i x) k j = lk a k j := updN_ne a (by omega)
theorem nb_c {a a' : Nat → Nat} {k j : Nat} (h : j < 12 → lk a' k j = lk a k j) : decide (j < 12 ∧ lk a k j = 1) = decide (j < 12 ∧ lk a' k j = 1) := by
  by_cases q : j < 12
  · rw [h q]
  · simp [q]
theorem CL.s_rate (h : CL μ κ v o M b a) (x : Nat) : CL μ κ v o (up2 M (b) (3) (nI x)) b (updN a (5) x) := ⟨(by rw [u2_same, if_pos rfl, updN_same]),
  (by rw [u2_same, if_neg (by decide)]; have q : updN a (5) x 6 = a 6 := updN_ne a (by omega); rw [q]; exact h.seed),
  (by rw [u2_same, if_neg (by decide)]; exact h.mi),
  (by rw [u2_same, if_neg (by decide)]; have q : updN a (5) x 13 = a 13 := updN_ne a (by omega); rw [q]; exact h.pu),
  (by rw [u2_same, if_neg (by decide)]; have q : updN a (5) x 12 = a 12 := updN_ne a (by omega); rw [q]; exact h.ea),
  (by rw [u2_same, if_neg (by decide)]; exact h.ca),
  (by rw [u2_same, if_neg (by decide)]; have q : updN a (5) x 10 = a 10 := updN_ne a (by omega); rw [q]; exact h.go),
  (by rw [u2_same, if_neg (by decide)]; have q : updN a (5) x 11 = a 11 := updN_ne a (by omega); rw [q]; exact h.ri),
  (fun j hj => by rw [u2_ne M (by omega), updN_ne a (by omega)]; exact h.bl j hj),
  (by rw [u2_ne M (by omega)]; have q : updN a (5) x 0 = a 0 := updN_ne a (by omega); rw [q]; exact h.n),
  (by rw [u2_ne M (by omega)]; have q : updN a (5) x 1 = a 1 := updN_ne a (by omega); rw [q]; exact h.p),
  (fun k hk => by rw [u2_ne M (by omega), updN_ne a (by omega)]; exact h.gr k hk),
  (fun k j hk hj => by rw [u2_ne M (by omega)]; rw [h.nb k j hk hj]; exact nb_c (fun q => lk_ne (by omega) hk q)),
  (by rw [u2_ne M (by omega)]; have q : updN a (5) x 2 = a 2 := updN_ne a (by omega); rw [q]; exact h.t),
  (by rw [u2_ne M (by omega)]; have q : updN a (5) x 3 = a 3 := updN_ne a (by omega); rw [q]; exact h.cat),
  (by rw [u2_ne M (by omega)]; have q : updN a (5) x 4 = a 4 := updN_ne a (by omega); rw [q]; exact h.goal),
  (fun k hk => by have q : k < a 2 := by {rwa [updN_ne a (by omega)] at hk}; rw [u2_ne M (by omega), updN_ne a (by omega)]; exact h.st k q),
  (by rw [u2_ne M (by omega)]; have q : updN a (5) x 8 = a 8 := updN_ne a (by omega); rw [q]; exact h.m),
  (fun k hk => by have q : k < a 8 := by {rwa [updN_ne a (by omega)] at hk}; rw [u2_ne M (by omega), updN_ne a (by omega)]; exact h.ms k q),
  (fun k hk => by have q : k < a 8 := by {rwa [updN_ne a (by omega)] at hk}; rw [u2_ne M (by omega), updN_ne a (by omega)]; exact h.me k q),
  (fun k hk => by have q : k < a 8 := by {rwa [updN_ne a (by omega)] at hk}; rw [u2_ne M (by omega), updN_ne a (by omega)]; exact h.mh k q)⟩
theorem CL.s_seed (h : CL μ κ v o M b a) (x : Nat) : CL μ κ v o (up2 M (b) (4) (nI x)) b (updN a (6) x) := ⟨(by rw [u2_same, if_neg (by decide)]; have q : updN a (6) x 5 = a 5 := updN_ne a (by omega); rw [q]; exact h.rate),
  (by rw [u2_same, if_pos rfl, updN_same]),
  (by rw [u2_same, if_neg (by decide)]; exact h.mi),
  (by rw [u2_same, if_neg (by decide)]; have q : updN a (6) x 13 = a 13 := updN_ne a (by omega); rw [q]; exact h.pu),
  (by rw [u2_same, if_neg (by decide)]; have q : updN a (6) x 12 = a 12 := updN_ne a (by omega); rw [q]; exact h.ea),
  (by rw [u2_same, if_neg (by decide)]; exact h.ca),
  (by rw [u2_same, if_neg (by decide)]; have q : updN a (6) x 10 = a 10 := updN_ne a (by omega); rw [q]; exact h.go),
  (by rw [u2_same, if_neg (by decide)]; have q : updN a (6) x 11 = a 11 := updN_ne a (by omega); rw [q]; exact h.ri),
  (fun j hj => by rw [u2_ne M (by omega), updN_ne a (by omega)]; exact h.bl j hj),
  (by rw [u2_ne M (by omega)]; have q : updN a (6) x 0 = a 0 := updN_ne a (by omega); rw [q]; exact h.n),
  (by rw [u2_ne M (by omega)]; have q : updN a (6) x 1 = a 1 := updN_ne a (by omega); rw [q]; exact h.p),
  (fun k hk => by rw [u2_ne M (by omega), updN_ne a (by omega)]; exact h.gr k hk),
  (fun k j hk hj => by rw [u2_ne M (by omega)]; rw [h.nb k j hk hj]; exact nb_c (fun q => lk_ne (by omega) hk q)),
  (by rw [u2_ne M (by omega)]; have q : updN a (6) x 2 = a 2 := updN_ne a (by omega); rw [q]; exact h.t),
  (by rw [u2_ne M (by omega)]; have q : updN a (6) x 3 = a 3 := updN_ne a (by omega); rw [q]; exact h.cat),
  (by rw [u2_ne M (by omega)]; have q : updN a (6) x 4 = a 4 := updN_ne a (by omega); rw [q]; exact h.goal),
  (fun k hk => by have q : k < a 2 := by {rwa [updN_ne a (by omega)] at hk}; rw [u2_ne M (by omega), updN_ne a (by omega)]; exact h.st k q),
  (by rw [u2_ne M (by omega)]; have q : updN a (6) x 8 = a 8 := updN_ne a (by omega); rw [q]; exact h.m),
  (fun k hk => by have q : k < a 8 := by {rwa [updN_ne a (by omega)] at hk}; rw [u2_ne M (by omega), updN_ne a (by omega)]; exact h.ms k q),
  (fun k hk => by have q : k < a 8 := by {rwa [updN_ne a (by omega)] at hk}; rw [u2_ne M (by omega), updN_ne a (by omega)]; exact h.me k q),
  (fun k hk => by have q : k < a 8 := by {rwa [updN_ne a (by omega)] at hk}; rw [u2_ne M (by omega), updN_ne a (by omega)]; exact h.mh k q)⟩
theorem CL.s_pu (h : CL μ κ v o M b a) (x : Nat) : CL μ κ v o (up2 M (b) (6) (nI x)) b (updN a (13) x) := ⟨(by rw [u2_same, if_neg (by decide)]; have q : updN a (13) x 5 = a 5 := updN_ne a (by omega); rw [q]; exact h.rate),
  (by rw [u2_same, if_neg (by decide)]; have q : updN a (13) x 6 = a 6 := updN_ne a (by omega); rw [q]; exact h.seed),
  (by rw [u2_same, if_neg (by decide)]; exact h.mi),
  (by rw [u2_same, if_pos rfl, updN_same]),
  (by rw [u2_same, if_neg (by decide)]; have q : updN a (13) x 12 = a 12 := updN_ne a (by omega); rw [q]; exact h.ea),
  (by rw [u2_same, if_neg (by decide)]; exact h.ca),
  (by rw [u2_same, if_neg (by decide)]; have q : updN a (13) x 10 = a 10 := updN_ne a (by omega); rw [q]; exact h.go),
  (by rw [u2_same, if_neg (by decide)]; have q : updN a (13) x 11 = a 11 := updN_ne a (by omega); rw [q]; exact h.ri),
  (fun j hj => by rw [u2_ne M (by omega), updN_ne a (by omega)]; exact h.bl j hj),
  (by rw [u2_ne M (by omega)]; have q : updN a (13) x 0 = a 0 := updN_ne a (by omega); rw [q]; exact h.n),
  (by rw [u2_ne M (by omega)]; have q : updN a (13) x 1 = a 1 := updN_ne a (by omega); rw [q]; exact h.p),
  (fun k hk => by rw [u2_ne M (by omega), updN_ne a (by omega)]; exact h.gr k hk),
  (fun k j hk hj => by rw [u2_ne M (by omega)]; rw [h.nb k j hk hj]; exact nb_c (fun q => lk_ne (by omega) hk q)),
  (by rw [u2_ne M (by omega)]; have q : updN a (13) x 2 = a 2 := updN_ne a (by omega); rw [q]; exact h.t),
  (by rw [u2_ne M (by omega)]; have q : updN a (13) x 3 = a 3 := updN_ne a (by omega); rw [q]; exact h.cat),
  (by rw [u2_ne M (by omega)]; have q : updN a (13) x 4 = a 4 := updN_ne a (by omega); rw [q]; exact h.goal),
  (fun k hk => by have q : k < a 2 := by {rwa [updN_ne a (by omega)] at hk}; rw [u2_ne M (by omega), updN_ne a (by omega)]; exact h.st k q),
  (by rw [u2_ne M (by omega)]; have q : updN a (13) x 8 = a 8 := updN_ne a (by omega); rw [q]; exact h.m),
  (fun k hk => by have q : k < a 8 := by {rwa [updN_ne a (by omega)] at hk}; rw [u2_ne M (by omega), updN_ne a (by omega)]; exact h.ms k q),
  (fun k hk => by have q : k < a 8 := by {rwa [updN_ne a (by omega)] at hk}; rw [u2_ne M (by omega), updN_ne a (by omega)]; exact h.me k q),
  (fun k hk => by have q : k < a 8 := by {rwa [updN_ne a (by omega)] at hk}; rw [u2_ne M (by omega), updN_ne a (by omega)]; exact h.mh k q)⟩
theorem CL.s_ea (h : CL μ κ v o M b a) (x : Nat) : CL μ κ v o (up2 M (b) (7) (nI x)) b (updN a (12) x) := ⟨(by rw [u2_same, if_neg (by decide)]; have q : updN a (12) x 5 = a 5 := updN_ne a (by omega); rw [q]; exact h.rate),
  (by rw [u2_same, if_neg (by decide)]; have q : updN a (12) x 6 = a 6 := updN_ne a (by omega); rw [q]; exact h.seed),
  (by rw [u2_same, if_neg (by decide)]; exact h.mi),
  (by rw [u2_same, if_neg (by decide)]; have q : updN a (12) x 13 = a 13 := updN_ne a (by omega); rw [q]; exact h.pu),
  (by rw [u2_same, if_pos rfl, updN_same]),
  (by rw [u2_same, if_neg (by decide)]; exact h.ca),
  (by rw [u2_same, if_neg (by decide)]; have q : updN a (12) x 10 = a 10 := updN_ne a (by omega); rw [q]; exact h.go),
  (by rw [u2_same, if_neg (by decide)]; have q : updN a (12) x 11 = a 11 := updN_ne a (by omega); rw [q]; exact h.ri),
  (fun j hj => by rw [u2_ne M (by omega), updN_ne a (by omega)]; exact h.bl j hj),
  (by rw [u2_ne M (by omega)]; have q : updN a (12) x 0 = a 0 := updN_ne a (by omega); rw [q]; exact h.n),
  (by rw [u2_ne M (by omega)]; have q : updN a (12) x 1 = a 1 := updN_ne a (by omega); rw [q]; exact h.p),
  (fun k hk => by rw [u2_ne M (by omega), updN_ne a (by omega)]; exact h.gr k hk),
  (fun k j hk hj => by rw [u2_ne M (by omega)]; rw [h.nb k j hk hj]; exact nb_c (fun q => lk_ne (by omega) hk q)),
  (by rw [u2_ne M (by omega)]; have q : updN a (12) x 2 = a 2 := updN_ne a (by omega); rw [q]; exact h.t),
  (by rw [u2_ne M (by omega)]; have q : updN a (12) x 3 = a 3 := updN_ne a (by omega); rw [q]; exact h.cat),
  (by rw [u2_ne M (by omega)]; have q : updN a (12) x 4 = a 4 := updN_ne a (by omega); rw [q]; exact h.goal),
  (fun k hk => by have q : k < a 2 := by {rwa [updN_ne a (by omega)] at hk}; rw [u2_ne M (by omega), updN_ne a (by omega)]; exact h.st k q),
  (by rw [u2_ne M (by omega)]; have q : updN a (12) x 8 = a 8 := updN_ne a (by omega); rw [q]; exact h.m),
  (fun k hk => by have q : k < a 8 := by {rwa [updN_ne a (by omega)] at hk}; rw [u2_ne M (by omega), updN_ne a (by omega)]; exact h.ms k q),
  (fun k hk => by have q : k < a 8 := by {rwa [updN_ne a (by omega)] at hk}; rw [u2_ne M (by omega), updN_ne a (by omega)]; exact h.me k q),
  (fun k hk => by have q : k < a 8 := by {rwa [updN_ne a (by omega)] at hk}; rw [u2_ne M (by omega), updN_ne a (by omega)]; exact h.mh k q)⟩
theorem CL.s_go (h : CL μ κ v o M b a) (x : Nat) : CL μ κ v o (up2 M (b) (9) (nI x)) b (updN a (10) x) := ⟨(by rw [u2_same, if_neg (by decide)]; have q : updN a (10) x 5 = a 5 := updN_ne a (by omega); rw [q]; exact h.rate),
  (by rw [u2_same, if_neg (by decide)]; have q : updN a (10) x 6 = a 6 := updN_ne a (by omega); rw [q]; exact h.seed),
  (by rw [u2_same, if_neg (by decide)]; exact h.mi),
  (by rw [u2_same, if_neg (by decide)]; have q : updN a (10) x 13 = a 13 := updN_ne a (by omega); rw [q]; exact h.pu),
  (by rw [u2_same, if_neg (by decide)]; have q : updN a (10) x 12 = a 12 := updN_ne a (by omega); rw [q]; exact h.ea),
  (by rw [u2_same, if_neg (by decide)]; exact h.ca),
  (by rw [u2_same, if_pos rfl, updN_same]),
  (by rw [u2_same, if_neg (by decide)]; have q : updN a (10) x 11 = a 11 := updN_ne a (by omega); rw [q]; exact h.ri),
  (fun j hj => by rw [u2_ne M (by omega), updN_ne a (by omega)]; exact h.bl j hj),
  (by rw [u2_ne M (by omega)]; have q : updN a (10) x 0 = a 0 := updN_ne a (by omega); rw [q]; exact h.n),
  (by rw [u2_ne M (by omega)]; have q : updN a (10) x 1 = a 1 := updN_ne a (by omega); rw [q]; exact h.p),
  (fun k hk => by rw [u2_ne M (by omega), updN_ne a (by omega)]; exact h.gr k hk),
  (fun k j hk hj => by rw [u2_ne M (by omega)]; rw [h.nb k j hk hj]; exact nb_c (fun q => lk_ne (by omega) hk q)),
  (by rw [u2_ne M (by omega)]; have q : updN a (10) x 2 = a 2 := updN_ne a (by omega); rw [q]; exact h.t),
  (by rw [u2_ne M (by omega)]; have q : updN a (10) x 3 = a 3 := updN_ne a (by omega); rw [q]; exact h.cat),
  (by rw [u2_ne M (by omega)]; have q : updN a (10) x 4 = a 4 := updN_ne a (by omega); rw [q]; exact h.goal),
  (fun k hk => by have q : k < a 2 := by {rwa [updN_ne a (by omega)] at hk}; rw [u2_ne M (by omega), updN_ne a (by omega)]; exact h.st k q),
  (by rw [u2_ne M (by omega)]; have q : updN a (10) x 8 = a 8 := updN_ne a (by omega); rw [q]; exact h.m),
  (fun k hk => by have q : k < a 8 := by {rwa [updN_ne a (by omega)] at hk}; rw [u2_ne M (by omega), updN_ne a (by omega)]; exact h.ms k q),
  (fun k hk => by have q : k < a 8 := by {rwa [updN_ne a (by omega)] at hk}; rw [u2_ne M (by omega), updN_ne a (by omega)]; exact h.me k q),
  (fun k hk => by have q : k < a 8 := by {rwa [updN_ne a (by omega)] at hk}; rw [u2_ne M (by omega), updN_ne a (by omega)]; exact h.mh k q)⟩
theorem CL.s_ri (h : CL μ κ v o M b a) (x : Nat) : CL μ κ v o (up2 M (b) (10) (nI x)) b (updN a (11) x) := ⟨(by rw [u2_same, if_neg (by decide)]; have q : updN a (11) x 5 = a 5 := updN_ne a (by omega); rw [q]; exact h.rate),
  (by rw [u2_same, if_neg (by decide)]; have q : updN a (11) x 6 = a 6 := updN_ne a (by omega); rw [q]; exact h.seed),
  (by rw [u2_same, if_neg (by decide)]; exact h.mi),
  (by rw [u2_same, if_neg (by decide)]; have q : updN a (11) x 13 = a 13 := updN_ne a (by omega); rw [q]; exact h.pu),
  (by rw [u2_same, if_neg (by decide)]; have q : updN a (11) x 12 = a 12 := updN_ne a (by omega); rw [q]; exact h.ea),
  (by rw [u2_same, if_neg (by decide)]; exact h.ca),
  (by rw [u2_same, if_neg (by decide)]; have q : updN a (11) x 10 = a 10 := updN_ne a (by omega); rw [q]; exact h.go),
  (by rw [u2_same, if_pos rfl, updN_same]),
  (fun j hj => by rw [u2_ne M (by omega), updN_ne a (by omega)]; exact h.bl j hj),
  (by rw [u2_ne M (by omega)]; have q : updN a (11) x 0 = a 0 := updN_ne a (by omega); rw [q]; exact h.n),
  (by rw [u2_ne M (by omega)]; have q : updN a (11) x 1 = a 1 := updN_ne a (by omega); rw [q]; exact h.p),
  (fun k hk => by rw [u2_ne M (by omega), updN_ne a (by omega)]; exact h.gr k hk),
  (fun k j hk hj => by rw [u2_ne M (by omega)]; rw [h.nb k j hk hj]; exact nb_c (fun q => lk_ne (by omega) hk q)),
  (by rw [u2_ne M (by omega)]; have q : updN a (11) x 2 = a 2 := updN_ne a (by omega); rw [q]; exact h.t),
  (by rw [u2_ne M (by omega)]; have q : updN a (11) x 3 = a 3 := updN_ne a (by omega); rw [q]; exact h.cat),
  (by rw [u2_ne M (by omega)]; have q : updN a (11) x 4 = a 4 := updN_ne a (by omega); rw [q]; exact h.goal),
  (fun k hk => by have q : k < a 2 := by {rwa [updN_ne a (by omega)] at hk}; rw [u2_ne M (by omega), updN_ne a (by omega)]; exact h.st k q),
  (by rw [u2_ne M (by omega)]; have q : updN a (11) x 8 = a 8 := updN_ne a (by omega); rw [q]; exact h.m),
  (fun k hk => by have q : k < a 8 := by {rwa [updN_ne a (by omega)] at hk}; rw [u2_ne M (by omega), updN_ne a (by omega)]; exact h.ms k q),
  (fun k hk => by have q : k < a 8 := by {rwa [updN_ne a (by omega)] at hk}; rw [u2_ne M (by omega), updN_ne a (by omega)]; exact h.me k q),
  (fun k hk => by have q : k < a 8 := by {rwa [updN_ne a (by omega)] at hk}; rw [u2_ne M (by omega), updN_ne a (by omega)]; exact h.mh k q)⟩
theorem CL.s_n (h : CL μ κ v o M b a) (x : Nat) : CL μ κ v o (up2 M (b + 1) (3) (nI x)) b (updN a (0) x) := ⟨(by rw [u2_ne M (by omega)]; have q : updN a (0) x 5 = a 5 := updN_ne a (by omega); rw [q]; exact h.rate),
  (by rw [u2_ne M (by omega)]; have q : updN a (0) x 6 = a 6 := updN_ne a (by omega); rw [q]; exact h.seed),
  (by rw [u2_ne M (by omega)]; exact h.mi),
  (by rw [u2_ne M (by omega)]; have q : updN a (0) x 13 = a 13 := updN_ne a (by omega); rw [q]; exact h.pu),
  (by rw [u2_ne M (by omega)]; have q : updN a (0) x 12 = a 12 := updN_ne a (by omega); rw [q]; exact h.ea),
  (by rw [u2_ne M (by omega)]; exact h.ca),
  (by rw [u2_ne M (by omega)]; have q : updN a (0) x 10 = a 10 := updN_ne a (by omega); rw [q]; exact h.go),
  (by rw [u2_ne M (by omega)]; have q : updN a (0) x 11 = a 11 := updN_ne a (by omega); rw [q]; exact h.ri),
  (fun j hj => by rw [u2_same, if_neg (by decide), updN_ne a (by omega)]; exact h.bl j hj),
  (by rw [u2_same, if_pos rfl, updN_same]),
  (by rw [u2_same, if_neg (by decide)]; have q : updN a (0) x 1 = a 1 := updN_ne a (by omega); rw [q]; exact h.p),
  (fun k hk => by rw [u2_ne M (by omega), updN_ne a (by omega)]; exact h.gr k hk),
  (fun k j hk hj => by rw [u2_ne M (by omega)]; rw [h.nb k j hk hj]; exact nb_c (fun q => lk_ne (by omega) hk q)),
  (by rw [u2_ne M (by omega)]; have q : updN a (0) x 2 = a 2 := updN_ne a (by omega); rw [q]; exact h.t),
  (by rw [u2_ne M (by omega)]; have q : updN a (0) x 3 = a 3 := updN_ne a (by omega); rw [q]; exact h.cat),
  (by rw [u2_ne M (by omega)]; have q : updN a (0) x 4 = a 4 := updN_ne a (by omega); rw [q]; exact h.goal),
  (fun k hk => by have q : k < a 2 := by {rwa [updN_ne a (by omega)] at hk}; rw [u2_ne M (by omega), updN_ne a (by omega)]; exact h.st k q),
  (by rw [u2_ne M (by omega)]; have q : updN a (0) x 8 = a 8 := updN_ne a (by omega); rw [q]; exact h.m),
  (fun k hk => by have q : k < a 8 := by {rwa [updN_ne a (by omega)] at hk}; rw [u2_ne M (by omega), updN_ne a (by omega)]; exact h.ms k q),
  (fun k hk => by have q : k < a 8 := by {rwa [updN_ne a (by omega)] at hk}; rw [u2_ne M (by omega), updN_ne a (by omega)]; exact h.me k q),
  (fun k hk => by have q : k < a 8 := by {rwa [updN_ne a (by omega)] at hk}; rw [u2_ne M (by omega), updN_ne a (by omega)]; exact h.mh k q)⟩
theorem CL.s_p (h : CL μ κ v o M b a) (x : Nat) : CL μ κ v o (up2 M (b + 1) (4) (nI x)) b (updN a (1) x) := ⟨(by rw [u2_ne M (by omega)]; have q : updN a (1) x 5 = a 5 := updN_ne a (by omega); rw [q]; exact h.rate),
  (by rw [u2_ne M (by omega)]; have q : updN a (1) x 6 = a 6 := updN_ne a (by omega); rw [q]; exact h.seed),
  (by rw [u2_ne M (by omega)]; exact h.mi),
  (by rw [u2_ne M (by omega)]; have q : updN a (1) x 13 = a 13 := updN_ne a (by omega); rw [q]; exact h.pu),
  (by rw [u2_ne M (by omega)]; have q : updN a (1) x 12 = a 12 := updN_ne a (by omega); rw [q]; exact h.ea),
  (by rw [u2_ne M (by omega)]; exact h.ca),
  (by rw [u2_ne M (by omega)]; have q : updN a (1) x 10 = a 10 := updN_ne a (by omega); rw [q]; exact h.go),
  (by rw [u2_ne M (by omega)]; have q : updN a (1) x 11 = a 11 := updN_ne a (by omega); rw [q]; exact h.ri),
  (fun j hj => by rw [u2_same, if_neg (by decide), updN_ne a (by omega)]; exact h.bl j hj),
  (by rw [u2_same, if_neg (by decide)]; have q : updN a (1) x 0 = a 0 := updN_ne a (by omega); rw [q]; exact h.n),
  (by rw [u2_same, if_pos rfl, updN_same]),
  (fun k hk => by rw [u2_ne M (by omega), updN_ne a (by omega)]; exact h.gr k hk),
  (fun k j hk hj => by rw [u2_ne M (by omega)]; rw [h.nb k j hk hj]; exact nb_c (fun q => lk_ne (by omega) hk q)),
  (by rw [u2_ne M (by omega)]; have q : updN a (1) x 2 = a 2 := updN_ne a (by omega); rw [q]; exact h.t),
  (by rw [u2_ne M (by omega)]; have q : updN a (1) x 3 = a 3 := updN_ne a (by omega); rw [q]; exact h.cat),
  (by rw [u2_ne M (by omega)]; have q : updN a (1) x 4 = a 4 := updN_ne a (by omega); rw [q]; exact h.goal),
  (fun k hk => by have q : k < a 2 := by {rwa [updN_ne a (by omega)] at hk}; rw [u2_ne M (by omega), updN_ne a (by omega)]; exact h.st k q),
  (by rw [u2_ne M (by omega)]; have q : updN a (1) x 8 = a 8 := updN_ne a (by omega); rw [q]; exact h.m),
  (fun k hk => by have q : k < a 8 := by {rwa [updN_ne a (by omega)] at hk}; rw [u2_ne M (by omega), updN_ne a (by omega)]; exact h.ms k q),
  (fun k hk => by have q : k < a 8 := by {rwa [updN_ne a (by omega)] at hk}; rw [u2_ne M (by omega), updN_ne a (by omega)]; exact h.me k q),
  (fun k hk => by have q : k < a 8 := by {rwa [updN_ne a (by omega)] at hk}; rw [u2_ne M (by omega), updN_ne a (by omega)]; exact h.mh k q)⟩
theorem CL.s_cat (h : CL μ κ v o M b a) (x : Nat) : CL μ κ v o (up2 M (b + 4) (2) (nI x)) b (updN a (3) x) := ⟨(by rw [u2_ne M (by omega)]; have q : updN a (3) x 5 = a 5 := updN_ne a (by omega); rw [q]; exact h.rate),
  (by rw [u2_ne M (by omega)]; have q : updN a (3) x 6 = a 6 := updN_ne a (by omega); rw [q]; exact h.seed),
  (by rw [u2_ne M (by omega)]; exact h.mi),
  (by rw [u2_ne M (by omega)]; have q : updN a (3) x 13 = a 13 := updN_ne a (by omega); rw [q]; exact h.pu),
  (by rw [u2_ne M (by omega)]; have q : updN a (3) x 12 = a 12 := updN_ne a (by omega); rw [q]; exact h.ea),
  (by rw [u2_ne M (by omega)]; exact h.ca),
  (by rw [u2_ne M (by omega)]; have q : updN a (3) x 10 = a 10 := updN_ne a (by omega); rw [q]; exact h.go),
  (by rw [u2_ne M (by omega)]; have q : updN a (3) x 11 = a 11 := updN_ne a (by omega); rw [q]; exact h.ri),
  (fun j hj => by rw [u2_ne M (by omega), updN_ne a (by omega)]; exact h.bl j hj),
  (by rw [u2_ne M (by omega)]; have q : updN a (3) x 0 = a 0 := updN_ne a (by omega); rw [q]; exact h.n),
  (by rw [u2_ne M (by omega)]; have q : updN a (3) x 1 = a 1 := updN_ne a (by omega); rw [q]; exact h.p),
  (fun k hk => by rw [u2_ne M (by omega), updN_ne a (by omega)]; exact h.gr k hk),
  (fun k j hk hj => by rw [u2_ne M (by omega)]; rw [h.nb k j hk hj]; exact nb_c (fun q => lk_ne (by omega) hk q)),
  (by rw [u2_same, if_neg (by decide)]; have q : updN a (3) x 2 = a 2 := updN_ne a (by omega); rw [q]; exact h.t),
  (by rw [u2_same, if_pos rfl, updN_same]),
  (by rw [u2_same, if_neg (by decide)]; have q : updN a (3) x 4 = a 4 := updN_ne a (by omega); rw [q]; exact h.goal),
  (fun k hk => by have q : k < a 2 := by {rwa [updN_ne a (by omega)] at hk}; rw [u2_ne M (by omega), updN_ne a (by omega)]; exact h.st k q),
  (by rw [u2_ne M (by omega)]; have q : updN a (3) x 8 = a 8 := updN_ne a (by omega); rw [q]; exact h.m),
  (fun k hk => by have q : k < a 8 := by {rwa [updN_ne a (by omega)] at hk}; rw [u2_ne M (by omega), updN_ne a (by omega)]; exact h.ms k q),
  (fun k hk => by have q : k < a 8 := by {rwa [updN_ne a (by omega)] at hk}; rw [u2_ne M (by omega), updN_ne a (by omega)]; exact h.me k q),
  (fun k hk => by have q : k < a 8 := by {rwa [updN_ne a (by omega)] at hk}; rw [u2_ne M (by omega), updN_ne a (by omega)]; exact h.mh k q)⟩
theorem CL.s_goal (h : CL μ κ v o M b a) (x : Nat) : CL μ κ v o (up2 M (b + 4) (3) (nI x)) b (updN a (4) x) := ⟨(by rw [u2_ne M (by omega)]; have q : updN a (4) x 5 = a 5 := updN_ne a (by omega); rw [q]; exact h.rate),
  (by rw [u2_ne M (by omega)]; have q : updN a (4) x 6 = a 6 := updN_ne a (by omega); rw [q]; exact h.seed),
  (by rw [u2_ne M (by omega)]; exact h.mi),
  (by rw [u2_ne M (by omega)]; have q : updN a (4) x 13 = a 13 := updN_ne a (by omega); rw [q]; exact h.pu),
  (by rw [u2_ne M (by omega)]; have q : updN a (4) x 12 = a 12 := updN_ne a (by omega); rw [q]; exact h.ea),
  (by rw [u2_ne M (by omega)]; exact h.ca),
  (by rw [u2_ne M (by omega)]; have q : updN a (4) x 10 = a 10 := updN_ne a (by omega); rw [q]; exact h.go),
  (by rw [u2_ne M (by omega)]; have q : updN a (4) x 11 = a 11 := updN_ne a (by omega); rw [q]; exact h.ri),
  (fun j hj => by rw [u2_ne M (by omega), updN_ne a (by omega)]; exact h.bl j hj),
  (by rw [u2_ne M (by omega)]; have q : updN a (4) x 0 = a 0 := updN_ne a (by omega); rw [q]; exact h.n),
  (by rw [u2_ne M (by omega)]; have q : updN a (4) x 1 = a 1 := updN_ne a (by omega); rw [q]; exact h.p),
  (fun k hk => by rw [u2_ne M (by omega), updN_ne a (by omega)]; exact h.gr k hk),
  (fun k j hk hj => by rw [u2_ne M (by omega)]; rw [h.nb k j hk hj]; exact nb_c (fun q => lk_ne (by omega) hk q)),
  (by rw [u2_same, if_neg (by decide)]; have q : updN a (4) x 2 = a 2 := updN_ne a (by omega); rw [q]; exact h.t),
  (by rw [u2_same, if_neg (by decide)]; have q : updN a (4) x 3 = a 3 := updN_ne a (by omega); rw [q]; exact h.cat),
  (by rw [u2_same, if_pos rfl, updN_same]),
  (fun k hk => by have q : k < a 2 := by {rwa [updN_ne a (by omega)] at hk}; rw [u2_ne M (by omega), updN_ne a (by omega)]; exact h.st k q),
  (by rw [u2_ne M (by omega)]; have q : updN a (4) x 8 = a 8 := updN_ne a (by omega); rw [q]; exact h.m),
  (fun k hk => by have q : k < a 8 := by {rwa [updN_ne a (by omega)] at hk}; rw [u2_ne M (by omega), updN_ne a (by omega)]; exact h.ms k q),
  (fun k hk => by have q : k < a 8 := by {rwa [updN_ne a (by omega)] at hk}; rw [u2_ne M (by omega), updN_ne a (by omega)]; exact h.me k q),
  (fun k hk => by have q : k < a 8 := by {rwa [updN_ne a (by omega)] at hk}; rw [u2_ne M (by omega), updN_ne a (by omega)]; exact h.mh k q)⟩
theorem CL.s_mi (h : CL μ κ v o M b a) (x : Nat) : CL x κ v o (up2 M (b) (5) (nI x)) b a := ⟨(by rw [u2_same, if_neg (by decide)]; exact h.rate),
  (by rw [u2_same, if_neg (by decide)]; exact h.seed),
  (by rw [u2_same, if_pos rfl]),
  (by rw [u2_same, if_neg (by decide)]; exact h.pu),
  (by rw [u2_same, if_neg (by decide)]; exact h.ea),
  (by rw [u2_same, if_neg (by decide)]; exact h.ca),
  (by rw [u2_same, if_neg (by decide)]; exact h.go),
  (by rw [u2_same, if_neg (by decide)]; exact h.ri),
  (fun j hj => by rw [u2_ne M (by omega)]; exact h.bl j hj),
  (by rw [u2_ne M (by omega)]; exact h.n),
  (by rw [u2_ne M (by omega)]; exact h.p),
  (fun k hk => by rw [u2_ne M (by omega)]; exact h.gr k hk),
  (fun k j hk hj => by rw [u2_ne M (by omega)]; exact h.nb k j hk hj),
  (by rw [u2_ne M (by omega)]; exact h.t),
  (by rw [u2_ne M (by omega)]; exact h.cat),
  (by rw [u2_ne M (by omega)]; exact h.goal),
  (fun k hk => by rw [u2_ne M (by omega)]; exact h.st k hk),
  (by rw [u2_ne M (by omega)]; exact h.m),
  (fun k hk => by rw [u2_ne M (by omega)]; exact h.ms k hk),
  (fun k hk => by rw [u2_ne M (by omega)]; exact h.me k hk),
  (fun k hk => by rw [u2_ne M (by omega)]; exact h.mh k hk)⟩
theorem CL.s_ca (h : CL μ κ v o M b a) (x : Nat) : CL μ x v o (up2 M (b) (8) (nI x)) b a := ⟨(by rw [u2_same, if_neg (by decide)]; exact h.rate),
  (by rw [u2_same, if_neg (by decide)]; exact h.seed),
  (by rw [u2_same, if_neg (by decide)]; exact h.mi),
  (by rw [u2_same, if_neg (by decide)]; exact h.pu),
  (by rw [u2_same, if_neg (by decide)]; exact h.ea),
  (by rw [u2_same, if_pos rfl]),
  (by rw [u2_same, if_neg (by decide)]; exact h.go),
  (by rw [u2_same, if_neg (by decide)]; exact h.ri),
  (fun j hj => by rw [u2_ne M (by omega)]; exact h.bl j hj),
  (by rw [u2_ne M (by omega)]; exact h.n),
  (by rw [u2_ne M (by omega)]; exact h.p),
  (fun k hk => by rw [u2_ne M (by omega)]; exact h.gr k hk),
  (fun k j hk hj => by rw [u2_ne M (by omega)]; exact h.nb k j hk hj),
  (by rw [u2_ne M (by omega)]; exact h.t),
  (by rw [u2_ne M (by omega)]; exact h.cat),
  (by rw [u2_ne M (by omega)]; exact h.goal),
  (fun k hk => by rw [u2_ne M (by omega)]; exact h.st k hk),
  (by rw [u2_ne M (by omega)]; exact h.m),
  (fun k hk => by rw [u2_ne M (by omega)]; exact h.ms k hk),
  (fun k hk => by rw [u2_ne M (by omega)]; exact h.me k hk),
  (fun k hk => by rw [u2_ne M (by omega)]; exact h.mh k hk)⟩
theorem CL.s_t (h : CL μ κ v o M b a) {x : Nat} (hx : x ≤ a 2) : CL μ κ v o (up2 M (b + 4) (1) (nI x)) b (updN a (2) x) := ⟨(by rw [u2_ne M (by omega)]; have q : updN a (2) x 5 = a 5 := updN_ne a (by omega); rw [q]; exact h.rate),
  (by rw [u2_ne M (by omega)]; have q : updN a (2) x 6 = a 6 := updN_ne a (by omega); rw [q]; exact h.seed),
  (by rw [u2_ne M (by omega)]; exact h.mi),
  (by rw [u2_ne M (by omega)]; have q : updN a (2) x 13 = a 13 := updN_ne a (by omega); rw [q]; exact h.pu),
  (by rw [u2_ne M (by omega)]; have q : updN a (2) x 12 = a 12 := updN_ne a (by omega); rw [q]; exact h.ea),
  (by rw [u2_ne M (by omega)]; exact h.ca),
  (by rw [u2_ne M (by omega)]; have q : updN a (2) x 10 = a 10 := updN_ne a (by omega); rw [q]; exact h.go),
  (by rw [u2_ne M (by omega)]; have q : updN a (2) x 11 = a 11 := updN_ne a (by omega); rw [q]; exact h.ri),
  (fun j hj => by rw [u2_ne M (by omega), updN_ne a (by omega)]; exact h.bl j hj),
  (by rw [u2_ne M (by omega)]; have q : updN a (2) x 0 = a 0 := updN_ne a (by omega); rw [q]; exact h.n),
  (by rw [u2_ne M (by omega)]; have q : updN a (2) x 1 = a 1 := updN_ne a (by omega); rw [q]; exact h.p),
  (fun k hk => by rw [u2_ne M (by omega), updN_ne a (by omega)]; exact h.gr k hk),
  (fun k j hk hj => by rw [u2_ne M (by omega)]; rw [h.nb k j hk hj]; exact nb_c (fun q => lk_ne (by omega) hk q)),
  (by rw [u2_same, if_pos rfl, updN_same]),
  (by rw [u2_same, if_neg (by decide)]; have q : updN a (2) x 3 = a 3 := updN_ne a (by omega); rw [q]; exact h.cat),
  (by rw [u2_same, if_neg (by decide)]; have q : updN a (2) x 4 = a 4 := updN_ne a (by omega); rw [q]; exact h.goal),
  (fun k hk => by rw [updN_same] at hk; rw [u2_ne M (by omega), updN_ne a (by omega)]; exact h.st k (by omega)),
  (by rw [u2_ne M (by omega)]; have q : updN a (2) x 8 = a 8 := updN_ne a (by omega); rw [q]; exact h.m),
  (fun k hk => by have q : k < a 8 := by {rwa [updN_ne a (by omega)] at hk}; rw [u2_ne M (by omega), updN_ne a (by omega)]; exact h.ms k q),
  (fun k hk => by have q : k < a 8 := by {rwa [updN_ne a (by omega)] at hk}; rw [u2_ne M (by omega), updN_ne a (by omega)]; exact h.me k q),
  (fun k hk => by have q : k < a 8 := by {rwa [updN_ne a (by omega)] at hk}; rw [u2_ne M (by omega), updN_ne a (by omega)]; exact h.mh k q)⟩
theorem CL.s_gr (h : CL μ κ v o M b a) {i : Nat} (hi : i < 12) (x : Nat) : CL μ κ v o (up2 M (b + 2) (i) (nI x)) b (updN a (14 + i) x) := ⟨(by rw [u2_ne M (by omega)]; have q : updN a (14 + i) x 5 = a 5 := updN_ne a (by omega); rw [q]; exact h.rate),
  (by rw [u2_ne M (by omega)]; have q : updN a (14 + i) x 6 = a 6 := updN_ne a (by omega); rw [q]; exact h.seed),
  (by rw [u2_ne M (by omega)]; exact h.mi),
  (by rw [u2_ne M (by omega)]; have q : updN a (14 + i) x 13 = a 13 := updN_ne a (by omega); rw [q]; exact h.pu),
  (by rw [u2_ne M (by omega)]; have q : updN a (14 + i) x 12 = a 12 := updN_ne a (by omega); rw [q]; exact h.ea),
  (by rw [u2_ne M (by omega)]; exact h.ca),
  (by rw [u2_ne M (by omega)]; have q : updN a (14 + i) x 10 = a 10 := updN_ne a (by omega); rw [q]; exact h.go),
  (by rw [u2_ne M (by omega)]; have q : updN a (14 + i) x 11 = a 11 := updN_ne a (by omega); rw [q]; exact h.ri),
  (fun j hj => by rw [u2_ne M (by omega), updN_ne a (by omega)]; exact h.bl j hj),
  (by rw [u2_ne M (by omega)]; have q : updN a (14 + i) x 0 = a 0 := updN_ne a (by omega); rw [q]; exact h.n),
  (by rw [u2_ne M (by omega)]; have q : updN a (14 + i) x 1 = a 1 := updN_ne a (by omega); rw [q]; exact h.p),
  (fun k hk => by
    rw [u2_same]
    by_cases q : k = i
    · rw [if_pos q, q, updN_same]
    · rw [if_neg q, updN_ne a (by omega)]; exact h.gr k hk),
  (fun k j hk hj => by rw [u2_ne M (by omega)]; rw [h.nb k j hk hj]; exact nb_c (fun q => lk_ne (by omega) hk q)),
  (by rw [u2_ne M (by omega)]; have q : updN a (14 + i) x 2 = a 2 := updN_ne a (by omega); rw [q]; exact h.t),
  (by rw [u2_ne M (by omega)]; have q : updN a (14 + i) x 3 = a 3 := updN_ne a (by omega); rw [q]; exact h.cat),
  (by rw [u2_ne M (by omega)]; have q : updN a (14 + i) x 4 = a 4 := updN_ne a (by omega); rw [q]; exact h.goal),
  (fun k hk => by have q : k < a 2 := by {rwa [updN_ne a (by omega)] at hk}; rw [u2_ne M (by omega), updN_ne a (by omega)]; exact h.st k q),
  (by rw [u2_ne M (by omega)]; have q : updN a (14 + i) x 8 = a 8 := updN_ne a (by omega); rw [q]; exact h.m),
  (fun k hk => by have q : k < a 8 := by {rwa [updN_ne a (by omega)] at hk}; rw [u2_ne M (by omega), updN_ne a (by omega)]; exact h.ms k q),
  (fun k hk => by have q : k < a 8 := by {rwa [updN_ne a (by omega)] at hk}; rw [u2_ne M (by omega), updN_ne a (by omega)]; exact h.me k q),
  (fun k hk => by have q : k < a 8 := by {rwa [updN_ne a (by omega)] at hk}; rw [u2_ne M (by omega), updN_ne a (by omega)]; exact h.mh k q)⟩
theorem CL.s_st (h : CL μ κ v o M b a) (ht : a 2 ≤ 10) {i : Nat} (hi : i < 10) (x : Nat) : CL μ κ v o (up2 M (b + 5) (i) (nI x)) b (updN a (182 + i) x) := ⟨(by rw [u2_ne M (by omega)]; have q : updN a (182 + i) x 5 = a 5 := updN_ne a (by omega); rw [q]; exact h.rate),
  (by rw [u2_ne M (by omega)]; have q : updN a (182 + i) x 6 = a 6 := updN_ne a (by omega); rw [q]; exact h.seed),
  (by rw [u2_ne M (by omega)]; exact h.mi),
  (by rw [u2_ne M (by omega)]; have q : updN a (182 + i) x 13 = a 13 := updN_ne a (by omega); rw [q]; exact h.pu),
  (by rw [u2_ne M (by omega)]; have q : updN a (182 + i) x 12 = a 12 := updN_ne a (by omega); rw [q]; exact h.ea),
  (by rw [u2_ne M (by omega)]; exact h.ca),
  (by rw [u2_ne M (by omega)]; have q : updN a (182 + i) x 10 = a 10 := updN_ne a (by omega); rw [q]; exact h.go),
  (by rw [u2_ne M (by omega)]; have q : updN a (182 + i) x 11 = a 11 := updN_ne a (by omega); rw [q]; exact h.ri),
  (fun j hj => by rw [u2_ne M (by omega), updN_ne a (by omega)]; exact h.bl j hj),
  (by rw [u2_ne M (by omega)]; have q : updN a (182 + i) x 0 = a 0 := updN_ne a (by omega); rw [q]; exact h.n),
  (by rw [u2_ne M (by omega)]; have q : updN a (182 + i) x 1 = a 1 := updN_ne a (by omega); rw [q]; exact h.p),
  (fun k hk => by rw [u2_ne M (by omega), updN_ne a (by omega)]; exact h.gr k hk),
  (fun k j hk hj => by rw [u2_ne M (by omega)]; rw [h.nb k j hk hj]; exact nb_c (fun q => lk_ne (by omega) hk q)),
  (by rw [u2_ne M (by omega)]; have q : updN a (182 + i) x 2 = a 2 := updN_ne a (by omega); rw [q]; exact h.t),
  (by rw [u2_ne M (by omega)]; have q : updN a (182 + i) x 3 = a 3 := updN_ne a (by omega); rw [q]; exact h.cat),
  (by rw [u2_ne M (by omega)]; have q : updN a (182 + i) x 4 = a 4 := updN_ne a (by omega); rw [q]; exact h.goal),
  (fun k hk => by
    have z : k < a 2 := by rwa [updN_ne a (by omega)] at hk
    rw [u2_same]
    by_cases q : k = i
    · rw [if_pos q, q, updN_same]
    · rw [if_neg q, updN_ne a (by omega)]; exact h.st k z),
  (by rw [u2_ne M (by omega)]; have q : updN a (182 + i) x 8 = a 8 := updN_ne a (by omega); rw [q]; exact h.m),
  (fun k hk => by have q : k < a 8 := by {rwa [updN_ne a (by omega)] at hk}; rw [u2_ne M (by omega), updN_ne a (by omega)]; exact h.ms k q),
  (fun k hk => by have q : k < a 8 := by {rwa [updN_ne a (by omega)] at hk}; rw [u2_ne M (by omega), updN_ne a (by omega)]; exact h.me k q),
  (fun k hk => by have q : k < a 8 := by {rwa [updN_ne a (by omega)] at hk}; rw [u2_ne M (by omega), updN_ne a (by omega)]; exact h.mh k q)⟩
theorem CL.s_ms (h : CL μ κ v o M b a) (ht : a 2 ≤ 10) (i : Nat) (x : Nat) : CL μ κ v o (up2 M (b + 7) (pos v o i) (nI x)) b (updN a (192 + 3 * i) x) := ⟨(by rw [u2_ne M (by omega)]; have q : updN a (192 + 3 * i) x 5 = a 5 := updN_ne a (by omega); rw [q]; exact h.rate),
  (by rw [u2_ne M (by omega)]; have q : updN a (192 + 3 * i) x 6 = a 6 := updN_ne a (by omega); rw [q]; exact h.seed),
  (by rw [u2_ne M (by omega)]; exact h.mi),
  (by rw [u2_ne M (by omega)]; have q : updN a (192 + 3 * i) x 13 = a 13 := updN_ne a (by omega); rw [q]; exact h.pu),
  (by rw [u2_ne M (by omega)]; have q : updN a (192 + 3 * i) x 12 = a 12 := updN_ne a (by omega); rw [q]; exact h.ea),
  (by rw [u2_ne M (by omega)]; exact h.ca),
  (by rw [u2_ne M (by omega)]; have q : updN a (192 + 3 * i) x 10 = a 10 := updN_ne a (by omega); rw [q]; exact h.go),
  (by rw [u2_ne M (by omega)]; have q : updN a (192 + 3 * i) x 11 = a 11 := updN_ne a (by omega); rw [q]; exact h.ri),
  (fun j hj => by rw [u2_ne M (by omega), updN_ne a (by omega)]; exact h.bl j hj),
  (by rw [u2_ne M (by omega)]; have q : updN a (192 + 3 * i) x 0 = a 0 := updN_ne a (by omega); rw [q]; exact h.n),
  (by rw [u2_ne M (by omega)]; have q : updN a (192 + 3 * i) x 1 = a 1 := updN_ne a (by omega); rw [q]; exact h.p),
  (fun k hk => by rw [u2_ne M (by omega), updN_ne a (by omega)]; exact h.gr k hk),
  (fun k j hk hj => by rw [u2_ne M (by omega)]; rw [h.nb k j hk hj]; exact nb_c (fun q => lk_ne (by omega) hk q)),
  (by rw [u2_ne M (by omega)]; have q : updN a (192 + 3 * i) x 2 = a 2 := updN_ne a (by omega); rw [q]; exact h.t),
  (by rw [u2_ne M (by omega)]; have q : updN a (192 + 3 * i) x 3 = a 3 := updN_ne a (by omega); rw [q]; exact h.cat),
  (by rw [u2_ne M (by omega)]; have q : updN a (192 + 3 * i) x 4 = a 4 := updN_ne a (by omega); rw [q]; exact h.goal),
  (fun k hk => by have q : k < a 2 := by {rwa [updN_ne a (by omega)] at hk}; rw [u2_ne M (by omega), updN_ne a (by omega)]; exact h.st k q),
  (by rw [u2_ne M (by omega)]; have q : updN a (192 + 3 * i) x 8 = a 8 := updN_ne a (by omega); rw [q]; exact h.m),
  (fun k hk => by
    have z : k < a 8 := by rwa [updN_ne a (by omega)] at hk
    rw [u2_same]
    by_cases q : k = i
    · rw [if_pos (by rw [q]), q, updN_same]
    · rw [if_neg (fun w => q (pos_inj w)), updN_ne a (by omega)]; exact h.ms k z),
  (fun k hk => by have q : k < a 8 := by {rwa [updN_ne a (by omega)] at hk}; rw [u2_ne M (by omega), updN_ne a (by omega)]; exact h.me k q),
  (fun k hk => by have q : k < a 8 := by {rwa [updN_ne a (by omega)] at hk}; rw [u2_ne M (by omega), updN_ne a (by omega)]; exact h.mh k q)⟩
theorem CL.s_me (h : CL μ κ v o M b a) (ht : a 2 ≤ 10) (i : Nat) (x : Nat) : CL μ κ v o (up2 M (b + 8) (pos v o i) (nI x)) b (updN a (193 + 3 * i) x) := ⟨(by rw [u2_ne M (by omega)]; have q : updN a (193 + 3 * i) x 5 = a 5 := updN_ne a (by omega); rw [q]; exact h.rate),
  (by rw [u2_ne M (by omega)]; have q : updN a (193 + 3 * i) x 6 = a 6 := updN_ne a (by omega); rw [q]; exact h.seed),
  (by rw [u2_ne M (by omega)]; exact h.mi),
  (by rw [u2_ne M (by omega)]; have q : updN a (193 + 3 * i) x 13 = a 13 := updN_ne a (by omega); rw [q]; exact h.pu),
  (by rw [u2_ne M (by omega)]; have q : updN a (193 + 3 * i) x 12 = a 12 := updN_ne a (by omega); rw [q]; exact h.ea),
  (by rw [u2_ne M (by omega)]; exact h.ca),
  (by rw [u2_ne M (by omega)]; have q : updN a (193 + 3 * i) x 10 = a 10 := updN_ne a (by omega); rw [q]; exact h.go),
  (by rw [u2_ne M (by omega)]; have q : updN a (193 + 3 * i) x 11 = a 11 := updN_ne a (by omega); rw [q]; exact h.ri),
  (fun j hj => by rw [u2_ne M (by omega), updN_ne a (by omega)]; exact h.bl j hj),
  (by rw [u2_ne M (by omega)]; have q : updN a (193 + 3 * i) x 0 = a 0 := updN_ne a (by omega); rw [q]; exact h.n),
  (by rw [u2_ne M (by omega)]; have q : updN a (193 + 3 * i) x 1 = a 1 := updN_ne a (by omega); rw [q]; exact h.p),
  (fun k hk => by rw [u2_ne M (by omega), updN_ne a (by omega)]; exact h.gr k hk),
  (fun k j hk hj => by rw [u2_ne M (by omega)]; rw [h.nb k j hk hj]; exact nb_c (fun q => lk_ne (by omega) hk q)),
  (by rw [u2_ne M (by omega)]; have q : updN a (193 + 3 * i) x 2 = a 2 := updN_ne a (by omega); rw [q]; exact h.t),
  (by rw [u2_ne M (by omega)]; have q : updN a (193 + 3 * i) x 3 = a 3 := updN_ne a (by omega); rw [q]; exact h.cat),
  (by rw [u2_ne M (by omega)]; have q : updN a (193 + 3 * i) x 4 = a 4 := updN_ne a (by omega); rw [q]; exact h.goal),
  (fun k hk => by have q : k < a 2 := by {rwa [updN_ne a (by omega)] at hk}; rw [u2_ne M (by omega), updN_ne a (by omega)]; exact h.st k q),
  (by rw [u2_ne M (by omega)]; have q : updN a (193 + 3 * i) x 8 = a 8 := updN_ne a (by omega); rw [q]; exact h.m),
  (fun k hk => by have q : k < a 8 := by {rwa [updN_ne a (by omega)] at hk}; rw [u2_ne M (by omega), updN_ne a (by omega)]; exact h.ms k q),
  (fun k hk => by
    have z : k < a 8 := by rwa [updN_ne a (by omega)] at hk
    rw [u2_same]
    by_cases q : k = i
    · rw [if_pos (by rw [q]), q, updN_same]
    · rw [if_neg (fun w => q (pos_inj w)), updN_ne a (by omega)]; exact h.me k z),
  (fun k hk => by have q : k < a 8 := by {rwa [updN_ne a (by omega)] at hk}; rw [u2_ne M (by omega), updN_ne a (by omega)]; exact h.mh k q)⟩
theorem CL.s_mh (h : CL μ κ v o M b a) (ht : a 2 ≤ 10) (i : Nat) (x : Nat) : CL μ κ v o (up2 M (b + 9) (pos v o i) (nI x)) b (updN a (194 + 3 * i) x) := ⟨(by rw [u2_ne M (by omega)]; have q : updN a (194 + 3 * i) x 5 = a 5 := updN_ne a (by omega); rw [q]; exact h.rate),
  (by rw [u2_ne M (by omega)]; have q : updN a (194 + 3 * i) x 6 = a 6 := updN_ne a (by omega); rw [q]; exact h.seed),
  (by rw [u2_ne M (by omega)]; exact h.mi),
  (by rw [u2_ne M (by omega)]; have q : updN a (194 + 3 * i) x 13 = a 13 := updN_ne a (by omega); rw [q]; exact h.pu),
  (by rw [u2_ne M (by omega)]; have q : updN a (194 + 3 * i) x 12 = a 12 := updN_ne a (by omega); rw [q]; exact h.ea),
  (by rw [u2_ne M (by omega)]; exact h.ca),
  (by rw [u2_ne M (by omega)]; have q : updN a (194 + 3 * i) x 10 = a 10 := updN_ne a (by omega); rw [q]; exact h.go),
  (by rw [u2_ne M (by omega)]; have q : updN a (194 + 3 * i) x 11 = a 11 := updN_ne a (by omega); rw [q]; exact h.ri),
  (fun j hj => by rw [u2_ne M (by omega), updN_ne a (by omega)]; exact h.bl j hj),
  (by rw [u2_ne M (by omega)]; have q : updN a (194 + 3 * i) x 0 = a 0 := updN_ne a (by omega); rw [q]; exact h.n),
  (by rw [u2_ne M (by omega)]; have q : updN a (194 + 3 * i) x 1 = a 1 := updN_ne a (by omega); rw [q]; exact h.p),
  (fun k hk => by rw [u2_ne M (by omega), updN_ne a (by omega)]; exact h.gr k hk),
  (fun k j hk hj => by rw [u2_ne M (by omega)]; rw [h.nb k j hk hj]; exact nb_c (fun q => lk_ne (by omega) hk q)),
  (by rw [u2_ne M (by omega)]; have q : updN a (194 + 3 * i) x 2 = a 2 := updN_ne a (by omega); rw [q]; exact h.t),
  (by rw [u2_ne M (by omega)]; have q : updN a (194 + 3 * i) x 3 = a 3 := updN_ne a (by omega); rw [q]; exact h.cat),
  (by rw [u2_ne M (by omega)]; have q : updN a (194 + 3 * i) x 4 = a 4 := updN_ne a (by omega); rw [q]; exact h.goal),
  (fun k hk => by have q : k < a 2 := by {rwa [updN_ne a (by omega)] at hk}; rw [u2_ne M (by omega), updN_ne a (by omega)]; exact h.st k q),
  (by rw [u2_ne M (by omega)]; have q : updN a (194 + 3 * i) x 8 = a 8 := updN_ne a (by omega); rw [q]; exact h.m),
  (fun k hk => by have q : k < a 8 := by {rwa [updN_ne a (by omega)] at hk}; rw [u2_ne M (by omega), updN_ne a (by omega)]; exact h.ms k q),
  (fun k hk => by have q : k < a 8 := by {rwa [updN_ne a (by omega)] at hk}; rw [u2_ne M (by omega), updN_ne a (by omega)]; exact h.me k q),
  (fun k hk => by
    have z : k < a 8 := by rwa [updN_ne a (by omega)] at hk
    rw [u2_same]
    by_cases q : k = i
    · rw [if_pos (by rw [q]), q, updN_same]
    · rw [if_neg (fun w => q (pos_inj w)), updN_ne a (by omega)]; exact h.mh k z)⟩
theorem CL.s_fin (h : CL μ κ (a 8) o M b a)  : CL μ κ 0 0 (up2 M (b + 6) (3) (nI (a 8))) b a := ⟨(by rw [u2_ne M (by omega)]; exact h.rate),
  (by rw [u2_ne M (by omega)]; exact h.seed),
  (by rw [u2_ne M (by omega)]; exact h.mi),
  (by rw [u2_ne M (by omega)]; exact h.pu),
  (by rw [u2_ne M (by omega)]; exact h.ea),
  (by rw [u2_ne M (by omega)]; exact h.ca),
  (by rw [u2_ne M (by omega)]; exact h.go),
  (by rw [u2_ne M (by omega)]; exact h.ri),
  (fun j hj => by rw [u2_ne M (by omega)]; exact h.bl j hj),
  (by rw [u2_ne M (by omega)]; exact h.n),
  (by rw [u2_ne M (by omega)]; exact h.p),
  (fun k hk => by rw [u2_ne M (by omega)]; exact h.gr k hk),
  (fun k j hk hj => by rw [u2_ne M (by omega)]; exact h.nb k j hk hj),
  (by rw [u2_ne M (by omega)]; exact h.t),
  (by rw [u2_ne M (by omega)]; exact h.cat),
  (by rw [u2_ne M (by omega)]; exact h.goal),
  (fun k hk => by rw [u2_ne M (by omega)]; exact h.st k hk),
  (by rw [u2_same, if_pos rfl]; rfl),
  (fun k hk => by rw [u2_ne M (by omega), pos_00]; have z := h.ms k hk; unfold pos at z; rwa [if_pos hk] at z),
  (fun k hk => by rw [u2_ne M (by omega), pos_00]; have z := h.me k hk; unfold pos at z; rwa [if_pos hk] at z),
  (fun k hk => by rw [u2_ne M (by omega), pos_00]; have z := h.mh k hk; unfold pos at z; rwa [if_pos hk] at z)⟩
theorem CL.s_bl (h : CL μ κ v o M b a) {w : Int32} {a' : Nat → Nat} (hw : ∀ j, j < 32 → bitb w j = decide (j < 12 ∧ a' (26 + j) = 1)) (ha : ∀ k, (k < 26 ∨ 38 ≤ k) → a' k = a k) : CL μ κ v o (up2 M (b + 1) 2 w) b a' := ⟨(by rw [u2_ne M (by omega), ha 5 (by omega)]; exact h.rate),
  (by rw [u2_ne M (by omega), ha 6 (by omega)]; exact h.seed),
  (by rw [u2_ne M (by omega)]; exact h.mi),
  (by rw [u2_ne M (by omega), ha 13 (by omega)]; exact h.pu),
  (by rw [u2_ne M (by omega), ha 12 (by omega)]; exact h.ea),
  (by rw [u2_ne M (by omega)]; exact h.ca),
  (by rw [u2_ne M (by omega), ha 10 (by omega)]; exact h.go),
  (by rw [u2_ne M (by omega), ha 11 (by omega)]; exact h.ri),
  (fun j hj => by rw [u2_same, if_pos rfl]; exact hw j hj),
  (by rw [u2_same, if_neg (by decide), ha 0 (by omega)]; exact h.n),
  (by rw [u2_same, if_neg (by decide), ha 1 (by omega)]; exact h.p),
  (fun k hk => by rw [u2_ne M (by omega), ha _ (by omega)]; exact h.gr k hk),
  (fun k j hk hj => by rw [u2_ne M (by omega), h.nb k j hk hj]; exact nb_c (fun q => ha _ (by omega))),
  (by rw [u2_ne M (by omega), ha 2 (by omega)]; exact h.t),
  (by rw [u2_ne M (by omega), ha 3 (by omega)]; exact h.cat),
  (by rw [u2_ne M (by omega), ha 4 (by omega)]; exact h.goal),
  (fun k hk => by rw [ha 2 (by omega)] at hk; rw [u2_ne M (by omega), ha _ (by omega)]; exact h.st k hk),
  (by rw [u2_ne M (by omega), ha 8 (by omega)]; exact h.m),
  (fun k hk => by rw [ha 8 (by omega)] at hk; rw [u2_ne M (by omega), ha _ (by omega)]; exact h.ms k hk),
  (fun k hk => by rw [ha 8 (by omega)] at hk; rw [u2_ne M (by omega), ha _ (by omega)]; exact h.me k hk),
  (fun k hk => by rw [ha 8 (by omega)] at hk; rw [u2_ne M (by omega), ha _ (by omega)]; exact h.mh k hk)⟩
theorem CL.s_nb (h : CL μ κ v o M b a) {M' : Mem} {a' : Nat → Nat} (hM : ∀ c, c ≠ b + 3 → M' c = M c) (hw : ∀ k j, k < 12 → j < 32 → bitb (M' (b + 3) k) j = decide (j < 12 ∧ lk a' k j = 1)) (ha : ∀ k, (k < 38 ∨ 182 ≤ k) → a' k = a k) : CL μ κ v o M' b a' := ⟨(by rw [hM _ (by omega), ha 5 (by omega)]; exact h.rate),
  (by rw [hM _ (by omega), ha 6 (by omega)]; exact h.seed),
  (by rw [hM _ (by omega)]; exact h.mi),
  (by rw [hM _ (by omega), ha 13 (by omega)]; exact h.pu),
  (by rw [hM _ (by omega), ha 12 (by omega)]; exact h.ea),
  (by rw [hM _ (by omega)]; exact h.ca),
  (by rw [hM _ (by omega), ha 10 (by omega)]; exact h.go),
  (by rw [hM _ (by omega), ha 11 (by omega)]; exact h.ri),
  (fun j hj => by rw [hM _ (by omega), h.bl j hj]; by_cases q : j < 12 <;> simp [q]; rw [ha _ (by omega)]),
  (by rw [hM _ (by omega), ha 0 (by omega)]; exact h.n),
  (by rw [hM _ (by omega), ha 1 (by omega)]; exact h.p),
  (fun k hk => by rw [hM _ (by omega), ha _ (by omega)]; exact h.gr k hk),
  hw,
  (by rw [hM _ (by omega), ha 2 (by omega)]; exact h.t),
  (by rw [hM _ (by omega), ha 3 (by omega)]; exact h.cat),
  (by rw [hM _ (by omega), ha 4 (by omega)]; exact h.goal),
  (fun k hk => by rw [ha 2 (by omega)] at hk; rw [hM _ (by omega), ha _ (by omega)]; exact h.st k hk),
  (by rw [hM _ (by omega), ha 8 (by omega)]; exact h.m),
  (fun k hk => by rw [ha 8 (by omega)] at hk; rw [hM _ (by omega), ha _ (by omega)]; exact h.ms k hk),
  (fun k hk => by rw [ha 8 (by omega)] at hk; rw [hM _ (by omega), ha _ (by omega)]; exact h.me k hk),
  (fun k hk => by rw [ha 8 (by omega)] at hk; rw [hM _ (by omega), ha _ (by omega)]; exact h.mh k hk)⟩
theorem CL.fr (h : CL μ κ v o M b a) {M' : Mem} (hM : ∀ c, b ≤ c → c < b + 10 → M' c = M c) : CL μ κ v o M' b a := ⟨(by rw [hM _ (by omega) (by omega)]; exact h.rate),
  (by rw [hM _ (by omega) (by omega)]; exact h.seed),
  (by rw [hM _ (by omega) (by omega)]; exact h.mi),
  (by rw [hM _ (by omega) (by omega)]; exact h.pu),
  (by rw [hM _ (by omega) (by omega)]; exact h.ea),
  (by rw [hM _ (by omega) (by omega)]; exact h.ca),
  (by rw [hM _ (by omega) (by omega)]; exact h.go),
  (by rw [hM _ (by omega) (by omega)]; exact h.ri),
  (fun k hk => by rw [hM _ (by omega) (by omega)]; exact h.bl k hk),
  (by rw [hM _ (by omega) (by omega)]; exact h.n),
  (by rw [hM _ (by omega) (by omega)]; exact h.p),
  (fun k hk => by rw [hM _ (by omega) (by omega)]; exact h.gr k hk),
  (fun k j hk hj => by rw [hM _ (by omega) (by omega)]; exact h.nb k j hk hj),
  (by rw [hM _ (by omega) (by omega)]; exact h.t),
  (by rw [hM _ (by omega) (by omega)]; exact h.cat),
  (by rw [hM _ (by omega) (by omega)]; exact h.goal),
  (fun k hk => by rw [hM _ (by omega) (by omega)]; exact h.st k hk),
  (by rw [hM _ (by omega) (by omega)]; exact h.m),
  (fun k hk => by rw [hM _ (by omega) (by omega)]; exact h.ms k hk),
  (fun k hk => by rw [hM _ (by omega) (by omega)]; exact h.me k hk),
  (fun k hk => by rw [hM _ (by omega) (by omega)]; exact h.mh k hk)⟩
end
