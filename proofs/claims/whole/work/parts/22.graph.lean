def exB : Nat → (Nat → Bool) → Bool
  | 0, _ => false
  | n + 1, p => exB n p || p n
theorem exB_iff {n : Nat} {p : Nat → Bool} : exB n p = true ↔ ∃ i, i < n ∧ p i = true := by
  induction n with
  | zero => simp [exB]
  | succ n ih =>
    simp only [exB, Bool.or_eq_true, ih]
    constructor
    · rintro (⟨i, h1, h2⟩ | h)
      · exact ⟨i, by omega, h2⟩
      · exact ⟨n, by omega, h⟩
    · rintro ⟨i, h1, h2⟩
      by_cases e : i = n
      · subst e; exact Or.inr h2
      · exact Or.inl ⟨i, by omega, h2⟩
theorem exB_congr {n : Nat} {p q : Nat → Bool} (h : ∀ i, i < n → p i = q i) : exB n p = exB n q := by
  induction n with
  | zero => rfl
  | succ n ih => simp only [exB]; rw [ih (fun i hi => h i (by omega)), h n (by omega)]
def lea (p : Nat → Bool) (d : Nat) : Nat → Nat
  | 0 => d
  | n + 1 => if exB n p then lea p d n else if p n then n else d
theorem lea_some {p : Nat → Bool} {d n : Nat} (h : exB n p = true) : lea p d n < n ∧ p (lea p d n) = true ∧ ∀ s, s < lea p d n → p s = false := by
  induction n with
  | zero => simp [exB] at h
  | succ n ih =>
    unfold lea
    by_cases e : exB n p = true
    · rw [if_pos e]
      obtain ⟨a, b, c⟩ := ih e
      exact ⟨by omega, b, c⟩
    · rw [if_neg e]
      have hn : p n = true := by
        simp only [exB, Bool.or_eq_true] at h
        exact h.resolve_left e
      rw [if_pos hn]
      refine ⟨by omega, hn, fun s hs => ?_⟩
      cases hp : p s
      · rfl
      · exact absurd (exB_iff.mpr ⟨s, hs, hp⟩) e
theorem lea_none {p : Nat → Bool} {d n : Nat} (h : ¬ exB n p = true) : lea p d n = d := by
  cases n with
  | zero => rfl
  | succ n =>
    unfold lea
    simp only [exB, Bool.or_eq_true, not_or] at h
    rw [if_neg h.1, if_neg h.2]
theorem lea_is {p : Nat → Bool} {d n s : Nat} (hs : s < n) (h : p s = true) (hm : ∀ i, i < s → p i = false) : lea p d n = s := by
  obtain ⟨a, b, c⟩ := lea_some (d := d) (exB_iff.mpr ⟨s, hs, h⟩)
  rcases Nat.lt_trichotomy (lea p d n) s with q | q | q
  · rw [hm _ q] at b; cases b
  · exact q
  · rw [c s q] at h; cases h
theorem lea_le {p : Nat → Bool} {d n s : Nat} (hs : s < n) (h : p s = true) : lea p d n ≤ s := by
  obtain ⟨a, b, c⟩ := lea_some (d := d) (exB_iff.mpr ⟨s, hs, h⟩)
  rcases Nat.lt_or_ge s (lea p d n) with q | q
  · rw [c s q] at h; cases h
  · exact q
def wk (a : Nat → Nat) (t : Nat) : Nat → Nat → Bool
  | 0, k => decide (k = t)
  | s + 1, k => wk a t s k || exB 12 (fun j => decide (lk a k j = 1) && wk a t s j)
theorem wk_succ {a : Nat → Nat} {t s k : Nat} : wk a t (s + 1) k = true ↔ wk a t s k = true ∨ ∃ j, j < 12 ∧ lk a k j = 1 ∧ wk a t s j = true := by
  simp only [wk, Bool.or_eq_true, exB_iff, Bool.and_eq_true, decide_eq_true_eq]
theorem wk_le {a : Nat → Nat} {t s s' k : Nat} (h : s ≤ s') (hw : wk a t s k = true) : wk a t s' k = true := by
  induction s' with
  | zero => rw [Nat.le_zero.mp h] at hw; exact hw
  | succ n ih =>
    by_cases e : s = n + 1
    · subst e; exact hw
    · exact wk_succ.mpr (Or.inl (ih (by omega)))
theorem wk_snoc {a : Nat → Nat} {t s k j : Nat} (ht : t < 12) (hk : k < 12) (hl : lk a j t = 1) (h : wk a j s k = true) : wk a t (s + 1) k = true := by
  induction s generalizing k with
  | zero =>
    have e : k = j := by simpa [wk] using h
    subst e
    refine wk_succ.mpr (Or.inr ?_)
    exact ⟨t, ht, hl, by simp [wk]⟩
  | succ s ih =>
    rcases wk_succ.mp h with q | ⟨i, hi, q1, q2⟩
    · exact wk_succ.mpr (Or.inl (ih hk q))
    · exact wk_succ.mpr (Or.inr ⟨i, hi, q1, ih hi q2⟩)
theorem wk_sym {a : Nat → Nat} (hs : ∀ i j, i < 12 → j < 12 → lk a i j = lk a j i) {t s k : Nat} (ht : t < 12) (hk : k < 12) (h : wk a t s k = true) : wk a k s t = true := by
  induction s generalizing k with
  | zero =>
    have e : k = t := by simpa [wk] using h
    subst e
    simp [wk]
  | succ s ih =>
    rcases wk_succ.mp h with q | ⟨i, hi, q1, q2⟩
    · exact wk_le (Nat.le_succ s) (ih hk q)
    · exact wk_snoc (j := i) hk ht (by rw [hs i k hi hk]; exact q1) (ih hi q2)
def cntB : Nat → (Nat → Bool) → Nat
  | 0, _ => 0
  | n + 1, p => cntB n p + (if p n then 1 else 0)
theorem cntB_le (n : Nat) (p : Nat → Bool) : cntB n p ≤ n := by
  induction n with
  | zero => exact Nat.le_refl 0
  | succ n ih => unfold cntB; split <;> omega
theorem cntB_mono {n : Nat} {p q : Nat → Bool} (h : ∀ i, i < n → p i = true → q i = true) : cntB n p ≤ cntB n q := by
  induction n with
  | zero => exact Nat.le_refl 0
  | succ n ih =>
    have := ih (fun i hi => h i (by omega))
    have h2 := h n (by omega)
    unfold cntB
    by_cases e : p n = true
    · rw [if_pos e, if_pos (h2 e)]; omega
    · rw [if_neg e]; omega
theorem cntB_lt {n : Nat} {p q : Nat → Bool} (h : ∀ i, i < n → p i = true → q i = true) {i : Nat} (hi : i < n) (h1 : p i = false) (h2 : q i = true) : cntB n p < cntB n q := by
  induction n with
  | zero => omega
  | succ n ih =>
    unfold cntB
    by_cases e : i = n
    · subst e
      have := cntB_mono (n := i) (p := p) (q := q) (fun j hj => h j (by omega))
      rw [h1, h2]
      simp only [Bool.false_eq_true, if_false, if_true]
      omega
    · have := ih (fun j hj => h j (by omega)) (by omega)
      have h3 := h n (by omega)
      by_cases e2 : p n = true
      · rw [if_pos e2, if_pos (h3 e2)]; omega
      · rw [if_neg e2]; omega
theorem cntB_pos {n : Nat} {p : Nat → Bool} {i : Nat} (hi : i < n) (h : p i = true) : 0 < cntB n p := by
  induction n with
  | zero => omega
  | succ n ih =>
    unfold cntB
    by_cases e : i = n
    · subst e; rw [if_pos h]; omega
    · have := ih (by omega); omega
def same (a : Nat → Nat) (t s : Nat) : Prop := ∀ k, k < 12 → wk a t (s + 1) k = wk a t s k
theorem same_next {a : Nat → Nat} {t s : Nat} (h : same a t s) : same a t (s + 1) := by
  intro k hk
  have e : exB 12 (fun j => decide (lk a k j = 1) && wk a t (s + 1) j) = exB 12 (fun j => decide (lk a k j = 1) && wk a t s j) := exB_congr (fun j hj => by rw [h j hj])
  show (wk a t (s + 1) k || exB 12 (fun j => decide (lk a k j = 1) && wk a t (s + 1) j)) = (wk a t s k || exB 12 (fun j => decide (lk a k j = 1) && wk a t s j))
  rw [e, h k hk]
theorem same_all {a : Nat → Nat} {t s n k : Nat} (h : same a t s) (hk : k < 12) : wk a t (s + n) k = wk a t s k := by
  have h2 : ∀ n, same a t (s + n) := by
    intro n
    induction n with
    | zero => exact h
    | succ n ih => exact same_next ih
  induction n with
  | zero => rfl
  | succ n ih => rw [← ih]; exact h2 n k hk
theorem not_same {a : Nat → Nat} {t : Nat} (ht : t < 12) (n : Nat) (h : ∀ s, s < n → ¬ same a t s) : n + 1 ≤ cntB 12 (wk a t n) := by
  induction n with
  | zero => exact cntB_pos ht (by simp [wk])
  | succ n ih =>
    have h1 := ih (fun s hs => h s (by omega))
    have h2 : ∃ k, k < 12 ∧ wk a t (n + 1) k ≠ wk a t n k := by
      refine Classical.byContradiction fun q => h n (by omega) (fun k hk => ?_)
      exact Classical.byContradiction fun q2 => q ⟨k, hk, q2⟩
    obtain ⟨k, hk, hne⟩ := h2
    have h3 : wk a t n k = false := by
      cases e : wk a t n k
      · rfl
      · rw [e, wk_le (Nat.le_succ n) e] at hne; exact absurd rfl hne
    have h4 : wk a t (n + 1) k = true := by
      cases e : wk a t (n + 1) k
      · rw [e, h3] at hne; exact absurd rfl hne
      · rfl
    have := cntB_lt (n := 12) (p := wk a t n) (q := wk a t (n + 1)) (fun i _ q => wk_le (Nat.le_succ n) q) hk h3 h4
    omega
theorem wk_11 {a : Nat → Nat} {t s k : Nat} (ht : t < 12) (hk : k < 12) (h : wk a t s k = true) : wk a t 11 k = true := by
  rcases Nat.lt_or_ge s 12 with q | q
  · exact wk_le (by omega) h
  · have h1 : ∃ r, r < 12 ∧ same a t r := by
      refine Classical.byContradiction fun q => ?_
      have := not_same ht 12 (fun s hs hn => q ⟨s, hs, hn⟩)
      have := cntB_le 12 (wk a t 12)
      omega
    obtain ⟨r, hr, hsame⟩ := h1
    have e1 := same_all (n := s - r) hsame hk
    have e2 := same_all (n := 11 - r) hsame hk
    rw [show r + (s - r) = s by omega] at e1
    rw [show r + (11 - r) = 11 by omega] at e2
    rw [e2, ← e1]; exact h
def ds (a : Nat → Nat) (t k : Nat) : Nat := lea (fun s => wk a t s k) 99 99
theorem ds_cases {a : Nat → Nat} {t k : Nat} (ht : t < 12) (hk : k < 12) : (ds a t k < 12 ∧ wk a t (ds a t k) k = true ∧ ∀ s, s < ds a t k → wk a t s k = false) ∨ (ds a t k = 99 ∧ ∀ s, wk a t s k = false) := by
  by_cases h : exB 99 (fun s => wk a t s k) = true
  · obtain ⟨h1, h2, h3⟩ := lea_some (d := 99) h
    have h5 : wk a t 11 k = true := wk_11 ht hk h2
    have h4 : lea (fun s => wk a t s k) 99 99 ≤ 11 := lea_le (s := 11) (by omega) h5
    exact Or.inl ⟨Nat.lt_of_le_of_lt h4 (by omega), h2, h3⟩
  · refine Or.inr ⟨lea_none h, fun s => ?_⟩
    cases e : wk a t s k
    · rfl
    · have h5 : wk a t 11 k = true := wk_11 ht hk e
      have h6 : exB 99 (fun s => wk a t s k) = true := exB_iff.mpr ⟨11, by omega, h5⟩
      exact absurd h6 h
theorem ds_le {a : Nat → Nat} {t k s : Nat} (ht : t < 12) (hk : k < 12) (h : wk a t s k = true) : ds a t k ≤ s := by
  rcases ds_cases (a := a) ht hk with ⟨h1, h2, h3⟩ | ⟨h1, h2⟩
  · rcases Nat.lt_or_ge s (ds a t k) with q | q
    · rw [h3 s q] at h; cases h
    · exact q
  · rw [h2 s] at h; cases h
theorem ds_wk {a : Nat → Nat} {t k : Nat} (ht : t < 12) (hk : k < 12) (h : ds a t k ≠ 99) : wk a t (ds a t k) k = true := by
  rcases ds_cases (a := a) ht hk with ⟨h1, h2, h3⟩ | ⟨h1, h2⟩
  · exact h2
  · exact absurd h1 h
theorem ds_99 {a : Nat → Nat} {t k s : Nat} (ht : t < 12) (hk : k < 12) (h : ds a t k = 99) : wk a t s k = false := by
  rcases ds_cases (a := a) ht hk with ⟨h1, h2, h3⟩ | ⟨h1, h2⟩
  · omega
  · exact h2 s
theorem ds_le99 {a : Nat → Nat} {t k : Nat} (ht : t < 12) (hk : k < 12) : ds a t k < 12 ∨ ds a t k = 99 := by
  rcases ds_cases (a := a) ht hk with ⟨h1, -⟩ | ⟨h1, -⟩
  · exact Or.inl h1
  · exact Or.inr h1
theorem ds_self {a : Nat → Nat} {t : Nat} (ht : t < 12) : ds a t t = 0 := Nat.le_zero.mp (ds_le ht ht (by simp [wk]))
theorem ds_0 {a : Nat → Nat} {t k : Nat} (ht : t < 12) (hk : k < 12) (h : ds a t k = 0) : k = t := by
  have := ds_wk (a := a) ht hk (by omega)
  rw [h] at this
  simpa [wk] using this
theorem ds_sym {a : Nat → Nat} (hs : ∀ i j, i < 12 → j < 12 → lk a i j = lk a j i) {t k : Nat} (ht : t < 12) (hk : k < 12) : ds a t k = ds a k t := by
  have key : ∀ t k, t < 12 → k < 12 → ds a t k ≠ 99 → ds a k t ≤ ds a t k := fun t k ht hk h => ds_le hk ht (wk_sym hs ht hk (ds_wk ht hk h))
  have a1 := ds_le99 (a := a) ht hk
  have a2 := ds_le99 (a := a) hk ht
  by_cases h : ds a t k = 99
  · by_cases h2 : ds a k t = 99
    · rw [h, h2]
    · have := key k t hk ht h2; omega
  · have := key t k ht hk h
    have := key k t hk ht (by omega)
    omega
theorem ds_step {a : Nat → Nat} {t k j : Nat} (ht : t < 12) (hk : k < 12) (hj : j < 12) (hl : lk a k j = 1) (h : ds a t j ≠ 99) : ds a t k ≤ ds a t j + 1 := ds_le ht hk (wk_succ.mpr (Or.inr ⟨j, hj, hl, ds_wk ht hj h⟩))
theorem ds_near {a : Nat → Nat} {t k : Nat} (ht : t < 12) (hk : k < 12) (h : ds a t k ≠ 99) (h0 : ds a t k ≠ 0) : ∃ j, j < 12 ∧ lk a k j = 1 ∧ ds a t j + 1 = ds a t k := by
  have h1 := ds_wk (a := a) ht hk h
  obtain ⟨s, hs⟩ : ∃ s, ds a t k = s + 1 := ⟨ds a t k - 1, by omega⟩
  rw [hs] at h1
  rcases wk_succ.mp h1 with q | ⟨j, hj, hl, q⟩
  · have := ds_le ht hk q; omega
  · have h2 := ds_le ht hj q
    have h3 : ds a t j ≠ 99 := by
      have := ds_le99 (a := a) ht hk
      omega
    have h4 := ds_step ht hk hj hl h3
    exact ⟨j, hj, hl, by omega⟩
theorem sumF_le {n : Nat} {f g : Nat → Nat} (h : ∀ k, k < n → f k ≤ g k) : sumF n f ≤ sumF n g := by
  induction n with
  | zero => exact Nat.le_refl 0
  | succ n ih =>
    have := ih (fun k hk => h k (by omega))
    have := h n (by omega)
    unfold sumF
    omega
theorem sumF_lt {n : Nat} {f g : Nat → Nat} (h : ∀ k, k < n → f k ≤ g k) {i : Nat} (hi : i < n) (hl : f i < g i) : sumF n f < sumF n g := by
  induction n with
  | zero => omega
  | succ n ih =>
    unfold sumF
    have h1 := h n (by omega)
    by_cases e : i = n
    · subst e
      have := sumF_le (n := i) (f := f) (g := g) (fun k hk => h k (by omega))
      omega
    · have := ih (fun k hk => h k (by omega)) (by omega)
      omega
theorem sumF_c {n c : Nat} {f : Nat → Nat} (h : ∀ k, k < n → f k ≤ c) : sumF n f ≤ n * c := by
  induction n with
  | zero => simp [sumF]
  | succ n ih =>
    have := ih (fun k hk => h k (by omega))
    have := h n (by omega)
    unfold sumF
    rw [Nat.succ_mul]
    omega
theorem isLinked_m {F : Nat} {M : Mem} {a : Nat → Nat} {i j : Nat} (h : M 120 = rowI a) (hi : i < 12) (hj : j < 12) (hl : lk a i j ≤ 1) : fX12_isLinked F (nI i) (nI j) M = some (decide (lk a i j = 1), M) := by
  unfold fX12_isLinked
  have e : (38 + 12 * nI i) + nI j = nI (38 + 12 * i + j) := by simp only [lit, nI_add, nI_mul]
  rw [e, inbN (by omega), ckd _ (by omega), nI_cl (by omega), h, rowI_at, lit 1]
  show (if nI (lk a i j) = nI 1 then _ else _) = _
  by_cases q : lk a i j = 1
  · rw [if_pos (by rw [q]), decide_eq_true q]
  · rw [if_neg (fun z => q ((nI_eq (by omega) (by omega)).mp z)), decide_eq_false q]
section
variable {F : Nat} {a : Nat → Nat} {t : Nat}
def snd (a : Nat → Nat) (t : Nat) (f : Nat → Nat) : Prop := ∀ k, k < a 0 → f k ≤ 99 ∧ (f k < 99 → wk a t (f k) k = true)
def farIs (M : Mem) (a : Nat → Nat) (f : Nat → Nat) : Prop := ∀ k, k < a 0 → M 125 k = nI (f k)
theorem dT2 (hW : WF a) (ht : t < a 0) (kx : Mem → Option Mem) : ∀ (m v : Nat), v + m = a 0 → ∀ (n : Nat), m < n → ∀ (M : Mem), M 120 = rowI a → ∃ M', fX12_distancesTo_2 F (nI t) kx n (nI v) M = kx M' ∧ (∀ c, c ≠ 125 → M' c = M c) ∧ (∀ k, k < v → M' 125 k = M 125 k) ∧ ∀ k, v ≤ k → k < a 0 → M' 125 k = nI (if k = t then 0 else 99) := by
  have h0 := hW.n
  intro m
  induction m with
  | zero =>
    intro v hv n hn M hM
    obtain ⟨n', rfl⟩ : ∃ n', n = n' + 1 := ⟨n - 1, by omega⟩
    refine ⟨M, ?_, fun _ _ => rfl, fun _ _ => rfl, fun k h1 h2 => by omega⟩
    rw [fX12_distancesTo_2, hM, rowI_at, if_pos ((nI_leI (by omega) (by omega)).mpr (by omega))]
  | succ m ih =>
    intro v hv n hn M hM
    obtain ⟨n', rfl⟩ : ∃ n', n = n' + 1 := ⟨n - 1, by omega⟩
    have key : ∀ x : Nat, x = (if v = t then 0 else 99) → ∃ M', fX12_distancesTo_2 F (nI t) kx n' (nI (v + 1)) (up2 M 125 v (nI x)) = kx M' ∧ (∀ c, c ≠ 125 → M' c = M c) ∧ (∀ k, k < v → M' 125 k = M 125 k) ∧ ∀ k, v ≤ k → k < a 0 → M' 125 k = nI (if k = t then 0 else 99) := by
      intro x hx
      obtain ⟨M', e1, e2, e3, e4⟩ := ih (v + 1) (by omega) n' (by omega) (up2 M 125 v (nI x)) (by rw [u2_ne M (by decide)]; exact hM)
      refine ⟨M', e1, fun c hc => by rw [e2 c hc, u2_ne M hc], fun k hk => ?_, fun k h1 h2 => ?_⟩
      · rw [e3 k (by omega), u2_same, if_neg (by omega)]
      · by_cases q : k = v
        · subst q
          rw [e3 k (by omega), u2_same, if_pos rfl, hx]
        · exact e4 k (by omega) h2
    rw [fX12_distancesTo_2, hM, rowI_at, if_neg (fun q => by have := (nI_leI (by omega) (by omega)).mp q; omega)]
    simp only [lM]
    rw [inbN (by omega), ckd _ (by omega), ckd _ (by omega), nI_cl (by omega), nI_1]
    by_cases q : v = t
    · rw [if_pos (by rw [q])]
      exact key 0 (by rw [if_pos q])
    · rw [if_neg (fun z => q ((nI_eq (by omega) (by omega)).mp z))]
      exact key 99 (by rw [if_neg q])
theorem dT58 (hW : WF a) (kx : Int32 → Mem → Option Mem) {i : Nat} (hi : i < a 0) : ∀ (m v : Nat), v + m = a 0 → ∀ (n : Nat), m < n → ∀ (M : Mem) (f : Nat → Nat) (fl : Nat), M 120 = rowI a → farIs M a f → snd a t f → fl ≤ 1 → ∃ M' f' fl', fX12_distancesTo_58 F (nI i) kx n (nI fl) (nI v) M = kx (nI fl') M' ∧ (∀ c, c ≠ 125 → M' c = M c) ∧ farIs M' a f' ∧ snd a t f' ∧ fl' ≤ 1 ∧ (∀ k, k < a 0 → f' k ≤ f k) ∧ ((fl' = fl ∧ (∀ k, k < a 0 → f' k = f k) ∧ ∀ b, v ≤ b → b < a 0 → lk a i b = 1 → f i ≤ f b + 1) ∨ (fl' = 1 ∧ f' i < f i)) := by
  have h0 := hW.n
  intro m
  induction m with
  | zero =>
    intro v hv n hn M f fl hM hf hs hfl
    obtain ⟨n', rfl⟩ : ∃ n', n = n' + 1 := ⟨n - 1, by omega⟩
    refine ⟨M, f, fl, ?_, fun _ _ => rfl, hf, hs, hfl, fun _ _ => Nat.le_refl _, Or.inl ⟨rfl, fun _ _ => rfl, fun b h1 h2 => by omega⟩⟩
    rw [fX12_distancesTo_58, hM, rowI_at, if_pos ((nI_leI (by omega) (by omega)).mpr (by omega))]
  | succ m ih =>
    intro v hv n hn M f fl hM hf hs hfl
    obtain ⟨n', rfl⟩ : ∃ n', n = n' + 1 := ⟨n - 1, by omega⟩
    have hfi := hs i hi
    have hfv := hs v (by omega)
    rw [fX12_distancesTo_58, hM, rowI_at, if_neg (fun q => by have := (nI_leI (by omega) (by omega)).mp q; omega), isLinked_m hM (by omega) (by omega) (hW.l1 i v (by omega) (by omega))]
    simp only [bM, lM, decide_eq_true_eq]
    rw [inbN (by omega), inbN (by omega), nI_cl (by omega), nI_cl (by omega), hf v (by omega), hf i hi, nI_1, nI_1]
    rw [ckd _ (by omega), ckd _ (by omega)]
    by_cases q : lk a i v = 1
    · rw [if_pos q]
      by_cases q2 : f v + 1 < f i
      · rw [if_pos ((nI_ltI (by omega) (by omega)).mpr q2), ckd _ (by omega), ckd _ (by omega)]
        have hM2 : (up2 M 125 i (nI (f v + 1))) 120 = rowI a := by rw [u2_ne M (by decide)]; exact hM
        have hf2 : farIs (up2 M 125 i (nI (f v + 1))) a (updN f i (f v + 1)) := by
          intro k hk
          rw [u2_same, updN_at]
          by_cases e : k = i
          · rw [if_pos e, if_pos e]
          · rw [if_neg e, if_neg e]; exact hf k hk
        have hs2 : snd a t (updN f i (f v + 1)) := by
          intro k hk
          rw [updN_at]
          by_cases e : k = i
          · rw [if_pos e]
            refine ⟨by omega, fun _ => ?_⟩
            rw [e]
            exact wk_succ.mpr (Or.inr ⟨v, by omega, q, hfv.2 (by omega)⟩)
          · rw [if_neg e]; exact hs k hk
        obtain ⟨M', f', fl', e1, e2, e3, e4, e5, e6, e7⟩ := ih (v + 1) (by omega) n' (by omega) _ _ 1 hM2 hf2 hs2 (by omega)
        have hfi2 : f' i ≤ f v + 1 := by have := e6 i hi; rw [updN_same] at this; exact this
        refine ⟨M', f', fl', e1, fun c hc => by rw [e2 c hc, u2_ne M hc], e3, e4, e5, fun k hk => ?_, Or.inr ⟨?_, by omega⟩⟩
        · have := e6 k hk
          rw [updN_at] at this
          by_cases e : k = i
          · rw [if_pos e] at this; rw [e] at this ⊢; omega
          · rw [if_neg e] at this; exact this
        · rcases e7 with e7 | e7
          · exact e7.1
          · exact e7.1
      · rw [if_neg (fun z => q2 ((nI_ltI (by omega) (by omega)).mp z))]
        obtain ⟨M', f', fl', e1, e2, e3, e4, e5, e6, e7⟩ := ih (v + 1) (by omega) n' (by omega) M f fl hM hf hs hfl
        refine ⟨M', f', fl', e1, e2, e3, e4, e5, e6, ?_⟩
        rcases e7 with ⟨g1, g2, g3⟩ | e7
        · refine Or.inl ⟨g1, g2, fun b h1 h2 h3 => ?_⟩
          by_cases e : b = v
          · subst e; omega
          · exact g3 b (by omega) h2 h3
        · exact Or.inr e7
    · rw [if_neg q]
      obtain ⟨M', f', fl', e1, e2, e3, e4, e5, e6, e7⟩ := ih (v + 1) (by omega) n' (by omega) M f fl hM hf hs hfl
      refine ⟨M', f', fl', e1, e2, e3, e4, e5, e6, ?_⟩
      rcases e7 with ⟨g1, g2, g3⟩ | e7
      · refine Or.inl ⟨g1, g2, fun b h1 h2 h3 => ?_⟩
        by_cases e : b = v
        · subst e; exact absurd h3 q
        · exact g3 b (by omega) h2 h3
      · exact Or.inr e7
end
section
variable {F : Nat} {a : Nat → Nat} {t : Nat}
theorem dT45 (hW : WF a) (hF : 13 ≤ F) (kx : Int32 → Mem → Option Mem) : ∀ (m v : Nat), v + m = a 0 → ∀ (n : Nat), m < n → ∀ (M : Mem) (f : Nat → Nat) (fl : Nat), M 120 = rowI a → farIs M a f → snd a t f → fl ≤ 1 → ∃ M' f' fl', fX12_distancesTo_45 F kx n (nI fl) (nI v) M = kx (nI fl') M' ∧ (∀ c, c ≠ 125 → M' c = M c) ∧ farIs M' a f' ∧ snd a t f' ∧ fl' ≤ 1 ∧ (∀ k, k < a 0 → f' k ≤ f k) ∧ ((fl' = fl ∧ (∀ k, k < a 0 → f' k = f k) ∧ ∀ i, v ≤ i → i < a 0 → ∀ b, b < a 0 → lk a i b = 1 → f i ≤ f b + 1) ∨ (fl' = 1 ∧ ∃ i, i < a 0 ∧ f' i < f i)) := by
  have h0 := hW.n
  intro m
  induction m with
  | zero =>
    intro v hv n hn M f fl hM hf hs hfl
    obtain ⟨n', rfl⟩ : ∃ n', n = n' + 1 := ⟨n - 1, by omega⟩
    refine ⟨M, f, fl, ?_, fun _ _ => rfl, hf, hs, hfl, fun _ _ => Nat.le_refl _, Or.inl ⟨rfl, fun _ _ => rfl, fun b h1 h2 => by omega⟩⟩
    rw [fX12_distancesTo_45, hM, rowI_at, if_pos ((nI_leI (by omega) (by omega)).mpr (by omega))]
  | succ m ih =>
    intro v hv n hn M f fl hM hf hs hfl
    obtain ⟨n', rfl⟩ : ∃ n', n = n' + 1 := ⟨n - 1, by omega⟩
    rw [fX12_distancesTo_45, hM, rowI_at, if_neg (fun q => by have := (nI_leI (by omega) (by omega)).mp q; omega)]
    obtain ⟨M1, f1, fl1, e1, e2, e3, e4, e5, e6, e7⟩ := dT58 (F := F) (t := t) hW (fun w38 M37 => letM (nI v + 1) (fun x39 => fX12_distancesTo_45 F kx n' w38 x39 M37)) (i := v) (by omega) (a 0) 0 (by omega) F (by omega) M f fl hM hf hs hfl
    obtain ⟨M', f', fl', g1, g2, g3, g4, g5, g6, g7⟩ := ih (v + 1) (by omega) n' (by omega) M1 f1 fl1 (by rw [e2 120 (by decide)]; exact hM) e3 e4 e5
    refine ⟨M', f', fl', ?_, fun c hc => (g2 c hc).trans (e2 c hc), g3, g4, g5, fun k hk => Nat.le_trans (g6 k hk) (e6 k hk), ?_⟩
    · rw [show (0 : Int32) = nI 0 from rfl, e1, lM, nI_1, g1]
    · rcases e7 with ⟨p1, p2, p3⟩ | ⟨p1, p2⟩
      · rcases g7 with ⟨q1, q2, q3⟩ | ⟨q1, i, q2, q3⟩
        · refine Or.inl ⟨q1.trans p1, fun k hk => (q2 k hk).trans (p2 k hk), fun i h1 h2 b hb hl => ?_⟩
          by_cases e : i = v
          · subst e; exact p3 b (Nat.zero_le b) hb hl
          · have := q3 i (by omega) h2 b hb hl
            rw [p2 i h2, p2 b hb] at this
            exact this
        · exact Or.inr ⟨q1, i, q2, by rw [← p2 i q2]; exact q3⟩
      · refine Or.inr ⟨?_, v, by omega, Nat.lt_of_le_of_lt (g6 v (by omega)) p2⟩
        rcases g7 with ⟨q1, -, -⟩ | ⟨q1, -⟩
        · rw [q1, p1]
        · exact q1
theorem dT37 (hW : WF a) (hF : 13 ≤ F) (ht : t < a 0) (kx : Mem → Option Mem) : ∀ (s : Nat) (n : Nat), s + 2 ≤ n → ∀ (M : Mem) (f : Nat → Nat), sumF (a 0) f ≤ s → M 120 = rowI a → farIs M a f → snd a t f → f t = 0 → ∃ M' f', fX12_distancesTo_37 F kx n (nI 1) M = kx M' ∧ (∀ c, c ≠ 125 → M' c = M c) ∧ farIs M' a f' ∧ snd a t f' ∧ f' t = 0 ∧ ∀ i, i < a 0 → ∀ b, b < a 0 → lk a i b = 1 → f' i ≤ f' b + 1 := by
  have h0 := hW.n
  have fin : ∀ (n : Nat), 1 ≤ n → ∀ M, fX12_distancesTo_37 F kx n (nI 0) M = kx M := by
    intro n hn M
    obtain ⟨n', rfl⟩ : ∃ n', n = n' + 1 := ⟨n - 1, by omega⟩
    rw [fX12_distancesTo_37]
    exact if_pos rfl
  intro s
  induction s with
  | zero =>
    intro n hn M f hsum hM hf hs hft
    obtain ⟨n', rfl⟩ : ∃ n', n = n' + 1 := ⟨n - 1, by omega⟩
    rw [fX12_distancesTo_37, if_neg (by decide)]
    obtain ⟨M1, f1, fl1, e1, e2, e3, e4, e5, e6, e7⟩ := dT45 (F := F) (t := t) hW hF (fun w42 M41 => fX12_distancesTo_37 F kx n' w42 M41) (a 0) 0 (by omega) F (by omega) M f 0 hM hf hs (by omega)
    rcases e7 with ⟨p1, p2, p3⟩ | ⟨p1, i, p2, p3⟩
    · refine ⟨M1, f1, ?_, e2, e3, e4, by rw [p2 t ht]; exact hft, fun i hi b hb hl => by rw [p2 i hi, p2 b hb]; exact p3 i (Nat.zero_le i) hi b hb hl⟩
      rw [show (0 : Int32) = nI 0 from rfl, e1, p1, fin n' (by omega)]
    · have := sumF_lt e6 p2 p3
      omega
  | succ s ih =>
    intro n hn M f hsum hM hf hs hft
    obtain ⟨n', rfl⟩ : ∃ n', n = n' + 1 := ⟨n - 1, by omega⟩
    rw [fX12_distancesTo_37, if_neg (by decide)]
    obtain ⟨M1, f1, fl1, e1, e2, e3, e4, e5, e6, e7⟩ := dT45 (F := F) (t := t) hW hF (fun w42 M41 => fX12_distancesTo_37 F kx n' w42 M41) (a 0) 0 (by omega) F (by omega) M f 0 hM hf hs (by omega)
    rcases e7 with ⟨p1, p2, p3⟩ | ⟨p1, i, p2, p3⟩
    · refine ⟨M1, f1, ?_, e2, e3, e4, by rw [p2 t ht]; exact hft, fun i hi b hb hl => by rw [p2 i hi, p2 b hb]; exact p3 i (Nat.zero_le i) hi b hb hl⟩
      rw [show (0 : Int32) = nI 0 from rfl, e1, p1, fin n' (by omega)]
    · have := sumF_lt e6 p2 p3
      have h5 := e6 t ht
      obtain ⟨M', f', g1, g2, g3⟩ := ih n' (by omega) M1 f1 (by omega) (by rw [e2 120 (by decide)]; exact hM) e3 e4 (by omega)
      refine ⟨M', f', ?_, fun c hc => (g2 c hc).trans (e2 c hc), g3⟩
      rw [show (0 : Int32) = nI 0 from rfl, e1, p1, g1]
theorem far_fix (hW : WF a) (ht : t < a 0) {f : Nat → Nat} (hs : snd a t f) (hft : f t = 0) (hfix : ∀ i, i < a 0 → ∀ b, b < a 0 → lk a i b = 1 → f i ≤ f b + 1) {k : Nat} (hk : k < a 0) : f k = ds a t k := by
  have h0 := hW.n
  have up : ∀ s k, k < a 0 → wk a t s k = true → f k ≤ s := by
    intro s
    induction s with
    | zero =>
      intro k hk h
      have e : k = t := by simpa [wk] using h
      subst e; omega
    | succ s ih =>
      intro k hk h
      rcases wk_succ.mp h with q | ⟨j, hj, hl, q⟩
      · have := ih k hk q; omega
      · have hj2 : j < a 0 := (hW.ln j k hj (by omega) (by rw [hW.ls j k hj (by omega)]; exact hl)).1
        have := hfix k hk j hj2 hl
        have := ih j hj2 q
        omega
  obtain ⟨h1, h2⟩ := hs k hk
  have d1 := ds_le99 (a := a) (t := t) (k := k) (by omega) (by omega)
  by_cases hd : ds a t k = 99
  · by_cases hf : f k < 99
    · have := ds_99 (s := f k) (by omega) (by omega) hd
      rw [h2 hf] at this; cases this
    · omega
  · have := up _ k hk (ds_wk (by omega) (by omega) hd)
    have := ds_le (by omega) (by omega) (h2 (by omega))
    omega
theorem dTo (hW : WF a) (hF : 1500 ≤ F) (ht : t < a 0) {M : Mem} (hM : M 120 = rowI a) : ∃ M', fX12_distancesTo F (nI t) M = some M' ∧ (∀ c, c ≠ 125 → M' c = M c) ∧ ∀ k, k < a 0 → M' 125 k = nI (ds a t k) := by
  have h0 := hW.n
  obtain ⟨M1, e1, e2, -, e4⟩ := dT2 (F := F) hW ht (fun M14 => fX12_distancesTo_37 F (fun M43 => some M43) F 1 M14) (a 0) 0 (by omega) F (by omega) M hM
  have hf : farIs M1 a (fun k => if k = t then 0 else 99) := fun k hk => e4 k (Nat.zero_le k) hk
  have hs : snd a t (fun k => if k = t then 0 else 99) := by
    intro k hk
    by_cases q : k = t
    · simp [q, wk]
    · simp [q]
  have hsum : sumF (a 0) (fun k => if k = t then 0 else 99) ≤ 1188 := by
    have h1 : sumF (a 0) (fun k => if k = t then 0 else 99) ≤ a 0 * 99 := sumF_c (fun k _ => by show (if k = t then 0 else 99) ≤ 99; split <;> omega)
    omega
  obtain ⟨M', f', g1, g2, g3, g4, g5, g6⟩ := dT37 (F := F) (t := t) hW (by omega) ht (fun M43 => some M43) 1188 F (by omega) M1 _ hsum (by rw [e2 120 (by decide)]; exact hM) hf hs (by simp)
  refine ⟨M', ?_, fun c hc => (g2 c hc).trans (e2 c hc), fun k hk => ?_⟩
  · unfold fX12_distancesTo
    rw [show (0 : Int32) = nI 0 from rfl, e1, show (1 : Int32) = nI 1 from rfl, g1]
  · rw [g3 k hk, far_fix hW ht g4 g5 g6 hk]
end
def NB (M : Mem) (c : Nat) (a : Nat → Nat) : Prop := ∀ k j, k < 12 → j < 32 → bitb (M (c + 2) k) j = decide (j < 12 ∧ lk a k j = 1)
def SYM (a : Nat → Nat) : Prop := ∀ i j, i < 12 → j < 12 → lk a i j = lk a j i
section
variable {F c : Nat} {a : Nat → Nat} {M : Mem}
theorem nbAll_loop (hN : NB M c a) (x : Int32) (kx : Int32 → Mem → Option (Int32 × Mem)) : ∀ (m v : Nat), v + m = 12 → ∀ (n : Nat), m < n → ∀ (y : Int32), ∃ r, fX9_neighboursOfAll_4 F c x kx n y (nI v) M = kx r M ∧ ∀ j, j < 32 → (bitb r j = true ↔ bitb y j = true ∨ ∃ k, v ≤ k ∧ k < 12 ∧ bitb x k = true ∧ j < 12 ∧ lk a k j = 1) := by
  intro m
  induction m with
  | zero =>
    intro v hv n hn y
    obtain ⟨n', rfl⟩ : ∃ n', n = n' + 1 := ⟨n - 1, by omega⟩
    refine ⟨y, ?_, fun j hj => ⟨Or.inl, fun h => h.elim id (fun ⟨k, h1, h2, _⟩ => by omega)⟩⟩
    rw [fX9_neighboursOfAll_4, lit 12, if_pos ((nI_leI (by omega) (by omega)).mpr (by omega))]
  | succ m ih =>
    intro v hv n hn y
    obtain ⟨n', rfl⟩ : ∃ n', n = n' + 1 := ⟨n - 1, by omega⟩
    rw [fX9_neighboursOfAll_4, lit 12, if_neg (fun q => by have := (nI_leI (by omega) (by omega)).mp q; omega), bit_holdsF (by omega)]
    simp only [bM, lM]
    rw [inbN (by omega), ckd _ (by omega), nI_cl (by omega), nI_1]
    cases hx : bitb x v
    · rw [if_neg (by decide)]
      obtain ⟨r, e1, e2⟩ := ih (v + 1) (by omega) n' (by omega) y
      refine ⟨r, e1, fun j hj => ?_⟩
      rw [e2 j hj]
      refine or_congr Iff.rfl ⟨fun ⟨k, h1, h2⟩ => ⟨k, by omega, h2⟩, fun ⟨k, h1, h2, h3, h4⟩ => ?_⟩
      by_cases e : k = v
      · subst e; rw [hx] at h3; cases h3
      · exact ⟨k, by omega, h2, h3, h4⟩
    · rw [if_pos rfl]
      obtain ⟨r, e1, e2⟩ := ih (v + 1) (by omega) n' (by omega) (y ||| M (c + 2) v)
      refine ⟨r, e1, fun j hj => ?_⟩
      rw [e2 j hj, bit_or, hN v j (by omega) hj, Bool.or_eq_true, decide_eq_true_eq]
      constructor
      · rintro ((h | h) | ⟨k, h1, h2⟩)
        · exact Or.inl h
        · exact Or.inr ⟨v, Nat.le_refl v, by omega, hx, h⟩
        · exact Or.inr ⟨k, by omega, h2⟩
      · rintro (h | ⟨k, h1, h2, h3, h4⟩)
        · exact Or.inl (Or.inl h)
        · by_cases e : k = v
          · subst e; exact Or.inl (Or.inr h4)
          · exact Or.inr ⟨k, by omega, h2, h3, h4⟩
theorem nbAll (hF : 13 ≤ F) (hN : NB M c a) (x : Int32) : ∃ r, fX9_neighboursOfAll F c x M = some (r, M) ∧ ∀ j, j < 32 → (bitb r j = true ↔ ∃ k, k < 12 ∧ bitb x k = true ∧ j < 12 ∧ lk a k j = 1) := by
  obtain ⟨r, e1, e2⟩ := nbAll_loop (F := F) hN x (fun w14 M13 => some (w14, M13)) 12 0 rfl F (by omega) 0
  refine ⟨r, e1, fun j hj => ?_⟩
  rw [e2 j hj, bit_zero]
  exact ⟨fun h => h.elim (fun z => by cases z) (fun ⟨k, _, h⟩ => ⟨k, h⟩), fun ⟨k, h⟩ => Or.inr ⟨k, Nat.zero_le k, h⟩⟩
def Lay (a : Nat → Nat) (t s : Nat) (x y : Int32) : Prop := ∀ j, j < 32 → (bitb x j = true ↔ j < 12 ∧ ds a t j = s) ∧ (bitb y j = true ↔ j < 12 ∧ ds a t j ≤ s)
theorem lay_0 {t : Nat} (ht : t < 12) : Lay a t 0 (1 <<< (nI t &&& 31)) (1 <<< (nI t &&& 31)) := by
  intro j hj
  rw [bit_one (by omega) hj, decide_eq_true_eq]
  have h1 : j = t ↔ j < 12 ∧ ds a t j = 0 := by
    constructor
    · intro e; subst e; exact ⟨ht, ds_self ht⟩
    · rintro ⟨e1, e2⟩; exact ds_0 ht e1 e2
  refine ⟨h1, h1.trans ?_⟩
  rw [Nat.le_zero]
theorem lay_next (hS : SYM a) {t s : Nat} (ht : t < 12) (hs : s + 1 < 99) {x y r : Int32} (h : Lay a t s x y) (hr : ∀ j, j < 32 → (bitb r j = true ↔ ∃ k, k < 12 ∧ bitb x k = true ∧ j < 12 ∧ lk a k j = 1)) : Lay a t (s + 1) (r &&& (y ^^^ (-1))) (y ||| (r &&& (y ^^^ (-1)))) := by
  have h1 : ∀ j, j < 32 → (bitb (r &&& (y ^^^ (-1))) j = true ↔ j < 12 ∧ ds a t j = s + 1) := by
    intro j hj
    rw [bit_and, bit_not y hj, Bool.and_eq_true, Bool.not_eq_true', hr j hj]
    constructor
    · rintro ⟨⟨k, k1, k2, k3, k4⟩, h2⟩
      obtain ⟨k5, k6⟩ := (h k (by omega)).1.mp k2
      have h3 : ds a t j ≤ s + 1 := by
        have := ds_step ht k3 k1 (by rw [hS j k k3 k1]; exact k4) (by omega)
        omega
      have h4 : ¬ ds a t j ≤ s := fun q => by rw [((h j hj).2.mpr ⟨k3, q⟩)] at h2; cases h2
      exact ⟨k3, by omega⟩
    · rintro ⟨j1, j2⟩
      obtain ⟨k, k1, k2, k3⟩ := ds_near (a := a) ht j1 (by omega) (by omega)
      refine ⟨⟨k, k1, (h k (by omega)).1.mpr ⟨k1, by omega⟩, j1, by rw [hS k j k1 j1]; exact k2⟩, ?_⟩
      cases e : bitb y j
      · rfl
      · have := ((h j hj).2.mp e).2; omega
  intro j hj
  refine ⟨h1 j hj, ?_⟩
  rw [bit_or, Bool.or_eq_true, h1 j hj, (h j hj).2]
  omega
theorem bit_any {x : Int32} (hx : ∀ j, j < 32 → bitb x j = true → j < 12) : x = 0 ↔ ∀ j, j < 12 → bitb x j = false := by
  rw [bit_is0]
  constructor
  · exact fun h j hj => h j (by omega)
  · intro h j hj
    cases e : bitb x j
    · rfl
    · rw [h j (hx j hj e)] at e; cases e
theorem cSteps_loop (hS : SYM a) (hF : 13 ≤ F) (hN : NB M c a) {p q : Nat} (hp : p < 12) (hq : q < 12) (kx : Mem → Option (Int32 × Mem)) : ∀ (m s : Nat), s + m = 12 → ∀ (n : Nat), m < n → ∀ (x y : Int32), Lay a p s x y → s ≤ ds a p q → fX9_stepsBetween_11 F c (nI q) kx n x y (nI s) M = if ds a p q = 99 then kx M else some (nI (ds a p q), M) := by
  have hd := ds_le99 (a := a) hp hq
  intro m
  induction m with
  | zero =>
    intro s hs n hn x y hl hle
    obtain ⟨n', rfl⟩ : ∃ n', n = n' + 1 := ⟨n - 1, by omega⟩
    rw [fX9_stepsBetween_11, lit 12, if_pos ((nI_leI (by omega) (by omega)).mpr (by omega)), if_pos (by omega)]
  | succ m ih =>
    intro s hs n hn x y hl hle
    obtain ⟨n', rfl⟩ : ∃ n', n = n' + 1 := ⟨n - 1, by omega⟩
    rw [fX9_stepsBetween_11, lit 12, if_neg (fun q => by have := (nI_leI (by omega) (by omega)).mp q; omega), bit_holdsF (by omega)]
    simp only [bM]
    by_cases e : ds a p q = s
    · rw [if_pos ((hl q (by omega)).1.mpr ⟨hq, e⟩), if_neg (by omega), e]
    · rw [if_neg (fun z => e ((hl q (by omega)).1.mp z).2)]
      obtain ⟨r, e1, e2⟩ := nbAll hF hN x
      rw [e1]
      simp only [bM, lM]
      rw [nI_1]
      exact ih (s + 1) (by omega) n' (by omega) _ _ (lay_next hS hp (by omega) hl e2) (by omega)
theorem cSteps (hS : SYM a) (hF : 13 ≤ F) (hN : NB M c a) {p q : Nat} (hp : p < 12) (hq : q < 12) : fX9_stepsBetween F c (nI p) (nI q) M = some (if ds a p q = 99 then -1 else nI (ds a p q), M) := by
  unfold fX9_stepsBetween fX11_bit
  simp only [bM]
  rw [show (0 : Int32) = nI 0 from rfl, cSteps_loop hS hF hN hp hq _ 12 0 rfl F (by omega) _ _ (lay_0 hp) (Nat.zero_le _)]
  by_cases e : ds a p q = 99
  · rw [if_pos e, if_pos e]
  · rw [if_neg e, if_neg e]
theorem smallest_loop (x : Int32) (o : Int32) (kx : Mem → Option (Int32 × Mem)) : ∀ (m v : Nat), v + m = 12 → ∀ (n : Nat), m < n → (∀ k, k < v → bitb x k = false) → (∃ k, k < 12 ∧ bitb x k = true) → fX9_smallestIn_2 F c x o kx n (nI v) M = some (nI (lea (bitb x) 99 12), M) := by
  intro m
  induction m with
  | zero =>
    rintro v hv n hn hb ⟨k, h1, h2⟩
    rw [hb k (by omega)] at h2; cases h2
  | succ m ih =>
    intro v hv n hn hb he
    obtain ⟨n', rfl⟩ : ∃ n', n = n' + 1 := ⟨n - 1, by omega⟩
    rw [fX9_smallestIn_2, lit 12, if_neg (fun q => by have := (nI_leI (by omega) (by omega)).mp q; omega), bit_holdsF (by omega)]
    simp only [bM, lM]
    cases hx : bitb x v
    · rw [if_neg (by decide), nI_1]
      refine ih (v + 1) (by omega) n' (by omega) (fun k hk => ?_) he
      by_cases e : k = v
      · subst e; exact hx
      · exact hb k (by omega)
    · rw [if_pos rfl, lea_is (by omega) hx hb]
theorem smallest (hF : 13 ≤ F) {x o : Int32} (he : ∃ k, k < 12 ∧ bitb x k = true) : fX9_smallestIn F c x o M = some (nI (lea (bitb x) 99 12), M) := smallest_loop x o _ 12 0 rfl F (by omega) (fun k hk => by omega) he
def nxt (a : Nat → Nat) (t p : Nat) : Nat := lea (fun k => decide (lk a p k = 1 ∧ ds a t k + 1 = ds a t p)) 99 12
theorem lea_congr {p q : Nat → Bool} {d n : Nat} (h : ∀ i, i < n → p i = q i) : lea p d n = lea q d n := by
  induction n with
  | zero => rfl
  | succ n ih => unfold lea; rw [ih (fun i hi => h i (by omega)), h n (by omega), exB_congr (fun i hi => h i (by omega))]
theorem cTowards_loop (hS : SYM a) (hF : 13 ≤ F) (hN : NB M c a) {p t : Nat} (hp : p < 12) (ht : t < 12) (hne : ds a t p ≠ 0) (kx : Mem → Option (Int32 × Mem)) : ∀ (m s : Nat), s + m = 12 → ∀ (n : Nat), m < n → ∀ (x y : Int32), Lay a t s x y → s < ds a t p → fX9_shelfTowards_29 F c (nI p) (M (c + 2) p) kx n x y (nI s) M = if ds a t p = 99 then kx M else some (nI (nxt a t p), M) := by
  have hd := ds_le99 (a := a) ht hp
  intro m
  induction m with
  | zero =>
    intro s hs n hn x y hl hle
    obtain ⟨n', rfl⟩ : ∃ n', n = n' + 1 := ⟨n - 1, by omega⟩
    rw [fX9_shelfTowards_29, lit 12, if_pos ((nI_leI (by omega) (by omega)).mpr (by omega)), if_pos (by omega)]
  | succ m ih =>
    intro s hs n hn x y hl hle
    obtain ⟨n', rfl⟩ : ∃ n', n = n' + 1 := ⟨n - 1, by omega⟩
    have hbit : ∀ j, j < 32 → (bitb (x &&& M (c + 2) p) j = true ↔ j < 12 ∧ ds a t j = s ∧ lk a p j = 1) := by
      intro j hj
      rw [bit_and, Bool.and_eq_true, (hl j hj).1, hN p j hp hj, decide_eq_true_eq]
      exact ⟨fun h => ⟨h.1.1, h.1.2, h.2.2⟩, fun h => ⟨⟨h.1, h.2.1⟩, h.1, h.2.2⟩⟩
    rw [fX9_shelfTowards_29, lit 12, if_neg (fun q => by have := (nI_leI (by omega) (by omega)).mp q; omega)]
    by_cases e : ds a t p = s + 1
    · obtain ⟨k, k1, k2, k3⟩ := ds_near ht hp (by omega) hne
      have hk : ∃ k, k < 12 ∧ bitb (x &&& M (c + 2) p) k = true := ⟨k, k1, (hbit k (by omega)).mpr ⟨k1, by omega, k2⟩⟩
      rw [if_neg (fun z => by
        obtain ⟨k, k1, k2⟩ := hk
        rw [bit_is0.mp z k (by omega)] at k2; cases k2), smallest hF hk, bM, if_neg (by omega)]
      have e2 : lea (bitb (x &&& M (c + 2) p)) 99 12 = nxt a t p := by
        unfold nxt
        refine lea_congr (fun i hi => ?_)
        have h1 := hbit i (by omega)
        cases e3 : bitb (x &&& M (c + 2) p) i
        · refine (decide_eq_false (fun z => ?_)).symm
          rw [h1.mpr ⟨hi, by omega, z.1⟩] at e3; cases e3
        · obtain ⟨g1, g2, g3⟩ := h1.mp e3
          exact (decide_eq_true ⟨g3, by omega⟩).symm
      rw [e2]
    · rw [if_pos (bit_is0.mpr (fun j hj => by
        cases e3 : bitb (x &&& M (c + 2) p) j
        · rfl
        · obtain ⟨g1, g2, g3⟩ := (hbit j hj).mp e3
          have := ds_step ht hp g1 g3 (by omega)
          omega))]
      obtain ⟨r, e1, e2⟩ := nbAll hF hN x
      rw [e1]
      simp only [bM, lM]
      rw [nI_1]
      exact ih (s + 1) (by omega) n' (by omega) _ _ (lay_next hS ht (by omega) hl e2) (by omega)
theorem cTowards (hS : SYM a) (hF : 13 ≤ F) (hc : lay c = 2) (hN : NB M c a) {p t : Nat} (hp : p < 12) (ht : t < 12) : fX9_shelfTowards F c (nI p) (nI t) M = some (nI (if ds a t p = 0 ∨ ds a t p = 99 then p else nxt a t p), M) := by
  unfold fX9_shelfTowards fX11_bit
  by_cases e : ds a t p = 0
  · have e2 := ds_0 ht hp e
    rw [if_pos (by rw [e2]), if_pos (Or.inl e)]
  · rw [if_neg (fun z => e (by
      have := (nI_eq (by omega) (by omega)).mp z
      rw [this]; exact ds_self ht)), at_in (al_20 (ly2_2 hc)) (by decide) hp]
    simp only [bM]
    rw [show (0 : Int32) = nI 0 from rfl, cTowards_loop hS hF hN hp ht e _ 12 0 rfl F (by omega) _ _ (lay_0 ht) (by omega)]
    by_cases e2 : ds a t p = 99
    · rw [if_pos e2, if_pos (Or.inr e2)]
    · rw [if_neg e2, if_neg (by omega)]
end
def isF (a : Nat → Nat) (v : Nat) : Bool := !exB v (fun b => decide (ds a b v ≠ 99))
section
variable {F c : Nat} {a : Nat → Nat} {M : Mem}
theorem wk_add {t v s s' k : Nat} (h1 : wk a t s v = true) (h2 : wk a v s' k = true) : wk a t (s + s') k = true := by
  induction s' generalizing k with
  | zero =>
    have e : k = v := by simpa [wk] using h2
    subst e; exact h1
  | succ n ih =>
    rcases wk_succ.mp h2 with q | ⟨j, hj, hl, q⟩
    · exact wk_le (by omega) (ih q)
    · exact wk_succ.mpr (Or.inr ⟨j, hj, hl, ih q⟩)
theorem ds_tr {t v k : Nat} (ht : t < 12) (hv : v < 12) (hk : k < 12) (h1 : ds a t v ≠ 99) (h2 : ds a v k ≠ 99) : ds a t k ≠ 99 := by
  intro h
  have := wk_add (ds_wk ht hv h1) (ds_wk hv hk h2)
  rw [ds_99 ht hk h] at this
  cases this
theorem wk_12 {t k : Nat} (ht : t < 12) (hk : k < 12) : wk a t 12 k = true ↔ ds a t k ≠ 99 := by
  constructor
  · intro h
    have := ds_le ht hk h
    omega
  · intro h
    have h1 := ds_le99 (a := a) ht hk
    exact wk_le (by omega) (ds_wk ht hk h)
theorem group_loop (hS : SYM a) (hF : 13 ≤ F) (hN : NB M c a) {t : Nat} (kx : Int32 → Mem → Option (Int32 × Mem)) : ∀ (m s : Nat), s + m = 12 → ∀ (n : Nat), m < n → ∀ (y : Int32), (∀ j, j < 32 → (bitb y j = true ↔ j < 12 ∧ wk a t s j = true)) → ∃ r, fX9_groupOf_7 F c kx n y (nI s) M = kx r M ∧ ∀ j, j < 32 → (bitb r j = true ↔ j < 12 ∧ wk a t 12 j = true) := by
  intro m
  induction m with
  | zero =>
    intro s hs n hn y hy
    obtain ⟨n', rfl⟩ : ∃ n', n = n' + 1 := ⟨n - 1, by omega⟩
    have e : s = 12 := by omega
    subst e
    refine ⟨y, ?_, hy⟩
    rw [fX9_groupOf_7, lit 12, if_pos ((nI_leI (by omega) (by omega)).mpr (by omega))]
  | succ m ih =>
    intro s hs n hn y hy
    obtain ⟨n', rfl⟩ : ∃ n', n = n' + 1 := ⟨n - 1, by omega⟩
    obtain ⟨r, e1, e2⟩ := nbAll hF hN y
    rw [fX9_groupOf_7, lit 12, if_neg (fun q => by have := (nI_leI (by omega) (by omega)).mp q; omega), e1]
    simp only [bM, lM]
    rw [nI_1]
    refine ih (s + 1) (by omega) n' (by omega) _ (fun j hj => ?_)
    rw [bit_or, Bool.or_eq_true, hy j hj, e2 j hj, wk_succ]
    constructor
    · rintro (⟨h1, h2⟩ | ⟨k, h1, h2, h3, h4⟩)
      · exact ⟨h1, Or.inl h2⟩
      · exact ⟨h3, Or.inr ⟨k, h1, by rw [hS j k h3 h1]; exact h4, ((hy k (by omega)).mp h2).2⟩⟩
    · rintro ⟨h1, h2 | ⟨k, h2, h3, h4⟩⟩
      · exact Or.inl ⟨h1, h2⟩
      · exact Or.inr ⟨k, h2, (hy k (by omega)).mpr ⟨h2, h4⟩, h1, by rw [hS k j h2 h1]; exact h3⟩
theorem group (hS : SYM a) (hF : 13 ≤ F) (hN : NB M c a) {t : Nat} (ht : t < 12) : ∃ r, fX9_groupOf F c (nI t) M = some (r, M) ∧ ∀ j, j < 32 → (bitb r j = true ↔ j < 12 ∧ ds a t j ≠ 99) := by
  obtain ⟨r, e1, e2⟩ := group_loop (t := t) hS hF hN (fun w13 M12 => some (w13, M12)) 12 0 rfl F (by omega) (1 <<< (nI t &&& 31)) (fun j hj => by
    rw [bit_one (by omega) hj, decide_eq_true_eq]
    simp only [wk, decide_eq_true_eq]
    omega)
  refine ⟨r, ?_, fun j hj => ?_⟩
  · unfold fX9_groupOf fX11_bit
    simp only [bM]
    exact e1
  · rw [e2 j hj]
    exact ⟨fun ⟨h1, h2⟩ => ⟨h1, (wk_12 ht h1).mp h2⟩, fun ⟨h1, h2⟩ => ⟨h1, (wk_12 ht h1).mpr h2⟩⟩
theorem groups_loop (hS : SYM a) (hF : 13 ≤ F) (hN : NB M c a) (h0 : a 0 ≤ 12) (hM : M c 3 = nI (a 0)) (kx : Int32 → Mem → Option (Int32 × Mem)) : ∀ (m v : Nat), v + m = a 0 → ∀ (n : Nat), m < n → ∀ (y : Int32), (∀ j, j < 32 → (bitb y j = true ↔ j < 12 ∧ ∃ b, b < v ∧ ds a b j ≠ 99)) → fX9_countGroups_6 F c kx n (nI (cntB v (isF a))) y (nI v) M = kx (nI (cntB (a 0) (isF a))) M := by
  intro m
  induction m with
  | zero =>
    intro v hv n hn y hy
    obtain ⟨n', rfl⟩ : ∃ n', n = n' + 1 := ⟨n - 1, by omega⟩
    have e : v = a 0 := by omega
    subst e
    rw [fX9_countGroups_6, hM, if_pos ((nI_leI (by omega) (by omega)).mpr (by omega))]
  | succ m ih =>
    intro v hv n hn y hy
    obtain ⟨n', rfl⟩ : ∃ n', n = n' + 1 := ⟨n - 1, by omega⟩
    rw [fX9_countGroups_6, hM, if_neg (fun q => by have := (nI_leI (by omega) (by omega)).mp q; omega), bit_holdsF (by omega)]
    simp only [bM, lM]
    have hif : isF a v = !bitb y v := by
      unfold isF
      congr 1
      cases e : bitb y v
      · cases e2 : exB v (fun b => decide (ds a b v ≠ 99))
        · rfl
        · obtain ⟨b, b1, b2⟩ := exB_iff.mp e2
          rw [(hy v (by omega)).mpr ⟨by omega, b, b1, of_decide_eq_true b2⟩] at e; cases e
      · obtain ⟨-, b, b1, b2⟩ := (hy v (by omega)).mp e
        exact exB_iff.mpr ⟨b, b1, decide_eq_true b2⟩
    cases e : bitb y v
    · rw [if_neg (by decide)]
      obtain ⟨r, e1, e2⟩ := group (F := F) hS hF hN (t := v) (by omega)
      rw [e1]
      simp only [bM]
      rw [nI_1, nI_1]
      have hc : cntB v (isF a) + 1 = cntB (v + 1) (isF a) := by
        show _ = cntB v (isF a) + (if isF a v then 1 else 0)
        rw [hif, e]; rfl
      rw [hc]
      refine ih (v + 1) (by omega) n' (by omega) _ (fun j hj => ?_)
      rw [bit_or, Bool.or_eq_true, hy j hj, e2 j hj]
      constructor
      · rintro (⟨h1, b, b1, b2⟩ | ⟨h1, h2⟩)
        · exact ⟨h1, b, by omega, b2⟩
        · exact ⟨h1, v, by omega, h2⟩
      · rintro ⟨h1, b, b1, b2⟩
        by_cases q : b = v
        · subst q; exact Or.inr ⟨h1, b2⟩
        · exact Or.inl ⟨h1, b, by omega, b2⟩
    · rw [if_pos rfl, nI_1]
      have hc : cntB v (isF a) = cntB (v + 1) (isF a) := by
        show _ = cntB v (isF a) + (if isF a v then 1 else 0)
        rw [hif, e]; rfl
      rw [hc]
      refine ih (v + 1) (by omega) n' (by omega) _ (fun j hj => ?_)
      rw [hy j hj]
      constructor
      · rintro ⟨h1, b, b1, b2⟩
        exact ⟨h1, b, by omega, b2⟩
      · rintro ⟨h1, b, b1, b2⟩
        by_cases q : b = v
        · subst q
          obtain ⟨-, b', c1, c2⟩ := (hy b (by omega)).mp e
          exact ⟨h1, b', c1, ds_tr (by omega) (by omega) h1 c2 b2⟩
        · exact ⟨h1, b, by omega, b2⟩
theorem cGroups (hS : SYM a) (hF : 13 ≤ F) (hN : NB M c a) (h0 : a 0 ≤ 12) (hM : M c 3 = nI (a 0)) : fX9_countGroups F c M = some (nI (cntB (a 0) (isF a)), M) := by
  unfold fX9_countGroups
  exact groups_loop hS hF hN h0 hM _ (a 0) 0 (by omega) F (by omega) 0 (fun j hj => by
    rw [bit_zero]
    exact ⟨fun h => (by cases h), fun ⟨_, b, h, _⟩ => (by omega)⟩)
end
