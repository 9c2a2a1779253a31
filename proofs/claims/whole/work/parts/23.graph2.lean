def e0 (a : Nat → Nat) (i j : Nat) : Nat := if i = j then 0 else if lk a i j = 1 then 1 else 1000
def TB (M : Mem) (n : Nat) (e : Nat → Nat → Nat) : Prop := ∀ i j, i < n → j < n → M 114 (i * 12 + j) = nI (e i j)
def SND (a : Nat → Nat) (n : Nat) (e : Nat → Nat → Nat) : Prop := ∀ i j, i < n → j < n → e i j ≤ 1000 ∧ (e i j < 1000 → wk a j (e i j) i = true)
def Qw (a : Nat → Nat) (v : Nat) : Nat → Nat → Nat → Prop
  | 0, i, j => lk a i j = 1
  | s + 1, i, j => ∃ k, k < v ∧ lk a i k = 1 ∧ Qw a v s k j
theorem Qw_split {a : Nat → Nat} {v s i j : Nat} (h : Qw a (v + 1) s i j) : (∃ s', s' ≤ s ∧ Qw a v s' i j) ∨ (∃ s1 s2, s1 + s2 + 1 ≤ s ∧ Qw a v s1 i v ∧ Qw a v s2 v j) := by
  induction s generalizing i with
  | zero => exact Or.inl ⟨0, Nat.le_refl 0, h⟩
  | succ s ih =>
    obtain ⟨k, h1, h2, h3⟩ := h
    rcases ih h3 with ⟨s', q1, q2⟩ | ⟨s1, s2, q1, q2, q3⟩
    · by_cases e : k = v
      · subst e; exact Or.inr ⟨0, s', by omega, h2, q2⟩
      · exact Or.inl ⟨s' + 1, by omega, k, by omega, h2, q2⟩
    · by_cases e : k = v
      · subst e; exact Or.inr ⟨0, s2, by omega, h2, q3⟩
      · exact Or.inr ⟨s1 + 1, s2, by omega, ⟨k, by omega, h2, q2⟩, q3⟩
section
variable {F c : Nat} {a : Nat → Nat}
theorem Qw_of (hW : WF a) {j : Nat} (hj : j < a 0) : ∀ (s i : Nat), i < a 0 → i ≠ j → wk a j s i = true → ∃ s', s' + 1 ≤ s ∧ Qw a (a 0) s' i j := by
  have h0 := hW.n
  intro s
  induction s with
  | zero =>
    intro i hi hij h
    have e : i = j := by simpa [wk] using h
    exact absurd e hij
  | succ s ih =>
    intro i hi hij h
    rcases wk_succ.mp h with q | ⟨k, hk, hl, q⟩
    · obtain ⟨s', h1, h2⟩ := ih i hi hij q
      exact ⟨s', by omega, h2⟩
    · by_cases e : k = j
      · subst e; exact ⟨0, by omega, hl⟩
      · have hk2 : k < a 0 := (hW.ln k i hk (by omega) (by rw [hW.ls k i hk (by omega)]; exact hl)).1
        obtain ⟨s', h1, h2⟩ := ih k hk2 e q
        exact ⟨s' + 1, by omega, k, hk2, hl, h2⟩
theorem place_n (b i j : Nat) (M : Mem) : fX1_place F b (nI i) (nI j) M = some (nI (i * 12 + j), M) := by
  unfold fX1_place
  rw [lit 12, nI_mul, nI_add]
theorem al114 : alen 114 = 144 := rfl
theorem areCon {M : Mem} (hc : lay c = 2) (hN : NB M c a) {i j : Nat} (hi : i < 12) (hj : j < 12) : fX9_areConnected F c (nI i) (nI j) M = some (decide (lk a i j = 1), M) := by
  unfold fX9_areConnected
  rw [at_in (al_20 (ly2_2 hc)) (by decide) hi]
  simp only [bM]
  rw [bit_holdsF (by omega)]
  simp only [bM]
  rw [hN i j hi (by omega)]
  congr 2
  simp [hj]
theorem e0_val (a : Nat → Nat) (i j : Nat) (M : Mem) (k : Mem → Option Mem) (hi : i < 12) (hj : j < 12) : (if decide (lk a i j = 1) = true then (if nI i = nI j then bindV (fX11_put F 114 (nI (i * 12 + j)) 0 M) k else bindV (fX11_put F 114 (nI (i * 12 + j)) 1 M) k) else (if nI i = nI j then bindV (fX11_put F 114 (nI (i * 12 + j)) 0 M) k else bindV (fX11_put F 114 (nI (i * 12 + j)) 1000 M) k)) = k (up2 M 114 (i * 12 + j) (nI (e0 a i j))) := by
  have hp : ∀ v, bindV (fX11_put F 114 (nI (i * 12 + j)) v M) k = k (up2 M 114 (i * 12 + j) v) := fun v => by rw [put_in al114 (by decide) (by omega), bV]
  simp only [hp]
  unfold e0
  by_cases q : i = j
  · have q2 : nI i = nI j := by rw [q]
    rw [if_pos q]
    by_cases q3 : lk a i j = 1
    · rw [decide_eq_true q3, if_pos rfl, if_pos q2]; rfl
    · rw [decide_eq_false q3, if_neg (by decide), if_pos q2]; rfl
  · have q2 : ¬ nI i = nI j := fun z => q ((nI_eq (by omega) (by omega)).mp z)
    rw [if_neg q]
    by_cases q3 : lk a i j = 1
    · rw [if_pos q3, decide_eq_true q3, if_pos rfl, if_neg q2]; rfl
    · rw [if_neg q3, decide_eq_false q3, if_neg (by decide), if_neg q2]; rfl
theorem NB.fr {M M' : Mem} (h : NB M c a) (hc : c + 2 ≠ 114) (hf : ∀ d, d ≠ 114 → M' d = M d) : NB M' c a := fun k j hk hj => by rw [hf _ hc]; exact h k j hk hj
theorem start12 (hc : lay c = 2) (hc2 : c + 2 ≠ 114) (hc3 : c ≠ 114) (h0 : a 0 ≤ 12) {i : Nat} (hi : i < 12) (kx : Mem → Option Mem) : ∀ (m v : Nat), v + m = a 0 → ∀ (n : Nat), m < n → ∀ (M : Mem), NB M c a → M c 3 = nI (a 0) → ∃ M', fX1_start_12 F 113 c (nI i) kx n (nI v) M = kx M' ∧ (∀ d, d ≠ 114 → M' d = M d) ∧ (∀ q, (∀ j, v ≤ j → j < a 0 → q ≠ i * 12 + j) → M' 114 q = M 114 q) ∧ ∀ j, v ≤ j → j < a 0 → M' 114 (i * 12 + j) = nI (e0 a i j) := by
  intro m
  induction m with
  | zero =>
    intro v hv n hn M hN hM
    obtain ⟨n', rfl⟩ : ∃ n', n = n' + 1 := ⟨n - 1, by omega⟩
    refine ⟨M, ?_, fun _ _ => rfl, fun _ _ => rfl, fun j h1 h2 => by omega⟩
    rw [fX1_start_12, hM, if_pos ((nI_leI (by omega) (by omega)).mpr (by omega))]
  | succ m ih =>
    intro v hv n hn M hN hM
    obtain ⟨n', rfl⟩ : ∃ n', n = n' + 1 := ⟨n - 1, by omega⟩
    rw [fX1_start_12, hM, if_neg (fun q => by have := (nI_leI (by omega) (by omega)).mp q; omega), areCon hc hN hi (by omega)]
    simp only [bM, lM, place_n, nI_1]
    rw [e0_val a i v M (fun M27 => fX1_start_12 F 113 c (nI i) kx n' (nI (v + 1)) M27) hi (by omega)]
    have hf : ∀ d, d ≠ 114 → up2 M 114 (i * 12 + v) (nI (e0 a i v)) d = M d := fun d hd => u2_ne M hd
    obtain ⟨M', g1, g2, g3, g4⟩ := ih (v + 1) (by omega) n' (by omega) _ (hN.fr hc2 hf) (by rw [hf c hc3]; exact hM)
    refine ⟨M', g1, fun d hd => (g2 d hd).trans (hf d hd), fun q hq => ?_, fun j h1 h2 => ?_⟩
    · rw [g3 q (fun j h1 h2 => hq j (by omega) h2), u2_same, if_neg (hq v (Nat.le_refl v) (by omega))]
    · by_cases e : j = v
      · subst e
        rw [g3 _ (fun j' h3 h4 => by omega), u2_same, if_pos rfl]
      · exact g4 j (by omega) h2
theorem start2 (hF : 13 ≤ F) (hc : lay c = 2) (hc2 : c + 2 ≠ 114) (hc3 : c ≠ 114) (h0 : a 0 ≤ 12) (kx : Mem → Option Mem) : ∀ (m v : Nat), v + m = a 0 → ∀ (n : Nat), m < n → ∀ (M : Mem), NB M c a → M c 3 = nI (a 0) → ∃ M', fX1_start_2 F 113 c kx n (nI v) M = kx M' ∧ (∀ d, d ≠ 114 → M' d = M d) ∧ (∀ q, q < v * 12 → M' 114 q = M 114 q) ∧ ∀ i j, v ≤ i → i < a 0 → j < a 0 → M' 114 (i * 12 + j) = nI (e0 a i j) := by
  intro m
  induction m with
  | zero =>
    intro v hv n hn M hN hM
    obtain ⟨n', rfl⟩ : ∃ n', n = n' + 1 := ⟨n - 1, by omega⟩
    refine ⟨M, ?_, fun _ _ => rfl, fun _ _ => rfl, fun i j h1 h2 => by omega⟩
    rw [fX1_start_2, hM, if_pos ((nI_leI (by omega) (by omega)).mpr (by omega))]
  | succ m ih =>
    intro v hv n hn M hN hM
    obtain ⟨n', rfl⟩ : ∃ n', n = n' + 1 := ⟨n - 1, by omega⟩
    obtain ⟨M1, f1, f2, f3, f4⟩ := start12 (F := F) hc hc2 hc3 h0 (i := v) (by omega) (fun M31 => letM (nI v + 1) (fun x32 => fX1_start_2 F 113 c kx n' x32 M31)) (a 0) 0 (by omega) F (by omega) M hN hM
    rw [fX1_start_2, hM, if_neg (fun q => by have := (nI_leI (by omega) (by omega)).mp q; omega), show (0 : Int32) = nI 0 from rfl, f1, lM, nI_1]
    obtain ⟨M', g1, g2, g3, g4⟩ := ih (v + 1) (by omega) n' (by omega) M1 (hN.fr hc2 f2) (by rw [f2 c hc3]; exact hM)
    refine ⟨M', g1, fun d hd => (g2 d hd).trans (f2 d hd), fun q hq => ?_, fun i j h1 h2 h3 => ?_⟩
    · rw [g3 q (by omega), f3 q (fun j h1 h2 => by omega)]
    · by_cases e : i = v
      · subst e
        rw [g3 _ (by omega)]
        exact f4 j (Nat.zero_le j) h3
      · exact g4 i j (by omega) h2 h3
end
section
variable {F c : Nat} {a : Nat → Nat}
theorem imnN {x y : Nat} (hx : x < 2 ^ 31) (hy : y < 2 ^ 31) : imn (nI x) (nI y) = nI (min x y) := by
  unfold imn
  by_cases h : y < x
  · rw [if_pos ((nI_ltI hy hx).mpr h), Nat.min_eq_right (by omega)]
  · rw [if_neg (fun z => h ((nI_ltI hy hx).mp z)), Nat.min_eq_left (by omega)]
theorem imp10 (h0 : a 0 ≤ 12) {i v : Nat} (hi : i < a 0) (hv : v < a 0) (kx : Mem → Option Mem) : ∀ (m w : Nat), w + m = a 0 → ∀ (n : Nat), m < n → ∀ (M : Mem) (e : Nat → Nat → Nat), TB M (a 0) e → SND a (a 0) e → ∃ M' e', fX1_improve_10 F 113 (nI (a 0)) (nI v) (nI i) kx n (nI w) M = kx M' ∧ (∀ d, d ≠ 114 → M' d = M d) ∧ TB M' (a 0) e' ∧ SND a (a 0) e' ∧ (∀ x y, x < a 0 → y < a 0 → e' x y ≤ e x y) ∧ ∀ j, w ≤ j → j < a 0 → e' i j ≤ e i v + e v j := by
  intro m
  induction m with
  | zero =>
    intro w hw n hn M e hT hS
    obtain ⟨n', rfl⟩ : ∃ n', n = n' + 1 := ⟨n - 1, by omega⟩
    refine ⟨M, e, ?_, fun _ _ => rfl, hT, hS, fun _ _ _ _ => Nat.le_refl _, fun j h1 h2 => by omega⟩
    rw [fX1_improve_10, if_pos ((nI_leI (by omega) (by omega)).mpr (by omega))]
  | succ m ih =>
    intro w hw n hn M e hT hS
    obtain ⟨n', rfl⟩ : ∃ n', n = n' + 1 := ⟨n - 1, by omega⟩
    have b1 := hS i v hi hv
    have b2 := hS v w hv (by omega)
    have b3 := hS i w hi (by omega)
    rw [fX1_improve_10, if_neg (fun q => by have := (nI_leI (by omega) (by omega)).mp q; omega)]
    simp only [bM, lM, place_n]
    rw [at_in al114 (by decide) (by omega)]
    simp only [bM]
    rw [at_in al114 (by decide) (by omega)]
    simp only [bM]
    rw [at_in al114 (by decide) (by omega)]
    simp only [bM]
    rw [put_in al114 (by decide) (by omega), hT i v hi hv, hT v w hv (by omega), hT i w hi (by omega), nI_add, imnN (by omega) (by omega), nI_1]
    simp only [bV]
    have hT2 : TB (up2 M 114 (i * 12 + w) (nI (min (e i w) (e i v + e v w)))) (a 0) (fun x y => if x = i ∧ y = w then min (e i w) (e i v + e v w) else e x y) := by
      intro x y hx hy
      rw [u2_same]
      by_cases q : x = i ∧ y = w
      · rw [if_pos (by rw [q.1, q.2])]
        simp only [if_pos q]
      · rw [if_neg (fun z => q (by omega))]
        simp only [if_neg q]
        exact hT x y hx hy
    have hS2 : SND a (a 0) (fun x y => if x = i ∧ y = w then min (e i w) (e i v + e v w) else e x y) := by
      intro x y hx hy
      by_cases q : x = i ∧ y = w
      · simp only [if_pos q]
        refine ⟨by omega, fun hl => ?_⟩
        rw [q.1, q.2]
        rcases Nat.lt_or_ge (e i v + e v w) (e i w) with z | z
        · rw [Nat.min_eq_right (by omega)]
          have := wk_add (b2.2 (by omega)) (b1.2 (by omega))
          rw [Nat.add_comm (e i v)]
          exact this
        · rw [Nat.min_eq_left z] at hl ⊢
          exact b3.2 hl
      · simp only [if_neg q]
        exact hS x y hx hy
    have hle : ∀ x y, (if x = i ∧ y = w then min (e i w) (e i v + e v w) else e x y) ≤ e x y := by
      intro x y
      by_cases q : x = i ∧ y = w
      · rw [if_pos q, q.1, q.2]; omega
      · rw [if_neg q]; exact Nat.le_refl _
    obtain ⟨M', e', g1, g2, g3, g4, g5, g6⟩ := ih (w + 1) (by omega) n' (by omega) _ _ hT2 hS2
    refine ⟨M', e', g1, fun d hd => (g2 d hd).trans (u2_ne M hd), g3, g4, fun x y hx hy => Nat.le_trans (g5 x y hx hy) (hle x y), fun j h1 h2 => ?_⟩
    by_cases q : j = w
    · subst q
      have := g5 i j hi h2
      simp only [and_self, if_true] at this
      omega
    · have := g6 j (by omega) h2
      have h3 := hle i v
      have h4 := hle v j
      omega
theorem imp2 (hF : 13 ≤ F) (h0 : a 0 ≤ 12) {v : Nat} (hv : v < a 0) (kx : Mem → Option Mem) : ∀ (m w : Nat), w + m = a 0 → ∀ (n : Nat), m < n → ∀ (M : Mem) (e : Nat → Nat → Nat), TB M (a 0) e → SND a (a 0) e → ∃ M' e', fX1_improve_2 F 113 (nI (a 0)) (nI v) kx n (nI w) M = kx M' ∧ (∀ d, d ≠ 114 → M' d = M d) ∧ TB M' (a 0) e' ∧ SND a (a 0) e' ∧ (∀ x y, x < a 0 → y < a 0 → e' x y ≤ e x y) ∧ ∀ i j, w ≤ i → i < a 0 → j < a 0 → e' i j ≤ e i v + e v j := by
  intro m
  induction m with
  | zero =>
    intro w hw n hn M e hT hS
    obtain ⟨n', rfl⟩ : ∃ n', n = n' + 1 := ⟨n - 1, by omega⟩
    refine ⟨M, e, ?_, fun _ _ => rfl, hT, hS, fun _ _ _ _ => Nat.le_refl _, fun j _ h1 h2 => by omega⟩
    rw [fX1_improve_2, if_pos ((nI_leI (by omega) (by omega)).mpr (by omega))]
  | succ m ih =>
    intro w hw n hn M e hT hS
    obtain ⟨n', rfl⟩ : ∃ n', n = n' + 1 := ⟨n - 1, by omega⟩
    obtain ⟨M1, e1, f1, f2, f3, f4, f5, f6⟩ := imp10 (F := F) h0 (i := w) (v := v) (by omega) hv (fun M30 => letM (nI w + 1) (fun x31 => fX1_improve_2 F 113 (nI (a 0)) (nI v) kx n' x31 M30)) (a 0) 0 (by omega) F (by omega) M e hT hS
    rw [fX1_improve_2, if_neg (fun q => by have := (nI_leI (by omega) (by omega)).mp q; omega), show (0 : Int32) = nI 0 from rfl, f1, lM, nI_1]
    obtain ⟨M', e', g1, g2, g3, g4, g5, g6⟩ := ih (w + 1) (by omega) n' (by omega) M1 e1 f3 f4
    refine ⟨M', e', g1, fun d hd => (g2 d hd).trans (f2 d hd), g3, g4, fun x y hx hy => Nat.le_trans (g5 x y hx hy) (f5 x y hx hy), fun i j h1 h2 h3 => ?_⟩
    by_cases q : i = w
    · subst q
      exact Nat.le_trans (g5 i j h2 h3) (f6 j (Nat.zero_le j) h3)
    · have := g6 i j (by omega) h2 h3
      have := f5 i v h2 hv
      have := f5 v j hv h3
      omega
theorem tab8 (hF : 13 ≤ F) (h0 : a 0 ≤ 12) (hc3 : c ≠ 114) (q2 q3 : Int32) (kx : Mem → Option (Int32 × Mem)) : ∀ (m v : Nat), v + m = a 0 → ∀ (n : Nat), m < n → ∀ (M : Mem) (e : Nat → Nat → Nat), M c 3 = nI (a 0) → TB M (a 0) e → SND a (a 0) e → (∀ i, i < a 0 → e i i = 0) → (∀ s i j, i < a 0 → j < a 0 → Qw a v s i j → e i j ≤ s + 1) → ∃ M' e', fX1_stepsBetween_8 F 113 c q2 q3 kx n (nI v) M = kx M' ∧ (∀ d, d ≠ 114 → M' d = M d) ∧ TB M' (a 0) e' ∧ SND a (a 0) e' ∧ (∀ i, i < a 0 → e' i i = 0) ∧ ∀ s i j, i < a 0 → j < a 0 → Qw a (a 0) s i j → e' i j ≤ s + 1 := by
  intro m
  induction m with
  | zero =>
    intro v hv n hn M e hM hT hS hz hQ
    obtain ⟨n', rfl⟩ : ∃ n', n = n' + 1 := ⟨n - 1, by omega⟩
    have q : v = a 0 := by omega
    subst q
    refine ⟨M, e, ?_, fun _ _ => rfl, hT, hS, hz, hQ⟩
    rw [fX1_stepsBetween_8, hM, if_pos ((nI_leI (by omega) (by omega)).mpr (by omega))]
  | succ m ih =>
    intro v hv n hn M e hM hT hS hz hQ
    obtain ⟨n', rfl⟩ : ∃ n', n = n' + 1 := ⟨n - 1, by omega⟩
    obtain ⟨M1, e1, f1, f2, f3, f4, f5, f6⟩ := imp2 (F := F) hF h0 (v := v) (by omega) (fun M33 => some M33) (a 0) 0 (by omega) F (by omega) M e hT hS
    have f7 : fX1_improve F 113 (nI (a 0)) (nI v) M = some M1 := f1
    rw [fX1_stepsBetween_8, hM, if_neg (fun q => by have := (nI_leI (by omega) (by omega)).mp q; omega), f7]
    simp only [bV, lM]
    rw [nI_1]
    obtain ⟨M', e', g1, g2, g3, g4, g5, g6⟩ := ih (v + 1) (by omega) n' (by omega) M1 e1 (by rw [f2 c hc3]; exact hM) f3 f4 (fun i hi => by have := f5 i i hi hi; have := hz i hi; omega) (fun s i j hi hj h => by
      rcases Qw_split h with ⟨s', h1, h2⟩ | ⟨s1, s2, h1, h2, h3⟩
      · have := hQ s' i j hi hj h2
        have := f5 i j hi hj
        omega
      · have := hQ s1 i v hi (by omega) h2
        have := hQ s2 v j (by omega) hj h3
        have := f6 i j (Nat.zero_le i) hi hj
        omega)
    exact ⟨M', e', g1, fun d hd => (g2 d hd).trans (f2 d hd), g3, g4, g5, g6⟩
theorem cTable (hW : WF a) (hF : 13 ≤ F) (hc : lay c = 2) (hc2 : c + 2 ≠ 114) (hc3 : c ≠ 114) {M : Mem} (hN : NB M c a) (hM : M c 3 = nI (a 0)) {p q : Nat} (hp : p < a 0) (hq : q < a 0) : ∃ M', fX1_stepsBetween F 113 c (nI p) (nI q) M = some (nI (if ds a q p = 99 then 1000 else ds a q p), M') ∧ ∀ d, d ≠ 114 → M' d = M d := by
  have h0 := hW.n
  obtain ⟨M1, f1, f2, -, f4⟩ := start2 (F := F) hF hc hc2 hc3 h0 (fun M34 => some M34) (a 0) 0 (by omega) F (by omega) M hN hM
  have f5 : fX1_start F 113 c M = some M1 := f1
  have hT : TB M1 (a 0) (e0 a) := fun i j hi hj => f4 i j (Nat.zero_le i) hi hj
  have hS : SND a (a 0) (e0 a) := by
    intro i j hi hj
    unfold e0
    by_cases z : i = j
    · rw [if_pos z]; exact ⟨by omega, fun _ => by rw [z]; simp [wk]⟩
    · rw [if_neg z]
      by_cases z2 : lk a i j = 1
      · rw [if_pos z2]; exact ⟨by omega, fun _ => wk_succ.mpr (Or.inr ⟨j, by omega, z2, by simp [wk]⟩)⟩
      · rw [if_neg z2]; exact ⟨by omega, fun z3 => by omega⟩
  have hz : ∀ i, i < a 0 → e0 a i i = 0 := fun i _ => if_pos rfl
  have hQ : ∀ s i j, i < a 0 → j < a 0 → Qw a 0 s i j → e0 a i j ≤ s + 1 := by
    intro s i j hi hj h
    cases s with
    | zero =>
      have hl : lk a i j = 1 := h
      unfold e0
      rw [if_pos hl]
      split <;> omega
    | succ s => obtain ⟨k, hk, -⟩ := h; omega
  obtain ⟨M', e', g1, g2, g3, g4, g5, g6⟩ := tab8 (F := F) hF h0 hc3 (nI p) (nI q) (fun M8 => bindM (fX1_place F 113 (nI p) (nI q) M8) (fun r11 M9 => bindM (fX11_at F 114 r11 M9) (fun r14 M12 => some (r14, M12)))) (a 0) 0 (by omega) F (by omega) M1 (e0 a) (by rw [f2 c hc3]; exact hM) hT hS hz hQ
  refine ⟨M', ?_, fun d hd => (g2 d hd).trans (f2 d hd)⟩
  unfold fX1_stepsBetween
  rw [f5, bV, show (0 : Int32) = nI 0 from rfl, g1, place_n]
  simp only [bM]
  rw [at_in al114 (by decide) (by omega), bM, g3 p q hp hq]
  congr 2
  have hval : e' p q = if ds a q p = 99 then 1000 else ds a q p := by
    obtain ⟨b1, b2⟩ := g4 p q hp hq
    have d1 := ds_le99 (a := a) (t := q) (k := p) (by omega) (by omega)
    by_cases z : ds a q p = 99
    · rw [if_pos z]
      by_cases z2 : e' p q < 1000
      · have := ds_99 (s := e' p q) (by omega) (by omega) z
        rw [b2 z2] at this; cases this
      · omega
    · rw [if_neg z]
      have up : e' p q ≤ ds a q p := by
        by_cases z2 : p = q
        · rw [z2, g5 q hq]; omega
        · obtain ⟨s', s1, s2⟩ := Qw_of hW hq _ p hp z2 (ds_wk (by omega) (by omega) z)
          have := g6 s' p q hp hq s2
          omega
      have := ds_le (by omega) (by omega) (b2 (by omega))
      omega
  rw [hval]
end
def tgt (a : Nat → Nat) : Nat := a (182 + a 4)
def sWalked (a : Nat → Nat) : Nat := if a 2 = 0 then a 3 else if ds a (tgt a) (a 3) = 0 ∨ ds a (tgt a) (a 3) = 99 then a 3 else nxt a (tgt a) (a 3)
def sLap (a : Nat → Nat) : Nat → Nat → Nat → Option Nat
  | 0, _, s => some s
  | m + 1, v, s => if ds a (a (182 + (v + 1) % a 2)) (a (182 + v)) = 99 then none else sLap a m (v + 1) (s + ds a (a (182 + (v + 1) % a 2)) (a (182 + v)))
section
variable {F b μ κ : Nat} {a : Nat → Nat}
theorem nxt_spec (hW : WF a) {t p : Nat} (ht : t < a 0) (hp : p < a 0) (h0 : ds a t p ≠ 0) (h9 : ds a t p ≠ 99) : nxt a t p < a 0 ∧ lk a p (nxt a t p) = 1 ∧ ds a t (nxt a t p) + 1 = ds a t p ∧ ∀ k, k < nxt a t p → ¬ (lk a p k = 1 ∧ ds a t k + 1 = ds a t p) := by
  have hn := hW.n
  obtain ⟨j, j1, j2, j3⟩ := ds_near (a := a) (t := t) (k := p) (by omega) (by omega) h9 h0
  have he : exB 12 (fun k => decide (lk a p k = 1 ∧ ds a t k + 1 = ds a t p)) = true := exB_iff.mpr ⟨j, j1, decide_eq_true ⟨j2, j3⟩⟩
  obtain ⟨h1, h2, h3⟩ := lea_some (d := 99) he
  have h4 := of_decide_eq_true h2
  have h1 : nxt a t p < 12 := h1
  have h4 : lk a p (nxt a t p) = 1 ∧ ds a t (nxt a t p) + 1 = ds a t p := h4
  refine ⟨(hW.ln (nxt a t p) p h1 (by omega) (by rw [hW.ls _ _ h1 (by omega)]; exact h4.1)).1, h4.1, h4.2, fun k hk => of_decide_eq_false (h3 k hk)⟩
theorem walked_loop (hW : WF a) {t p : Nat} (ht : t < a 0) (hp : p < a 0) (h0 : ds a t p ≠ 0) (h9 : ds a t p ≠ 99) {M : Mem} (hM : M 120 = rowI a) (hf : ∀ k, k < a 0 → M 125 k = nI (ds a t k)) (kx : Int32 → Mem → Option (Int32 × Mem)) : ∀ (m v : Nat), v + m = nxt a t p → ∀ (n : Nat), m < n → fX12_walked_61 F (nI p) kx n (nI v) M = kx (nI (nxt a t p)) M := by
  have hn := hW.n
  obtain ⟨n1, n2, n3, n4⟩ := nxt_spec hW ht hp h0 h9
  have hd := ds_le99 (a := a) (t := t) (k := p) (by omega) (by omega)
  intro m
  induction m with
  | zero =>
    intro v hv n hn
    obtain ⟨n', rfl⟩ : ∃ n', n = n' + 1 := ⟨n - 1, by omega⟩
    have e : v = nxt a t p := by omega
    rw [fX12_walked_61, isLinked_m hM (by omega) (by omega) (hW.l1 _ _ (by omega) (by omega)), e]
    simp only [bM, lM]
    rw [if_pos (decide_eq_true n2), inbN (by omega), ckd _ (by omega), inbN (by omega), ckd _ (by omega), nI_cl (by omega), nI_cl (by omega), hf _ n1, hf _ hp, lit 1, nI_sub (by omega), if_pos (by congr 1; omega)]
  | succ m ih =>
    intro v hv n hn
    obtain ⟨n', rfl⟩ : ∃ n', n = n' + 1 := ⟨n - 1, by omega⟩
    rw [fX12_walked_61, isLinked_m hM (by omega) (by omega) (hW.l1 _ _ (by omega) (by omega))]
    simp only [bM, lM, decide_eq_true_eq]
    rw [nI_1, ih (v + 1) (by omega) n' (by omega)]
    by_cases q : lk a p v = 1
    · have dv := ds_le99 (a := a) (t := t) (k := v) (by omega) (by omega)
      rw [if_pos q, inbN (by omega), ckd _ (by omega), inbN (by omega), ckd _ (by omega), nI_cl (by omega), nI_cl (by omega), hf v (by omega), hf _ hp, lit 1, nI_sub (by omega), if_neg (fun z => n4 v (by omega) ⟨q, by have := (nI_eq (by omega) (by omega)).mp z; omega⟩)]
    · rw [if_neg q]
theorem WF.cat_lt (hW : WF a) : a 3 < 12 := by have := hW.n; have := hW.cat; omega
theorem WF.goal_lt (hW : WF a) : a 4 < 10 := by have := hW.t; have := hW.goal; omega
theorem WF.tgt_lt (hW : WF a) (h : a 2 ≠ 0) : tgt a < a 0 := by have := hW.goal; exact hW.st (a 4) (by omega)
theorem WF.cat_n (hW : WF a) (h : a 2 ≠ 0) : a 3 < a 0 := by have := hW.tgt_lt h; have := hW.cat; omega
theorem sWalked_lt (hW : WF a) : sWalked a < a 0 ∨ sWalked a = a 3 := by
  unfold sWalked
  by_cases h : a 2 = 0
  · rw [if_pos h]; exact Or.inr rfl
  · rw [if_neg h]
    by_cases q : ds a (tgt a) (a 3) = 0 ∨ ds a (tgt a) (a 3) = 99
    · rw [if_pos q]; exact Or.inr rfl
    · rw [if_neg q]
      exact Or.inl (nxt_spec hW (hW.tgt_lt h) (hW.cat_n h) (fun z => q (Or.inl z)) (fun z => q (Or.inr z))).1
theorem mWalked (hW : WF a) (hF : 1500 ≤ F) {M : Mem} (hM : M 120 = rowI a) : ∃ M', fX12_walked F M = some (nI (sWalked a), M') ∧ ∀ c, c ≠ 125 → M' c = M c := by
  have hn := hW.n
  have ht := hW.t
  have hg := hW.goal_lt
  have hc := hW.cat_lt
  unfold fX12_walked sWalked
  rw [lM, hM]
  repeat rw [rowI_at]
  by_cases h : a 2 = 0
  · rw [if_pos (show nI (a 2) = 0 from eqL h), if_pos h]
    exact ⟨M, rfl, fun _ _ => rfl⟩
  · have h1 := hW.tgt_lt h
    have h2 := hW.cat_n h
    obtain ⟨M1, e1, e2, e3⟩ := dTo hW hF h1 hM
    have hd := ds_le99 (a := a) (t := tgt a) (k := a 3) (by omega) (by omega)
    rw [if_neg (show ¬ nI (a 2) = 0 from neL (by omega) (by decide) h), if_neg h, lit 182, nI_add, inbN (by omega), ckd _ (by omega), nI_cl (by omega)]
    show ∃ M', bindV (fX12_distancesTo F (nI (tgt a)) M) _ = _ ∧ _
    rw [e1]
    simp only [bV]
    rw [inbN (by omega), ckd _ (by omega), ckd _ (by omega), nI_cl (by omega), e3 _ h2]
    refine ⟨M1, ?_, e2⟩
    by_cases q0 : ds a (tgt a) (a 3) = 0
    · rw [if_pos (eqL q0), if_pos (Or.inl q0)]
    · rw [if_neg (neL (by omega) (by decide) q0)]
      by_cases q9 : ds a (tgt a) (a 3) = 99
      · rw [if_pos (eqL q9), if_pos (Or.inr q9)]
      · rw [if_neg (neL (by omega) (by decide) q9), if_neg (by omega)]
        have n1 := (nxt_spec hW h1 h2 q0 q9).1
        exact walked_loop hW h1 h2 q0 q9 (by rw [e2 120 (by decide)]; exact hM) e3 _ _ 0 (Nat.zero_add _) F (by omega)
theorem NB.of {M : Mem} (h : CL μ κ 0 0 M b a) : NB M (b + 1) a := h.nb
theorem cWalk (hW : WF a) (hF : 13 ≤ F) (hb : lay b = 1) {M : Mem} (h : CL μ κ 0 0 M b a) : fX3_shelfAfterWalk F b M = some (nI (sWalked a), M) := by
  have hn := hW.n
  have ht := hW.t
  have hg := hW.goal_lt
  have hc := hW.cat_lt
  unfold fX3_shelfAfterWalk sWalked
  rw [h.t]
  by_cases q : a 2 = 0
  · rw [if_pos (eqL q), if_pos q, h.cat]
  · have h1 := hW.tgt_lt q
    have hgl : a 4 < a 2 := by have := hW.goal; omega
    rw [if_neg (neL (by omega) (by decide) q), if_neg q]
    unfold fX6_shelfOfGoal
    rw [h.goal]
    show bindM (bindM (fX11_at F (b + 5) (nI (a 4)) M) _) _ = _
    rw [at_in (al1_5 hb) (by decide) (by omega)]
    simp only [bM]
    rw [h.st _ hgl, h.cat, cTowards (t := a (182 + a 4)) hW.ls hF (ly1_1 hb) (NB.of h) hc (by have : a (182 + a 4) < a 0 := h1; omega)]
    simp only [bM]
    rfl
def noB (a : Nat → Nat) (v w : Nat) : Bool := !exB v (fun k => decide (w ≤ k ∧ ds a v k ≠ 99))
theorem noB_iff {v w : Nat} : noB a v w = true ↔ ∀ k, w ≤ k → k < v → ds a v k = 99 := by
  unfold noB
  rw [Bool.not_eq_true', ← Bool.not_eq_true, exB_iff]
  constructor
  · intro h k h1 h2
    exact Classical.byContradiction fun z => h ⟨k, h2, decide_eq_true ⟨h1, z⟩⟩
  · rintro h ⟨k, h1, h2⟩
    have h3 := of_decide_eq_true h2
    exact h3.2 (h k h3.1 h1)
theorem mGroups29 {M : Mem} (v : Nat) (hv : v < 12) (q1 : Int32) (hf : ∀ k, k < v → M 125 k = nI (ds a v k)) (hd : ∀ k, k < v → ds a v k ≤ 99) (kx : Int32 → Mem → Option (Int32 × Mem)) : ∀ (m w : Nat), w + m = v → ∀ (n : Nat), m < n → ∀ x : Nat, x ≤ 1 → fX12_groupCount_29 F q1 (nI v) kx n (nI x) (nI w) M = kx (nI (if x = 1 ∧ noB a v w = true then 1 else 0)) M := by
  intro m
  induction m with
  | zero =>
    intro w hw n hn x hx
    obtain ⟨n', rfl⟩ : ∃ n', n = n' + 1 := ⟨n - 1, by omega⟩
    rw [fX12_groupCount_29, if_pos (le2 (by omega) (by omega) (by omega))]
    congr 2
    by_cases q : x = 1
    · rw [if_pos ⟨q, noB_iff.mpr (fun k h1 h2 => by omega)⟩, q]
    · rw [if_neg (fun z => q z.1)]; omega
  | succ m ih =>
    intro w hw n hn x hx
    obtain ⟨n', rfl⟩ : ∃ n', n = n' + 1 := ⟨n - 1, by omega⟩
    rw [fX12_groupCount_29, if_neg (nle2 (by omega) (by omega) (by omega))]
    simp only [lM]
    have i0 : ∀ y, fX12_groupCount_29 F q1 (nI v) kx n' 0 (nI (w + 1)) M = y ↔ kx (nI 0) M = y := fun y => by
      rw [show (0 : Int32) = nI 0 from rfl, ih (w + 1) (by omega) n' (by omega) 0 (by omega), if_neg (by omega)]
    have hdw := hd w (by omega)
    rw [nI_1, inbN (by omega), ckd _ (by omega), nI_cl (by omega), hf w (by omega)]
    by_cases q : x = 0
    · rw [if_pos (eqL q), i0, if_neg (by omega)]
    · rw [if_neg (neL (by omega) (by decide) q)]
      by_cases q2 : ds a v w = 99
      · rw [if_pos (eqL q2), show (1 : Int32) = nI 1 from rfl, ih (w + 1) (by omega) n' (by omega) 1 (by omega)]
        congr 2
        have e : noB a v (w + 1) = true ↔ noB a v w = true := by
          rw [noB_iff, noB_iff]
          refine ⟨fun z k h1 h2 => ?_, fun z k h1 h2 => z k (by omega) h2⟩
          by_cases e : k = w
          · rw [e]; exact q2
          · exact z k (by omega) h2
        by_cases q3 : noB a v w = true
        · rw [if_pos ⟨rfl, e.mpr q3⟩, if_pos ⟨by omega, q3⟩]
        · rw [if_neg (fun z => q3 (e.mp z.2)), if_neg (fun z => q3 z.2)]
      · rw [if_neg (neL (by omega) (by decide) q2), i0, if_neg (fun z => q2 (noB_iff.mp z.2 w (Nat.le_refl w) (by omega)))]
theorem noB_isF (hW : WF a) {v : Nat} (hv : v < 12) : noB a v 0 = isF a v := by
  unfold noB isF
  congr 1
  refine exB_congr (fun k hk => ?_)
  rw [ds_sym hW.ls (t := v) (k := k) (by omega) (by omega)]
  simp
theorem mGroups_loop (hW : WF a) (hF : 1500 ≤ F) (kx : Int32 → Mem → Option (Int32 × Mem)) : ∀ (m v : Nat), v + m = a 0 → ∀ (n : Nat), m < n → ∀ (M : Mem), M 120 = rowI a → ∃ M', fX12_groupCount_9 F kx n (nI (cntB v (isF a))) (nI v) M = kx (nI (cntB (a 0) (isF a))) M' ∧ ∀ c, c ≠ 125 → M' c = M c := by
  have hn0 := hW.n
  intro m
  induction m with
  | zero =>
    intro v hv n hn M hM
    obtain ⟨n', rfl⟩ : ∃ n', n = n' + 1 := ⟨n - 1, by omega⟩
    have e : v = a 0 := by omega
    subst e
    refine ⟨M, ?_, fun _ _ => rfl⟩
    rw [fX12_groupCount_9, hM, rowI_at, if_pos (le2 (by omega) (by omega) (by omega))]
  | succ m ih =>
    intro v hv n hn M hM
    obtain ⟨n', rfl⟩ : ∃ n', n = n' + 1 := ⟨n - 1, by omega⟩
    obtain ⟨M1, e1, e2, e3⟩ := dTo hW hF (t := v) (by omega) hM
    rw [fX12_groupCount_9, hM, rowI_at, if_neg (nle2 (by omega) (by omega) (by omega)), e1, bV, show (1 : Int32) = nI 1 from rfl, show (0 : Int32) = nI 0 from rfl]
    rw [mGroups29 (a := a) v (by omega) _ (fun k hk => e3 k (by omega)) (fun k hk => by have := ds_le99 (a := a) (t := v) (k := k) (by omega) (by omega); omega) _ v 0 (by omega) F (by omega) 1 (by omega)]
    obtain ⟨M', g1, g2⟩ := ih (v + 1) (by omega) n' (by omega) M1 (by rw [e2 120 (by decide)]; exact hM)
    refine ⟨M', ?_, fun c hc => (g2 c hc).trans (e2 c hc)⟩
    simp only [lM]
    rw [nI_add, nI_add, nI_add, ← g1]
    have hc : cntB (v + 1) (isF a) = cntB v (isF a) + (if isF a v then 1 else 0) := rfl
    rw [hc, noB_isF hW (by omega)]
    cases q : isF a v
    · simp [nI]
    · simp [nI]
end
section
variable {F b μ κ : Nat} {a : Nat → Nat}
theorem stopAfter_n {M : Mem} {c v t : Nat} (hM : M c 1 = nI t) (ht : t ≤ 10) (hv : v < t) : fX6_stopAfter F c (nI v) M = some (nI ((v + 1) % t), M) := by
  unfold fX6_stopAfter
  rw [hM, nI_1]
  by_cases q : v + 1 < t
  · rw [if_neg (nle2 (by omega) (by omega) q), Nat.mod_eq_of_lt q]
  · have e : v + 1 = t := by omega
    rw [if_pos (le2 (by omega) (by omega) (by omega)), e, Nat.mod_self]
    rfl
theorem mod_lt' {x t : Nat} (h : 0 < t) : x % t < t := Nat.mod_lt x h
theorem cLap_loop (hW : WF a) (hF : 13 ≤ F) (hb : lay b = 1) {M : Mem} (h : CL μ κ 0 0 M b a) (kx : Int32 → Mem → Option (Int32 × Mem)) : ∀ (m v : Nat), v + m = a 2 → ∀ (n : Nat), m < n → ∀ s, fX3_countLapSteps_4 F b kx n (nI s) (nI v) M = match sLap a m v s with | none => some (-1, M) | some r => kx (nI r) M := by
  have hn0 := hW.n
  have ht := hW.t
  intro m
  induction m with
  | zero =>
    intro v hv n hn s
    obtain ⟨n', rfl⟩ : ∃ n', n = n' + 1 := ⟨n - 1, by omega⟩
    rw [fX3_countLapSteps_4, h.t, if_pos (le2 (by omega) (by omega) (by omega))]
    rfl
  | succ m ih =>
    intro v hv n hn s
    obtain ⟨n', rfl⟩ : ∃ n', n = n' + 1 := ⟨n - 1, by omega⟩
    have hm := mod_lt' (x := v + 1) (t := a 2) (by omega)
    have s1 := hW.st v (by omega)
    have s2 := hW.st ((v + 1) % a 2) hm
    have hd := ds_le99 (a := a) (t := a (182 + (v + 1) % a 2)) (k := a (182 + v)) (by omega) (by omega)
    rw [fX3_countLapSteps_4, h.t, if_neg (nle2 (by omega) (by omega) (by omega)), at_in (al1_5 hb) (by decide) (by omega)]
    simp only [bM]
    rw [stopAfter_n h.t ht (by omega)]
    simp only [bM]
    rw [at_in (al1_5 hb) (by decide) (by omega)]
    simp only [bM]
    rw [h.st v (by omega), h.st _ hm, cSteps hW.ls hF (NB.of h) (by omega) (by omega)]
    simp only [bM, lM]
    rw [ds_sym hW.ls (by omega) (by omega)]
    unfold sLap
    by_cases q : ds a (a (182 + (v + 1) % a 2)) (a (182 + v)) = 99
    · rw [if_pos q, if_pos rfl, if_pos q]
    · rw [if_neg q, if_neg (nI_m1 (by omega)), if_neg q, nI_add, nI_1]
      exact ih (v + 1) (by omega) n' (by omega) _
theorem cLap (hW : WF a) (hF : 13 ≤ F) (hb : lay b = 1) {M : Mem} (h : CL μ κ 0 0 M b a) : fX3_countLapSteps F b M = some ((match sLap a (a 2) 0 0 with | none => -1 | some r => nI r), M) := by
  have ht := hW.t
  unfold fX3_countLapSteps
  rw [show (0 : Int32) = nI 0 from rfl, cLap_loop hW hF hb h _ (a 2) 0 (by omega) F (by omega) 0]
  cases sLap a (a 2) 0 0 <;> rfl
theorem sLap_le (hW : WF a) : ∀ (m v s r : Nat), v + m = a 2 → sLap a m v s = some r → r ≤ s + m * 12 := by
  have hn0 := hW.n
  intro m
  induction m with
  | zero => intro v s r hv h; cases h; omega
  | succ m ih =>
    intro v s r hv h
    have hm := mod_lt' (x := v + 1) (t := a 2) (by omega)
    have s1 := hW.st v (by omega)
    have s2 := hW.st ((v + 1) % a 2) hm
    have hd := ds_le99 (a := a) (t := a (182 + (v + 1) % a 2)) (k := a (182 + v)) (by omega) (by omega)
    unfold sLap at h
    by_cases q : ds a (a (182 + (v + 1) % a 2)) (a (182 + v)) = 99
    · rw [if_pos q] at h; cases h
    · rw [if_neg q] at h
      have := ih (v + 1) _ r (by omega) h
      omega
theorem mLap_loop (hW : WF a) (hF : 1500 ≤ F) (kx : Int32 → Mem → Option (Int32 × Mem)) : ∀ (m v : Nat), v + m = a 2 → ∀ (n : Nat), m < n → ∀ (s : Nat) (M : Mem), M 120 = rowI a → ∃ M', (∀ c, c ≠ 125 → M' c = M c) ∧ fX12_lapLength_9 F kx n (nI s) (nI v) M = match sLap a m v s with | none => some (0, up2 M' 119 0 1) | some r => kx (nI r) M' := by
  have hn0 := hW.n
  have ht := hW.t
  intro m
  induction m with
  | zero =>
    intro v hv n hn s M hM
    obtain ⟨n', rfl⟩ : ∃ n', n = n' + 1 := ⟨n - 1, by omega⟩
    refine ⟨M, fun _ _ => rfl, ?_⟩
    rw [fX12_lapLength_9, hM, rowI_at, if_pos (le2 (by omega) (by omega) (by omega))]
    rfl
  | succ m ih =>
    intro v hv n hn s M hM
    obtain ⟨n', rfl⟩ : ∃ n', n = n' + 1 := ⟨n - 1, by omega⟩
    have hm := mod_lt' (x := v + 1) (t := a 2) (by omega)
    have s1 := hW.st v (by omega)
    have s2 := hW.st ((v + 1) % a 2) hm
    have hd := ds_le99 (a := a) (t := a (182 + (v + 1) % a 2)) (k := a (182 + v)) (by omega) (by omega)
    have hz : ¬ a 2 = 0 := by omega
    obtain ⟨M1, e1, e2, e3⟩ := dTo hW hF (t := a (182 + (v + 1) % a 2)) s2 hM
    have hM1 : M1 120 = rowI a := by rw [e2 120 (by decide)]; exact hM
    rw [fX12_lapLength_9, hM]
    repeat rw [rowI_at]
    rw [if_neg (nle2 (by omega) (by omega) (by omega)), ckd _ (show ¬ nI (a 2) = 0 from neL (by omega) (by decide) hz), nI_1, irmN (by omega) (by omega), lit 182, nI_add, inbN (by omega), ckd _ (by omega), nI_cl (by omega), e1, bV, nI_add, inbN (by omega), ckd _ (by omega), ckd _ (by omega), nI_cl (by omega), hM1, rowI_at, inbN (by omega), ckd _ (by omega), ckd _ (by omega), nI_cl (by omega), e3 _ s1]
    unfold sLap
    by_cases q : ds a (a (182 + (v + 1) % a 2)) (a (182 + v)) = 99
    · refine ⟨M1, e2, ?_⟩
      rw [if_pos (eqL q), if_pos q]
      rfl
    · rw [if_neg (neL (by omega) (by decide) q), if_neg q]
      simp only [lM]
      rw [nI_add]
      obtain ⟨M', g1, g2⟩ := ih (v + 1) (by omega) n' (by omega) (s + ds a (a (182 + (v + 1) % a 2)) (a (182 + v))) M1 hM1
      exact ⟨M', fun c hc => (g1 c hc).trans (e2 c hc), g2⟩
end
