section
variable {F μ κ v o b : Nat} {M : Mem} {a : Nat → Nat}
theorem CL.mice (h : CL μ κ v o M b a) {M' : Mem} {a' : Nat → Nat} {v' o' : Nat} (ht : a 2 ≤ 10) (hM : ∀ c, c < b + 6 → M' c = M c) (ha : ∀ k, k < 192 → k ≠ 8 → a' k = a k) (hm : M' (b + 6) 3 = nI (a' 8 + o')) (h7 : ∀ k, k < a' 8 → M' (b + 7) (pos v' o' k) = nI (a' (192 + 3 * k))) (h8 : ∀ k, k < a' 8 → M' (b + 8) (pos v' o' k) = nI (a' (193 + 3 * k))) (h9 : ∀ k, k < a' 8 → M' (b + 9) (pos v' o' k) = nI (a' (194 + 3 * k))) : CL μ κ v' o' M' b a' := ⟨(by rw [hM _ (by omega), ha 5 (by omega) (by omega)]; exact h.rate),
  (by rw [hM _ (by omega), ha 6 (by omega) (by omega)]; exact h.seed),
  (by rw [hM _ (by omega)]; exact h.mi),
  (by rw [hM _ (by omega), ha 13 (by omega) (by omega)]; exact h.pu),
  (by rw [hM _ (by omega), ha 12 (by omega) (by omega)]; exact h.ea),
  (by rw [hM _ (by omega)]; exact h.ca),
  (by rw [hM _ (by omega), ha 10 (by omega) (by omega)]; exact h.go),
  (by rw [hM _ (by omega), ha 11 (by omega) (by omega)]; exact h.ri),
  (fun j hj => by rw [hM _ (by omega), ha _ (by omega) (by omega)]; exact h.bl j hj),
  (by rw [hM _ (by omega), ha 0 (by omega) (by omega)]; exact h.n),
  (by rw [hM _ (by omega), ha 1 (by omega) (by omega)]; exact h.p),
  (fun k hk => by rw [hM _ (by omega), ha _ (by omega) (by omega)]; exact h.gr k hk),
  (fun k j hk hj => by rw [hM _ (by omega), h.nb k j hk hj]; exact nb_c (fun q => ha _ (by omega) (by omega))),
  (by rw [hM _ (by omega), ha 2 (by omega) (by omega)]; exact h.t),
  (by rw [hM _ (by omega), ha 3 (by omega) (by omega)]; exact h.cat),
  (by rw [hM _ (by omega), ha 4 (by omega) (by omega)]; exact h.goal),
  (fun k hk => by rw [ha 2 (by omega) (by omega)] at hk; rw [hM _ (by omega), ha _ (by omega) (by omega)]; exact h.st k hk),
  hm,
  h7,
  h8,
  h9⟩
theorem CL.r7 (h : CL μ κ v o M b a) (x : Nat) : CL μ κ v o M b (updN a 7 x) := ⟨(by rw [updN_ne a (by omega)]; exact h.rate),
  (by rw [updN_ne a (by omega)]; exact h.seed),
  h.mi,
  (by rw [updN_ne a (by omega)]; exact h.pu),
  (by rw [updN_ne a (by omega)]; exact h.ea),
  h.ca,
  (by rw [updN_ne a (by omega)]; exact h.go),
  (by rw [updN_ne a (by omega)]; exact h.ri),
  (fun j hj => by rw [updN_ne a (by omega)]; exact h.bl j hj),
  (by rw [updN_ne a (by omega)]; exact h.n),
  (by rw [updN_ne a (by omega)]; exact h.p),
  (fun k hk => by rw [updN_ne a (by omega)]; exact h.gr k hk),
  (fun k j hk hj => by rw [h.nb k j hk hj]; exact nb_c (fun q => lk_ne (by omega) hk q)),
  (by rw [updN_ne a (by omega)]; exact h.t),
  (by rw [updN_ne a (by omega)]; exact h.cat),
  (by rw [updN_ne a (by omega)]; exact h.goal),
  (fun k hk => by rw [updN_ne a (by omega)] at hk; rw [updN_ne a (by omega)]; exact h.st k hk),
  (by rw [updN_ne a (by omega)]; exact h.m),
  (fun k hk => by rw [updN_ne a (by omega)] at hk; rw [updN_ne a (by omega)]; exact h.ms k hk),
  (fun k hk => by rw [updN_ne a (by omega)] at hk; rw [updN_ne a (by omega)]; exact h.me k hk),
  (fun k hk => by rw [updN_ne a (by omega)] at hk; rw [updN_ne a (by omega)]; exact h.mh k hk)⟩
theorem CL.r9 (h : CL μ κ v o M b a) (x : Nat) : CL μ κ v o M b (updN a 9 x) := ⟨(by rw [updN_ne a (by omega)]; exact h.rate),
  (by rw [updN_ne a (by omega)]; exact h.seed),
  h.mi,
  (by rw [updN_ne a (by omega)]; exact h.pu),
  (by rw [updN_ne a (by omega)]; exact h.ea),
  h.ca,
  (by rw [updN_ne a (by omega)]; exact h.go),
  (by rw [updN_ne a (by omega)]; exact h.ri),
  (fun j hj => by rw [updN_ne a (by omega)]; exact h.bl j hj),
  (by rw [updN_ne a (by omega)]; exact h.n),
  (by rw [updN_ne a (by omega)]; exact h.p),
  (fun k hk => by rw [updN_ne a (by omega)]; exact h.gr k hk),
  (fun k j hk hj => by rw [h.nb k j hk hj]; exact nb_c (fun q => lk_ne (by omega) hk q)),
  (by rw [updN_ne a (by omega)]; exact h.t),
  (by rw [updN_ne a (by omega)]; exact h.cat),
  (by rw [updN_ne a (by omega)]; exact h.goal),
  (fun k hk => by rw [updN_ne a (by omega)] at hk; rw [updN_ne a (by omega)]; exact h.st k hk),
  (by rw [updN_ne a (by omega)]; exact h.m),
  (fun k hk => by rw [updN_ne a (by omega)] at hk; rw [updN_ne a (by omega)]; exact h.ms k hk),
  (fun k hk => by rw [updN_ne a (by omega)] at hk; rw [updN_ne a (by omega)]; exact h.me k hk),
  (fun k hk => by rw [updN_ne a (by omega)] at hk; rw [updN_ne a (by omega)]; exact h.mh k hk)⟩
theorem renum_n {c v w : Nat} (h1 : alen (c + 1) = 8) (h2 : alen (c + 2) = 8) (h3 : alen (c + 3) = 8) (hv : v < 8) (hw : w < 8) : fX5_renumber F c (nI v) (nI w) M = some (up2 (up2 (up2 M (c + 1) w (M (c + 1) v)) (c + 2) w (M (c + 2) v)) (c + 3) w (M (c + 3) v)) := by
  unfold fX5_renumber
  rw [at_in h1 (by decide) hv]
  simp only [bM]
  rw [put_in h1 (by decide) hw]
  simp only [bV]
  rw [at_in h2 (by decide) hv]
  simp only [bM]
  rw [put_in h2 (by decide) hw]
  simp only [bV]
  rw [at_in h3 (by decide) hv]
  simp only [bM]
  rw [put_in h3 (by decide) hw]
  simp only [bV]
  rw [u2_ne M (by omega), u2_ne _ (by omega), u2_ne M (by omega)]
theorem pos_next {row row' : Nat → Int32} {f : Nat → Int32} {n w : Nat} (h : ∀ k, k < n → row (pos v o k) = f k) (hr : ∀ k, row' k = if k = v then row w else row k) (hw : w = v + o) (hv : v < n) : ∀ k, k < n → row' (pos (v + 1) o k) = f k := by
  intro k hk
  have z := h k hk
  by_cases q : k = v
  · have p1 : pos (v + 1) o k = v := by
      unfold pos
      rw [if_pos (by omega), q]
    have p2 : pos v o k = v + o := by
      unfold pos
      rw [if_neg (by omega), q]
    rw [p2] at z
    rw [hr, if_pos p1, hw]
    exact z
  · have p1 : pos (v + 1) o k = pos v o k := by
      unfold pos
      by_cases q2 : k < v
      · rw [if_pos q2, if_pos (by omega)]
      · rw [if_neg q2, if_neg (by omega)]
    have p2 : pos v o k ≠ v := by
      unfold pos
      by_cases q2 : k < v
      · rw [if_pos q2]; omega
      · rw [if_neg q2]; omega
    rw [hr, p1, if_neg p2]
    exact z
def rnM (b v w : Nat) (M : Mem) : Mem := up2 (up2 (up2 M (b + 7) w (M (b + 7) v)) (b + 8) w (M (b + 8) v)) (b + 9) w (M (b + 9) v)
theorem CL.keep (h : CL μ κ v o M b a) (ht : a 2 ≤ 10) (hv : v < a 8) : CL μ κ (v + 1) o (rnM b (v + o) v M) b a := by
  unfold rnM
  refine h.mice ht (fun c hc => by rw [u2_ne _ (by omega), u2_ne _ (by omega), u2_ne _ (by omega)]) (fun k _ _ => rfl) (by rw [u2_ne _ (by omega), u2_ne _ (by omega), u2_ne _ (by omega)]; exact h.m) (pos_next h.ms (w := v + o) ?_ rfl hv) (pos_next h.me (w := v + o) ?_ rfl hv) (pos_next h.mh (w := v + o) ?_ rfl hv)
  · intro k; rw [u2_ne _ (by omega), u2_ne _ (by omega), u2_same]
  · intro k; rw [u2_ne _ (by omega), u2_same, u2_ne _ (by omega)]
  · intro k; rw [u2_same, u2_ne _ (by omega), u2_ne _ (by omega)]
theorem pos_drop {row : Nat → Int32} {j : Nat} (hj : j < 3) (h : ∀ k, k < a 8 → row (pos v o k) = nI (a (192 + j + 3 * k))) : ∀ k, k < sRm v a 8 → row (pos v (o + 1) k) = nI (sRm v a (192 + j + 3 * k)) := by
  intro k hk
  rw [sRm_8] at hk
  rw [sRm_m hj hk]
  unfold pos at h ⊢
  by_cases q : k < v
  · have z := h k (by omega)
    rw [if_pos q] at z ⊢
    rw [if_pos q]
    exact z
  · have z := h (k + 1) (by omega)
    rw [if_neg (by omega)] at z
    rw [if_neg q, if_neg q, show k + (o + 1) = k + 1 + o by omega]
    exact z
theorem CL.drop (h : CL μ κ v o M b a) (ht : a 2 ≤ 10) (hv : v < a 8) : CL μ κ v (o + 1) M b (sRm v a) := by
  refine h.mice ht (fun c hc => rfl) (fun k q q8 => sRm_lo v a q q8 (by omega)) ?_ (pos_drop (j := 0) (by omega) h.ms) (pos_drop (j := 1) (by omega) h.me) (pos_drop (j := 2) (by omega) h.mh)
  rw [sRm_8, show a 8 - 1 + (o + 1) = a 8 + o by omega]
  exact h.m
theorem CL.app8 (h : CL μ κ 0 0 M b a) (ht : a 2 ≤ 10) (x : Nat) : CL μ κ 0 0 (up2 (up2 (up2 (up2 M (b + 7) (a 8) (nI x)) (b + 8) (a 8) (nI 0)) (b + 9) (a 8) (nI 0)) (b + 6) 3 (nI (a 8 + 1))) b (updN (updN (updN (updN a (192 + 3 * a 8) x) (193 + 3 * a 8) 0) (194 + 3 * a 8) 0) 8 (a 8 + 1)) := by
  have hs : ∀ k, updN (updN (updN (updN a (192 + 3 * a 8) x) (193 + 3 * a 8) 0) (194 + 3 * a 8) 0) 8 (a 8 + 1) k = if k = 8 then a 8 + 1 else if k = 194 + 3 * a 8 then 0 else if k = 193 + 3 * a 8 then 0 else if k = 192 + 3 * a 8 then x else a k := fun k => rfl
  refine h.mice ht (fun c hc => by rw [u2_ne _ (by omega), u2_ne _ (by omega), u2_ne _ (by omega), u2_ne _ (by omega)]) (fun k _ _ => by rw [hs, if_neg (by omega), if_neg (by omega), if_neg (by omega), if_neg (by omega)]) ?_ ?_ ?_ ?_
  · rw [u2_same, if_pos rfl, hs, if_pos rfl]
  · intro k hk
    rw [hs, if_pos rfl] at hk
    rw [u2_ne _ (by omega), u2_ne _ (by omega), u2_ne _ (by omega), u2_same, pos_00, hs]
    by_cases q : k = a 8
    · rw [if_pos q, if_neg (by omega), if_neg (by omega), if_neg (by omega), if_pos (by omega)]
    · have z := h.ms k (by omega)
      rw [pos_00] at z
      rw [if_neg q, if_neg (by omega), if_neg (by omega), if_neg (by omega), if_neg (by omega), z]
  · intro k hk
    rw [hs, if_pos rfl] at hk
    rw [u2_ne _ (by omega), u2_ne _ (by omega), u2_same, pos_00, hs]
    by_cases q : k = a 8
    · rw [if_pos q, if_neg (by omega), if_neg (by omega), if_pos (by omega)]
    · have z := h.me k (by omega)
      rw [pos_00] at z
      rw [if_neg q, if_neg (by omega), if_neg (by omega), if_neg (by omega), if_neg (by omega), u2_ne _ (by omega), z]
  · intro k hk
    rw [hs, if_pos rfl] at hk
    rw [u2_ne _ (by omega), u2_same, pos_00, hs]
    by_cases q : k = a 8
    · rw [if_pos q, if_neg (by omega), if_pos (by omega)]
    · have z := h.mh k (by omega)
      rw [pos_00] at z
      rw [if_neg q, if_neg (by omega), if_neg (by omega), if_neg (by omega), if_neg (by omega), u2_ne _ (by omega), u2_ne _ (by omega), z]
end
section
variable {F b : Nat}
theorem updN_id {a : Nat → Nat} {i x : Nat} (h : x = a i) : updN a i x = a := by
  funext k
  rw [updN_at]
  by_cases q : k = i
  · rw [if_pos q, h, q]
  · rw [if_neg q]
theorem updN_cm {a : Nat → Nat} {i j x y : Nat} (h : i ≠ j) : updN (updN a i x) j y = updN (updN a j y) i x := by
  funext k
  simp only [updN_at]
  by_cases q : k = i
  · rw [if_pos q, if_neg (by omega), if_pos q]
  · rw [if_neg q, if_neg q]
theorem cRenum {M : Mem} (hb : lay b = 1) {v w : Nat} (hv : v < 8) (hw : w < 8) : fX5_renumber F (b + 6) (nI v) (nI w) M = some (rnM b v w M) := renum_n (c := b + 6) (al1_7 hb) (al1_8 hb) (al1_9 hb) hv hw
theorem FR.rn {M : Mem} {v w : Nat} : FR b M (rnM b v w M) := fun c hc => by
  unfold rnM
  rw [u2_ne _ (by omega), u2_ne _ (by omega), u2_ne _ (by omega)]
theorem cCatch (hb : lay b = 1) {μ k0 : Nat} (kx : Int32 → Mem → Option Mem) (m : Nat) : ∀ (v o c : Nat) (a : Nat → Nat) (M : Mem), WF a → v + m = a 8 → a 8 + o ≤ 8 → CL μ (k0 + c) v o M b a → ∀ (n : Nat), m < n → ∃ M' o', fX3_catchMice_25 F b kx n (nI v) (nI (v + o)) M = kx (nI ((sCatch m v c a).2 8)) M' ∧ CL μ (k0 + (sCatch m v c a).1) ((sCatch m v c a).2 8) o' M' b (sCatch m v c a).2 ∧ FR b M M' := by
  induction m with
  | zero =>
    intro v o c a M h hv ho hc n hn
    obtain ⟨n', rfl⟩ : ∃ n', n = n' + 1 := ⟨n - 1, by omega⟩
    have hv0 : v = a 8 := by omega
    rw [fX3_catchMice_25, hc.m, if_pos (le2 (by omega) (by omega) (by omega))]
    subst hv0
    exact ⟨M, o, rfl, hc, FR.rf⟩
  | succ m ih =>
    intro v o c a M h hv ho hc n hn
    have h8 := h.m
    have ht := h.t
    have hs := h.ms v (by omega)
    have hn0 := h.n
    have hct := h.cat_lt
    obtain ⟨n', rfl⟩ : ∃ n', n = n' + 1 := ⟨n - 1, by omega⟩
    have e7 := hc.ms v (by omega)
    have e8 := hc.me v (by omega)
    rw [pos_at] at e7 e8
    rw [fX3_catchMice_25, hc.m, if_neg (nle2 (by omega) (by omega) (by omega)), at_in (al1_7 hb) (by decide) (by omega)]
    simp only [bM]
    rw [e7, hc.cat]
    unfold sCatch
    by_cases q : a (192 + 3 * v) = a 3
    · rw [if_pos (eq2 q), if_pos q, hc.ca, nI_1]
      have c1 := hc.s_ca (k0 + c + 1)
      have e8' := c1.me v (by omega)
      rw [pos_at] at e8'
      simp only [lM]
      rw [at_in (al1_8 hb) (by decide) (by omega)]
      simp only [bM]
      rw [e8', c1.ri, nI_add, nI_1]
      have c2 := (c1.s_ri (a 11 + a (193 + 3 * v))).drop (by show a 2 ≤ 10; omega) (by show v < a 8; omega)
      have h2 : WF (sRm v (updN a 11 (a 11 + a (193 + 3 * v)))) := (h.set (i := 11) _ (by omega)).rm (by show v < a 8; omega)
      have d8 : sRm v (updN a 11 (a 11 + a (193 + 3 * v))) 8 = a 8 - 1 := sRm_8 _ _
      obtain ⟨M3, o3, i1, i2, i3⟩ := ih v (o + 1) (c + 1) _ _ h2 (by omega) (by omega) c2 n' (by omega)
      exact ⟨M3, o3, i1, i2, ((FR.up (by omega)).tr (FR.up (by omega))).tr i3⟩
    · rw [if_neg (ne2 (by omega) (by omega) q), if_neg q, cRenum hb (by omega) (by omega)]
      simp only [bV, lM]
      rw [nI_1, nI_1, show v + o + 1 = v + 1 + o by omega]
      obtain ⟨M3, o3, i1, i2, i3⟩ := ih (v + 1) o c a _ h (by omega) ho (hc.keep ht (by omega)) n' (by omega)
      exact ⟨M3, o3, i1, i2, FR.rn.tr i3⟩
theorem sCatch_9 (m : Nat) : ∀ (v c : Nat) (a : Nat → Nat), WF a → v + m = a 8 → (sCatch m v c a).2 9 = a 9 := by
  induction m with
  | zero => intro v c a h hv; rfl
  | succ m ih =>
    intro v c a h hv
    have h8 := h.m
    unfold sCatch
    split
    · rw [ih v (c + 1) _ ((h.set (i := 11) _ (by omega)).rm (by show v < a 8; omega)) (by rw [sRm_8]; show v + m = a 8 - 1; omega), sRm_lo (k := 9) _ _ (by omega) (by omega) (by show 1 ≤ a 8; omega)]
      rfl
    · exact ih (v + 1) c a h (by omega)
theorem cCatches {μ : Nat} {a : Nat → Nat} {M : Mem} (h : WF a) (hb : lay b = 1) (hF : 13 ≤ F) (hc : CL μ (a 9) 0 0 M b a) : ∃ M', fX3_catchMice F b M = some M' ∧ CL μ ((sCatches a).2 9) 0 0 M' b (sCatches a).2 ∧ FR b M M' := by
  have h8 := h.m
  have hct := h.cat_lt
  unfold fX3_catchMice sCatches
  rw [hc.cat, bit_holdsF (by omega), hc.bl _ (by omega)]
  simp only [bM]
  by_cases q : a (26 + a 3) = 1
  · rw [if_pos (decide_eq_true ⟨by omega, q⟩), if_pos q]
    exact ⟨M, rfl, hc, FR.rf⟩
  · rw [if_neg (by simp [q]), if_neg q]
    obtain ⟨M1, o1, i1, i2, i3⟩ := cCatch (F := F) hb (fun w26 M25 => letM (up2 M25 (b + 6) 3 w26) (fun M27 => some M27)) (a 8) 0 0 0 a M h (by omega) (by omega) hc F (by omega)
    rw [show (0 : Int32) = nI 0 from rfl, show fX3_catchMice_25 F b (fun w26 M25 => letM (up2 M25 (b + 6) 3 w26) (fun M27 => some M27)) F (nI 0) (nI 0) M = _ from i1]
    refine ⟨_, rfl, ?_, i3.tr (FR.up (by omega))⟩
    have z := (i2.s_fin).r9 ((sCatch (a 8) 0 0 a).2 9 + (sCatch (a 8) 0 0 a).1)
    have e : (sCatch (a 8) 0 0 a).2 9 + (sCatch (a 8) 0 0 a).1 = a 9 + (sCatch (a 8) 0 0 a).1 := by rw [sCatch_9 (a 8) 0 0 a h (by omega)]
    rw [← e] at z
    exact z
theorem cRich {a : Nat → Nat} {M : Mem} {c : Nat} (h : WF a) (hg : ∀ k, k < 12 → M (c + 1) k = nI (a (14 + k))) (hN : NB M c a) {q : Nat} (hq : q < a 0) (kx : Int32 → Mem → Option (Int32 × Mem)) (m : Nat) : ∀ (v r : Nat), v + m = 12 → r < 12 → ∀ (n : Nat), m < n → fX9_richestNeighbour_17 F c (M (c + 2) q) kx n (nI r) (if r = q then -1 else nI (a (14 + r))) (nI v) M = kx (nI (sRich a q (a 0 - v) v r)) M := by
  have hn0 := h.n
  induction m with
  | zero =>
    intro v r hv hr n hn
    obtain ⟨n', rfl⟩ : ∃ n', n = n' + 1 := ⟨n - 1, by omega⟩
    rw [fX9_richestNeighbour_17, if_pos (leL (n := 12) (by omega) (by omega) (by omega)), show a 0 - v = 0 by omega]
    rfl
  | succ m ih =>
    intro v r hv hr n hn
    have g1 := h.gr v (by omega)
    have g2 := h.gr r hr
    obtain ⟨n', rfl⟩ : ∃ n', n = n' + 1 := ⟨n - 1, by omega⟩
    rw [fX9_richestNeighbour_17, if_neg (nleL (n := 12) (by omega) (by decide) (by omega)), bit_holdsF (by omega), hN q v (by omega) (by omega)]
    simp only [bM, lM]
    rw [inbN (by omega), nI_1]
    by_cases w : lk a q v = 1
    · have wl := h.ln q v (by omega) (by omega) w
      have wv : v < a 0 := by
        have := h.ln v q (by omega) (by omega) (by rw [h.ls v q (by omega) (by omega)]; exact w)
        omega
      rw [if_pos (decide_eq_true ⟨by omega, w⟩), ckd _ (by omega), ckd _ (by omega), nI_cl (by omega), hg v (by omega), show a 0 - v = (a 0 - (v + 1)) + 1 by omega]
      unfold sRich
      rw [if_pos w]
      by_cases w2 : r = q
      · rw [if_pos w2, if_neg (nle_m1 (by omega)), if_pos w2]
        have z := ih (v + 1) v (by omega) (by omega) n' (by omega)
        rw [if_neg (by omega)] at z
        exact z
      · rw [if_neg w2, if_neg w2]
        by_cases w3 : a (14 + v) ≤ a (14 + r)
        · rw [if_pos (le2 (by omega) (by omega) w3), if_pos w3]
          have z := ih (v + 1) r (by omega) hr n' (by omega)
          rw [if_neg w2] at z
          exact z
        · rw [if_neg (nle2 (by omega) (by omega) (by omega)), if_neg w3]
          have z := ih (v + 1) v (by omega) (by omega) n' (by omega)
          rw [if_neg (by omega)] at z
          exact z
    · rw [if_neg (by simp [w]), ih (v + 1) r (by omega) hr n' (by omega)]
      by_cases w4 : v < a 0
      · rw [show a 0 - v = (a 0 - (v + 1)) + 1 by omega]
        show _ = kx (nI (if lk a q v = 1 then _ else _)) M
        rw [if_neg w]
      · rw [show a 0 - v = 0 by omega, show a 0 - (v + 1) = 0 by omega]
        rfl
theorem cRichest {μ κ v o : Nat} {a : Nat → Nat} {M : Mem} (h : WF a) (hb : lay b = 1) (hF : 13 ≤ F) (hc : CL μ κ v o M b a) {q : Nat} (hq : q < a 0) : fX9_richestNeighbour F (b + 1) (nI q) M = some (nI (sRich a q (a 0) 0 q), M) := by
  have hn0 := h.n
  unfold fX9_richestNeighbour
  rw [at_in (c := b + 1 + 2) (al1_3 hb) (by decide) (by omega)]
  simp only [bM]
  have z := cRich (F := F) (M := M) (c := b + 1) h hc.gr hc.nb hq (fun w21 M20 => some (w21, M20)) 12 0 q (by omega) (by omega) F (by omega)
  rw [if_pos rfl] at z
  exact z
theorem cStays {μ κ v o : Nat} {a : Nat → Nat} {M : Mem} (h : WF a) (hb : lay b = 1) (hF : 13 ≤ F) (hv : v < a 8) (ho : a 8 + o ≤ 8) (hc : CL μ κ v o M b a) : ∃ M', fX3_staysAfterVisit F b (nI (v + o)) M = some (!decide (a (14 + a (192 + 3 * v)) = 0 ∧ a (194 + 3 * v) = 2), M') ∧ CL μ κ v o M' b (if a (14 + a (192 + 3 * v)) = 0 then (if a (194 + 3 * v) = 2 then a else sMov v (sHun v a)) else sEat v (a (192 + 3 * v)) a) ∧ FR b M M' := by
  have h8 := h.m
  have ht := h.t
  have hs := h.ms v (by omega)
  have hn0 := h.n
  have hg := h.gr (a (192 + 3 * v)) (by omega)
  have hh := h.mh v (by omega)
  have e7 := hc.ms v (by omega)
  have e9 := hc.mh v (by omega)
  rw [pos_at] at e7 e9
  unfold fX3_staysAfterVisit
  rw [at_in (al1_7 hb) (by decide) (by omega)]
  simp only [bM]
  rw [e7, at_in (al1_2 hb) (by decide) (by omega)]
  simp only [bM]
  rw [hc.gr _ (by omega)]
  by_cases q : a (14 + a (192 + 3 * v)) = 0
  · rw [if_pos (show nI (a (14 + a (192 + 3 * v))) ≤ 0 by rw [q]; decide), if_pos q, at_in (al1_9 hb) (by decide) (by omega)]
    simp only [bM]
    rw [e9]
    simp only [lM]
    rw [nI_1]
    by_cases q2 : a (194 + 3 * v) = 2
    · rw [if_neg (nltR (n := 3) (by omega) (by decide) (by omega)), if_pos q2]
      exact ⟨M, by rw [decide_eq_true ⟨q, q2⟩]; rfl, hc, FR.rf⟩
    · rw [if_pos (ltR (n := 3) (by omega) (by decide) (by omega)), if_neg q2, put_in (al1_9 hb) (by decide) (by omega)]
      have c1 := hc.s_mh ht v (a (194 + 3 * v) + 1)
      rw [pos_at] at c1
      have w1 := h.hun hv q2
      simp only [bV]
      have w0 : sHun v a 0 = a 0 := updN_ne a (by omega)
      have w2 : sHun v a (192 + 3 * v) = a (192 + 3 * v) := updN_ne a (by omega)
      rw [cRichest w1 hb hF c1 (by rw [w0]; exact hs)]
      simp only [bM]
      have hr := sRich_12 w1 (q := a (192 + 3 * v)) (by omega) (sHun v a 0) 0 (a (192 + 3 * v)) (by omega) (by omega)
      rw [put_in (al1_7 hb) (by decide) (by omega)]
      simp only [bV]
      have c2 := c1.s_ms (by show sHun v a 2 ≤ 10; unfold sHun; rw [updN_ne _ (by omega)]; exact ht) v (sRich (sHun v a) (a (192 + 3 * v)) (sHun v a 0) 0 (a (192 + 3 * v)))
      rw [pos_at] at c2
      refine ⟨_, by rw [decide_eq_false (fun z => q2 z.2)]; rfl, ?_, (FR.up (by omega)).tr (FR.up (by omega))⟩
      unfold sMov
      rw [w2]
      exact c2
  · rw [if_neg (show ¬ nI (a (14 + a (192 + 3 * v))) ≤ 0 from nle0 (by omega) q), if_neg q]
    unfold fX9_addGrams
    rw [at_in (c := b + 1 + 1) (al1_2 hb) (by decide) (by omega)]
    simp only [bM]
    rw [show M (b + 1 + 1) (a (192 + 3 * v)) = nI (a (14 + a (192 + 3 * v))) from hc.gr _ (by omega), show nI (a (14 + a (192 + 3 * v))) + (-1) = nI (a (14 + a (192 + 3 * v)) - 1) by rw [← Int32.sub_eq_add_neg]; exact nI_sub (b := 1) (by omega), put_in (c := b + 1 + 1) (al1_2 hb) (by decide) (by omega)]
    simp only [bV]
    rw [at_in (c := b + 1 + 1) (al1_2 hb) (by decide) (by omega)]
    simp only [bM]
    have c1 := hc.s_gr (i := a (192 + 3 * v)) (by omega) (a (14 + a (192 + 3 * v)) - 1)
    have e8 := c1.me v (by rw [updN_ne _ (by omega)]; exact hv)
    rw [pos_at, updN_ne _ (by omega)] at e8
    unfold fX5_eat
    rw [at_in (c := b + 6 + 2) (al1_8 hb) (by decide) (by omega)]
    simp only [bM]
    rw [show up2 M (b + 1 + 1) (a (192 + 3 * v)) (nI (a (14 + a (192 + 3 * v)) - 1)) (b + 6 + 2) (v + o) = nI (a (193 + 3 * v)) from e8, nI_1, put_in (c := b + 6 + 2) (al1_8 hb) (by decide) (by omega)]
    simp only [bV]
    rw [put_in (c := b + 6 + 3) (al1_9 hb) (by decide) (by omega)]
    simp only [bV, lM]
    have c2 := c1.s_me (by rw [updN_ne _ (by omega)]; exact ht) v (a (193 + 3 * v) + 1)
    have c3 := c2.s_mh (by rw [updN_ne _ (by omega), updN_ne _ (by omega)]; exact ht) v 0
    rw [pos_at] at c2 c3
    have c4 := c3.s_ea (a 12 + 1)
    have e5 := c3.ea
    rw [updN_ne _ (by omega), updN_ne _ (by omega), updN_ne _ (by omega)] at e5
    refine ⟨_, by rw [decide_eq_false (fun z => q z.1)]; rfl, ?_, (((FR.up (c := b + 2) (by omega)).tr (FR.up (c := b + 8) (by omega))).tr (FR.up (c := b + 9) (by omega))).tr (FR.up (c := b) (by omega))⟩
    unfold sEat
    rw [updN_cm (by omega)] at c4
    have e6 : (0 : Int32) = nI 0 := rfl
    rw [e6]
    rw [show up2 (up2 (up2 M (b + 1 + 1) (a (192 + 3 * v)) (nI (a (14 + a (192 + 3 * v)) - 1))) (b + 6 + 2) (v + o) (nI (a (193 + 3 * v) + 1))) (b + 6 + 3) (v + o) (nI 0) b 7 = nI (a 12) from e5, nI_1]
    exact c4
theorem cVis (hb : lay b = 1) (hF : 13 ≤ F) {μ κ : Nat} (kx : Int32 → Mem → Option Mem) (m : Nat) : ∀ (v o : Nat) (a : Nat → Nat) (M : Mem), WF a → v + m = a 8 → a 8 + o ≤ 8 → CL μ κ v o M b a → ∀ (n : Nat), m < n → ∃ M' o', fX3_visitMice_4 F b kx n (nI v) (nI (v + o)) M = kx (nI (sVis m v a 8)) M' ∧ CL μ κ (sVis m v a 8) o' M' b (sVis m v a) ∧ FR b M M' := by
  induction m with
  | zero =>
    intro v o a M h hv ho hc n hn
    obtain ⟨n', rfl⟩ : ∃ n', n = n' + 1 := ⟨n - 1, by omega⟩
    have hv0 : v = a 8 := by omega
    rw [fX3_visitMice_4, hc.m, if_pos (le2 (by omega) (by omega) (by omega))]
    subst hv0
    exact ⟨M, o, rfl, hc, FR.rf⟩
  | succ m ih =>
    intro v o a M h hv ho hc n hn
    have h8 := h.m
    have ht := h.t
    have hs := h.ms v (by omega)
    have hn0 := h.n
    obtain ⟨n', rfl⟩ : ∃ n', n = n' + 1 := ⟨n - 1, by omega⟩
    obtain ⟨M1, i1, i2, i3⟩ := cStays (F := F) h hb hF (v := v) (by omega) ho hc
    rw [fX3_visitMice_4, hc.m, if_neg (nle2 (by omega) (by omega) (by omega)), i1]
    simp only [bM]
    unfold sVis
    by_cases q : a (14 + a (192 + 3 * v)) = 0
    · rw [if_pos q] at i2 ⊢
      by_cases q2 : a (194 + 3 * v) = 2
      · rw [if_pos q2] at i2 ⊢
        rw [if_neg (by simp [q, q2]), i2.go, nI_1, nI_1]
        simp only [lM]
        have c2 := (i2.drop ht (by omega)).s_go (a 10 + 1)
        have h2 := h.go (v := v) (by omega)
        have d8 : sGo v a 8 = a 8 - 1 := by unfold sGo; rw [updN_ne _ (by omega), sRm_8]
        obtain ⟨M3, o3, k1, k2, k3⟩ := ih v (o + 1) _ _ h2 (by omega) (by omega) c2 n' (by omega)
        exact ⟨M3, o3, k1, k2, (i3.tr (FR.up (by omega))).tr k3⟩
      · rw [if_neg q2] at i2 ⊢
        rw [if_pos (by simp [q2]), cRenum hb (by omega) (by omega)]
        simp only [bV, lM]
        rw [nI_1, nI_1, show v + o + 1 = v + 1 + o by omega]
        have w8 : sHun v a 8 = a 8 := updN_ne a (by omega)
        have w2 : sHun v a 2 = a 2 := updN_ne a (by omega)
        have h2 := (h.hun (v := v) (by omega) q2).mov (v := v) (by omega)
        have d8 : sMov v (sHun v a) 8 = a 8 := by unfold sMov; rw [updN_ne _ (by omega), w8]
        have d2 : sMov v (sHun v a) 2 = a 2 := by unfold sMov; rw [updN_ne _ (by omega), w2]
        obtain ⟨M3, o3, k1, k2, k3⟩ := ih (v + 1) o _ _ h2 (by omega) (by omega) (i2.keep (by omega) (by omega)) n' (by omega)
        exact ⟨M3, o3, k1, k2, (i3.tr FR.rn).tr k3⟩
    · rw [if_neg q] at i2 ⊢
      rw [if_pos (by simp [q]), cRenum hb (by omega) (by omega)]
      simp only [bV, lM]
      rw [nI_1, nI_1, show v + o + 1 = v + 1 + o by omega]
      have h2 := h.eat (v := v) (by omega)
      have d8 : sEat v (a (192 + 3 * v)) a 8 = a 8 := by unfold sEat; rw [updN_ne _ (by omega), updN_ne _ (by omega), updN_ne _ (by omega), updN_ne _ (by omega)]
      have d2 : sEat v (a (192 + 3 * v)) a 2 = a 2 := by unfold sEat; rw [updN_ne _ (by omega), updN_ne _ (by omega), updN_ne _ (by omega), updN_ne _ (by omega)]
      obtain ⟨M3, o3, k1, k2, k3⟩ := ih (v + 1) o _ _ h2 (by omega) (by omega) (i2.keep (by omega) (by omega)) n' (by omega)
      exact ⟨M3, o3, k1, k2, (i3.tr FR.rn).tr k3⟩
theorem cVisit {μ κ : Nat} {a : Nat → Nat} {M : Mem} (h : WF a) (hb : lay b = 1) (hF : 13 ≤ F) (hc : CL μ κ 0 0 M b a) : ∃ M', fX3_visitMice F b M = some M' ∧ CL μ κ 0 0 M' b (sVis (a 8) 0 a) ∧ FR b M M' := by
  have h8 := h.m
  unfold fX3_visitMice
  obtain ⟨M1, o1, i1, i2, i3⟩ := cVis hb hF (fun w17 M16 => letM (up2 M16 (b + 6) 3 w17) (fun M18 => some M18)) (a 8) 0 0 a M h (by omega) (by omega) hc F (by omega)
  rw [show (0 : Int32) = nI 0 from rfl, show fX3_visitMice_4 F b (fun w17 M16 => letM (up2 M16 (b + 6) 3 w17) (fun M18 => some M18)) F (nI 0) (nI 0) M = _ from i1]
  exact ⟨_, rfl, i2.s_fin, i3.tr (FR.up (by omega))⟩
theorem cApp {μ κ : Nat} {a : Nat → Nat} {M : Mem} (h : WF a) (hb : lay b = 1) (hc : CL μ κ 0 0 M b a) : ∃ M', fX3_drawMouse F b M = some M' ∧ CL μ κ 0 0 M' b (sApp a) ∧ FR b M M' := by
  have h8 := h.m
  have hn0 := h.n
  have ht := h.t
  have hr := h.rate
  have h6 := h.seed
  have hx := sSeed_lt a
  unfold fX3_drawMouse
  rw [hc.seed, seedN h6]
  simp only [lM]
  have c1 := hc.s_seed (sSeed a)
  have e5 : updN a 6 (sSeed a) 5 = a 5 := updN_ne a (by decide)
  have e0 : updN a 6 (sSeed a) 0 = a 0 := updN_ne a (by decide)
  have e2 : updN a 6 (sSeed a) 2 = a 2 := updN_ne a (by decide)
  have e8 : updN a 6 (sSeed a) 8 = a 8 := updN_ne a (by decide)
  have e6 : updN a 6 (sSeed a) 6 = sSeed a := updN_same a _ _
  rw [c1.rate, c1.seed, c1.n, c1.m, e5, e6, e0, e8, lit 16, irmN (by omega) (by omega), Nat.add_zero]
  unfold sApp
  by_cases q1 : a 5 ≤ sSeed a % 16
  · rw [if_pos (le2 (by omega) (by omega) q1), if_pos (Or.inl q1)]
    exact ⟨_, rfl, c1, FR.up (by omega)⟩
  · rw [if_neg (nle2 (by omega) (by omega) (by omega))]
    by_cases q2 : a 0 = 0
    · rw [if_pos (show nI (a 0) ≤ 0 by rw [q2]; decide), if_pos (Or.inr (Or.inl q2))]
      exact ⟨_, rfl, c1, FR.up (by omega)⟩
    · rw [if_neg (show ¬ nI (a 0) ≤ 0 from nle0 (by omega) q2)]
      by_cases q3 : a 8 = 8
      · rw [if_pos (show (8 : Int32) ≤ nI (a 8) from leL (n := 8) (by omega) (by decide) (by omega)), if_pos (Or.inr (Or.inr q3))]
        exact ⟨_, rfl, c1, FR.up (by omega)⟩
      · have hm := mod_lt' (x := sSeed a / 16) (t := a 0) (by omega)
        rw [if_neg (show ¬ (8 : Int32) ≤ nI (a 8) from nleL (n := 8) (by omega) (by decide) (by omega)), if_neg (by omega), ckd _ (show ¬ nI (a 0) = 0 from neL (by omega) (by decide) q2), nI_div (by omega) (by omega), irmN (by omega) (by omega)]
        unfold fX5_appear
        have m1 := c1.m
        rw [e8, Nat.add_zero] at m1
        rw [m1, put_in (c := b + 6 + 1) (al1_7 hb) (by decide) (by omega)]
        simp only [bV]
        rw [u2_ne _ (by omega), m1, put_in (c := b + 6 + 2) (al1_8 hb) (by decide) (by omega)]
        simp only [bV]
        rw [u2_ne _ (by omega), u2_ne _ (by omega), m1, put_in (c := b + 6 + 3) (al1_9 hb) (by decide) (by omega)]
        simp only [bV, lM]
        rw [u2_ne _ (by omega), u2_ne _ (by omega), u2_ne _ (by omega), m1, nI_1]
        have c2 := c1.app8 (by omega) (sSeed a / 16 % a 0)
        unfold sNew
        rw [e8] at c2
        rw [e8, e6, e0]
        exact ⟨_, rfl, c2, ((((FR.up (by omega)).tr (FR.up (by omega))).tr (FR.up (by omega))).tr (FR.up (by omega))).tr (FR.up (by omega))⟩
theorem cWalks {μ κ : Nat} {a : Nat → Nat} {M : Mem} (h : WF a) (hb : lay b = 1) (hF : 13 ≤ F) (hc : CL μ κ 0 0 M b a) : ∃ M', (bindM (fX3_shelfAfterWalk F b M) (fun r6 M4 => letM (up2 M4 (b + 4) 2 r6) (fun M7 => fX6_leaveReachedGoal F (b + 4) M7))) = some M' ∧ CL μ κ 0 0 M' b (sWalks a) ∧ FR b M M' := by
  have hn0 := h.n
  have ht := h.t
  have hg := h.goal_lt
  rw [cWalk h hF hb hc]
  simp only [bM, lM]
  have c1 := hc.s_cat (sWalked a)
  have e2 : updN a 3 (sWalked a) 2 = a 2 := updN_ne a (by decide)
  have e4 : updN a 3 (sWalked a) 4 = a 4 := updN_ne a (by decide)
  have t1 := c1.t
  have g1 := c1.goal
  have k1 := c1.cat
  rw [e2] at t1
  rw [e4] at g1
  rw [updN_same] at k1
  unfold fX6_leaveReachedGoal sWalks
  rw [t1]
  by_cases q : a 2 = 0
  · rw [if_pos (show nI (a 2) ≤ 0 by rw [q]; decide), if_pos q]
    refine ⟨_, rfl, ?_, FR.up (by omega)⟩
    have z : updN a 3 (sWalked a) = a := updN_id (by unfold sWalked; rw [if_pos q])
    rw [z] at c1
    exact c1
  · have h1 := h.tgt_lt q
    have h2 := sWalked_lt h
    have h3 := h.cat_n q
    have hgl : a 4 < a 2 := by have := h.goal; omega
    rw [if_neg (show ¬ nI (a 2) ≤ 0 from nle0 (by omega) q), if_neg q]
    unfold fX6_shelfOfGoal
    rw [g1, at_in (c := b + 4 + 1) (al1_5 hb) (by decide) (by omega)]
    simp only [bM]
    have s1 := c1.st (a 4) (by rw [e2]; exact hgl)
    rw [updN_ne _ (by omega)] at s1
    rw [show up2 M (b + 4) 2 (nI (sWalked a)) (b + 4 + 1) (a 4) = nI (a (182 + a 4)) from s1, k1]
    by_cases w : sWalked a = tgt a
    · rw [if_pos (show nI (sWalked a) = nI (a (182 + a 4)) from eq2 w), if_pos w, g1, stopAfter_n t1 (by omega) hgl]
      simp only [bM, lM]
      exact ⟨_, rfl, c1.s_goal _, (FR.up (by omega)).tr (FR.up (by omega))⟩
    · rw [if_neg (show ¬ nI (sWalked a) = nI (a (182 + a 4)) from ne2 (by omega) (show tgt a < _ by omega) w), if_neg w]
      exact ⟨_, rfl, c1, FR.up (by omega)⟩
theorem sWalks_9 (a : Nat → Nat) : sWalks a 9 = a 9 := by
  unfold sWalks
  split
  · rfl
  · split <;> rfl
theorem sEat_lo (v s : Nat) (a : Nat → Nat) {k : Nat} (h : k < 12) : sEat v s a k = a k := by
  unfold sEat
  rw [updN_ne _ (by omega), updN_ne _ (by omega), updN_ne _ (by omega), updN_ne _ (by omega)]
theorem sVis_lo (m : Nat) : ∀ (v : Nat) (a : Nat → Nat), WF a → v + m = a 8 → ∀ k, (k < 8 ∨ k = 9) → sVis m v a k = a k := by
  induction m with
  | zero => intro v a h hv k hk; rfl
  | succ m ih =>
    intro v a h hv k hk
    have h8 := h.m
    unfold sVis
    split
    · split
      · rw [ih v _ (h.go (by omega)) (by unfold sGo; rw [updN_ne _ (by omega), sRm_8]; omega) k hk]
        unfold sGo
        rw [updN_ne _ (by omega), sRm_lo _ _ (by omega) (by omega) (by omega)]
      · rename_i q2
        have w8 : sHun v a 8 = a 8 := updN_ne a (by omega)
        rw [ih (v + 1) _ ((h.hun (v := v) (by omega) q2).mov (by omega)) (by unfold sMov; rw [updN_ne _ (by omega), w8]; omega) k hk]
        unfold sMov sHun
        rw [updN_ne _ (by omega), updN_ne _ (by omega)]
    · rw [ih (v + 1) _ (h.eat (by omega)) (by rw [sEat_lo _ _ _ (by omega)]; omega) k hk, sEat_lo _ _ _ (by omega)]
theorem sApp_lo (a : Nat → Nat) (k : Nat) (h : k = 7 ∨ k = 9) : sApp a k = a k := by
  unfold sApp sNew
  have e8 : updN a 6 (sSeed a) 8 = a 8 := updN_ne a (by decide)
  split
  · exact updN_ne a (by omega)
  · rw [e8, updN_ne _ (by omega), updN_ne _ (by omega), updN_ne _ (by omega), updN_ne _ (by omega), updN_ne _ (by omega)]
theorem cOne {a : Nat → Nat} {M : Mem} (h : WF a) (hb : lay b = 1) (hF : 13 ≤ F) (hc : CL (a 7) (a 9) 0 0 M b a) : ∃ M', (bindM (fX3_shelfAfterWalk F b M) (fun r6 M4 => letM (up2 M4 (b + 4) 2 r6) (fun M7 => bindV (fX6_leaveReachedGoal F (b + 4) M7) (fun M9 => bindV (fX3_catchMice F b M9) (fun M11 => bindV (fX3_visitMice F b M11) (fun M13 => fX3_drawMouse F b M13)))))) = some M' ∧ CL (a 7) ((sOne a).2 9) 0 0 M' b (sOne a).2 ∧ FR b M M' := by
  have h0 := h.set (i := 7) (a 7 + 1) (by omega)
  obtain ⟨M1, i1, i2, i3⟩ := cWalks (F := F) h0 hb hF (hc.r7 (a 7 + 1))
  obtain ⟨r, Mr, ir⟩ : ∃ r Mr, fX3_shelfAfterWalk F b M = some (r, Mr) := ⟨_, _, cWalk h0 hF hb (hc.r7 (a 7 + 1))⟩
  rw [ir] at i1 ⊢
  simp only [bM, lM] at i1 ⊢
  rw [i1]
  simp only [bV]
  have w9 : sWalks (updN a 7 (a 7 + 1)) 9 = a 9 := by rw [sWalks_9]; rfl
  rw [← w9] at i2
  obtain ⟨M2, j1, j2, j3⟩ := cCatches (F := F) h0.walks hb hF i2
  rw [j1]
  simp only [bV]
  have h2 := h0.walks.catches
  obtain ⟨M3, k1, k2, k3⟩ := cVisit (F := F) h2 hb hF j2
  rw [k1]
  simp only [bV]
  have h3 := WF.vis ((sCatches (sWalks (updN a 7 (a 7 + 1)))).2 8) 0 _ h2 (by omega)
  obtain ⟨M4, l1, l2, l3⟩ := cApp (F := F) h3 hb k2
  refine ⟨M4, l1, ?_, ((i3.tr j3).tr k3).tr l3⟩
  have e9 : (sOne a).2 9 = (sCatches (sWalks (updN a 7 (a 7 + 1)))).2 9 := by
    unfold sOne
    simp only []
    rw [sApp_lo _ 9 (Or.inr rfl), sVis_lo _ 0 _ h2 (by omega) 9 (Or.inr rfl)]
  rw [e9]
  exact l2
theorem sCatch_7 (m : Nat) : ∀ (v c : Nat) (a : Nat → Nat), WF a → v + m = a 8 → (sCatch m v c a).2 7 = a 7 := by
  induction m with
  | zero => intro v c a h hv; rfl
  | succ m ih =>
    intro v c a h hv
    have h8 := h.m
    unfold sCatch
    split
    · rw [ih v (c + 1) _ ((h.set (i := 11) _ (by omega)).rm (by show v < a 8; omega)) (by rw [sRm_8]; show v + m = a 8 - 1; omega), sRm_lo (k := 7) _ _ (by omega) (by omega) (by show 1 ≤ a 8; omega)]
      rfl
    · exact ih (v + 1) c a h (by omega)
theorem sWalks_7 (a : Nat → Nat) : sWalks a 7 = a 7 := by
  unfold sWalks
  split
  · rfl
  · split <;> rfl
theorem sCatches_9 {a : Nat → Nat} (h : WF a) : (sCatches a).2 9 = a 9 + (sCatches a).1 ∧ (sCatches a).2 7 = a 7 := by
  unfold sCatches
  split
  · exact ⟨rfl, rfl⟩
  · constructor
    · show updN (sCatch (a 8) 0 0 a).2 9 ((sCatch (a 8) 0 0 a).2 9 + (sCatch (a 8) 0 0 a).1) 9 = a 9 + (sCatch (a 8) 0 0 a).1
      rw [updN_same, sCatch_9 _ 0 0 a h (by omega)]
    · show updN (sCatch (a 8) 0 0 a).2 9 ((sCatch (a 8) 0 0 a).2 9 + (sCatch (a 8) 0 0 a).1) 7 = a 7
      rw [updN_ne _ (by omega), sCatch_7 _ 0 0 a h (by omega)]
theorem sOne_9 {a : Nat → Nat} (h : WF a) : (sOne a).2 9 = a 9 + (sOne a).1 ∧ (sOne a).2 7 = a 7 + 1 := by
  have h0 := h.set (i := 7) (a 7 + 1) (by omega)
  have h1 := sCatches_9 h0.walks
  have h2 := h0.walks.catches
  unfold sOne
  simp only []
  rw [sApp_lo _ 9 (Or.inr rfl), sVis_lo _ 0 _ h2 (by omega) 9 (Or.inr rfl), sApp_lo _ 7 (Or.inl rfl), sVis_lo _ 0 _ h2 (by omega) 7 (by omega), h1.1, h1.2, sWalks_9, sWalks_7]
  exact ⟨rfl, rfl⟩
theorem sPass_9 (t : Nat) : ∀ a, WF a → (sPass t a).2 9 = a 9 + (sPass t a).1 := by
  induction t with
  | zero => intro a h; rfl
  | succ t ih =>
    intro a h
    unfold sPass
    rw [ih _ h.one, (sOne_9 h).1, Nat.add_assoc]
theorem cPass_loop (hb : lay b = 1) (hF : 13 ≤ F) {t : Nat} (ht : t ≤ 60) (q2 : Int32) (kx : Mem → Option (Int32 × Mem)) (m : Nat) : ∀ (v : Nat) (a : Nat → Nat) (M : Mem), WF a → v + m = t → CL (a 7) (a 9) 0 0 M b a → ∀ (n : Nat), m < n → ∃ M', fX3_letPass_7 F b (nI t) q2 kx n (nI v) M = kx M' ∧ CL ((sPass m a).2 7) ((sPass m a).2 9) 0 0 M' b (sPass m a).2 ∧ FR b M M' := by
  induction m with
  | zero =>
    intro v a M h hv hc n hn
    obtain ⟨n', rfl⟩ : ∃ n', n = n' + 1 := ⟨n - 1, by omega⟩
    rw [fX3_letPass_7, if_pos (le2 (by omega) (by omega) (by omega))]
    exact ⟨M, rfl, hc, FR.rf⟩
  | succ m ih =>
    intro v a M h hv hc n hn
    obtain ⟨n', rfl⟩ : ∃ n', n = n' + 1 := ⟨n - 1, by omega⟩
    rw [fX3_letPass_7, if_neg (nle2 (by omega) (by omega) (by omega))]
    obtain ⟨M1, i1, i2, i3⟩ := cOne (F := F) h hb hF hc
    cases e1 : fX3_shelfAfterWalk F b M with
    | none => rw [e1] at i1; exact absurd i1 (by simp [bindM])
    | some x1 =>
      obtain ⟨r1, N1⟩ := x1
      rw [e1] at i1
      simp only [bM, lM] at i1 ⊢
      cases e2 : fX6_leaveReachedGoal F (b + 4) (up2 N1 (b + 4) 2 r1) with
      | none => rw [e2] at i1; exact absurd i1 (by simp [bindV])
      | some N2 =>
        rw [e2] at i1
        simp only [bV] at i1 ⊢
        cases e3 : fX3_catchMice F b N2 with
        | none => rw [e3] at i1; exact absurd i1 (by simp [bindV])
        | some N3 =>
          rw [e3] at i1
          simp only [bV] at i1 ⊢
          cases e4 : fX3_visitMice F b N3 with
          | none => rw [e4] at i1; exact absurd i1 (by simp [bindV])
          | some N4 =>
            rw [e4] at i1
            simp only [bV] at i1 ⊢
            rw [i1]
            simp only [bV]
            have s9 := sOne_9 h
            have c2 := i2.s_mi ((sOne a).2 7)
            obtain ⟨M3, k1, k2, k3⟩ := ih (v + 1) _ _ h.one (by omega) c2 n' (by omega)
            rw [i2.mi, nI_1, nI_1, ← s9.2, k1]
            exact ⟨M3, rfl, k2, (i3.tr (FR.up (by omega))).tr k3⟩
def CC (M : Mem) (b : Nat) (a : Nat → Nat) : Prop := CL (a 7) (a 9) 0 0 M b a
theorem cPass {a : Nat → Nat} {M : Mem} (h : WF a) (hb : lay b = 1) (hF : 100 ≤ F) {t : Nat} (ht : t ≤ 60) (hc : CC M b a) : ∃ M', fX3_letPass F b (nI t) M = some (nI (sPass t a).1, M') ∧ CC M' b (sPass t a).2 ∧ FR b M M' := by
  unfold fX3_letPass
  obtain ⟨M1, i1, i2, i3⟩ := cPass_loop (F := F) hb (by omega) ht (M b 8) (fun M21 => some (((M21 b 8) - (M b 8)), M21)) t 0 a M h (by omega) hc F (by omega)
  simp only [lM]
  rw [show (0 : Int32) = nI 0 from rfl, i1]
  refine ⟨M1, ?_, i2, i3⟩
  have e : M b 8 = nI (a 9) := hc.ca
  rw [i2.ca, e, sPass_9 t a h, nI_sub (by omega), Nat.add_sub_cancel_left]
end
