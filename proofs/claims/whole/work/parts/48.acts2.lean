/-! PURE: brought, order, reach, strength, secret -/
section PD
variable {A : Nat → Nat} {σ τ : js_S}
theorem pc_putUp0 (hC : pv_C A σ 1) (hB : pv_B A) {f b s : Nat} (hf : f < A 0) (hb : b < 8) (hs : s ≤ 9) : ∃ σ', fX0_putUp (nI f) (nI b) (nI s) (0 : Int32) σ = some σ' ∧ pv_EC σ σ' ∧ pv_br σ' (ps_br A f s 0 (b + 1)) := by
  obtain ⟨σ', e1, e2, e3⟩ := pc_putUp (d := 0) hC hB hf hb hs (by decide)
  rw [Nat.zero_mul] at e3
  exact ⟨σ', e1, e2, e3⟩
theorem pc_brings {q : Nat × (Nat → Nat)} (h : pv_br σ q) (w : Int32) : fX0_brings w σ = some (if (w &&& (ps_bset q ^^^ (-1 : Int32))) = 0 then 1 else 0) := by
  unfold fX0_brings
  rw [h.2.1]
  split <;> rfl
/-- a brush's arguments: both refuse alike, or all is well -/
theorem pg_brush (h : pv_R σ τ) {a b c : Int32} (X : js_S → Option (Int32 × js_S)) (Y : js_S → Option (Int32 × js_S)) (k : ∀ A f q s, pv_B A → pv_C A σ 1 → pv_M A τ 1 → f < A 0 → q < 8 → 1 ≤ s → s ≤ 9 → a = nI f → b = nI q → c = nI s → pv_G (X σ) (Y τ)) :
    pv_G ((fX7_isPlace a b σ).bind fun r1 => (if r1 = 0 then (fX7_found (-1000000001 : Int32) σ).bind fun r2 => some (r2.1, r2.2) else (if (fX7_isStrength c) = 0 then (fX7_found (-1000000001 : Int32) σ).bind fun r4 => some (r4.1, r4.2) else X σ))) ((fX8_isBrush a b c τ).bind fun r1 => (if r1 = 0 then (fX8_finds (-1000000001 : Int32) τ).bind fun r3 => some (r3.1, r3.2) else Y τ)) := by
  have h0 := h
  obtain ⟨⟨A, hB, hd, hC, hM⟩, -, -⟩ := h0
  have h6 := hB.many
  rw [pm_isBrush hM hB, Option.bind_some, pc_isPlace hC hB, Option.bind_some, pu_C_isStrength]
  by_cases h1 : pu_in a (A 0) ∧ pu_in b 8
  · rw [if_pos h1, pu_10]
    by_cases h2 : pu_st c
    · have h12 : pu_in a (A 0) ∧ pu_in b 8 ∧ pu_st c := ⟨h1.1, h1.2, h2⟩
      rw [if_pos h2, if_pos h12, pu_10, pu_10]
      obtain ⟨f, hf, e1⟩ := pu_in_of h1.1 (by omega)
      obtain ⟨q, hq, e2⟩ := pu_in_of h1.2 (by omega)
      obtain ⟨s, hs1, hs, e3⟩ := pu_st_of h2
      exact k A f q s hB hC hM hf hq hs1 hs e1 e2 e3
    · have h12 : ¬ (pu_in a (A 0) ∧ pu_in b 8 ∧ pu_st c) := fun q => h2 q.2.2
      rw [if_neg h2, if_neg h12, pu_00, pu_00, pv_found0, pv_finds0]
      exact pv_G.found h 0
  · have h12 : ¬ (pu_in a (A 0) ∧ pu_in b 8 ∧ pu_st c) := fun q => h1 ⟨q.1, q.2.1⟩
    rw [if_neg h1, if_neg h12, pu_00, pu_00, pv_found0, pv_finds0]
    exact pv_G.found h 0
theorem pg_brought (h : pv_R σ τ) (a b c : Int32) : pv_G (fX7_brought a b c σ) (fX8_brought a b c τ) := by
  refine pg_brush h (fun σ => (fX0_putUp a b c (0 : Int32) σ).bind fun r3 => some ((r3.1 11 1), r3)) (fun τ => (fX8_broughtBy a b c τ).bind fun r3 => some (r3.1, r3.2)) ?_
  intro A f q s hB hC hM hf hq hs1 hs e1 e2 e3
  subst e1 e2 e3
  have h6 := hB.many
  obtain ⟨σ', c1, c2, c3⟩ := pc_putUp0 hC hB hf hq hs
  obtain ⟨τ', d1, d2, d3⟩ := pm_broughtBy hM hB (show f < 6 by omega) hq hs
  show pv_G ((fX0_putUp _ _ _ _ σ).bind _) ((fX8_broughtBy _ _ _ τ).bind _)
  rw [c1, d1, Option.bind_some, Option.bind_some, c3.2.1]
  exact pv_G.of h c2 d2
theorem pg_order (h : pv_R σ τ) (a b c d : Int32) : pv_G (fX7_order a b c d σ) (fX8_order a b c d τ) := by
  refine pg_brush h (fun σ => if 0 ≤ d then (fX0_putUp a b c (0 : Int32) σ).bind fun r4 => (if (r4.1 11 0) ≤ d then (fX7_found (-1000000004 : Int32) r4).bind fun r5 => some (r5.1, r5.2) else (fX0_word d r4).bind fun r6 => some (r6, r4)) else (fX7_found (-1000000001 : Int32) σ).bind fun r7 => some (r7.1, r7.2)) (fun σ => (if 0 ≤ d then (fX8_brings a b c σ).bind fun r3 => (if (r3.1 0 7) ≤ d then (fX8_finds (-1000000004 : Int32) r3).bind fun r4 => some (r4.1, r4.2) else js_gd (js_ix d 48) (some ((r3.1 6 (Int32.toNatClampNeg d)), r3))) else (fX8_finds (-1000000001 : Int32) σ).bind fun r5 => some (r5.1, r5.2))) ?_
  intro A f q s hB hC hM hf hq hs1 hs e1 e2 e3
  subst e1 e2 e3
  have h6 := hB.many
  show pv_G (if 0 ≤ d then _ else _) (if 0 ≤ d then _ else _)
  by_cases h1 : 0 ≤ d
  · rw [if_pos h1, if_pos h1]
    obtain ⟨σ', c1, c2, c3⟩ := pc_putUp0 hC hB hf hq hs
    obtain ⟨τ', d1, d2, d3⟩ := pm_brings hM hB (show f < 6 by omega) hq hs
    rw [c1, d1, Option.bind_some, Option.bind_some, c3.1, d3.1]
    have hl := ps_br_lt hB (s := s) (more := 0) (show f < 6 by omega) (q + 1) (by omega)
    obtain ⟨j, hj, rfl⟩ : ∃ j : Nat, j < 2 ^ 31 ∧ d = nI j := nI_of (fun x => by
      rw [fa_le] at h1
      rw [fa_lt] at x
      omega)
    by_cases h2 : (ps_br A f s 0 (q + 1)).1 ≤ j
    · rw [if_pos (nI_le h2 hj), if_pos (nI_le h2 hj), pv_found3, pv_finds3]
      exact pv_G.found (h.keep c2 d2) 3
    · rw [if_neg (nI_ge (by omega) (by omega)), if_neg (nI_ge (by omega) (by omega))]
      unfold fX0_word
      rw [if_neg (nI_pos hj), c3.1, if_neg (nI_ge (by omega) (by omega)), pu_gd (by omega) (by decide), pu_gd (by omega) (by decide), pu_cl hj, c3.2.2 j (by omega), d3.2 j (by omega)]
      exact pv_G.of h c2 d2
  · rw [if_neg h1, if_neg h1, pv_found0, pv_finds0]
    exact pv_G.found h 0
theorem pg_reachL (hB : pv_B A) {f s : Nat} (hf : f < A 0) (hs : s ≤ 9) (w : Int32) : ∀ d b n m σ τ, b + d = 8 → d < n → d < m → pv_R σ τ → pv_C A σ 1 → pv_M A τ 1 → pv_G (fX7_reach_L35 (nI f) w (nI s) n (nI b) σ) (fX8_reach_L32 (nI f) w (nI s) m (nI b) τ)
  | 0, b, n, m, σ, τ, hb, hn, hm, h, hC, hM => by
    obtain ⟨n, rfl⟩ : ∃ m, n = m + 1 := ⟨n - 1, by omega⟩
    obtain ⟨m, rfl⟩ : ∃ k, m = k + 1 := ⟨m - 1, by omega⟩
    have : b = 8 := by omega
    subst this
    rw [fX7_reach_L35, fX8_reach_L32, if_pos (show (8 : Int32) ≤ nI 8 from nI_le (Nat.le_refl 8) (by decide)), if_pos (show (8 : Int32) ≤ nI 8 from nI_le (Nat.le_refl 8) (by decide)), pv_found3, pv_finds3]
    exact pv_G.found h 3
  | d + 1, b, n, m, σ, τ, hb, hn, hm, h, hC, hM => by
    obtain ⟨n, rfl⟩ : ∃ m, n = m + 1 := ⟨n - 1, by omega⟩
    obtain ⟨m, rfl⟩ : ∃ k, m = k + 1 := ⟨m - 1, by omega⟩
    have h6 := hB.many
    obtain ⟨σ', c1, c2, c3⟩ := pc_putUp0 hC hB hf (show b < 8 by omega) hs
    obtain ⟨τ', d1, d2, d3⟩ := pm_broughtBy hM hB (show f < 6 by omega) (show b < 8 by omega) hs
    rw [fX7_reach_L35, fX8_reach_L32, if_neg (show ¬ (8 : Int32) ≤ nI b from nI_ge (b := 8) (by omega) (by decide)), if_neg (show ¬ (8 : Int32) ≤ nI b from nI_ge (b := 8) (by omega) (by decide)), c1, d1, Option.bind_some, Option.bind_some, pc_brings c3, Option.bind_some, nI_1]
    by_cases e : (w &&& (ps_bset (ps_br A f s 0 (b + 1)) ^^^ (-1 : Int32))) = 0
    · rw [if_pos e, if_pos e, pu_10]
      exact pv_G.of h c2 d2
    · rw [if_neg e, if_neg e, pu_00]
      exact pg_reachL hB hf hs w d (b + 1) n m σ' τ' (by omega) (by omega) (by omega) (h.keep c2 d2) (c2.C hC) (d2.M hM)
theorem pg_reach (h : pv_R σ τ) (a b c : Int32) : pv_G (fX7_reach a b c σ) (fX8_reach a b c τ) := by
  have h0 := h
  obtain ⟨⟨A, hB, hd, hC, hM⟩, -, -⟩ := h0
  have h6 := hB.many
  unfold fX7_reach fX8_reach
  rw [pc_hasFlue hC hB, pm_isFlue hM hB, Option.bind_some, Option.bind_some, pu_C_isSet, pu_M_areWords, pu_C_isStrength, pu_M_isStrength]
  by_cases h1 : pu_in a (A 0)
  · rw [if_pos h1, pu_10, pu_10]
    obtain ⟨f, hf, rfl⟩ := pu_in_of h1 (by omega)
    by_cases h2 : pu_in b 65536
    · rw [if_pos h2, pu_10, pu_10]
      by_cases h3 : pu_st c
      · rw [if_pos h3, pu_10, pu_10]
        obtain ⟨s, hs1, hs, rfl⟩ := pu_st_of h3
        exact pg_reachL hB hf hs b 8 0 js_FU js_FU σ τ (by decide) (by decide) (by decide) h hC hM
      · rw [if_neg h3, pu_00, pu_00, pv_found0, pv_finds0]
        exact pv_G.found h 0
    · rw [if_neg h2, pu_00, pu_00, pv_found0, pv_finds0]
      exact pv_G.found h 0
  · rw [if_neg h1, pu_00, pu_00, pv_found0, pv_finds0]
    exact pv_G.found h 0
theorem pg_strengthL (hB : pv_B A) {f q : Nat} (hf : f < A 0) (hq : q < 8) (w : Int32) : ∀ d s n m σ τ, s + d = 10 → d < n → d < m → pv_R σ τ → pv_C A σ 1 → pv_M A τ 1 → pv_G (fX7_strength_L26 (nI f) (nI q) w n (nI s) σ) (fX8_strength_L32 (nI f) (nI q) w m (nI s) τ)
  | 0, s, n, m, σ, τ, hb, hn, hm, h, hC, hM => by
    obtain ⟨n, rfl⟩ : ∃ m, n = m + 1 := ⟨n - 1, by omega⟩
    obtain ⟨m, rfl⟩ : ∃ k, m = k + 1 := ⟨m - 1, by omega⟩
    have : s = 10 := by omega
    subst this
    rw [fX7_strength_L26, fX8_strength_L32, if_pos (show (9 : Int32) < nI 10 by decide), if_pos (show (9 : Int32) < nI 10 by decide), pv_found3, pv_finds3]
    exact pv_G.found h 3
  | d + 1, s, n, m, σ, τ, hb, hn, hm, h, hC, hM => by
    obtain ⟨n, rfl⟩ : ∃ m, n = m + 1 := ⟨n - 1, by omega⟩
    obtain ⟨m, rfl⟩ : ∃ k, m = k + 1 := ⟨m - 1, by omega⟩
    have h6 := hB.many
    obtain ⟨σ', c1, c2, c3⟩ := pc_putUp0 hC hB hf hq (show s ≤ 9 by omega)
    obtain ⟨τ', d1, d2, d3⟩ := pm_broughtBy hM hB (show f < 6 by omega) hq (show s ≤ 9 by omega)
    rw [fX7_strength_L26, fX8_strength_L32, if_neg (show ¬ (9 : Int32) < nI s from nI_nlt (a := 9) (by omega) (by decide)), if_neg (show ¬ (9 : Int32) < nI s from nI_nlt (a := 9) (by omega) (by decide)), c1, d1, Option.bind_some, Option.bind_some, pc_brings c3, Option.bind_some, nI_1]
    by_cases e : (w &&& (ps_bset (ps_br A f s 0 (q + 1)) ^^^ (-1 : Int32))) = 0
    · rw [if_pos e, if_pos e, pu_10]
      exact pv_G.of h c2 d2
    · rw [if_neg e, if_neg e, pu_00]
      exact pg_strengthL hB hf hq w d (s + 1) n m σ' τ' (by omega) (by omega) (by omega) (h.keep c2 d2) (c2.C hC) (d2.M hM)
theorem pg_strength (h : pv_R σ τ) (a b c : Int32) : pv_G (fX7_strength a b c σ) (fX8_strength a b c τ) := by
  have h0 := h
  obtain ⟨⟨A, hB, hd, hC, hM⟩, -, -⟩ := h0
  have h6 := hB.many
  unfold fX7_strength fX8_strength
  rw [pm_isFlue hM hB, Option.bind_some, pu_C_isSet, pu_M_areWords]
  by_cases h1 : pu_in a (A 0)
  · rw [if_pos h1, pu_10, pu_M_isBend]
    obtain ⟨f, hf, rfl⟩ := pu_in_of h1 (by omega)
    by_cases h2 : pu_in b 8
    · rw [if_pos h2, pc_isPlaceY hC hB h1 h2, Option.bind_some, pu_10, pu_10]
      obtain ⟨q, hq, rfl⟩ := pu_in_of h2 (by omega)
      by_cases h3 : pu_in c 65536
      · rw [if_pos h3, pu_10, pu_10]
        exact pg_strengthL hB hf hq c 9 1 js_FU js_FU σ τ (by decide) (by decide) (by decide) h hC hM
      · rw [if_neg h3, pu_00, pu_00, pv_found0, pv_finds0]
        exact pv_G.found h 0
    · rw [if_neg h2, pc_isPlaceN2 hC hB h2, Option.bind_some, pu_00, pu_00, pv_found0, pv_finds0]
      exact pv_G.found h 0
  · rw [if_neg h1, pc_isPlaceN1 hC hB h1, Option.bind_some, pu_00, pu_00, pv_found0, pv_finds0]
    exact pv_G.found h 0
theorem pg_secretI (hB : pv_B A) {f b : Nat} (hf : f < A 0) (hb : b < 8) (w o : Int32) (k107 : js_S → Option (Int32 × js_S)) (M : Nat) (hk : ∀ m σ τ, M < m → pv_R σ τ → pv_C A σ 1 → pv_M A τ 1 → pv_G (k107 σ) (fX8_secret_L32 (nI f) w o m (nI (10 * (b + 1))) τ)) :
    ∀ d s n m σ τ, s + d = 10 → 1 ≤ s → d < n → d + M < m → pv_R σ τ → pv_C A σ 1 → pv_M A τ 1 → pv_G (fX7_secret_L45 k107 (nI f) w o (nI b) n (nI s) σ) (fX8_secret_L32 (nI f) w o m (nI (10 * b + s)) τ)
  | 0, s, n, m, σ, τ, hs, h1, hn, hm, h, hC, hM => by
    obtain ⟨n, rfl⟩ : ∃ m, n = m + 1 := ⟨n - 1, by omega⟩
    have : s = 10 := by omega
    subst this
    rw [fX7_secret_L45, if_pos (show (9 : Int32) < nI 10 by decide)]
    exact hk m σ τ (by omega) h hC hM
  | d + 1, s, n, m, σ, τ, hs, h1, hn, hm, h, hC, hM => by
    obtain ⟨n, rfl⟩ : ∃ m, n = m + 1 := ⟨n - 1, by omega⟩
    obtain ⟨m, rfl⟩ : ∃ k, m = k + 1 := ⟨m - 1, by omega⟩
    have h6 := hB.many
    obtain ⟨σ', c1, c2, c3⟩ := pc_putUp0 hC hB hf hb (show s ≤ 9 by omega)
    obtain ⟨τ', d1, d2, d3⟩ := pm_broughtBy hM hB (show f < 6 by omega) hb (show s ≤ 9 by omega)
    have r1 : nI (10 * b + s) / (10 : Int32) = nI b := by
      rw [fa_lit 10, pk_div (by omega) (by decide) (by decide)]
      congr 1
      omega
    have r2 : nI (10 * b + s) - nI b * (10 : Int32) = nI s := by
      rw [fa_lit 10, pk_mul, pk_sub (by omega)]
      congr 1
      omega
    have ih := pg_secretI hB hf hb w o k107 M hk d (s + 1) n m σ' τ' (by omega) (by omega) (by omega) (by omega) (h.keep c2 d2) (c2.C hC) (d2.M hM)
    rw [fX7_secret_L45, fX8_secret_L32, if_neg (show ¬ (9 : Int32) < nI s from nI_nlt (a := 9) (by omega) (by decide)), if_neg (show ¬ (80 : Int32) ≤ nI (10 * b + s) from nI_ge (b := 80) (by omega) (by decide)), r1, r2, if_neg (nI_ne0 (by omega) (by omega)), c1, d1, Option.bind_some, Option.bind_some, pc_brings c3, Option.bind_some, if_neg (show ¬ nI s ≤ 0 from nI_nle (by omega) (by omega)), nI_1, nI_1, c3.2.1, Int32.and_comm o]
    by_cases e : (w &&& (ps_bset (ps_br A f s 0 (b + 1)) ^^^ (-1 : Int32))) = 0
    · rw [if_pos e, if_pos e, pu_10]
      by_cases e2 : (ps_bset (ps_br A f s 0 (b + 1)) &&& o) = 0
      · rw [if_pos e2, if_pos e2, fa_lit 10, pk_mul, nI_add]
        exact pv_G.of h c2 d2
      · rw [if_neg e2, if_neg e2]
        exact ih
    · rw [if_neg e, if_neg e, pu_00]
      exact ih
theorem pg_secretL (hB : pv_B A) {f : Nat} (hf : f < A 0) (w o : Int32) : ∀ d b n m σ τ, b + d = 8 → d < n → 10 * d < m → pv_R σ τ → pv_C A σ 1 → pv_M A τ 1 → pv_G (fX7_secret_L35 (nI f) w o n (nI b) σ) (fX8_secret_L32 (nI f) w o m (nI (10 * b)) τ)
  | 0, b, n, m, σ, τ, hb, hn, hm, h, hC, hM => by
    obtain ⟨n, rfl⟩ : ∃ m, n = m + 1 := ⟨n - 1, by omega⟩
    obtain ⟨m, rfl⟩ : ∃ k, m = k + 1 := ⟨m - 1, by omega⟩
    have : b = 8 := by omega
    subst this
    rw [fX7_secret_L35, fX8_secret_L32, if_pos (show (8 : Int32) ≤ nI 8 by decide), if_pos (show (80 : Int32) ≤ nI (10 * 8) by decide), pv_found3, pv_finds3]
    exact pv_G.found h 3
  | d + 1, b, n, m, σ, τ, hb, hn, hm, h, hC, hM => by
    obtain ⟨n, rfl⟩ : ∃ m, n = m + 1 := ⟨n - 1, by omega⟩
    obtain ⟨m, rfl⟩ : ∃ k, m = k + 1 := ⟨m - 1, by omega⟩
    have r1 : nI (10 * b) / (10 : Int32) = nI b := by
      rw [fa_lit 10, pk_div (by omega) (by decide) (by decide)]
      congr 1
      omega
    have r2 : nI (10 * b) - nI b * (10 : Int32) = (0 : Int32) := by
      rw [fa_lit 10, pk_mul, pk_sub (by omega)]
      rw [show 10 * b - b * 10 = 0 by omega]
      rfl
    rw [fX7_secret_L35, if_neg (show ¬ (8 : Int32) ≤ nI b from nI_ge (b := 8) (by omega) (by decide)), fX8_secret_L32, if_neg (show ¬ (80 : Int32) ≤ nI (10 * b) from nI_ge (b := 80) (by omega) (by decide)), r1, r2, pu_00, if_pos (show (0 : Int32) ≤ 0 by decide), nI_1, nI_1]
    exact pg_secretI hB hf (by omega) w o _ (10 * d) (fun m' σ' τ' hm' h' hC' hM' => pg_secretL hB hf w o d (b + 1) n m' σ' τ' (by omega) (by omega) hm' h' hC' hM') 9 1 js_FU m σ τ (by decide) (by decide) (by decide) (by omega) h hC hM
theorem pg_secret (h : pv_R σ τ) (a b c : Int32) : pv_G (fX7_secret a b c σ) (fX8_secret a b c τ) := by
  have h0 := h
  obtain ⟨⟨A, hB, hd, hC, hM⟩, -, -⟩ := h0
  have h6 := hB.many
  unfold fX7_secret fX8_secret
  rw [pc_hasFlue hC hB, pm_isFlue hM hB, Option.bind_some, Option.bind_some, pu_C_isSet, pu_M_areWords, pu_C_isSet, pu_M_areWords]
  by_cases h1 : pu_in a (A 0)
  · rw [if_pos h1, pu_10, pu_10]
    obtain ⟨f, hf, rfl⟩ := pu_in_of h1 (by omega)
    by_cases h2 : pu_in b 65536
    · rw [if_pos h2, pu_10, pu_10]
      by_cases h3 : pu_in c 65536
      · rw [if_pos h3, pu_10, pu_10]
        exact pg_secretL hB hf b c 8 0 js_FU js_FU σ τ (by decide) (by decide) (by decide) h hC hM
      · rw [if_neg h3, pu_00, pu_00, pv_found0, pv_finds0]
        exact pv_G.found h 0
    · rw [if_neg h2, pu_00, pu_00, pv_found0, pv_finds0]
      exact pv_G.found h 0
  · rw [if_neg h1, pu_00, pu_00, pv_found0, pv_finds0]
    exact pv_G.found h 0
end PD
