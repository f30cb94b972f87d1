/-! PURE: copy -/
section PQ
variable {σ τ : js_S}
theorem pc_hasRange {s N : Nat} (hs : s < 4) (hN : σ.1 20 s = nI N) (hN4 : N ≤ 40) (x y : Int32) : fX2_hasRange (nI s) x y σ = some (if 0 ≤ x.toInt ∧ 0 ≤ y.toInt ∧ x.toInt + y.toInt ≤ N then 1 else 0) := by
  have e1 : (x < 0) ↔ x.toInt < 0 := by rw [fa_lt]; rfl
  have e2 : (y < 0) ↔ y.toInt < 0 := by rw [fa_lt]; rfl
  unfold fX2_hasRange
  rw [pc_length hs hN]
  by_cases h1 : x < 0
  · have q : ¬ (0 ≤ x.toInt ∧ 0 ≤ y.toInt ∧ x.toInt + y.toInt ≤ N) := fun p => by have := e1.mp h1; omega
    rw [if_pos h1, if_neg q]
  · rw [if_neg h1]
    by_cases h2 : y < 0
    · have q : ¬ (0 ≤ x.toInt ∧ 0 ≤ y.toInt ∧ x.toInt + y.toInt ≤ N) := fun p => by have := e2.mp h2; omega
      rw [if_pos h2, if_neg q]
    · have g1 : 0 ≤ x.toInt := by have : ¬ x.toInt < 0 := fun p => h1 (e1.mpr p); omega
      have g2 : 0 ≤ y.toInt := by have : ¬ y.toInt < 0 := fun p => h2 (e2.mpr p); omega
      have e3 : (nI N < y) ↔ (N : Int) < y.toInt := by rw [fa_lt, nI_toInt (by omega)]
      rw [if_neg h2, Option.bind_some]
      by_cases h3 : nI N < y
      · have q : ¬ (0 ≤ x.toInt ∧ 0 ≤ y.toInt ∧ x.toInt + y.toInt ≤ N) := fun p => by have := e3.mp h3; omega
        rw [if_pos h3, if_neg q]
      · have g3 : ¬ (N : Int) < y.toInt := fun p => h3 (e3.mpr p)
        obtain ⟨j, hj, rfl⟩ := pu_in_of (x := y) (n := 41) (by constructor <;> omega) (by decide)
        have tj := nI_toInt (n := j) (by omega)
        rw [if_neg h3, Option.bind_some, pk_sub (by omega)]
        have e4 : (nI (N - j) < x) ↔ ((N - j : Nat) : Int) < x.toInt := by rw [fa_lt, nI_toInt (by omega)]
        by_cases h4 : nI (N - j) < x
        · have q : ¬ (0 ≤ x.toInt ∧ 0 ≤ (nI j).toInt ∧ x.toInt + (nI j).toInt ≤ N) := fun p => by have := e4.mp h4; omega
          rw [if_pos h4, if_neg q]
        · have g4 : ¬ ((N - j : Nat) : Int) < x.toInt := fun p => h4 (e4.mpr p)
          have q : 0 ≤ x.toInt ∧ 0 ≤ (nI j).toInt ∧ x.toInt + (nI j).toInt ≤ N := ⟨g1, g2, by omega⟩
          rw [if_neg h4, if_pos q]
theorem pv_cpok {a b n : Nat} (h1 : a + n ≤ 160) (h2 : b + n ≤ 160) : js_cpok (nI a) (nI b) (nI n) 160 160 = true := by
  unfold js_cpok
  have t1 := nI_toInt (n := a) (by omega)
  have t2 := nI_toInt (n := b) (by omega)
  have t3 := nI_toInt (n := n) (by omega)
  apply decide_eq_true
  rw [pu_cl (show a < 2 ^ 31 by omega), pu_cl (show b < 2 ^ 31 by omega), pu_cl (show n < 2 ^ 31 by omega)]
  exact ⟨by omega, by omega, by omega, h1, h2⟩
theorem pm_L120 {s i n : Nat} (h : 40 * s + i + n ≤ 160) (hn : n ≤ 40) (K : js_S → Option (Int32 × js_S)) (p3 p4 : Int32) (τ : js_S) : ∃ t, fX8_copy_L120 K (nI s) (nI i) p3 p4 (nI n) js_FU (0 : Int32) τ = K t ∧ t.1 = τ.1 ∧ (∀ k, k ≠ 11 → t.2 k = τ.2 k) ∧ ∀ j, j < n → t.2 11 j = τ.2 10 (40 * s + i + j) := by
  have key := pu_loopI (fun m t j => fX8_copy_L120 K (nI s) (nI i) p3 p4 (nI n) m j t) (fun t j => js_sL t 11 j (t.2 10 (40 * s + i + j))) K (fun t j => t.1 = τ.1 ∧ (∀ k, k ≠ 11 → t.2 k = τ.2 k) ∧ ∀ q, q < j → t.2 11 q = τ.2 10 (40 * s + i + q)) n (by omega) ?_ ?_ τ ⟨rfl, fun _ _ => rfl, fun q hq => by cases hq⟩
  · exact ⟨_, key.1, key.2⟩
  · intro m t j hj ⟨h1, h2, h3⟩
    refine ⟨?_, h1, fun k hk => by rw [pv_sL_ne hk]; exact h2 k hk, fun q hq => ?_⟩
    · show fX8_copy_L120 K (nI s) (nI i) p3 p4 (nI n) (m + 1) (nI j) t = _
      rw [fX8_copy_L120, if_neg (nI_ge hj (by omega)), pm_ix, nI_add, pu_gd (by omega) (by decide), pu_gd (by omega) (by decide), pu_cl (by omega), pu_cl (by omega), nI_1]
    · rw [pv_sL_at]
      by_cases e : q = j
      · rw [if_pos e, h2 10 (by decide), e]
      · rw [if_neg e]; exact h3 q (by omega)
  · intro m t _
    show fX8_copy_L120 K (nI s) (nI i) p3 p4 (nI n) (m + 1) (nI n) t = _
    rw [fX8_copy_L120, if_pos (nI_le (Nat.le_refl _) (by omega))]
theorem pm_L157 {s i n : Nat} (h : 40 * s + i + n ≤ 160) (hn : n ≤ 40) (τ : js_S) : ∃ t, fX8_copy_L157 (nI s) (nI i) (nI n) js_FU (0 : Int32) τ = some (nI n, t) ∧ t.1 = τ.1 ∧ ∀ q, t.2 10 q = if 40 * s + i ≤ q ∧ q < 40 * s + i + n then τ.2 11 (q - (40 * s + i)) else τ.2 10 q := by
  have key := pu_loopI (fun m t j => fX8_copy_L157 (nI s) (nI i) (nI n) m j t) (fun t j => js_sL t 10 (40 * s + i + j) (t.2 11 j)) (fun t => some (nI n, t)) (fun t j => t.1 = τ.1 ∧ t.2 11 = τ.2 11 ∧ ∀ q, t.2 10 q = if 40 * s + i ≤ q ∧ q < 40 * s + i + j then τ.2 11 (q - (40 * s + i)) else τ.2 10 q) n (by omega) ?_ ?_ τ ⟨rfl, rfl, fun q => by rw [if_neg (by omega)]⟩
  · exact ⟨_, key.1, key.2.1, key.2.2.2⟩
  · intro m t j hj ⟨h1, h2, h3⟩
    refine ⟨?_, h1, by rw [pv_sL_ne (by decide)]; exact h2, fun q => ?_⟩
    · show fX8_copy_L157 (nI s) (nI i) (nI n) (m + 1) (nI j) t = _
      rw [fX8_copy_L157, if_neg (nI_ge hj (by omega)), pm_ix, nI_add, pu_gd (by omega) (by decide), pu_gd (by omega) (by decide), pu_cl (by omega), pu_cl (by omega), nI_1]
    · rw [pv_sL_at]
      by_cases e : q = 40 * s + i + j
      · have p1 : 40 * s + i ≤ q ∧ q < 40 * s + i + (j + 1) := ⟨by omega, by omega⟩
        rw [if_pos e, if_pos p1, h2, show q - (40 * s + i) = j by omega]
      · rw [if_neg e, h3 q]
        by_cases p : 40 * s + i ≤ q ∧ q < 40 * s + i + j
        · have p1 : 40 * s + i ≤ q ∧ q < 40 * s + i + (j + 1) := ⟨by omega, by omega⟩
          rw [if_pos p, if_pos p1]
        · have p1 : ¬ (40 * s + i ≤ q ∧ q < 40 * s + i + (j + 1)) := fun x => p ⟨x.1, by omega⟩
          rw [if_neg p, if_neg p1]
  · intro m t _
    show fX8_copy_L157 (nI s) (nI i) (nI n) (m + 1) (nI n) t = _
    rw [fX8_copy_L157, if_pos (nI_le (Nat.le_refl _) (by omega))]
theorem pg_copyOK (h : pv_R σ τ) {s s' i i' n N N' : Nat} (hs : s < 4) (hs' : s' < 4) (hN : N ≤ 40) (hN' : N' ≤ 40) (e1 : σ.1 20 s = nI N) (e2 : σ.1 20 s' = nI N') (h1 : i + n ≤ N) (h2 : i' + n ≤ N') : pv_G ((fX2_move (nI s) (nI i) (nI s') (nI i') (nI n) σ).bind fun r10 => some (nI n, r10)) (fX8_copy_L120 (fun s7 => fX8_copy_L157 (nI s') (nI i') (nI n) js_FU (0 : Int32) s7) (nI s) (nI i) (nI s') (nI i') (nI n) js_FU (0 : Int32) τ) := by
  have ti := nI_toInt (n := i) (by omega)
  have ti' := nI_toInt (n := i') (by omega)
  have tn := nI_toInt (n := n) (by omega)
  have q1 : 0 ≤ (nI i).toInt ∧ 0 ≤ (nI n).toInt ∧ (nI i).toInt + (nI n).toInt ≤ N := ⟨by omega, by omega, by omega⟩
  have q2 : 0 ≤ (nI i').toInt ∧ 0 ≤ (nI n).toInt ∧ (nI i').toInt + (nI n).toInt ≤ N' := ⟨by omega, by omega, by omega⟩
  have m1 : nI s * (40 : Int32) + nI i = nI (40 * s + i) := by rw [fa_lit 40, pk_mul, nI_add, Nat.mul_comm]
  have m2 : nI s' * (40 : Int32) + nI i' = nI (40 * s' + i') := by rw [fa_lit 40, pk_mul, nI_add, Nat.mul_comm]
  have ok := pv_cpok (a := 40 * s + i) (b := 40 * s' + i') (n := n) (by omega) (by omega)
  unfold fX2_move
  rw [pc_hasRange hs e1 hN, if_pos q1, Option.bind_some, pu_10, pc_hasRange hs' e2 hN', if_pos q2, Option.bind_some, pu_10, m1, m2, ok, pu_gt, Option.bind_some, pu_cl (show 40 * s + i < 2 ^ 31 by omega), pu_cl (show 40 * s' + i' < 2 ^ 31 by omega), pu_cl (show n < 2 ^ 31 by omega)]
  obtain ⟨t1, f1, f2, f3, f4⟩ := pm_L120 (s := s) (i := i) (n := n) (by omega) (by omega) (fun s7 => fX8_copy_L157 (nI s') (nI i') (nI n) js_FU (0 : Int32) s7) (nI s') (nI i') τ
  obtain ⟨t2, g1, g2, g3⟩ := pm_L157 (s := s') (i := i') (n := n) (by omega) (by omega) t1
  rw [f1, g1]
  refine ⟨_, _, _, rfl, rfl, ?_⟩
  obtain ⟨r1, r2, t1', t2', t3', t4', t5', t6', t7'⟩ := h
  have ht : t2.1 = τ.1 := g2.trans f2
  have hsσ : (js_cpL σ 21 21 (40 * s + i) (40 * s' + i') n).1 = σ.1 := rfl
  refine ⟨?_, ?_, ?_⟩
  · obtain ⟨A, b1, b2, b3, b4⟩ := r1
    exact ⟨A, b1, b2, b3, b4.keep (by rw [ht])⟩
  · obtain ⟨A, b1, b2, b3, b4⟩ := r2
    exact ⟨A, b1, b2, b3, b4.keep (by rw [ht])⟩
  · unfold pv_T
    rw [ht, hsσ]
    refine ⟨t1', t2', t3', t4', t5', t6', fun q hq => ?_⟩
    rw [g3 q, f3 10 (by decide)]
    show va_cpy (σ.2 21) (σ.2 21) (40 * s + i) (40 * s' + i') n q = _
    unfold va_cpy
    by_cases p : 40 * s' + i' ≤ q ∧ q < 40 * s' + i' + n
    · rw [if_pos p, if_pos p, f4 _ (by omega), t7' _ (by omega)]
    · rw [if_neg p, if_neg p, t7' q hq]
theorem pg_copy (h : pv_R σ τ) (a b c d e : Int32) : pv_G (fX7_copy a b c d e σ) (fX8_copy a b c d e τ) := by
  unfold fX7_copy fX8_copy
  rw [pu_C_isSheet, pu_C_isSheet, pu_M_isOne, pu_M_isOne]
  by_cases h1 : pu_in a 4
  · rw [if_pos h1, pu_10, pu_10]
    by_cases h2 : pu_in c 4
    · rw [if_pos h2, pu_10, pu_10]
      obtain ⟨s, hs, rfl⟩ := pu_in_of h1 (by decide)
      obtain ⟨s', hs', rfl⟩ := pu_in_of h2 (by decide)
      obtain ⟨B, N, hN, hB, e1, e2, e3, e4⟩ := h.sh hs
      obtain ⟨B', N', hN', hB', e1', e2', e3', e4'⟩ := h.sh hs'
      unfold fX2_isMissing
      rw [pc_width hs e1, pc_width hs' e1', Option.bind_some, Option.bind_some, Option.bind_some, Option.bind_some, pu_gd hs (by decide), pu_cl (show s < 2 ^ 31 by omega), e2, pu_gd hs' (by decide), pu_cl (show s' < 2 ^ 31 by omega), e2', e4, e4', pu_gd hs (by decide), pu_gd hs' (by decide)]
      by_cases z1 : B = 0
      · subst z1
        rw [if_pos (show nI 0 = 0 from rfl), Option.bind_some, if_pos (show nI 0 = 0 from rfl), if_neg (show ¬ (1 : Int32) = 0 by decide), pv_found5, pv_finds5]
        exact pv_G.found h 5
      · have z1' : ¬ nI B = 0 := nI_ne0 (by omega) (by omega)
        rw [if_neg z1', Option.bind_some, if_neg z1', if_pos (show (0 : Int32) = 0 from rfl)]
        by_cases z2 : B' = 0
        · subst z2
          rw [if_pos (show nI 0 = 0 from rfl), Option.bind_some, if_pos (show nI 0 = 0 from rfl), if_neg (show ¬ (1 : Int32) = 0 by decide), pv_found5, pv_finds5]
          exact pv_G.found h 5
        · have z2' : ¬ nI B' = 0 := nI_ne0 (by omega) (by omega)
          rw [if_neg z2', Option.bind_some, if_neg z2', if_pos (show (0 : Int32) = 0 from rfl)]
          by_cases z3 : nI B = nI B'
          · rw [if_pos z3, if_pos z3, pc_hasRange hs e3 hN, pc_hasRange hs' e3' hN', Option.bind_some, Option.bind_some]
            have bad : pv_G ((fX7_found (-1000000001 : Int32) σ).bind fun r8 => some (r8.1, r8.2)) ((fX8_finds (-1000000001 : Int32) τ).bind fun r3 => some (r3.1, r3.2)) := by
              rw [pv_found0, pv_finds0]
              exact pv_G.found h 0
            have y1 : (b < 0) ↔ b.toInt < 0 := by rw [fa_lt]; rfl
            have y2 : (d < 0) ↔ d.toInt < 0 := by rw [fa_lt]; rfl
            have y3 : (e < 0) ↔ e.toInt < 0 := by rw [fa_lt]; rfl
            have yb := b.toInt_lt
            have yd := d.toInt_lt
            by_cases x1 : b < 0
            · have q : ¬ (0 ≤ b.toInt ∧ 0 ≤ e.toInt ∧ b.toInt + e.toInt ≤ N) := fun p => by have := y1.mp x1; omega
              rw [if_neg q, if_pos (show (0 : Int32) = 0 from rfl), if_pos x1]
              exact bad
            · have w1 : 0 ≤ b.toInt := by have : ¬ b.toInt < 0 := fun p => x1 (y1.mpr p); omega
              rw [if_neg x1]
              by_cases x2 : d < 0
              · have q : ¬ (0 ≤ d.toInt ∧ 0 ≤ e.toInt ∧ d.toInt + e.toInt ≤ N') := fun p => by have := y2.mp x2; omega
                rw [if_neg q, if_pos x2]
                split
                · exact bad
                · exact bad
              · have w2 : 0 ≤ d.toInt := by have : ¬ d.toInt < 0 := fun p => x2 (y2.mpr p); omega
                rw [if_neg x2]
                by_cases x3 : e < 0
                · have q : ¬ (0 ≤ b.toInt ∧ 0 ≤ e.toInt ∧ b.toInt + e.toInt ≤ N) := fun p => by have := y3.mp x3; omega
                  rw [if_neg q, if_pos (show (0 : Int32) = 0 from rfl), if_pos x3]
                  exact bad
                · have w3 : 0 ≤ e.toInt := by have : ¬ e.toInt < 0 := fun p => x3 (y3.mpr p); omega
                  have s1 : (nI N - b).toInt = N - b.toInt := by
                    rw [Int32.toInt_sub, nI_toInt (by omega), Int.bmod_eq_of_le (by omega) (by omega)]
                  have s2 : (nI N' - d).toInt = N' - d.toInt := by
                    rw [Int32.toInt_sub, nI_toInt (by omega), Int.bmod_eq_of_le (by omega) (by omega)]
                  have y4 : (nI N - b < e) ↔ (N : Int) - b.toInt < e.toInt := by rw [fa_lt, s1]
                  have y5 : (e ≤ nI N' - d) ↔ e.toInt ≤ (N' : Int) - d.toInt := by rw [fa_le, s2]
                  rw [if_neg x3, pu_gd hs (by decide)]
                  by_cases x4 : nI N - b < e
                  · have q : ¬ (0 ≤ b.toInt ∧ 0 ≤ e.toInt ∧ b.toInt + e.toInt ≤ N) := fun p => by have := y4.mp x4; omega
                    rw [if_neg q, if_pos (show (0 : Int32) = 0 from rfl), if_pos x4]
                    exact bad
                  · have w4 : b.toInt + e.toInt ≤ N := by have : ¬ (N : Int) - b.toInt < e.toInt := fun p => x4 (y4.mpr p); omega
                    have q : 0 ≤ b.toInt ∧ 0 ≤ e.toInt ∧ b.toInt + e.toInt ≤ N := ⟨w1, w3, w4⟩
                    rw [if_pos q, if_neg (show ¬ (1 : Int32) = 0 by decide), if_neg x4, pu_gd hs' (by decide)]
                    by_cases x5 : e ≤ nI N' - d
                    · have w5 := y5.mp x5
                      have q' : 0 ≤ d.toInt ∧ 0 ≤ e.toInt ∧ d.toInt + e.toInt ≤ N' := ⟨w2, w3, by omega⟩
                      rw [if_pos q', if_neg (show ¬ (1 : Int32) = 0 by decide), if_pos x5]
                      obtain ⟨i, hi, rfl⟩ := pu_in_of (x := b) (n := 41) (by constructor <;> omega) (by decide)
                      obtain ⟨i', hi', rfl⟩ := pu_in_of (x := d) (n := 41) (by constructor <;> omega) (by decide)
                      obtain ⟨n, hn, rfl⟩ := pu_in_of (x := e) (n := 41) (by constructor <;> omega) (by decide)
                      have ti := nI_toInt (n := i) (by omega)
                      have ti' := nI_toInt (n := i') (by omega)
                      have tn := nI_toInt (n := n) (by omega)
                      exact pg_copyOK h hs hs' hN hN' e3 e3' (by omega) (by omega)
                    · have q' : ¬ (0 ≤ d.toInt ∧ 0 ≤ e.toInt ∧ d.toInt + e.toInt ≤ N') := fun p => x5 (y5.mpr (by omega))
                      rw [if_neg q', if_pos (show (0 : Int32) = 0 from rfl), if_neg x5]
                      exact bad
          · rw [if_neg z3, if_neg z3, pv_found2, pv_finds2]
            exact pv_G.found h 2
    · rw [if_neg h2, pu_00, pu_00, pv_found0, pv_finds0]
      exact pv_G.found h 0
  · rw [if_neg h1, pu_00, pu_00, pv_found0, pv_finds0]
    exact pv_G.found h 0
end PQ
