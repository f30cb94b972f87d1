/-! PURE: sheets -/
theorem pv_sL_at {σ : js_S} {k i j : Nat} {v : Int64} : (js_sL σ k i v).2 k j = if j = i then v else σ.2 k j := by simp [js_sL, vp_updL]
theorem pv_sL_ne {σ : js_S} {k i a : Nat} {v : Int64} (h : a ≠ k) : (js_sL σ k i v).2 a = σ.2 a := by simp [js_sL, h]
/-- as pv_G, the answer long -/
def pv_GL (a b : Option (Int64 × js_S)) : Prop := ∃ r σ τ, a = some (r, σ) ∧ b = some (r, τ) ∧ pv_R σ τ
section PH
variable {σ τ : js_S}
theorem pv_R.longs (h : pv_R σ τ) {i : Nat} (hi : i < 160) : σ.2 21 i = τ.2 10 i := h.2.2.2.2.2.2.2.2 i hi
theorem pv_R.sh (h : pv_R σ τ) {s : Nat} (hs : s < 4) : ∃ B N, N ≤ 40 ∧ (B = 0 ∨ B = 8 ∨ B = 16 ∨ B = 64) ∧ σ.1 19 s = nI B ∧ τ.1 8 s = nI B ∧ σ.1 20 s = nI N ∧ τ.1 9 s = nI N := by
  obtain ⟨-, -, -, -, -, -, -, ⟨B, N, h1, h2⟩, -⟩ := h
  exact ⟨B s, N s, (h1 s hs).1, (h1 s hs).2, h2 s hs⟩
theorem pv_R.put64 (h : pv_R σ τ) {i : Nat} {v : Int64} : pv_R (js_sL σ 21 i v) (js_sL τ 10 i v) := by
  obtain ⟨h1, h2, t1, t2, t3, t4, t5, t6, t7⟩ := h
  refine ⟨h1, h2, t1, t2, t3, t4, t5, t6, fun j hj => ?_⟩
  rw [pv_sL_at, pv_sL_at, t7 j hj]
theorem pv_R.sheet (h : pv_R σ τ) {s B n : Nat} (hB : B = 0 ∨ B = 8 ∨ B = 16 ∨ B = 64) (hn : n ≤ 40) : pv_R (js_sI (js_sI σ 19 s (nI B)) 20 s (nI n)) (js_sI (js_sI τ 8 s (nI B)) 9 s (nI n)) := by
  obtain ⟨⟨A, b1, b2, b3, b4⟩, ⟨A', c1, c2, c3, c4⟩, t1, t2, t3, t4, t5, ⟨X, N, t6, t7⟩, t9⟩ := h
  refine ⟨⟨A, b1, b2, (b3.keepI (by decide) (by decide) (by decide) (by decide) (by decide)).keepI (by decide) (by decide) (by decide) (by decide) (by decide), (b4.keep (pv_sI_ne (by decide))).keep (pv_sI_ne (by decide))⟩, ⟨A', c1, c2, (c3.keepI (by decide) (by decide) (by decide) (by decide) (by decide)).keepI (by decide) (by decide) (by decide) (by decide) (by decide), (c4.keep (pv_sI_ne (by decide))).keep (pv_sI_ne (by decide))⟩, ?_⟩
  unfold pv_T
  rw [pv_sI_ne (show (0 : Nat) ≠ 20 by decide), pv_sI_ne (show (22 : Nat) ≠ 20 by decide), pv_sI_ne (show (16 : Nat) ≠ 20 by decide), pv_sI_ne (show (19 : Nat) ≠ 20 by decide), pv_sI_ne (show (15 : Nat) ≠ 20 by decide), pv_sI_ne (show (5 : Nat) ≠ 9 by decide), pv_sI_ne (show (7 : Nat) ≠ 9 by decide), pv_sI_ne (show (8 : Nat) ≠ 9 by decide), pv_sI_ne (show (0 : Nat) ≠ 9 by decide), pv_sI_2, pv_sI_2, pv_sI_ne (show (0 : Nat) ≠ 19 by decide), pv_sI_ne (show (22 : Nat) ≠ 19 by decide), pv_sI_ne (show (16 : Nat) ≠ 19 by decide), pv_sI_ne (show (15 : Nat) ≠ 19 by decide), pv_sI_ne (show (5 : Nat) ≠ 8 by decide), pv_sI_ne (show (7 : Nat) ≠ 8 by decide), pv_sI_ne (show (0 : Nat) ≠ 8 by decide), pv_sI_2, pv_sI_2]
  refine ⟨t1, t2, t3, t4, t5, ⟨fun j => if j = s then B else X j, fun j => if j = s then n else N j, fun j hj => ?_, fun j hj => ?_⟩, t9⟩
  · show (if j = s then n else N j) ≤ 40 ∧ ((if j = s then B else X j) = 0 ∨ (if j = s then B else X j) = 8 ∨ (if j = s then B else X j) = 16 ∨ (if j = s then B else X j) = 64)
    by_cases e : j = s
    · rw [if_pos e, if_pos e]; exact ⟨hn, hB⟩
    · rw [if_neg e, if_neg e]; exact t6 j hj
  · show (js_sI σ 19 s (nI B)).1 19 j = nI (if j = s then B else X j) ∧ (js_sI τ 8 s (nI B)).1 8 j = nI (if j = s then B else X j) ∧ (js_sI (js_sI σ 19 s (nI B)) 20 s (nI n)).1 20 j = nI (if j = s then n else N j) ∧ (js_sI (js_sI τ 8 s (nI B)) 9 s (nI n)).1 9 j = nI (if j = s then n else N j)
    rw [pv_sI_at, pv_sI_at, pv_sI_at, pv_sI_at, pv_sI_ne (show (20 : Nat) ≠ 19 by decide), pv_sI_ne (show (9 : Nat) ≠ 8 by decide)]
    by_cases e : j = s
    · rw [if_pos e, if_pos e, if_pos e, if_pos e, if_pos e, if_pos e]; exact ⟨rfl, rfl, rfl, rfl⟩
    · rw [if_neg e, if_neg e, if_neg e, if_neg e, if_neg e, if_neg e]; exact t7 j hj
theorem pu_C_isSheet (x : Int32) : fX2_isSheet x = if pu_in x 4 then 1 else 0 := pu_below x (n := 4) (by decide)
theorem pu_M_isOne (x : Int32) : fX8_isOne x = if pu_in x 4 then 1 else 0 := pu_in0 x (n := 3) (by decide)
theorem pc_isSheet1 {s : Nat} (hs : s < 4) : fX2_isSheet (nI s) = 1 := by rw [pu_C_isSheet, if_pos (pu_in_nI hs (by omega))]
theorem pc_length {s N : Nat} (hs : s < 4) (hN : σ.1 20 s = nI N) : fX2_length (nI s) σ = some (nI N) := by
  unfold fX2_length
  rw [pc_isSheet1 hs, pu_10, pu_gd hs (by decide), pu_cl (by omega), hN]
theorem pc_width {s B : Nat} (hs : s < 4) (hB : σ.1 19 s = nI B) : fX2_width (nI s) σ = some (nI B) := by
  unfold fX2_width
  rw [pc_isSheet1 hs, pu_10, pu_gd hs (by decide), pu_cl (by omega), hB]
theorem pc_range1 {s N i : Nat} (hs : s < 4) (hN : σ.1 20 s = nI N) (hN4 : N ≤ 40) (hi : i < N) : fX2_hasRange (nI s) (nI i) (1 : Int32) σ = some 1 := by
  unfold fX2_hasRange
  rw [if_neg (nI_pos (by omega)), if_neg (by decide), pc_length hs hN, Option.bind_some, if_neg (show ¬ nI N < (1 : Int32) from nI_nlt (a := N) (b := 1) (by omega) (by omega)), Option.bind_some, fa_lit 1, pk_sub (by omega), if_neg (nI_nlt (by omega) (by omega))]
theorem pc_ix {s i : Nat} (hs : s < 4) (hi : i < 40) : nI s * (40 : Int32) + nI i = nI (40 * s + i) := by rw [fa_lit 40, pk_mul, nI_add, Nat.mul_comm]
theorem pm_ix {s i : Nat} : (40 : Int32) * nI s + nI i = nI (40 * s + i) := by rw [fa_lit 40, pk_mul, nI_add]
theorem pc_number {s N i : Nat} (hs : s < 4) (hN : σ.1 20 s = nI N) (hN4 : N ≤ 40) (hi : i < N) : fX2_number (nI s) (nI i) σ = some (σ.2 21 (40 * s + i)) := by
  unfold fX2_number
  rw [pc_range1 hs hN hN4 hi, Option.bind_some, pu_10, pc_ix hs (by omega), pu_gd (by omega) (by decide), pu_cl (by omega)]
theorem pc_put {s N B i : Nat} {v : Int64} (hs : s < 4) (hN : σ.1 20 s = nI N) (hB : σ.1 19 s = nI B) (hN4 : N ≤ 40) (hi : i < N) : fX2_put (nI s) (nI i) v σ = some (js_sL σ 21 (40 * s + i) (fX2_cut (nI B) v)) := by
  unfold fX2_put
  rw [pc_range1 hs hN hN4 hi, Option.bind_some, pu_10, pc_width hs hB, Option.bind_some, pc_ix hs (by omega), pu_gd (by omega) (by decide), pu_cl (by omega)]
/-! sheet -/
theorem pg_zero {s : Nat} (hs : s < 4) (Lc Lm : Nat → Int32 → js_S → Option (Int32 × js_S)) (hc : ∀ n i σ, i < 40 → Lc (n + 1) (nI i) σ = Lc n (nI (i + 1)) (js_sL σ 21 (40 * s + i) 0)) (ec : ∀ n σ, Lc (n + 1) (nI 40) σ = some (σ.1 20 s, σ)) (hm : ∀ n i σ, i < 40 → Lm (n + 1) (nI i) σ = Lm n (nI (i + 1)) (js_sL σ 10 (40 * s + i) 0)) (em : ∀ n σ, Lm (n + 1) (nI 40) σ = some (σ.1 9 s, σ)) : ∀ d i n m σ τ, i + d = 40 → d < n → d < m → pv_R σ τ → pv_G (Lc n (nI i) σ) (Lm m (nI i) τ)
  | 0, i, n, m, σ, τ, hi, hn, hm', h => by
    obtain ⟨n, rfl⟩ : ∃ m, n = m + 1 := ⟨n - 1, by omega⟩
    obtain ⟨m, rfl⟩ : ∃ k, m = k + 1 := ⟨m - 1, by omega⟩
    have : i = 40 := by omega
    subst this
    obtain ⟨B, N, -, -, -, -, e1, e2⟩ := h.sh hs
    rw [ec, em, e1, e2]
    exact pv_G.same h
  | d + 1, i, n, m, σ, τ, hi, hn, hm', h => by
    obtain ⟨n, rfl⟩ : ∃ m, n = m + 1 := ⟨n - 1, by omega⟩
    obtain ⟨m, rfl⟩ : ∃ k, m = k + 1 := ⟨m - 1, by omega⟩
    rw [hc n i σ (by omega), hm m i τ (by omega)]
    exact pg_zero hs Lc Lm hc ec hm em d (i + 1) n m _ _ (by omega) (by omega) (by omega) h.put64
theorem pc_lay44 {s : Nat} (hs : s < 4) (n i : Nat) (σ : js_S) (hi : i < 40) : fX2_layOut_L44 (nI s) (n + 1) (nI i) σ = fX2_layOut_L44 (nI s) n (nI (i + 1)) (js_sL σ 21 (40 * s + i) 0) := by
  rw [fX2_layOut_L44, if_neg (show ¬ (40 : Int32) ≤ nI i from nI_ge hi (by decide)), pc_ix hs hi, pu_gd (by omega) (by decide), pu_cl (by omega), nI_1]
theorem pc_lay44_2 {s : Nat} (hs : s < 4) (n i : Nat) (σ : js_S) (hi : i < 40) : fX2_layOut_L44_2 (nI s) (n + 1) (nI i) σ = fX2_layOut_L44_2 (nI s) n (nI (i + 1)) (js_sL σ 21 (40 * s + i) 0) := by
  rw [fX2_layOut_L44_2, if_neg (show ¬ (40 : Int32) ≤ nI i from nI_ge hi (by decide)), pc_ix hs hi, pu_gd (by omega) (by decide), pu_cl (by omega), nI_1]
theorem pc_lay44e {s : Nat} (hs : s < 4) (n : Nat) (σ : js_S) : fX2_layOut_L44 (nI s) (n + 1) (nI 40) σ = some (σ.1 20 s, σ) := by
  rw [fX2_layOut_L44, if_pos (show (40 : Int32) ≤ nI 40 by decide), pu_gd hs (by decide), pu_cl (by omega)]
theorem pc_lay44_2e {s : Nat} (hs : s < 4) (n : Nat) (σ : js_S) : fX2_layOut_L44_2 (nI s) (n + 1) (nI 40) σ = some (σ.1 20 s, σ) := by
  rw [fX2_layOut_L44_2, if_pos (show (40 : Int32) ≤ nI 40 by decide), pu_gd hs (by decide), pu_cl (by omega)]
theorem pm_L86_2 {s : Nat} (hs : s < 4) (n i : Nat) (σ : js_S) (hi : i < 40) : fX8_sheet_L86_2 (nI s) (n + 1) (nI i) σ = fX8_sheet_L86_2 (nI s) n (nI (i + 1)) (js_sL σ 10 (40 * s + i) 0) := by
  rw [fX8_sheet_L86_2, if_neg (show ¬ (40 : Int32) ≤ nI i from nI_ge hi (by decide)), pm_ix, pu_gd (by omega) (by decide), pu_cl (by omega), nI_1]
theorem pm_L86_2e {s : Nat} (hs : s < 4) (n : Nat) (σ : js_S) : fX8_sheet_L86_2 (nI s) (n + 1) (nI 40) σ = some (σ.1 9 s, σ) := by
  rw [fX8_sheet_L86_2, if_pos (show (40 : Int32) ≤ nI 40 by decide), pu_gd hs (by decide), pu_cl (by omega)]
theorem pm_L86_3 {s : Nat} (hs : s < 4) (n i : Nat) (σ : js_S) (hi : i < 40) : fX8_sheet_L86_3 (nI s) (n + 1) (nI i) σ = fX8_sheet_L86_3 (nI s) n (nI (i + 1)) (js_sL σ 10 (40 * s + i) 0) := by
  rw [fX8_sheet_L86_3, if_neg (show ¬ (40 : Int32) ≤ nI i from nI_ge hi (by decide)), pm_ix, pu_gd (by omega) (by decide), pu_cl (by omega), nI_1]
theorem pm_L86_3e {s : Nat} (hs : s < 4) (n : Nat) (σ : js_S) : fX8_sheet_L86_3 (nI s) (n + 1) (nI 40) σ = some (σ.1 9 s, σ) := by
  rw [fX8_sheet_L86_3, if_pos (show (40 : Int32) ≤ nI 40 by decide), pu_gd hs (by decide), pu_cl (by omega)]
theorem pm_L86_5 {s : Nat} (hs : s < 4) (n i : Nat) (σ : js_S) (hi : i < 40) : fX8_sheet_L86_5 (nI s) (n + 1) (nI i) σ = fX8_sheet_L86_5 (nI s) n (nI (i + 1)) (js_sL σ 10 (40 * s + i) 0) := by
  rw [fX8_sheet_L86_5, if_neg (show ¬ (40 : Int32) ≤ nI i from nI_ge hi (by decide)), pm_ix, pu_gd (by omega) (by decide), pu_cl (by omega), nI_1]
theorem pm_L86_5e {s : Nat} (hs : s < 4) (n : Nat) (σ : js_S) : fX8_sheet_L86_5 (nI s) (n + 1) (nI 40) σ = some (σ.1 9 s, σ) := by
  rw [fX8_sheet_L86_5, if_pos (show (40 : Int32) ≤ nI 40 by decide), pu_gd hs (by decide), pu_cl (by omega)]
theorem pm_L86_7 {s : Nat} (hs : s < 4) (n i : Nat) (σ : js_S) (hi : i < 40) : fX8_sheet_L86_7 (nI s) (n + 1) (nI i) σ = fX8_sheet_L86_7 (nI s) n (nI (i + 1)) (js_sL σ 10 (40 * s + i) 0) := by
  rw [fX8_sheet_L86_7, if_neg (show ¬ (40 : Int32) ≤ nI i from nI_ge hi (by decide)), pm_ix, pu_gd (by omega) (by decide), pu_cl (by omega), nI_1]
theorem pm_L86_7e {s : Nat} (hs : s < 4) (n : Nat) (σ : js_S) : fX8_sheet_L86_7 (nI s) (n + 1) (nI 40) σ = some (σ.1 9 s, σ) := by
  rw [fX8_sheet_L86_7, if_pos (show (40 : Int32) ≤ nI 40 by decide), pu_gd hs (by decide), pu_cl (by omega)]
theorem pg_len (h : pv_R σ τ) (a3 : Int32) {X Y : Option (Int32 × js_S)} (k : ∀ n, n ≤ 40 → a3 = nI n → pv_G X Y) : pv_G (if 0 ≤ a3 then (if a3 ≤ (40 : Int32) then X else (fX7_found (-1000000001 : Int32) σ).bind fun r3 => some (r3.1, r3.2)) else (fX7_found (-1000000007 : Int32) σ).bind fun r4 => some (r4.1, r4.2)) (if 0 ≤ a3 then (if a3 ≤ (40 : Int32) then Y else (fX8_finds (-1000000001 : Int32) τ).bind fun r3 => some (r3.1, r3.2)) else (fX8_finds (-1000000007 : Int32) τ).bind fun r4 => some (r4.1, r4.2)) := by
  have e1 : (0 ≤ a3) ↔ 0 ≤ a3.toInt := by rw [fa_le]; rfl
  have e2 : (a3 ≤ (40 : Int32)) ↔ a3.toInt ≤ 40 := by rw [fa_le]; rfl
  by_cases h1 : 0 ≤ a3
  · rw [if_pos h1, if_pos h1]
    by_cases h2 : a3 ≤ (40 : Int32)
    · rw [if_pos h2, if_pos h2]
      obtain ⟨n, hn, e⟩ := pu_in_of (x := a3) (n := 41) (by have := e1.mp h1; have := e2.mp h2; constructor <;> omega) (by decide)
      exact k n (by omega) e
    · rw [if_neg h2, if_neg h2, pv_found0, pv_finds0]
      exact pv_G.found h 0
  · rw [if_neg h1, if_neg h1, pv_found6, pv_finds6]
    exact pv_G.found h 6
theorem pg_sheet (h : pv_R σ τ) (a1 a2 a3 : Int32) : pv_G (fX7_sheet a1 a2 a3 σ) (fX8_sheet a1 a2 a3 τ) := by
  unfold fX7_sheet fX8_sheet
  rw [pu_C_isSheet, pu_M_isOne]
  by_cases h1 : pu_in a1 4
  · rw [if_pos h1, pu_10, pu_10]
    obtain ⟨s, hs, rfl⟩ := pu_in_of h1 (by decide)
    by_cases w0 : a2 = 0
    · subst w0
      have ew : fX2_isWidth (0 : Int32) = 1 := by decide
      rw [ew, pu_10, if_pos (show (0 : Int32) = 0 from rfl)]
      refine pg_len h a3 ?_
      intro n hn e
      subst e
      unfold fX2_layOut
      rw [pc_isSheet1 hs, pu_10, if_neg (nI_pos (by omega)), if_pos (show nI n ≤ (40 : Int32) from nI_le hn (by decide)), pu_gd hs (by decide), pu_gd hs (by decide), pu_cl (by omega), if_pos (show (0 : Int32) = 0 from rfl), if_pos (show (0 : Int32) = 0 from rfl), pu_gd hs (by decide), pu_gd hs (by decide)]
      have g : pv_G (fX2_layOut_L44_2 (nI s) js_FU (0 : Int32) (js_sI (js_sI σ 19 s (nI 0)) 20 s (nI 0))) (fX8_sheet_L86_2 (nI s) js_FU (0 : Int32) (js_sI (js_sI τ 8 s (nI 0)) 9 s (nI 0))) := by
        exact pg_zero hs (fun m i σ => fX2_layOut_L44_2 (nI s) m i σ) (fun m i σ => fX8_sheet_L86_2 (nI s) m i σ) (fun m i σ hi => pc_lay44_2 hs m i σ hi) (fun m σ => pc_lay44_2e hs m σ) (fun m i σ hi => pm_L86_2 hs m i σ hi) (fun m σ => pm_L86_2e hs m σ) 40 0 js_FU js_FU _ _ (by decide) (by decide) (by decide) (h.sheet (s := s) (B := 0) (n := 0) (by decide) (by omega))
      obtain ⟨r, σ', τ', g1, g2, g3⟩ := g
      have g1' : fX2_layOut_L44_2 (nI s) js_FU (0 : Int32) (js_sI (js_sI σ 19 s (0 : Int32)) 20 s (0 : Int32)) = _ := g1
      have g2' : fX8_sheet_L86_2 (nI s) js_FU (0 : Int32) (js_sI (js_sI τ 8 s (0 : Int32)) 9 s (0 : Int32)) = _ := g2
      rw [g1', g2']
      exact ⟨_, _, _, rfl, rfl, g3⟩
    · by_cases w8 : a2 = (8 : Int32)
      · subst w8
        have ew : fX2_isWidth (8 : Int32) = 1 := by decide
        rw [ew, pu_10, if_neg (show ¬ (8 : Int32) = 0 by decide), if_pos (show (8 : Int32) = 8 from rfl)]
        refine pg_len h a3 ?_
        intro n hn e
        subst e
        unfold fX2_layOut
        rw [pc_isSheet1 hs, pu_10, if_neg (nI_pos (by omega)), if_pos (show nI n ≤ (40 : Int32) from nI_le hn (by decide)), pu_gd hs (by decide), pu_gd hs (by decide), pu_cl (by omega), if_neg (show ¬ (8 : Int32) = 0 by decide), if_neg (show ¬ (8 : Int32) = 0 by decide), pu_gd hs (by decide), pu_gd hs (by decide), pu_gd hs (by decide)]
        have g : pv_G (fX2_layOut_L44 (nI s) js_FU (0 : Int32) (js_sI (js_sI σ 19 s (nI 8)) 20 s (nI n))) (fX8_sheet_L86_3 (nI s) js_FU (0 : Int32) (js_sI (js_sI τ 8 s (nI 8)) 9 s (nI n))) := by
          exact pg_zero hs (fun m i σ => fX2_layOut_L44 (nI s) m i σ) (fun m i σ => fX8_sheet_L86_3 (nI s) m i σ) (fun m i σ hi => pc_lay44 hs m i σ hi) (fun m σ => pc_lay44e hs m σ) (fun m i σ hi => pm_L86_3 hs m i σ hi) (fun m σ => pm_L86_3e hs m σ) 40 0 js_FU js_FU _ _ (by decide) (by decide) (by decide) (h.sheet (s := s) (B := 8) (n := n) (by decide) (by omega))
        obtain ⟨r, σ', τ', g1, g2, g3⟩ := g
        have g1' : fX2_layOut_L44 (nI s) js_FU (0 : Int32) (js_sI (js_sI σ 19 s (8 : Int32)) 20 s (nI n)) = _ := g1
        have g2' : fX8_sheet_L86_3 (nI s) js_FU (0 : Int32) (js_sI (js_sI τ 8 s (8 : Int32)) 9 s (nI n)) = _ := g2
        rw [g1', g2']
        exact ⟨_, _, _, rfl, rfl, g3⟩
      · by_cases w16 : a2 = (16 : Int32)
        · subst w16
          have ew : fX2_isWidth (16 : Int32) = 1 := by decide
          rw [ew, pu_10, if_neg (show ¬ (16 : Int32) = 0 by decide), if_neg (show ¬ (16 : Int32) = 8 by decide), if_pos (show (16 : Int32) = 16 from rfl)]
          refine pg_len h a3 ?_
          intro n hn e
          subst e
          unfold fX2_layOut
          rw [pc_isSheet1 hs, pu_10, if_neg (nI_pos (by omega)), if_pos (show nI n ≤ (40 : Int32) from nI_le hn (by decide)), pu_gd hs (by decide), pu_gd hs (by decide), pu_cl (by omega), if_neg (show ¬ (16 : Int32) = 0 by decide), if_neg (show ¬ (16 : Int32) = 0 by decide), pu_gd hs (by decide), pu_gd hs (by decide), pu_gd hs (by decide)]
          have g : pv_G (fX2_layOut_L44 (nI s) js_FU (0 : Int32) (js_sI (js_sI σ 19 s (nI 16)) 20 s (nI n))) (fX8_sheet_L86_5 (nI s) js_FU (0 : Int32) (js_sI (js_sI τ 8 s (nI 16)) 9 s (nI n))) := by
            exact pg_zero hs (fun m i σ => fX2_layOut_L44 (nI s) m i σ) (fun m i σ => fX8_sheet_L86_5 (nI s) m i σ) (fun m i σ hi => pc_lay44 hs m i σ hi) (fun m σ => pc_lay44e hs m σ) (fun m i σ hi => pm_L86_5 hs m i σ hi) (fun m σ => pm_L86_5e hs m σ) 40 0 js_FU js_FU _ _ (by decide) (by decide) (by decide) (h.sheet (s := s) (B := 16) (n := n) (by decide) (by omega))
          obtain ⟨r, σ', τ', g1, g2, g3⟩ := g
          have g1' : fX2_layOut_L44 (nI s) js_FU (0 : Int32) (js_sI (js_sI σ 19 s (16 : Int32)) 20 s (nI n)) = _ := g1
          have g2' : fX8_sheet_L86_5 (nI s) js_FU (0 : Int32) (js_sI (js_sI τ 8 s (16 : Int32)) 9 s (nI n)) = _ := g2
          rw [g1', g2']
          exact ⟨_, _, _, rfl, rfl, g3⟩
        · by_cases w64 : a2 = (64 : Int32)
          · subst w64
            have ew : fX2_isWidth (64 : Int32) = 1 := by decide
            rw [ew, pu_10, if_neg (show ¬ (64 : Int32) = 0 by decide), if_neg (show ¬ (64 : Int32) = 8 by decide), if_neg (show ¬ (64 : Int32) = 16 by decide), if_pos (show (64 : Int32) = 64 from rfl)]
            refine pg_len h a3 ?_
            intro n hn e
            subst e
            unfold fX2_layOut
            rw [pc_isSheet1 hs, pu_10, if_neg (nI_pos (by omega)), if_pos (show nI n ≤ (40 : Int32) from nI_le hn (by decide)), pu_gd hs (by decide), pu_gd hs (by decide), pu_cl (by omega), if_neg (show ¬ (64 : Int32) = 0 by decide), if_neg (show ¬ (64 : Int32) = 0 by decide), pu_gd hs (by decide), pu_gd hs (by decide), pu_gd hs (by decide)]
            have g : pv_G (fX2_layOut_L44 (nI s) js_FU (0 : Int32) (js_sI (js_sI σ 19 s (nI 64)) 20 s (nI n))) (fX8_sheet_L86_7 (nI s) js_FU (0 : Int32) (js_sI (js_sI τ 8 s (nI 64)) 9 s (nI n))) := by
              exact pg_zero hs (fun m i σ => fX2_layOut_L44 (nI s) m i σ) (fun m i σ => fX8_sheet_L86_7 (nI s) m i σ) (fun m i σ hi => pc_lay44 hs m i σ hi) (fun m σ => pc_lay44e hs m σ) (fun m i σ hi => pm_L86_7 hs m i σ hi) (fun m σ => pm_L86_7e hs m σ) 40 0 js_FU js_FU _ _ (by decide) (by decide) (by decide) (h.sheet (s := s) (B := 64) (n := n) (by decide) (by omega))
            obtain ⟨r, σ', τ', g1, g2, g3⟩ := g
            have g1' : fX2_layOut_L44 (nI s) js_FU (0 : Int32) (js_sI (js_sI σ 19 s (64 : Int32)) 20 s (nI n)) = _ := g1
            have g2' : fX8_sheet_L86_7 (nI s) js_FU (0 : Int32) (js_sI (js_sI τ 8 s (64 : Int32)) 9 s (nI n)) = _ := g2
            rw [g1', g2']
            exact ⟨_, _, _, rfl, rfl, g3⟩
          · have ew : fX2_isWidth a2 = 0 := by
              unfold fX2_isWidth
              rw [if_neg w0, if_neg w8, if_neg w16, if_neg w64]
            rw [ew, pu_00, if_neg w0, if_neg w8, if_neg w16, if_neg w64, pv_found0, pv_finds0]
            exact pv_G.found h 0
  · rw [if_neg h1, pu_00, pu_00, pv_found0, pv_finds0]
    exact pv_G.found h 0
end PH
