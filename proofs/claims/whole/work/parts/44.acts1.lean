/-! PURE: acts, first: flues -/
section PA
variable {σ τ : js_S}
theorem pc_isPlaceY {A : Nat → Nat} (hC : pv_C A σ 1) (hB : pv_B A) {x y : Int32} (h1 : pu_in x (A 0)) (h2 : pu_in y 8) : fX7_isPlace x y σ = some 1 := by
  have h : pu_in x (A 0) ∧ pu_in y 8 := ⟨h1, h2⟩
  rw [pc_isPlace hC hB, if_pos h]
theorem pc_isPlaceN1 {A : Nat → Nat} (hC : pv_C A σ 1) (hB : pv_B A) {x y : Int32} (h1 : ¬ pu_in x (A 0)) : fX7_isPlace x y σ = some 0 := by
  have h : ¬ (pu_in x (A 0) ∧ pu_in y 8) := fun q => h1 q.1
  rw [pc_isPlace hC hB, if_neg h]
theorem pc_isPlaceN2 {A : Nat → Nat} (hC : pv_C A σ 1) (hB : pv_B A) {x y : Int32} (h2 : ¬ pu_in y 8) : fX7_isPlace x y σ = some 0 := by
  have h : ¬ (pu_in x (A 0) ∧ pu_in y 8) := fun q => h2 q.2
  rw [pc_isPlace hC hB, if_neg h]
theorem pg_of (h : pv_R σ τ) (a b : Int32) : pv_G (fX7_of a b σ) (fX8_of a b τ) := by
  have h0 := h
  obtain ⟨⟨A, hB, hd, hC, hM⟩, -, -⟩ := h0
  have h6 := hB.many
  unfold fX7_of fX8_of
  rw [pc_hasFlue hC hB, pm_isFlue hM hB, Option.bind_some, Option.bind_some]
  by_cases h1 : pu_in a (A 0)
  · rw [if_pos h1, pu_10, pu_10]
    obtain ⟨f, hf, rfl⟩ := pu_in_of h1 (by omega)
    have hk := hB.kd (f := f) (by omega)
    have hdm := hB.damp
    rw [show (4 : Int64) = lN 4 from rfl, pu_in0 b (by decide)]
    by_cases h2 : pu_in b 5
    · rw [if_pos h2, pu_10]
      obtain ⟨j, hj, rfl⟩ := pu_in_of h2 (by decide)
      rw [pc_kindOf hC hB hf, pc_layersIn hC hB hf, pc_wordsIn hC hB hf, pc_bareBends hC hB hf, pm_kindOf hM (by omega), pm_layersOf hM (by omega), pm_wordsOf hM hB (by omega), pm_emptyBends hM hB (by omega), pm_cakes hM hB (by omega), hC.damp]
      simp only [Option.bind_some]
      rw [(pv_cakes_tab (A (3 + f)) (by omega) (A 2) (by omega)).1]
      rcases (show j = 0 ∨ j = 1 ∨ j = 2 ∨ j = 3 ∨ j = 4 by omega) with rfl | rfl | rfl | rfl | rfl <;> exact pv_G.same h
    · rw [if_neg h2, pu_00]
      have e : ∀ j, j < 5 → ¬ b = nI j := fun j hj e => h2 (by rw [e]; exact pu_in_nI hj (by decide))
      rw [if_neg (show ¬ b = (0 : Int32) from e 0 (by decide)), if_neg (show ¬ b = (1 : Int32) from e 1 (by decide)), if_neg (show ¬ b = (2 : Int32) from e 2 (by decide)), if_neg (show ¬ b = (3 : Int32) from e 3 (by decide)), if_neg (show ¬ b = (4 : Int32) from e 4 (by decide)), pv_found0, pv_finds0]
      exact pv_G.found h 0
  · rw [if_neg h1, pu_00, pu_00, pv_found0, pv_finds0]
    exact pv_G.found h 0
theorem pg_bend (h : pv_R σ τ) (a b c : Int32) : pv_G (fX7_bend a b c σ) (fX8_bend a b c τ) := by
  have h0 := h
  obtain ⟨⟨A, hB, hd, hC, hM⟩, -, -⟩ := h0
  have h6 := hB.many
  unfold fX7_bend fX8_bend
  rw [pm_isFlue hM hB, Option.bind_some]
  by_cases h1 : pu_in a (A 0)
  · rw [if_pos h1, pu_10, pu_M_isBend]
    obtain ⟨f, hf, rfl⟩ := pu_in_of h1 (by omega)
    by_cases h2 : pu_in b 8
    · rw [if_pos h2, pc_isPlaceY hC hB h1 h2, Option.bind_some, pu_10, pu_10]
      obtain ⟨q, hq, rfl⟩ := pu_in_of h2 (by omega)
      have hk := hB.kd (f := f) (by omega)
      rw [show (2 : Int64) = lN 2 from rfl, pu_in0 c (by decide)]
      by_cases h3 : pu_in c 3
      · rw [if_pos h3, pu_10]
        obtain ⟨j, hj, rfl⟩ := pu_in_of h3 (by decide)
        rw [pc_kindOf hC hB hf, pc_height hC hB hf hq, pc_wordsOn hC hB hf hq, pm_layers hM (by omega) hq, pm_holds hM hB (by omega) hq, pm_wordsAt hM hB (by omega) hq]
        simp only [Option.bind_some]
        rw [(pv_hold_tab (A (3 + f)) (by omega) q hq).1]
        rcases (show j = 0 ∨ j = 1 ∨ j = 2 by omega) with rfl | rfl | rfl <;> exact pv_G.same h
      · rw [if_neg h3, pu_00]
        have e : ∀ j, j < 3 → ¬ c = nI j := fun j hj e => h3 (by rw [e]; exact pu_in_nI hj (by decide))
        rw [if_neg (show ¬ c = (0 : Int32) from e 0 (by decide)), if_neg (show ¬ c = (1 : Int32) from e 1 (by decide)), if_neg (show ¬ c = (2 : Int32) from e 2 (by decide)), pv_found0, pv_finds0]
        exact pv_G.found h 0
    · rw [if_neg h2, pc_isPlaceN2 hC hB h2, Option.bind_some, pu_00, pu_00, pv_found0, pv_finds0]
      exact pv_G.found h 0
  · rw [if_neg h1, pc_isPlaceN1 hC hB h1, Option.bind_some, pu_00, pu_00, pv_found0, pv_finds0]
    exact pv_G.found h 0
theorem pg_layer (h : pv_R σ τ) (a b c d : Int32) : pv_G (fX7_layer a b c d σ) (fX8_layer a b c d τ) := by
  have h0 := h
  obtain ⟨⟨A, hB, hd, hC, hM⟩, -, -⟩ := h0
  have h6 := hB.many
  unfold fX7_layer fX8_layer
  rw [pm_isFlue hM hB, Option.bind_some]
  by_cases h1 : pu_in a (A 0)
  · rw [if_pos h1, pu_10, pu_M_isBend]
    obtain ⟨f, hf, rfl⟩ := pu_in_of h1 (by omega)
    by_cases h2 : pu_in b 8
    · rw [if_pos h2, pc_isPlaceY hC hB h1 h2, Option.bind_some, pu_10, pu_10]
      obtain ⟨q, hq, rfl⟩ := pu_in_of h2 (by omega)
      have hh := hB.hg (p := 8 * f + q) (by omega)
      rw [show (1 : Int64) = lN 1 from rfl, pu_in0 d (by decide), fa_lit 2, pu_below d (by decide)]
      by_cases h3 : pu_in d 2
      · rw [if_pos h3, pu_10, pu_10, pc_hasLayer hC hB hf hq, Option.bind_some, pm_layers hM (by omega) hq, Option.bind_some, pu_inS c (by omega)]
        obtain ⟨j, hj, rfl⟩ := pu_in_of h3 (by decide)
        by_cases h4 : pu_in c (A (9 + (8 * f + q)))
        · rw [if_pos h4, pu_10, pu_10]
          obtain ⟨k, hk, rfl⟩ := pu_in_of h4 (by omega)
          simp only [Option.bind_some]
          rw [pc_wordAt hC hB hf hq hk, pc_cakeAt hC hB hf hq hk, fa_lit 1, pk_sub (show 1 ≤ A (9 + (8 * f + q)) by omega), pk_sub (by omega), pm_spot, fa_lit 57, fa_lit 345, nI_add, nI_add, pu_gd (by omega) (by decide), pu_gd (by omega) (by decide), pu_cl (by omega), pu_cl (by omega), hM _ (by omega), hM _ (by omega)]
          simp only [Option.bind_some]
          rcases (show j = 0 ∨ j = 1 by omega) with rfl | rfl <;> exact pv_G.same h
        · rw [if_neg h4, pu_00, pu_00, pv_found3, pv_finds3]
          exact pv_G.found h 3
      · rw [if_neg h3, pu_00, pu_00, pv_found0, pv_finds0]
        exact pv_G.found h 0
    · rw [if_neg h2, pc_isPlaceN2 hC hB h2, Option.bind_some, pu_00, pu_00, pv_found0, pv_finds0]
      exact pv_G.found h 0
  · rw [if_neg h1, pc_isPlaceN1 hC hB h1, Option.bind_some, pu_00, pu_00, pv_found0, pv_finds0]
    exact pv_G.found h 0
/-- a place of the numbers is another one -/
def pv_up1 (A : Nat → Nat) (k v : Nat) : Nat → Nat := fun j => if j = k then v else A j
theorem pv_M.put {A : Nat → Nat} (hM : pv_M A τ 1) {k v : Nat} : pv_M (pv_up1 A k v) (js_sI τ 1 k (nI v)) 1 := by
  intro j hj
  rw [pv_sI_at]
  unfold pv_up1
  split
  · rfl
  · exact hM j hj
theorem pv_C.keepI {A : Nat → Nat} {o : Nat} (h : pv_C A σ o) {k i : Nat} {v : Int32} (h0 : o ≠ k) (h1 : o + 1 ≠ k) (h2 : o + 2 ≠ k) (h3 : o + 3 ≠ k) (h4 : o + 4 ≠ k) : pv_C A (js_sI σ k i v) o := h.keep (pv_sI_ne h0) (pv_sI_ne h1) (pv_sI_ne h2) (pv_sI_ne h3) (pv_sI_ne h4)
theorem pv_T.put {k i k' i' : Nat} {v v' : Int32} (h : pv_T σ τ) (hk : 1 ≤ k ∧ k ≤ 5) (hk' : k' = 1) : pv_T (js_sI σ k i v) (js_sI τ k' i' v') := by
  subst hk'
  unfold pv_T
  rw [pv_sI_ne (show 0 ≠ k by omega), pv_sI_ne (show 22 ≠ k by omega), pv_sI_ne (show 15 ≠ k by omega), pv_sI_ne (show 16 ≠ k by omega), pv_sI_ne (show 19 ≠ k by omega), pv_sI_ne (show 20 ≠ k by omega), pv_sI_ne (show 0 ≠ 1 by omega), pv_sI_ne (show 5 ≠ 1 by omega), pv_sI_ne (show 7 ≠ 1 by omega), pv_sI_ne (show 8 ≠ 1 by omega), pv_sI_ne (show 9 ≠ 1 by omega), pv_sI_2, pv_sI_2]
  exact h
/-- one write on either side, of what the stack holds -/
theorem pv_R.put {k i k' : Nat} {v : Int32} {v' : Int32} (h : pv_R σ τ) (hk : 1 ≤ k ∧ k ≤ 5) (hA : ∃ A, pv_B A ∧ A 1 ≤ 9999 ∧ pv_C A (js_sI σ k i v) 1 ∧ pv_M A (js_sI τ 1 k' v') 1) : pv_R (js_sI σ k i v) (js_sI τ 1 k' v') := by
  obtain ⟨-, ⟨A', c1, c2, c3, c4⟩, h3⟩ := h
  exact ⟨hA, ⟨A', c1, c2, c3.keepI (by omega) (by omega) (by omega) (by omega) (by omega), c4.keep (pv_sI_ne (by decide))⟩, h3.put hk rfl⟩
theorem pv_C.putkd {A : Nat → Nat} (hC : pv_C A σ 1) {f v : Nat} (hf : f < 6) : pv_C (pv_up1 A (3 + f) v) (js_sI σ 2 f (nI v)) 1 := by
  obtain ⟨a0, a1, a2, a3, a4, a5, a6⟩ := hC
  unfold pv_C pv_up1
  rw [pv_sI_ne (show (1 : Nat) ≠ 2 by decide), pv_sI_ne (show (1 + 2 : Nat) ≠ 2 by decide), pv_sI_ne (show (1 + 3 : Nat) ≠ 2 by decide), pv_sI_ne (show (1 + 4 : Nat) ≠ 2 by decide)]
  refine ⟨?_, ?_, ?_, fun j hj => ?_, fun j hj => ?_, fun j hj => ?_, fun j hj => ?_⟩
  · rw [if_neg (by omega)]; exact a0
  · rw [if_neg (by omega)]; exact a1
  · rw [if_neg (by omega)]; exact a2
  · show (js_sI σ 2 f (nI v)).1 2 j = _
    rw [pv_sI_at]
    by_cases e : j = f
    · rw [if_pos e, if_pos (by omega)]
    · rw [if_neg e, if_neg (by omega)]; exact a3 j hj
  · rw [if_neg (by omega)]; exact a4 j hj
  · rw [if_neg (by omega)]; exact a5 j hj
  · rw [if_neg (by omega)]; exact a6 j hj
theorem pv_B.putkd {A : Nat → Nat} (hB : pv_B A) {f v : Nat} (hf : f < 6) (hv : v ≤ 5) : pv_B (pv_up1 A (3 + f) v) := by
  obtain ⟨a0, a1, a2, a3, a4, a5, a6⟩ := hB
  unfold pv_B pv_up1
  refine ⟨by rw [if_neg (by omega)]; exact a0, by rw [if_neg (by omega)]; exact a1, by rw [if_neg (by omega)]; exact a2, fun j hj => ?_, fun j hj => by rw [if_neg (by omega)]; exact a4 j hj, fun j hj => by rw [if_neg (by omega)]; exact a5 j hj, fun j hj => by rw [if_neg (by omega)]; exact a6 j hj⟩
  by_cases e : j = f
  · rw [if_pos (by omega)]; exact hv
  · rw [if_neg (by omega)]; exact a3 j hj
theorem pg_turn (h : pv_R σ τ) (a b : Int32) : pv_G (fX7_turn a b σ) (fX8_turn a b τ) := by
  have h0 := h
  obtain ⟨⟨A, hB, hd, hC, hM⟩, -, -⟩ := h0
  have h6 := hB.many
  unfold fX7_turn fX8_turn
  rw [pc_hasFlue hC hB, pm_isFlue hM hB, Option.bind_some, Option.bind_some]
  by_cases h1 : pu_in a (A 0)
  · rw [if_pos h1, pu_10, pu_10, pu_C_isKind, pu_M_isKind]
    obtain ⟨f, hf, rfl⟩ := pu_in_of h1 (by omega)
    by_cases h2 : pu_in b 6
    · rw [if_pos h2, pu_10, pu_10]
      obtain ⟨v, hv, rfl⟩ := pu_in_of h2 (by omega)
      rw [pc_kindOf hC hB hf, Option.bind_some]
      unfold fX3_setKind fX8_becomes
      rw [pc_hasFlue1 hC hB hf, Option.bind_some, if_neg (by decide), pu_gd (by omega) (by decide), pu_cl (by omega), fa_lit 3, nI_add, pu_gd (by omega) (by decide), pu_gd (by omega) (by decide), pu_cl (by omega), hM _ (by omega)]
      refine ⟨_, _, _, rfl, rfl, h.put (by omega) ⟨pv_up1 A (3 + f) v, hB.putkd (by omega) (by omega), ?_, hC.putkd (by omega), hM.put⟩⟩
      unfold pv_up1
      rw [if_neg (by omega)]
      exact hd
    · rw [if_neg h2, pu_00, pu_00, pv_found0, pv_finds0]
      exact pv_G.found h 0
  · rw [if_neg h1, pu_00, pu_00, pv_found0, pv_finds0]
    exact pv_G.found h 0
theorem pg_damp (h : pv_R σ τ) (a : Int32) : pv_G (fX7_damp a σ) (fX8_damp a τ) := by
  have h0 := h
  obtain ⟨⟨A, hB, hd, hC, hM⟩, -, -⟩ := h0
  unfold fX7_damp fX8_damp
  rw [fa_lit 10, pu_below a (by decide), show (9 : Int64) = lN 9 from rfl, pu_in0 a (by decide)]
  by_cases h1 : pu_in a 10
  · rw [if_pos h1, pu_10, pu_10]
    obtain ⟨v, hv, rfl⟩ := pu_in_of h1 (by omega)
    unfold fX8_becomes
    rw [pm_g2, pm_g2, pm_s2 hM, hC.damp]
    obtain ⟨a0, a1, a2, a3, a4, a5, a6⟩ := hC
    obtain ⟨b0, b1, b2, b3, b4, b5, b6⟩ := hB
    refine ⟨_, _, _, rfl, rfl, h.put (by omega) ⟨pv_up1 A 2 v, ?_, ?_, ?_, hM.put (k := 2)⟩⟩
    · unfold pv_B pv_up1
      exact ⟨by rw [if_neg (by omega)]; exact b0, by rw [if_neg (by omega)]; exact b1, by rw [if_pos rfl]; omega, fun j hj => by rw [if_neg (by omega)]; exact b3 j hj, fun j hj => by rw [if_neg (by omega)]; exact b4 j hj, fun j hj => by rw [if_neg (by omega)]; exact b5 j hj, fun j hj => by rw [if_neg (by omega)]; exact b6 j hj⟩
    · unfold pv_up1; rw [if_neg (by omega)]; exact hd
    · unfold pv_C pv_up1
      rw [pv_sI_ne (show (1 + 1 : Nat) ≠ 1 by decide), pv_sI_ne (show (1 + 2 : Nat) ≠ 1 by decide), pv_sI_ne (show (1 + 3 : Nat) ≠ 1 by decide), pv_sI_ne (show (1 + 4 : Nat) ≠ 1 by decide), pv_sI_at, pv_sI_at, pv_sI_at]
      exact ⟨a0, rfl, a2, fun j hj => by rw [if_neg (by omega)]; exact a3 j hj, fun j hj => by rw [if_neg (by omega)]; exact a4 j hj, fun j hj => by rw [if_neg (by omega)]; exact a5 j hj, fun j hj => by rw [if_neg (by omega)]; exact a6 j hj⟩
  · rw [if_neg h1, pu_00, pu_00, pv_found0, pv_finds0]
    exact pv_G.found h 0
theorem pg_rises (h : pv_R σ τ) (a b c : Int32) : pv_G (fX7_rises a b c σ) (fX8_rises a b c τ) := by
  have h0 := h
  obtain ⟨⟨A, hB, hd, hC, hM⟩, -, -⟩ := h0
  have h6 := hB.many
  unfold fX7_rises fX8_rises
  rw [pc_hasFlue hC hB, pm_isFlue hM hB, Option.bind_some, Option.bind_some]
  by_cases h1 : pu_in a (A 0)
  · rw [if_pos h1, pu_10, pu_10, pu_C_isWord, pu_M_isWord]
    obtain ⟨f, hf, rfl⟩ := pu_in_of h1 (by omega)
    by_cases h2 : pu_in b 16
    · rw [if_pos h2, pu_10, pu_10, pu_C_isVoice, pu_M_isVoice]
      obtain ⟨w, hw, rfl⟩ := pu_in_of h2 (by omega)
      by_cases h3 : pu_in c 10
      · rw [if_pos h3, pu_10, pu_10]
        obtain ⟨v, hv, rfl⟩ := pu_in_of h3 (by omega)
        have hk := hB.kd (f := f) (by omega)
        rw [pc_kindOf hC hB hf, Option.bind_some, hC.day, pm_rise hM hB (by omega) hw hv, Option.bind_some, show fX1_rise (nI (A (3 + f))) (nI w) (nI v) (nI (A 1)) = pv_up (A (3 + f)) w v (A 1) from rfl]
        rcases pv_up_in (day := A 1) (show A (3 + f) < 6 by omega) hw hv with e | ⟨q, hq, e⟩
        · rw [e, if_pos rfl, if_neg (by decide), pv_found3, pv_finds3]
          exact pv_G.found h 3
        · rw [e, if_neg (fun x => by rw [fa_eq, nI_toInt (by omega)] at x; have : ((-1 : Int32)).toInt = -1 := rfl; omega), if_pos (nI_pos' (by omega))]
          exact pv_G.same h
      · rw [if_neg h3, pu_00, pu_00, pv_found0, pv_finds0]
        exact pv_G.found h 0
    · rw [if_neg h2, pu_00, pu_00, pv_found0, pv_finds0]
      exact pv_G.found h 0
  · rw [if_neg h1, pu_00, pu_00, pv_found0, pv_finds0]
    exact pv_G.found h 0
end PA
