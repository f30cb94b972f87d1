/-! PURE: where, covers, richest, status, wipe, tear, image, undo -/
theorem pu_bit01 (x : Int32) : x &&& 1 = 0 ∨ x &&& 1 = 1 := by
  have h := pk_and x (m := 1) 1 (by decide)
  rw [h]
  rcases Nat.mod_two_eq_zero_or_one x.toBitVec.toNat with e | e
  · exact Or.inl (by rw [show (2 : Nat) ^ 1 = 2 from rfl, e]; rfl)
  · exact Or.inr (by rw [show (2 : Nat) ^ 1 = 2 from rfl, e]; rfl)
section PE
variable {A : Nat → Nat} {σ τ : js_S}
theorem pg_whereL (hB : pv_B A) {w : Nat} : ∀ d f n m x σ τ, f + d = A 0 → d < n → d < m → pv_R σ τ → pv_C A σ 1 → pv_M A τ 1 → pv_G (fX7_where_L18 (nI w) n x (nI f) σ) (fX8_where_L18 (nI w) m x (nI f) τ)
  | 0, f, n, m, x, σ, τ, hf, hn, hm, h, hC, hM => by
    obtain ⟨n, rfl⟩ : ∃ m, n = m + 1 := ⟨n - 1, by omega⟩
    obtain ⟨m, rfl⟩ : ∃ k, m = k + 1 := ⟨m - 1, by omega⟩
    have h6 := hB.many
    rw [fX7_where_L18, fX8_where_L18, pm_g0, pm_s0 hM, hC.many, if_pos (nI_le (by omega) (by omega)), if_pos (nI_le (by omega) (by omega))]
    exact pv_G.same h
  | d + 1, f, n, m, x, σ, τ, hf, hn, hm, h, hC, hM => by
    obtain ⟨n, rfl⟩ : ∃ m, n = m + 1 := ⟨n - 1, by omega⟩
    obtain ⟨m, rfl⟩ : ∃ k, m = k + 1 := ⟨m - 1, by omega⟩
    have h6 := hB.many
    rw [fX7_where_L18, fX8_where_L18, pm_g0, pm_s0 hM, hC.many, if_neg (nI_ge (by omega) (by omega)), if_neg (nI_ge (by omega) (by omega)), pc_wordsIn hC hB (by omega), Option.bind_some, pm_wordsOf hM hB (by omega), Option.bind_some, nI_1]
    unfold fX7_hasBit
    rcases pu_bit01 (ps_wordsOf A f >>> (nI w &&& 31)) with e | e
    · rw [e, if_neg (show ¬ (0 : Int32) = 1 by decide), pu_00, Int32.zero_shiftLeft, Int32.or_zero]
      exact pg_whereL hB d (f + 1) n m x σ τ (by omega) (by omega) (by omega) h hC hM
    · rw [e, if_pos rfl, pu_10]
      exact pg_whereL hB d (f + 1) n m _ σ τ (by omega) (by omega) (by omega) h hC hM
theorem pg_where (h : pv_R σ τ) (a : Int32) : pv_G (fX7_where a σ) (fX8_where a τ) := by
  have h0 := h
  obtain ⟨⟨A, hB, hd, hC, hM⟩, -, -⟩ := h0
  have h6 := hB.many
  unfold fX7_where fX8_where
  rw [pu_C_isWord, pu_M_isWord]
  by_cases h1 : pu_in a 16
  · rw [if_pos h1, pu_10, pu_10]
    obtain ⟨w, hw, rfl⟩ := pu_in_of h1 (by decide)
    exact pg_whereL hB (A 0) 0 js_FU js_FU 0 σ τ (by omega) (by unfold js_FU; omega) (by unfold js_FU; omega) h hC hM
  · rw [if_neg h1, pu_00, pu_00, pv_found0, pv_finds0]
    exact pv_G.found h 0
/-! covers -/
def ps_has (A : Nat → Nat) (f w b : Nat) : Bool := decide ((ps_words A f b >>> (nI w &&& 31)) &&& 1 = (1 : Int32))
theorem pc_lowestL (hC : pv_C A σ 1) (hB : pv_B A) {f w : Nat} (hf : f < A 0) : ∀ d b n, b + d = 8 → d < n → fX3_lowestWith_L2 (nI f) (nI w) σ n (nI b) = some (match pu_first (ps_has A f w) b d with | none => -1 | some q => nI q)
  | 0, b, n, hb, hn => by
    obtain ⟨n, rfl⟩ : ∃ m, n = m + 1 := ⟨n - 1, by omega⟩
    have : b = 8 := by omega
    subst this
    rfl
  | d + 1, b, n, hb, hn => by
    obtain ⟨n, rfl⟩ : ∃ m, n = m + 1 := ⟨n - 1, by omega⟩
    rw [fX3_lowestWith_L2, if_neg (show ¬ (8 : Int32) ≤ nI b from nI_ge (b := 8) (by omega) (by decide)), pc_wordsOn hC hB hf (by omega), Option.bind_some, nI_1]
    unfold fX7_hasBit pu_first
    by_cases e : (ps_words A f b >>> (nI w &&& 31)) &&& 1 = (1 : Int32)
    · have e2 : ps_has A f w b = true := decide_eq_true e
      rw [if_pos e, pu_10, if_pos e2]
    · have e2 : ¬ ps_has A f w b = true := by simpa [ps_has] using e
      rw [if_neg e, pu_00, if_neg e2]
      exact pc_lowestL hC hB hf d (b + 1) n (by omega) (by omega)
theorem pm_lowestL (hM : pv_M A τ 1) (hB : pv_B A) {f w : Nat} (hf : f < 6) (k59 : Int32 → js_S → Option (Int32 × js_S)) (p2 : Int32) : ∀ d b n, b + d = 8 → d < n → fX8_covers_L32 k59 (nI f) p2 (nI w) n (nI b) τ = k59 (nI ((pu_first (ps_has A f w) b d).getD 8)) τ
  | 0, b, n, hb, hn => by
    obtain ⟨n, rfl⟩ : ∃ m, n = m + 1 := ⟨n - 1, by omega⟩
    have : b = 8 := by omega
    subst this
    rfl
  | d + 1, b, n, hb, hn => by
    obtain ⟨n, rfl⟩ : ∃ m, n = m + 1 := ⟨n - 1, by omega⟩
    rw [fX8_covers_L32, if_neg (show ¬ (8 : Int32) ≤ nI b from nI_ge (b := 8) (by omega) (by decide)), pm_wordsAt hM hB hf (by omega), Option.bind_some, nI_1]
    unfold pu_first
    rcases pu_bit01 (ps_words A f b >>> (nI w &&& 31)) with e | e
    · have e2 : ¬ ps_has A f w b = true := by simp [ps_has, e]
      rw [e, pu_00, if_neg e2]
      exact pm_lowestL hM hB hf k59 p2 d (b + 1) n (by omega) (by omega)
    · have e2 : ps_has A f w b = true := decide_eq_true e
      rw [e, if_neg (by decide), if_pos e2]
      rfl
theorem pg_coversL (hB : pv_B A) {f w q : Nat} (hf : f < A 0) (hw : w < 16) (hq : q < 8) : ∀ d v n m σ τ, v + d = 10 → d < n → d < m → pv_R σ τ → pv_C A σ 1 → pv_M A τ 1 → pv_G (fX7_covers_L59 (nI f) (nI w) (nI q) n (nI v) σ) (fX8_covers_L62 (nI f) (nI w) (nI q) m (nI v) τ)
  | 0, v, n, m, σ, τ, hv, hn, hm, h, hC, hM => by
    obtain ⟨n, rfl⟩ : ∃ m, n = m + 1 := ⟨n - 1, by omega⟩
    obtain ⟨m, rfl⟩ : ∃ k, m = k + 1 := ⟨m - 1, by omega⟩
    have : v = 10 := by omega
    subst this
    rw [fX7_covers_L59, fX8_covers_L62, if_pos (show (10 : Int32) ≤ nI 10 by decide), if_pos (show (10 : Int32) ≤ nI 10 by decide), pv_found3, pv_finds3]
    exact pv_G.found h 3
  | d + 1, v, n, m, σ, τ, hv, hn, hm, h, hC, hM => by
    obtain ⟨n, rfl⟩ : ∃ m, n = m + 1 := ⟨n - 1, by omega⟩
    obtain ⟨m, rfl⟩ : ∃ k, m = k + 1 := ⟨m - 1, by omega⟩
    have h6 := hB.many
    rw [fX7_covers_L59, fX8_covers_L62, if_neg (show ¬ (10 : Int32) ≤ nI v from nI_ge (b := 10) (by omega) (by decide)), if_neg (show ¬ (10 : Int32) ≤ nI v from nI_ge (b := 10) (by omega) (by decide)), if_neg (show ¬ (8 : Int32) ≤ nI q from nI_ge (b := 8) (by omega) (by decide)), pc_landing hC hB hf hw (by omega), Option.bind_some, pm_lands hM hB (by omega) hw (by omega), Option.bind_some, nI_1]
    split
    · exact pv_G.same h
    · exact pg_coversL hB hf hw hq d (v + 1) n m σ τ (by omega) (by omega) (by omega) h hC hM
theorem pg_covers (h : pv_R σ τ) (a b c : Int32) : pv_G (fX7_covers a b c σ) (fX8_covers a b c τ) := by
  have h0 := h
  obtain ⟨⟨A, hB, hd, hC, hM⟩, -, -⟩ := h0
  have h6 := hB.many
  unfold fX7_covers fX8_covers
  rw [pc_hasFlue hC hB, pm_isFlue hM hB, Option.bind_some, Option.bind_some, pu_C_isWord, pu_M_isWord, pu_C_isWord, pu_M_isWord]
  by_cases h1 : pu_in a (A 0)
  · rw [if_pos h1, pu_10, pu_10]
    obtain ⟨f, hf, rfl⟩ := pu_in_of h1 (by omega)
    by_cases h2 : pu_in b 16
    · rw [if_pos h2, pu_10, pu_10]
      obtain ⟨w, hw, rfl⟩ := pu_in_of h2 (by decide)
      by_cases h3 : pu_in c 16
      · rw [if_pos h3, pu_10, pu_10]
        obtain ⟨u, hu, rfl⟩ := pu_in_of h3 (by decide)
        have e1 : fX3_lowestWith (nI f) (nI u) σ = _ := pc_lowestL hC hB hf 8 0 js_FU (by decide) (by decide)
        have e2 := pm_lowestL hM hB (w := u) (show f < 6 by omega) (fun w5 s6 => fX8_covers_L62 (nI f) (nI w) w5 js_FU (0 : Int32) s6) (nI w) 8 0 js_FU (by decide) (by decide)
        rw [e1, Option.bind_some, show (0 : Int32) = nI 0 from rfl] at *
        rw [e2]
        cases hp : pu_first (ps_has A f u) 0 8 with
        | none =>
          show pv_G (if (-1 : Int32) = -1 then _ else _) (fX8_covers_L62 (nI f) (nI w) (nI 8) js_FU (nI 0) τ)
          rw [if_pos rfl, pv_found3]
          exact pv_G.found h 3
        | some q =>
          have hq := pu_first_lt _ _ _ hp
          show pv_G (if nI q = -1 then _ else fX7_covers_L59 (nI f) (nI w) (nI q) js_FU (nI 0) σ) (fX8_covers_L62 (nI f) (nI w) (nI q) js_FU (nI 0) τ)
          rw [if_neg (pu_m1 (by omega))]
          exact pg_coversL hB hf hw (by omega) 10 0 js_FU js_FU σ τ (by decide) (by decide) (by decide) h hC hM
      · rw [if_neg h3, pu_00, pu_00, pv_found0, pv_finds0]
        exact pv_G.found h 0
    · rw [if_neg h2, pu_00, pu_00, pv_found0, pv_finds0]
      exact pv_G.found h 0
  · rw [if_neg h1, pu_00, pu_00, pv_found0, pv_finds0]
    exact pv_G.found h 0
/-! richest -/
theorem pg_richestL (hB : pv_B A) {f : Nat} (hf : f < A 0) : ∀ d b n m x y k σ τ, b + d = 8 → d < n → d < m → k < 1000 → (k = 0 ∧ y = (-1 : Int32) ∨ 0 < k ∧ y = x ∧ ∃ q, q < 8 ∧ x = nI q) → pv_R σ τ → pv_C A σ 1 → pv_M A τ 1 → pv_G (fX7_richest_L25 (nI f) n x (nI k) (nI b) σ) (fX8_richest_L22 (nI f) m y (nI k) (nI b) τ)
  | 0, b, n, m, x, y, k, σ, τ, hb, hn, hm, hk, hi, h, hC, hM => by
    obtain ⟨n, rfl⟩ : ∃ m, n = m + 1 := ⟨n - 1, by omega⟩
    obtain ⟨m, rfl⟩ : ∃ k, m = k + 1 := ⟨m - 1, by omega⟩
    have : b = 8 := by omega
    subst this
    rw [fX7_richest_L25, fX8_richest_L22, if_pos (show (8 : Int32) ≤ nI 8 by decide), if_pos (show (8 : Int32) ≤ nI 8 by decide)]
    rcases hi with ⟨rfl, rfl⟩ | ⟨h1, rfl, q, hq, rfl⟩
    · rw [if_pos (show nI 0 = 0 from rfl), if_neg (by decide), pv_found3, pv_finds3]
      exact pv_G.found h 3
    · rw [if_neg (nI_ne0 h1 (by omega)), if_pos (nI_pos' (by omega))]
      exact pv_G.same h
  | d + 1, b, n, m, x, y, k, σ, τ, hb, hn, hm, hk, hi, h, hC, hM => by
    obtain ⟨n, rfl⟩ : ∃ m, n = m + 1 := ⟨n - 1, by omega⟩
    obtain ⟨m, rfl⟩ : ∃ k, m = k + 1 := ⟨m - 1, by omega⟩
    have h6 := hB.many
    obtain ⟨s, hs, e⟩ := ps_words_set hB (show f < 6 by omega) (show b < 8 by omega)
    have hp := pb_pc_le 16 s
    rw [fX7_richest_L25, fX8_richest_L22, if_neg (show ¬ (8 : Int32) ≤ nI b from nI_ge (b := 8) (by omega) (by decide)), if_neg (show ¬ (8 : Int32) ≤ nI b from nI_ge (b := 8) (by omega) (by decide)), pc_wordsOn hC hB hf (by omega), Option.bind_some, pm_wordsAt hM hB (by omega) (by omega), Option.bind_some, e, pb_count hs, Option.bind_some, pb_bc_of hs, pb_bc_pc hs, nI_1]
    by_cases e2 : pb_pc 16 s ≤ k
    · rw [if_pos (nI_le e2 (by omega)), if_pos (nI_le e2 (by omega)), if_pos (nI_le e2 (by omega))]
      exact pg_richestL hB hf d (b + 1) n m x y k σ τ (by omega) (by omega) (by omega) hk hi h hC hM
    · rw [if_neg (nI_ge (by omega) (by omega)), if_neg (nI_ge (by omega) (by omega)), if_neg (nI_ge (by omega) (by omega))]
      exact pg_richestL hB hf d (b + 1) n m (nI b) (nI b) (pb_pc 16 s) σ τ (by omega) (by omega) (by omega) (by omega) (Or.inr ⟨by omega, rfl, b, by omega, rfl⟩) h hC hM
theorem pg_richest (h : pv_R σ τ) (a : Int32) : pv_G (fX7_richest a σ) (fX8_richest a τ) := by
  have h0 := h
  obtain ⟨⟨A, hB, hd, hC, hM⟩, -, -⟩ := h0
  have h6 := hB.many
  unfold fX7_richest fX8_richest
  rw [pc_hasFlue hC hB, pm_isFlue hM hB, Option.bind_some, Option.bind_some]
  by_cases h1 : pu_in a (A 0)
  · rw [if_pos h1, pu_10, pu_10]
    obtain ⟨f, hf, rfl⟩ := pu_in_of h1 (by omega)
    exact pg_richestL hB hf 8 0 js_FU js_FU 0 (-1) 0 σ τ (by decide) (by decide) (by decide) (by decide) (Or.inl ⟨rfl, rfl⟩) h hC hM
  · rw [if_neg h1, pu_00, pu_00, pv_found0, pv_finds0]
    exact pv_G.found h 0
/-! status -/
theorem pg_status (h : pv_R σ τ) (a : Int32) : pv_G (fX7_status a σ) (fX8_status a τ) := by
  have h3 : ∀ k, k < 7 → σ.1 22 k = τ.1 5 k := h.2.2.2.2.1
  unfold fX7_status fX8_status
  rw [pu_fin, Int32.toInt_toInt64]
  have e1 : (a < (-1 : Int32)) ↔ a.toInt < -1 := by rw [fa_lt]; rfl
  have e2 : (a < (7 : Int32)) ↔ a.toInt < 7 := by rw [fa_lt]; rfl
  have e3 : (a < 0) ↔ a.toInt < 0 := by rw [fa_lt]; rfl
  have e4 : ((-1 : Int64).toInt ≤ a.toInt ∧ a.toInt ≤ (6 : Int64).toInt) ↔ (-1 ≤ a.toInt ∧ a.toInt ≤ 6) := Iff.rfl
  simp only [e1, e2, e3, e4]
  by_cases h1 : -1 ≤ a.toInt ∧ a.toInt ≤ 6
  · rw [if_pos h1, pu_10, if_neg (by omega), if_pos (by omega)]
    by_cases h2 : a.toInt < 0
    · have ha : a < 0 := e3.mpr h2
      rw [if_pos h2]
      have c1 := pu_loop0 (fun n x i => fX7_status_L33 n x i σ) (fun x k => x + τ.1 5 k) (fun x => some (x, σ)) 7 (by decide) (fun n x i hi => by
        show fX7_status_L33 (n + 1) x (nI i) σ = _
        rw [fX7_status_L33, if_neg (show ¬ (7 : Int32) ≤ nI i from nI_ge hi (by decide)), pu_gd hi (by decide), pu_cl (by omega), h3 i hi, nI_1]) (fun n x => rfl) 0
      have c2 := pu_loop0 (fun n x i => fX8_status_L25 a n x i τ) (fun x k => x + τ.1 5 k) (fun x => some (x, τ)) 7 (by decide) (fun n x i hi => by
        show fX8_status_L25 a (n + 1) x (nI i) τ = _
        rw [fX8_status_L25, if_neg (show ¬ (7 : Int32) ≤ nI i from nI_ge hi (by decide)), if_pos ha, pu_gd hi (by decide), pu_cl (by omega), nI_1]) (fun n x => rfl) 0
      show pv_G (fX7_status_L33 js_FU 0 0 σ) (fX8_status_L25 a js_FU 0 0 τ)
      have c1' : fX7_status_L33 js_FU 0 0 σ = _ := c1
      have c2' : fX8_status_L25 a js_FU 0 0 τ = _ := c2
      rw [c1', c2']
      exact pv_G.same h
    · have ha : ¬ a < 0 := fun x => h2 (e3.mp x)
      rw [if_neg h2]
      have hp : pu_in a 7 := by constructor <;> omega
      obtain ⟨j, hj, rfl⟩ := pu_in_of hp (by decide)
      rw [pu_gd hj (by decide), pu_cl (by omega), h3 j hj]
      have c2 := pu_loop0 (fun n x i => fX8_status_L25 (nI j) n x i τ) (fun x k => if k = j then x + τ.1 5 k else x) (fun x => some (x, τ)) 7 (by decide) (fun n x i hi => by
        show fX8_status_L25 (nI j) (n + 1) x (nI i) τ = _
        rw [fX8_status_L25, if_neg (show ¬ (7 : Int32) ≤ nI i from nI_ge hi (by decide)), if_neg ha, pu_gd hi (by decide), pu_cl (by omega), nI_1, Int32.add_zero]
        have e5 : (nI i = nI j) ↔ i = j := nI_eq (by omega) (by omega)
        by_cases e6 : i = j
        · rw [if_pos (e5.mpr e6), if_pos e6]
        · rw [if_neg (fun x => e6 (e5.mp x)), if_neg e6]) (fun n x => rfl) 0
      have c2' : fX8_status_L25 (nI j) js_FU 0 0 τ = _ := c2
      rw [c2']
      have c3 : pu_fold (fun x k => if k = j then x + τ.1 5 k else x) 0 0 7 = τ.1 5 j := by
        rcases (show j = 0 ∨ j = 1 ∨ j = 2 ∨ j = 3 ∨ j = 4 ∨ j = 5 ∨ j = 6 by omega) with rfl | rfl | rfl | rfl | rfl | rfl | rfl <;> simp [pu_fold]
      rw [c3]
      exact pv_G.same h
  · rw [if_neg h1, pu_00, pv_finds0]
    by_cases h2 : a.toInt < -1
    · rw [if_pos h2, pv_found0]
      exact pv_G.found h 0
    · rw [if_neg h2, if_neg (by omega), pv_found0]
      exact pv_G.found h 0
/-! wipe, tear -/
theorem pg_wipe (h : pv_R σ τ) : pv_G (fX7_wipe σ) (fX8_wipe τ) := by
  obtain ⟨⟨A, b1, b2, b3, b4⟩, ⟨A', c1, c2, c3, c4⟩, t1, t2, t3, ⟨n, t4, t5, t6⟩, t7, t8, t9⟩ := h
  unfold fX7_wipe fX8_wipe
  rw [t5, t6]
  refine ⟨_, _, _, rfl, rfl, ⟨A, b1, b2, b3.keepI (by decide) (by decide) (by decide) (by decide) (by decide), b4.keep (pv_sI_ne (by decide))⟩, ⟨A', c1, c2, c3.keepI (by decide) (by decide) (by decide) (by decide) (by decide), c4.keep (pv_sI_ne (by decide))⟩, ?_⟩
  unfold pv_T
  rw [pv_sI_ne (show (0 : Nat) ≠ 15 by decide), pv_sI_ne (show (22 : Nat) ≠ 15 by decide), pv_sI_ne (show (16 : Nat) ≠ 15 by decide), pv_sI_ne (show (19 : Nat) ≠ 15 by decide), pv_sI_ne (show (20 : Nat) ≠ 15 by decide), pv_sI_ne (show (5 : Nat) ≠ 0 by decide), pv_sI_ne (show (7 : Nat) ≠ 0 by decide), pv_sI_ne (show (8 : Nat) ≠ 0 by decide), pv_sI_ne (show (9 : Nat) ≠ 0 by decide), pv_sI_2, pv_sI_2, pv_sI_at, pv_sI_at, pv_sI_at]
  exact ⟨t1, t2, t3, ⟨0, by decide, rfl, rfl⟩, t7, t8, t9⟩
theorem pg_tear (h : pv_R σ τ) : pv_G (fX7_tear σ) (fX8_tear τ) := by
  obtain ⟨⟨A, b1, b2, b3, b4⟩, ⟨A', c1, c2, c3, c4⟩, t1, t2, t3, t4, t7, t8, t9⟩ := h
  have key : pv_R (js_sI σ 0 2 (0 : Int32)) (js_sI τ 0 5 (0 : Int32)) := by
    refine ⟨⟨A, b1, b2, b3.keepI (by decide) (by decide) (by decide) (by decide) (by decide), b4.keep (pv_sI_ne (by decide))⟩, ⟨A', c1, c2, c3.keepI (by decide) (by decide) (by decide) (by decide) (by decide), c4.keep (pv_sI_ne (by decide))⟩, ?_⟩
    unfold pv_T
    rw [pv_sI_ne (show (15 : Nat) ≠ 0 by decide), pv_sI_ne (show (22 : Nat) ≠ 0 by decide), pv_sI_ne (show (16 : Nat) ≠ 0 by decide), pv_sI_ne (show (19 : Nat) ≠ 0 by decide), pv_sI_ne (show (20 : Nat) ≠ 0 by decide), pv_sI_ne (show (5 : Nat) ≠ 0 by decide), pv_sI_ne (show (7 : Nat) ≠ 0 by decide), pv_sI_ne (show (8 : Nat) ≠ 0 by decide), pv_sI_ne (show (9 : Nat) ≠ 0 by decide), pv_sI_2, pv_sI_2, pv_sI_at, pv_sI_at, pv_sI_at]
    exact ⟨rfl, Or.inl rfl, t3, t4, t7, t8, t9⟩
  unfold fX7_tear fX8_tear
  rw [← t1]
  split
  · exact ⟨_, _, _, rfl, rfl, key⟩
  · exact ⟨_, _, _, rfl, rfl, key⟩
/-! rows copied -/
def pv_cp (s0 s1 : js_S) (dst src : Nat) : Prop := (∀ k, k ≠ dst → s1.1 k = s0.1 k) ∧ s1.2 = s0.2 ∧ ∀ j, j < 633 → s1.1 dst j = s0.1 src j
theorem pv_cpL {R : Type} (L : Nat → Int32 → js_S → R) (fin : js_S → R) (dst src : Nat) (hne : src ≠ dst) (hs : ∀ n s i, i < 633 → L (n + 1) (nI i) s = L n (nI (i + 1)) (js_sI s dst i (s.1 src i))) (he : ∀ n s, L (n + 1) (nI 633) s = fin s) (s0 : js_S) : ∃ s1, L js_FU (0 : Int32) s0 = fin s1 ∧ pv_cp s0 s1 dst src := by
  have key := pu_loopI (fun n s i => L n i s) (fun s i => js_sI s dst i (s.1 src i)) fin (fun s i => (∀ k, k ≠ dst → s.1 k = s0.1 k) ∧ s.2 = s0.2 ∧ ∀ j, j < i → s.1 dst j = s0.1 src j) 633 (by decide) (fun n s i hi ⟨h1, h2, h3⟩ => ⟨hs n s i hi, fun k hk => by rw [pv_sI_ne hk]; exact h1 k hk, h2, fun j hj => by
    rw [pv_sI_at]
    by_cases e : j = i
    · rw [if_pos e, e, h1 src hne]
    · rw [if_neg e]; exact h3 j (by omega)⟩) (fun n s _ => he n s) s0 ⟨fun _ _ => rfl, rfl, fun j hj => by cases hj⟩
  exact ⟨_, key.1, key.2.1, key.2.2.1, key.2.2.2⟩
theorem pv_M.cp {s0 s1 : js_S} {dst src : Nat} (h : pv_cp s0 s1 dst src) (hM : pv_M A s0 src) : pv_M A s1 dst := fun k hk => by rw [h.2.2 k hk]; exact hM k hk
theorem pm_imageL (τ : js_S) : ∃ s1, fX8_image τ = some ((1 : Int32), js_sI s1 0 5 (1 : Int32)) ∧ pv_cp τ s1 2 1 := pv_cpL (fun n i s => fX8_image_L2 n i s) _ 2 1 (by decide) (fun n s i hi => by
    show fX8_image_L2 (n + 1) (nI i) s = _
    rw [fX8_image_L2, if_neg (show ¬ (633 : Int32) ≤ nI i from nI_ge hi (by decide)), pu_gd hi (by decide), pu_gd hi (by decide), pu_cl (by omega), nI_1]) (fun n s => rfl) τ
theorem pm_undoL (τ : js_S) : ∃ s1, fX8_undo_L16 js_FU (0 : Int32) τ = some (s1.1 1 0, s1) ∧ pv_cp τ s1 1 2 := pv_cpL (fun n i s => fX8_undo_L16 n i s) _ 1 2 (by decide) (fun n s i hi => by
    show fX8_undo_L16 (n + 1) (nI i) s = _
    rw [fX8_undo_L16, if_neg (show ¬ (633 : Int32) ≤ nI i from nI_ge hi (by decide)), pu_gd hi (by decide), pu_gd hi (by decide), pu_cl (by omega), nI_1]) (fun n s => rfl) τ
theorem pv_cpI_ne {a b n q : Nat} (h : q ≠ b) : (js_cpI σ a b 0 0 n).1 q = σ.1 q := by simp [js_cpI, h]
theorem pv_cpI_at {a b n k : Nat} (h : k < n) : (js_cpI σ a b 0 0 n).1 b k = σ.1 a k := by simp [js_cpI, va_cpy, h]
def pv_bcm (σ : js_S) (o p : Nat) : js_S := js_cpI (js_cpI (js_cpI (js_cpI (js_sI (js_sI (js_sI σ p 0 (σ.1 o 0)) p 1 (σ.1 o 1)) p 2 (σ.1 o 2)) (o + 1) (p + 1) 0 0 6) (o + 2) (p + 2) 0 0 48) (o + 3) (p + 3) 0 0 288) (o + 4) (p + 4) 0 0 288
theorem pc_become (σ : js_S) : fX3_become σ = some (pv_bcm σ 1 6) := by
  unfold fX3_become pv_bcm
  rw [pv_sI_ne (show (1 : Nat) ≠ 6 by decide), pv_sI_ne (show (1 : Nat) ≠ 6 by decide), pv_sI_ne (show (1 : Nat) ≠ 6 by decide)]
  rfl
theorem pc_become1 (σ : js_S) : fX3_become_i1 σ = some (pv_bcm σ 6 1) := by
  unfold fX3_become_i1 pv_bcm
  rw [pv_sI_ne (show (6 : Nat) ≠ 1 by decide), pv_sI_ne (show (6 : Nat) ≠ 1 by decide), pv_sI_ne (show (6 : Nat) ≠ 1 by decide)]
  rfl
theorem pv_bcm_off {o p k : Nat} (h : k < p ∨ p + 4 < k) : (pv_bcm σ o p).1 k = σ.1 k := by
  unfold pv_bcm
  rw [pv_cpI_ne (by omega), pv_cpI_ne (by omega), pv_cpI_ne (by omega), pv_cpI_ne (by omega), pv_sI_ne (by omega), pv_sI_ne (by omega), pv_sI_ne (by omega)]
theorem pv_bcm_C {o p : Nat} (h : o + 4 < p ∨ p + 4 < o) (hC : pv_C A σ o) : pv_C A (pv_bcm σ o p) p := by
  obtain ⟨a0, a1, a2, a3, a4, a5, a6⟩ := hC
  unfold pv_bcm
  refine ⟨?_, ?_, ?_, fun j hj => ?_, fun j hj => ?_, fun j hj => ?_, fun j hj => ?_⟩
  · rw [pv_cpI_ne (by omega), pv_cpI_ne (by omega), pv_cpI_ne (by omega), pv_cpI_ne (by omega), pv_sI_at, if_neg (by decide), pv_sI_at, if_neg (by decide), pv_sI_at, if_pos rfl, a0]
  · rw [pv_cpI_ne (by omega), pv_cpI_ne (by omega), pv_cpI_ne (by omega), pv_cpI_ne (by omega), pv_sI_at, if_neg (by decide), pv_sI_at, if_pos rfl, a1]
  · rw [pv_cpI_ne (by omega), pv_cpI_ne (by omega), pv_cpI_ne (by omega), pv_cpI_ne (by omega), pv_sI_at, if_pos rfl, a2]
  · rw [pv_cpI_ne (by omega), pv_cpI_ne (by omega), pv_cpI_ne (by omega), pv_cpI_at hj, pv_sI_ne (by omega), pv_sI_ne (by omega), pv_sI_ne (by omega), a3 j hj]
  · rw [pv_cpI_ne (by omega), pv_cpI_ne (by omega), pv_cpI_at hj, pv_cpI_ne (by omega), pv_sI_ne (by omega), pv_sI_ne (by omega), pv_sI_ne (by omega), a4 j hj]
  · rw [pv_cpI_ne (by omega), pv_cpI_at hj, pv_cpI_ne (by omega), pv_cpI_ne (by omega), pv_sI_ne (by omega), pv_sI_ne (by omega), pv_sI_ne (by omega), a5 j hj]
  · rw [pv_cpI_at hj, pv_cpI_ne (by omega), pv_cpI_ne (by omega), pv_cpI_ne (by omega), pv_sI_ne (by omega), pv_sI_ne (by omega), pv_sI_ne (by omega), a6 j hj]
theorem pg_image (h : pv_R σ τ) : pv_G (fX7_image σ) (fX8_image τ) := by
  obtain ⟨⟨A, b1, b2, b3, b4⟩, -, t1, t2, t3, t4, t7, t8, t9⟩ := h
  obtain ⟨s1, e1, e2⟩ := pm_imageL τ
  unfold fX7_image
  rw [pc_become, Option.bind_some, e1]
  have o : ∀ k, k < 6 ∨ 10 < k → (pv_bcm σ 1 6).1 k = σ.1 k := fun k hk => pv_bcm_off (by omega)
  refine ⟨_, _, _, rfl, rfl, ⟨A, b1, b2, (b3.keep (o 1 (by omega)) (o 2 (by omega)) (o 3 (by omega)) (o 4 (by omega)) (o 5 (by omega))).keepI (by decide) (by decide) (by decide) (by decide) (by decide), (b4.keep (e2.1 1 (by decide))).keep (pv_sI_ne (by decide))⟩, ⟨A, b1, b2, (pv_bcm_C (by decide) b3).keepI (by decide) (by decide) (by decide) (by decide) (by decide), (pv_M.cp e2 b4).keep (pv_sI_ne (by decide))⟩, ?_⟩
  unfold pv_T
  rw [pv_sI_ne (show (15 : Nat) ≠ 0 by decide), pv_sI_ne (show (22 : Nat) ≠ 0 by decide), pv_sI_ne (show (16 : Nat) ≠ 0 by decide), pv_sI_ne (show (19 : Nat) ≠ 0 by decide), pv_sI_ne (show (20 : Nat) ≠ 0 by decide), pv_sI_ne (show (5 : Nat) ≠ 0 by decide), pv_sI_ne (show (7 : Nat) ≠ 0 by decide), pv_sI_ne (show (8 : Nat) ≠ 0 by decide), pv_sI_ne (show (9 : Nat) ≠ 0 by decide), pv_sI_2, pv_sI_2, pv_sI_at, pv_sI_at, pv_sI_at, o 15 (by omega), o 22 (by omega), o 16 (by omega), o 19 (by omega), o 20 (by omega), e2.1 0 (by decide), e2.1 5 (by decide), e2.1 7 (by decide), e2.1 8 (by decide), e2.1 9 (by decide), e2.2.1]
  exact ⟨rfl, Or.inr rfl, t3, t4, t7, t8, t9⟩
theorem pg_undo (h : pv_R σ τ) : pv_G (fX7_undo σ) (fX8_undo τ) := by
  have h0 := h
  obtain ⟨-, ⟨A, b1, b2, b3, b4⟩, t1, t2, t3, t4, t7, t8, t9⟩ := h
  unfold fX7_undo fX8_undo
  rw [← t1]
  by_cases hk : σ.1 0 2 = 0
  · rw [if_pos hk, if_pos hk, pv_found3, pv_finds3]
    exact pv_G.found h0 3
  · rw [if_neg hk, if_neg hk, pc_become1, Option.bind_some]
    obtain ⟨s1, e1, e2⟩ := pm_undoL τ
    rw [e1]
    have o : ∀ k, k < 1 ∨ 5 < k → (pv_bcm σ 6 1).1 k = σ.1 k := fun k hk => pv_bcm_off (by omega)
    have hC : pv_C A (pv_bcm σ 6 1) 1 := pv_bcm_C (by decide) b3
    have hM : pv_M A s1 1 := pv_M.cp e2 b4
    rw [hC.many, hM 0 (by decide)]
    refine ⟨_, _, _, rfl, rfl, ⟨A, b1, b2, hC, hM⟩, ⟨A, b1, b2, b3.keep (o 6 (by omega)) (o 7 (by omega)) (o 8 (by omega)) (o 9 (by omega)) (o 10 (by omega)), b4.keep (e2.1 2 (by decide))⟩, ?_⟩
    unfold pv_T
    rw [o 0 (by omega), o 15 (by omega), o 22 (by omega), o 16 (by omega), o 19 (by omega), o 20 (by omega), e2.1 0 (by decide), e2.1 5 (by decide), e2.1 7 (by decide), e2.1 8 (by decide), e2.1 9 (by decide), e2.2.1]
    exact ⟨t1, t2, t3, t4, t7, t8, t9⟩
end PE
