/-! PURE: write, lays, book, read -/
section PZ
variable {A : Nat → Nat} {σ τ : js_S}
theorem pg_sh (h : pv_R σ τ) (a : Int32) : (∃ s B N, s < 4 ∧ a = nI s ∧ N ≤ 40 ∧ (B = 8 ∨ B = 16 ∨ B = 64) ∧ σ.1 19 s = nI B ∧ τ.1 8 s = nI B ∧ σ.1 20 s = nI N ∧ τ.1 9 s = nI N ∧ fX7_sheetFinding a σ = some (0, σ) ∧ fX8_wrongSheet a τ = some 0) ∨ ∃ c j, c ≠ 0 ∧ fX7_sheetFinding a σ = some (c, pv_fC σ j) ∧ fX8_wrongSheet a τ = some c ∧ fX8_finds c τ = some (c, pv_fM τ j) := by
  unfold fX7_sheetFinding fX8_wrongSheet
  rw [pu_C_isSheet, pu_M_isOne]
  by_cases h1 : pu_in a 4
  · obtain ⟨s, hs, rfl⟩ := pu_in_of h1 (by decide)
    obtain ⟨B, N, hN, hB, e1, e2, e3, e4⟩ := h.sh hs
    unfold fX2_isMissing
    rw [if_pos h1, pu_10, pu_10, pc_width hs e1, Option.bind_some, pu_gd hs (by decide), pu_cl (by omega), e2]
    by_cases h2 : B = 0
    · subst h2
      refine Or.inr ⟨(-1000000006 : Int32), 5, by decide, ?_, ?_, pv_finds5 τ⟩
      · rw [if_pos (show nI 0 = 0 from rfl), Option.bind_some, pu_10, pv_found5]
        rfl
      · rw [if_pos (show nI 0 = 0 from rfl)]
    · refine Or.inl ⟨s, B, N, hs, rfl, hN, by omega, e1, e2, e3, e4, ?_, ?_⟩
      · rw [if_neg (nI_ne0 (by omega) (by omega)), Option.bind_some, pu_00]
      · rw [if_neg (nI_ne0 (by omega) (by omega))]
  · rw [if_neg h1, pu_00, pu_00]
    exact Or.inr ⟨(-1000000001 : Int32), 0, by decide, by rw [pv_found0]; rfl, rfl, pv_finds0 τ⟩
theorem pg_shf (h : pv_R σ τ) (hB : pv_B A) (hC : pv_C A σ 1) (hM : pv_M A τ 1) (a b : Int32) {X Y : js_S → Option (Int32 × js_S)} (k : ∀ s B N f, s < 4 → a = nI s → N ≤ 40 → (B = 8 ∨ B = 16 ∨ B = 64) → σ.1 19 s = nI B → σ.1 20 s = nI N → τ.1 9 s = nI N → f < A 0 → b = nI f → pv_G (X σ) (Y τ)) :
    pv_G ((fX7_sheetAndFlueFinding a b σ).bind fun r1 => (if r1.1 = 0 then X r1.2 else some (r1.1, r1.2))) ((fX8_wrongFlue a b τ).bind fun r1 => (if r1 = 0 then Y τ else (fX8_finds r1 τ).bind fun r3 => some (r3.1, r3.2))) := by
  have h6 := hB.many
  unfold fX7_sheetAndFlueFinding fX8_wrongFlue
  rcases pg_sh h a with ⟨s, B, N, hs, ha, hN, hBB, e1, e2, e3, e4, e5, e6⟩ | ⟨c, j, hc, e5, e6, e7⟩
  · rw [e5, e6, Option.bind_some, Option.bind_some, if_pos (show (0 : Int32) = 0 from rfl), if_pos (show (0 : Int32) = 0 from rfl), pc_hasFlue hC hB, pm_isFlue hM hB, Option.bind_some, Option.bind_some]
    by_cases h1 : pu_in b (A 0)
    · rw [if_pos h1, pu_10, pu_10, Option.bind_some, Option.bind_some, if_pos (show (0 : Int32) = 0 from rfl), if_pos (show (0 : Int32) = 0 from rfl)]
      obtain ⟨f, hf, e⟩ := pu_in_of h1 (by omega)
      exact k s B N f hs ha hN hBB e1 e3 e4 hf e
    · rw [if_neg h1, pu_00, pu_00, pv_found0, Option.bind_some, Option.bind_some, Option.bind_some, if_neg (show ¬ (-1000000001 : Int32) = 0 by decide), if_neg (show ¬ (-1000000001 : Int32) = 0 by decide), pv_finds0]
      exact pv_G.found h 0
  · rw [e5, e6, Option.bind_some, Option.bind_some, if_neg hc, if_neg hc, Option.bind_some, Option.bind_some, if_neg hc, if_neg hc, e7]
    exact pv_G.found h j
theorem pg_write (h : pv_R σ τ) (a b : Int32) (v : Int64) : pv_GL (fX7_write a b v σ) (fX8_write a b v τ) := by
  unfold fX7_write fX8_write
  rcases pg_sh h a with ⟨s, B, N, hs, rfl, hN, hBB, e1, e2, e3, e4, e5, e6⟩ | ⟨c, j, hc, e5, e6, e7⟩
  · rw [e5, e6, Option.bind_some, Option.bind_some, if_pos (show (0 : Int32) = 0 from rfl), if_pos (show (0 : Int32) = 0 from rfl), pc_length hs e3, Option.bind_some, pu_gd hs (by decide), pu_cl (show s < 2 ^ 31 by omega), e4, pu_inS b (by omega), pu_below b (by omega)]
    by_cases h1 : pu_in b N
    · rw [if_pos h1, pu_10, pu_10]
      obtain ⟨i, hi, rfl⟩ := pu_in_of h1 (by omega)
      rw [pc_number hs e3 hN hi, Option.bind_some, pc_put hs e3 e1 hN hi, Option.bind_some, pm_ix, pu_gd (show 40 * s + i < 160 by omega) (by decide), pu_gd hs (by decide), pu_gd (show 40 * s + i < 160 by omega) (by decide), pu_cl (by omega), e2, h.longs (by omega)]
      exact ⟨_, _, _, rfl, rfl, h.put64⟩
    · rw [if_neg h1, pu_00, pu_00, pv_found0, pv_finds0]
      exact ⟨_, _, _, rfl, rfl, h.found 0⟩
  · rw [e5, e6, Option.bind_some, Option.bind_some, if_neg hc, if_neg hc, e7]
    exact ⟨_, _, _, rfl, rfl, h.found j⟩
theorem pu_w16 {x : Int64} (h : 0 ≤ x.toInt ∧ x.toInt < 16) : ∃ w, w < 16 ∧ Int64.toInt32 x = nI w := by
  refine ⟨x.toInt.toNat, by omega, ?_⟩
  rw [fa_eq, nI_toInt (by omega), Int64.toInt_toInt32, Int.bmod_eq_of_le (by omega) (by omega)]
  omega
theorem pg_laysL {s f : Nat} (hs : s < 4) (hf : f < 6) {N : Nat} (hN : N ≤ 40) : ∀ d i n m A x σ τ, i + d = N → d < n → d < m → pv_B A → A 1 ≤ 9999 → f < A 0 → pv_R σ τ → pv_C A σ 1 → pv_M A τ 1 → σ.1 20 s = nI N → τ.1 9 s = nI N → pv_G (fX7_lays_L19 (nI s) (nI f) n x (nI i) σ) (fX8_lays_L23 (nI s) (nI f) m x (nI i) τ)
  | 0, i, n, m, A, x, σ, τ, hi, hn, hm, hB, hd, hfA, h, hC, hM, e1, e2 => by
    obtain ⟨n, rfl⟩ : ∃ m, n = m + 1 := ⟨n - 1, by omega⟩
    obtain ⟨m, rfl⟩ : ∃ k, m = k + 1 := ⟨m - 1, by omega⟩
    rw [fX7_lays_L19, fX8_lays_L23, pc_length hs e1, Option.bind_some, pu_gd hs (by decide), pu_cl (show s < 2 ^ 31 by omega), e2, if_pos (nI_le (by omega) (by omega)), if_pos (nI_le (by omega) (by omega))]
    exact pv_G.same h
  | d + 1, i, n, m, A, x, σ, τ, hi, hn, hm, hB, hd, hfA, h, hC, hM, e1, e2 => by
    obtain ⟨n, rfl⟩ : ∃ m, n = m + 1 := ⟨n - 1, by omega⟩
    obtain ⟨m, rfl⟩ : ∃ k, m = k + 1 := ⟨m - 1, by omega⟩
    rw [fX7_lays_L19, fX8_lays_L23, pc_length hs e1, Option.bind_some, pu_gd hs (by decide), pu_cl (show s < 2 ^ 31 by omega), e2, if_neg (nI_ge (by omega) (by omega)), if_neg (nI_ge (by omega) (by omega)), pc_number hs e1 hN (by omega), Option.bind_some, pm_ix, pu_gd (show 40 * s + i < 160 by omega) (by decide), pu_cl (show 40 * s + i < 2 ^ 31 by omega), h.longs (by omega), pu_fin, nI_1, Int32.add_zero, pu_gd (show 40 * s + i < 160 by omega) (by decide)]
    generalize τ.2 10 (40 * s + i) = y
    have q1 : (lg_cmp y (0 : Int64) < 0) ↔ y.toInt < 0 := by rw [lg_cmp_lt, fa_lt64]; rfl
    have q2 : (lg_cmp y (16 : Int64) < 0) ↔ y.toInt < 16 := by rw [lg_cmp_lt, fa_lt64]; rfl
    have q3 : ((0 : Int64).toInt ≤ y.toInt ∧ y.toInt ≤ (15 : Int64).toInt) ↔ (0 ≤ y.toInt ∧ y.toInt ≤ 15) := Iff.rfl
    simp only [q1, q2, q3]
    have skip := pg_laysL hs hf hN d (i + 1) n m A x σ τ (by omega) (by omega) (by omega) hB hd hfA h hC hM e1 e2
    by_cases h1 : y.toInt < 0
    · rw [if_pos h1, if_neg (show ¬ (0 ≤ y.toInt ∧ y.toInt ≤ 15) by omega), pu_00]
      exact skip
    · rw [if_neg h1]
      by_cases h2 : y.toInt < 16
      · rw [if_pos h2, if_pos (show 0 ≤ y.toInt ∧ y.toInt ≤ 15 by omega), pu_10]
        obtain ⟨w, hw, ew⟩ := pu_w16 (x := y) ⟨by omega, h2⟩
        rw [ew]
        obtain ⟨σ', c1, c2, c3⟩ := pc_speak (w := w) (v := 5) hC hB hfA hw (by decide)
        obtain ⟨τ', d1, d2, d3⟩ := pm_says (w := w) (v := 5) hM hB hf hw (by decide)
        have c1' : fX3_speak (nI f) (nI w) (5 : Int32) σ = _ := c1
        have d1' : fX8_says (nI f) (nI w) (5 : Int32) τ = _ := d1
        rw [c1', d1', Option.bind_some, Option.bind_some]
        have hB' := ps_say_B hB hf hw (show 5 < 10 by decide)
        have hd' : ps_say A f w 5 1 ≤ 9999 := by rw [ps_say_lo (by decide)]; exact hd
        have h0' : ps_say A f w 5 0 = A 0 := ps_say_lo (by decide)
        have hR := h.step c2 d2 ⟨_, hB', hd', c3, d3⟩
        have f1 : σ'.1 20 s = nI N := by rw [c2.1 20 (by decide) (by decide) (by decide) (by decide) (by decide) (by decide) (by decide) (by decide)]; exact e1
        have f2 : τ'.1 9 s = nI N := by rw [d2.1 9 (by decide) (by decide) (by decide) (by decide) (by decide)]; exact e2
        have go := fun x => pg_laysL hs hf hN d (i + 1) n m _ x σ' τ' (by omega) (by omega) (by omega) hB' hd' (by rw [h0']; exact hfA) hR c3 d3 f1 f2
        rcases ps_at_in hB hf hw (show 5 < 10 by decide) with e | ⟨q, hq, e, hh⟩
        · show pv_G (if ps_at A f w 5 = (-1 : Int32) then _ else _) (if ps_at A f w 5 < 0 then _ else _)
          rw [if_pos e, if_pos (by rw [e]; decide)]
          exact go x
        · show pv_G (if ps_at A f w 5 = (-1 : Int32) then _ else _) (if ps_at A f w 5 < 0 then _ else _)
          rw [if_neg (by rw [e]; exact pu_m1 (by omega)), if_neg (by rw [e]; exact nI_pos (by omega))]
          exact go _
      · rw [if_neg h2, if_neg (show ¬ (0 ≤ y.toInt ∧ y.toInt ≤ 15) by omega), pu_00]
        exact skip
theorem pg_lays (h : pv_R σ τ) (a b : Int32) : pv_G (fX7_lays a b σ) (fX8_lays a b τ) := by
  have h0 := h
  obtain ⟨⟨A, hB, hd, hC, hM⟩, -, -⟩ := h0
  have h6 := hB.many
  refine pg_shf h hB hC hM a b (X := fun σ => fX7_lays_L19 a b js_FU (0 : Int32) (0 : Int32) σ) (Y := fun τ => fX8_lays_L23 a b js_FU (0 : Int32) (0 : Int32) τ) ?_
  intro s B N f hs ea hN hBB e1 e3 e4 hf eb
  subst ea eb
  exact pg_laysL hs (by omega) hN N 0 js_FU js_FU A 0 σ τ (by omega) (by unfold js_FU; omega) (by unfold js_FU; omega) hB hd hf h hC hM e3 e4
/-! book -/
theorem ps_br_w (hB : pv_B A) {f s more : Nat} (hf : f < 6) : ∀ n, n ≤ 8 → ∀ k, k < (ps_br A f s more n).1 → (ps_br A f s more n).2 k ≤ 15
  | 0, _, k, hk => by cases hk
  | n + 1, hn, k, hk => by
    have ih := ps_br_w hB (s := s) (more := more) hf n (by omega)
    have hl := ps_loose_le A f n s more
    have hg := hB.hg (p := 8 * f + n) (by omega)
    rw [ps_br_s] at hk ⊢
    have go : ∀ j, j ≤ A (9 + (8 * f + n)) → ∀ k, k < (ps_pushes A f n (ps_br A f s more n) j).1 → (ps_pushes A f n (ps_br A f s more n) j).2 k ≤ 15 := by
      intro j
      induction j with
      | zero => intro _ k hk; exact ih k hk
      | succ j ihj =>
        intro hj k hk
        rw [ps_pushes_s] at hk ⊢
        show (if k = (ps_pushes A f n (ps_br A f s more n) j).1 then ps_wd A f n j else (ps_pushes A f n (ps_br A f s more n) j).2 k) ≤ 15
        have hk' : k < (ps_pushes A f n (ps_br A f s more n) j).1 + 1 := hk
        split
        · unfold ps_wd
          exact hB.wd (by omega)
        · exact ihj (by omega) k (by omega)
    exact go _ hl k hk
theorem pu_cutw : ∀ w, w < 16 → (Int32.toInt64 (Int8.toInt32 (Int32.toInt8 (Int64.toInt32 (Int32.toInt64 (nI w)))))) = Int32.toInt64 (nI w) ∧ (Int32.toInt64 (Int16.toInt32 (Int32.toInt16 (Int64.toInt32 (Int32.toInt64 (nI w)))))) = Int32.toInt64 (nI w) := by decide +kernel
theorem pu_cut {B w : Nat} (hB : B = 8 ∨ B = 16 ∨ B = 64) (hw : w < 16) : fX2_cut (nI B) (Int32.toInt64 (nI w)) = Int32.toInt64 (nI w) := by
  rcases hB with rfl | rfl | rfl
  · exact (pu_cutw w hw).1
  · exact (pu_cutw w hw).2
  · rfl
theorem pu_cut1 {B : Nat} (hB : B = 8 ∨ B = 16 ∨ B = 64) : fX2_cut (nI B) (-1 : Int64) = (-1 : Int64) := by
  rcases hB with rfl | rfl | rfl <;> decide
theorem pc_word {q : Nat × (Nat → Nat)} {i : Nat} (h : pv_br σ q) (hq : q.1 ≤ 48) (hi : i < q.1) : fX0_word (nI i) σ = some (nI (q.2 i)) := by
  unfold fX0_word
  rw [if_neg (nI_pos (by omega)), h.1, if_neg (nI_ge (by omega) (by omega)), pu_gd (by omega) (by decide), pu_cl (by omega), h.2.2 i hi]
theorem pg_bookL {s B N : Nat} (hs : s < 4) (hN : N ≤ 40) (hBB : B = 8 ∨ B = 16 ∨ B = 64) {q : Nat × (Nat → Nat)} (hq : q.1 ≤ 48) (hw : ∀ k, k < q.1 → q.2 k ≤ 15) : ∀ d i n m σ τ, i + d = N → d < n → d < m → pv_R σ τ → pv_br σ q → pv_cm τ q → σ.1 19 s = nI B → σ.1 20 s = nI N → τ.1 9 s = nI N → pv_G (fX7_book_L33 (nI s) n (nI i) σ) (fX8_book_L29 (nI s) m (nI i) τ)
  | 0, i, n, m, σ, τ, hi, hn, hm, h, h1, h2, e0, e1, e2 => by
    obtain ⟨n, rfl⟩ : ∃ m, n = m + 1 := ⟨n - 1, by omega⟩
    obtain ⟨m, rfl⟩ : ∃ k, m = k + 1 := ⟨m - 1, by omega⟩
    rw [fX7_book_L33, fX8_book_L29, pc_length hs e1, Option.bind_some, pu_gd hs (by decide), pu_cl (show s < 2 ^ 31 by omega), e2, if_pos (nI_le (by omega) (by omega)), if_pos (nI_le (by omega) (by omega)), h1.1, h2.1]
    exact pv_G.same h
  | d + 1, i, n, m, σ, τ, hi, hn, hm, h, h1, h2, e0, e1, e2 => by
    obtain ⟨n, rfl⟩ : ∃ m, n = m + 1 := ⟨n - 1, by omega⟩
    obtain ⟨m, rfl⟩ : ∃ k, m = k + 1 := ⟨m - 1, by omega⟩
    rw [fX7_book_L33, fX8_book_L29, pc_length hs e1, Option.bind_some, pu_gd hs (by decide), pu_cl (show s < 2 ^ 31 by omega), e2, if_neg (nI_ge (by omega) (by omega)), if_neg (nI_ge (by omega) (by omega)), h1.1, h2.1, pm_ix, pu_gd (show 40 * s + i < 160 by omega) (by decide), pu_cl (show 40 * s + i < 2 ^ 31 by omega), nI_1]
    by_cases h3 : q.1 ≤ i
    · rw [if_pos (nI_le h3 (by omega)), if_pos (nI_le h3 (by omega)), pc_put hs e1 e0 hN (by omega), Option.bind_some, pu_cut1 hBB]
      exact pg_bookL hs hN hBB hq hw d (i + 1) n m _ _ (by omega) (by omega) (by omega) h.put64 h1 h2 e0 e1 e2
    · have hwi := hw i (by omega)
      rw [if_neg (nI_ge (by omega) (by omega)), if_neg (nI_ge (by omega) (by omega)), pc_word h1 hq (by omega), Option.bind_some, pc_put hs e1 e0 hN (by omega), Option.bind_some, pu_cut hBB (by omega), pu_gd (show i < 48 by omega) (by decide), pu_gd (show 40 * s + i < 160 by omega) (by decide), pu_cl (show i < 2 ^ 31 by omega), h2.2 i (by omega)]
      exact pg_bookL hs hN hBB hq hw d (i + 1) n m _ _ (by omega) (by omega) (by omega) h.put64 h1 h2 e0 e1 e2
theorem pg_book (h : pv_R σ τ) (a b : Int32) : pv_G (fX7_book a b σ) (fX8_book a b τ) := by
  have h0 := h
  obtain ⟨⟨A, hB, hd, hC, hM⟩, -, -⟩ := h0
  have h6 := hB.many
  refine pg_shf h hB hC hM a b (X := fun σ => (fX0_putUp b (7 : Int32) (9 : Int32) (0 : Int32) σ).bind fun r2 => fX7_book_L33 a js_FU (0 : Int32) r2) (Y := fun τ => (fX8_brings b (7 : Int32) (9 : Int32) τ).bind fun r2 => fX8_book_L29 a js_FU (0 : Int32) r2) ?_
  intro s B N f hs ea hN hBB e1 e3 e4 hf eb
  subst ea eb
  obtain ⟨σ', c1, c2, c3⟩ := pc_putUp0 (b := 7) (s := 9) hC hB hf (by decide) (by decide)
  obtain ⟨τ', d1, d2, d3⟩ := pm_brings (b := 7) (s := 9) hM hB (show f < 6 by omega) (by decide) (by decide)
  have c1' : fX0_putUp (nI f) (7 : Int32) (9 : Int32) (0 : Int32) σ = _ := c1
  have d1' : fX8_brings (nI f) (7 : Int32) (9 : Int32) τ = _ := d1
  show pv_G ((fX0_putUp (nI f) (7 : Int32) (9 : Int32) (0 : Int32) σ).bind _) ((fX8_brings (nI f) (7 : Int32) (9 : Int32) τ).bind _)
  rw [c1', d1', Option.bind_some, Option.bind_some]
  have hl := ps_br_lt hB (s := 9) (more := 0) (show f < 6 by omega) 8 (by decide)
  refine pg_bookL hs hN hBB (q := ps_br A f 9 0 8) (by omega) (ps_br_w hB (by omega) 8 (by decide)) N 0 js_FU js_FU σ' τ' (by omega) (by unfold js_FU; omega) (by unfold js_FU; omega) (h.keep c2 d2) c3 d3 ?_ ?_ ?_
  · rw [c2.1 19 (by decide) (by decide) (by decide) (by decide) (by decide) (by decide) (by decide)]; exact e1
  · rw [c2.1 20 (by decide) (by decide) (by decide) (by decide) (by decide) (by decide) (by decide)]; exact e3
  · rw [d2.1 9 (by decide) (by decide) (by decide) (by decide)]; exact e4
/-! read -/
theorem pg_justL {s N : Nat} (hs : s < 4) (hN : N ≤ 40) {q : Nat × (Nat → Nat)} (hq : q.1 = N) (h : pv_R σ τ) (h1 : pv_br σ q) (h2 : pv_cm τ q) (e1 : σ.1 20 s = nI N) : ∀ d i n m, i + d = N → d < n → d < m → ∃ r, fX7_isJustBrought_L22 (nI s) σ n (nI i) = some r ∧ fX8_isBook_L21_2 (nI s) τ m (1 : Int32) (nI i) = some r
  | 0, i, n, m, hi, hn, hm => by
    obtain ⟨n, rfl⟩ : ∃ m, n = m + 1 := ⟨n - 1, by omega⟩
    obtain ⟨m, rfl⟩ : ∃ k, m = k + 1 := ⟨m - 1, by omega⟩
    rw [fX7_isJustBrought_L22, fX8_isBook_L21_2, h1.1, h2.1, if_pos (nI_le (by omega) (by omega)), if_pos (nI_le (by omega) (by omega))]
    exact ⟨1, rfl, rfl⟩
  | d + 1, i, n, m, hi, hn, hm => by
    obtain ⟨n, rfl⟩ : ∃ m, n = m + 1 := ⟨n - 1, by omega⟩
    obtain ⟨m, rfl⟩ : ∃ k, m = k + 2 := ⟨m - 2, by omega⟩
    rw [fX7_isJustBrought_L22, fX8_isBook_L21_2, h1.1, h2.1, if_neg (nI_ge (by omega) (by omega)), if_neg (nI_ge (by omega) (by omega)), if_neg (show ¬ (1 : Int32) = 0 by decide), pc_number hs e1 hN (by omega), Option.bind_some, pc_word h1 (by omega) (by omega), Option.bind_some, pm_ix, pu_gd (show 40 * s + i < 160 by omega) (by decide), pu_gd (show i < 48 by omega) (by decide), pu_cl (show 40 * s + i < 2 ^ 31 by omega), pu_cl (show i < 2 ^ 31 by omega), h2.2 i (by omega), h.longs (by omega), nI_1]
    by_cases e : lg_cmp (τ.2 10 (40 * s + i)) (Int32.toInt64 (nI (q.2 i))) = 0
    · rw [if_pos e, if_pos e]
      exact pg_justL hs hN hq h h1 h2 e1 d (i + 1) n (m + 1) (by omega) (by omega) (by omega)
    · rw [if_neg e, if_neg e]
      refine ⟨0, rfl, ?_⟩
      rw [fX8_isBook_L21_2]
      split <;> rfl
theorem pg_just {s N : Nat} (hs : s < 4) (hN : N ≤ 40) {q : Nat × (Nat → Nat)} (hq : q.1 ≤ 48) (h : pv_R σ τ) (h1 : pv_br σ q) (h2 : pv_cm τ q) (e1 : σ.1 20 s = nI N) (e2 : τ.1 9 s = nI N) : ∃ r, fX7_isJustBrought (nI s) σ = some r ∧ fX8_isBook (nI s) τ = some r := by
  unfold fX7_isJustBrought fX8_isBook
  rw [pc_length hs e1, Option.bind_some, pu_gd hs (by decide), pu_cl (show s < 2 ^ 31 by omega), e2, h1.1, h2.1]
  by_cases e : q.1 = N
  · rw [e, if_pos rfl, if_pos rfl]
    exact pg_justL hs hN e h h1 h2 e1 N 0 js_FU js_FU (by omega) (by unfold js_FU; omega) (by unfold js_FU; omega)
  · rw [if_neg (fun x => e ((nI_eq (by omega) (by omega)).mp x).symm), if_neg (fun x => e ((nI_eq (by omega) (by omega)).mp x))]
    refine ⟨0, rfl, ?_⟩
    rw [show js_FU = (js_FU - 1) + 1 from rfl, fX8_isBook_L21]
    split <;> rfl
theorem pg_readL29 (hB : pv_B A) {s f N b : Nat} (hs : s < 4) (hN : N ≤ 40) (hf : f < A 0) (hb : b < 8) (K : Int32 → js_S → Option (Int32 × js_S)) (hK : ∀ c σ τ m, 72 - 9 * (b + 1) < m → pv_R σ τ → pv_C A σ 1 → pv_M A τ 1 → σ.1 20 s = nI N → τ.1 9 s = nI N → pv_G (K c σ) (fX8_read_L23 (nI s) (nI f) m c (nI (9 * (b + 1))) τ)) : ∀ d st n m c σ τ, st + d = 10 → 1 ≤ st → d < n → 72 - (9 * b + (st - 1)) < m → pv_R σ τ → pv_C A σ 1 → pv_M A τ 1 → σ.1 20 s = nI N → τ.1 9 s = nI N → pv_G (fX7_read_L29 K (nI s) (nI f) (nI b) n c (nI st) σ) (fX8_read_L23 (nI s) (nI f) m c (nI (9 * b + (st - 1))) τ)
  | 0, st, n, m, c, σ, τ, hst, hst1, hn, hm, h, hC, hM, e1, e2 => by
    obtain ⟨n, rfl⟩ : ∃ m, n = m + 1 := ⟨n - 1, by omega⟩
    have : st = 10 := by omega
    subst this
    rw [fX7_read_L29, if_pos (show (9 : Int32) < nI 10 by decide), show 9 * b + (10 - 1) = 9 * (b + 1) by omega]
    exact hK c σ τ m (by omega) h hC hM e1 e2
  | d + 1, st, n, m, c, σ, τ, hst, hst1, hn, hm, h, hC, hM, e1, e2 => by
    obtain ⟨n, rfl⟩ : ∃ m, n = m + 1 := ⟨n - 1, by omega⟩
    obtain ⟨m, rfl⟩ : ∃ k, m = k + 1 := ⟨m - 1, by omega⟩
    have h6 := hB.many
    obtain ⟨σ', c1, c2, c3⟩ := pc_putUp0 (b := b) (s := st) hC hB hf hb (by omega)
    obtain ⟨τ', d1, d2, d3⟩ := pm_brings (b := b) (s := st) hM hB (show f < 6 by omega) hb (by omega)
    have hl := ps_br_lt hB (s := st) (more := 0) (show f < 6 by omega) (b + 1) (by omega)
    have hR := h.keep c2 d2
    have f1 : σ'.1 20 s = nI N := by rw [c2.1 20 (by decide) (by decide) (by decide) (by decide) (by decide) (by decide) (by decide)]; exact e1
    have f2 : τ'.1 9 s = nI N := by rw [d2.1 9 (by decide) (by decide) (by decide) (by decide)]; exact e2
    obtain ⟨r, g1, g2⟩ := pg_just hs hN (by omega) hR c3 d3 f1 f2
    have x1 : nI (9 * b + (st - 1)) / (9 : Int32) = nI b := by
      rw [fa_lit 9, pk_div (by omega) (by decide) (by decide)]
      congr 1
      omega
    have x2 : (1 : Int32) + (nI (9 * b + (st - 1)) - nI (9 * b + (st - 1)) / (9 : Int32) * (9 : Int32)) = nI st := by
      rw [x1, fa_lit 9, pk_mul, pk_sub (by omega), fa_lit 1, nI_add]
      congr 1
      omega
    rw [fX7_read_L29, fX8_read_L23, if_neg (show ¬ (9 : Int32) < nI st from nI_nlt (a := 9) (by omega) (by decide)), if_neg (show ¬ (72 : Int32) ≤ nI (9 * b + (st - 1)) from nI_ge (b := 72) (by omega) (by decide)), x2, x1, c1, d1, Option.bind_some, Option.bind_some, g1, g2, Option.bind_some, Option.bind_some, nI_1, nI_1, Int32.add_zero]
    have go := fun c => pg_readL29 hB hs hN hf hb K hK d (st + 1) n m c σ' τ' (by omega) (by omega) (by omega) (by omega) hR (c2.C hC) (d2.M hM) f1 f2
    rw [show 9 * b + (st + 1 - 1) = 9 * b + (st - 1) + 1 by omega] at go
    by_cases e : r = 0
    · rw [if_pos e, if_pos e]
      exact go c
    · rw [if_neg e, if_neg e]
      exact go _
theorem pg_readL19 (hB : pv_B A) {s f N : Nat} (hs : s < 4) (hN : N ≤ 40) (hf : f < A 0) : ∀ d b n m c σ τ, b + d = 8 → d < n → 72 - 9 * b < m → pv_R σ τ → pv_C A σ 1 → pv_M A τ 1 → σ.1 20 s = nI N → τ.1 9 s = nI N → pv_G (fX7_read_L19 (nI s) (nI f) n c (nI b) σ) (fX8_read_L23 (nI s) (nI f) m c (nI (9 * b)) τ)
  | 0, b, n, m, c, σ, τ, hb, hn, hm, h, hC, hM, e1, e2 => by
    obtain ⟨n, rfl⟩ : ∃ m, n = m + 1 := ⟨n - 1, by omega⟩
    obtain ⟨m, rfl⟩ : ∃ k, m = k + 1 := ⟨m - 1, by omega⟩
    have : b = 8 := by omega
    subst this
    rw [fX7_read_L19, fX8_read_L23, if_pos (show (8 : Int32) ≤ nI 8 by decide), if_pos (show (72 : Int32) ≤ nI (9 * 8) by decide)]
    exact pv_G.same h
  | d + 1, b, n, m, c, σ, τ, hb, hn, hm, h, hC, hM, e1, e2 => by
    obtain ⟨n, rfl⟩ : ∃ m, n = m + 1 := ⟨n - 1, by omega⟩
    rw [fX7_read_L19, if_neg (show ¬ (8 : Int32) ≤ nI b from nI_ge (b := 8) (by omega) (by decide)), nI_1]
    exact pg_readL29 hB hs hN hf (show b < 8 by omega) (fun w4 s5 => fX7_read_L19 (nI s) (nI f) n w4 (nI (b + 1)) s5) (fun c σ τ m hm h hC hM e1 e2 => pg_readL19 hB hs hN hf d (b + 1) n m c σ τ (by omega) (by omega) hm h hC hM e1 e2) 9 1 js_FU m c σ τ (by decide) (by decide) (by decide) (by omega) h hC hM e1 e2
theorem pg_read (h : pv_R σ τ) (a b : Int32) : pv_G (fX7_read a b σ) (fX8_read a b τ) := by
  have h0 := h
  obtain ⟨⟨A, hB, hd, hC, hM⟩, -, -⟩ := h0
  refine pg_shf h hB hC hM a b (X := fun σ => fX7_read_L19 a b js_FU (0 : Int32) (0 : Int32) σ) (Y := fun τ => fX8_read_L23 a b js_FU (0 : Int32) (0 : Int32) τ) ?_
  intro s B N f hs ea hN hBB e1 e3 e4 hf eb
  subst ea eb
  exact pg_readL19 hB hs hN hf 8 0 js_FU js_FU 0 σ τ (by decide) (by decide) (by decide) h hC hM e3 e4
end PZ
