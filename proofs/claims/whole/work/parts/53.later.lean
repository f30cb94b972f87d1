/-! PURE: on, lost -/
section PL
variable {A : Nat → Nat} {σ τ : js_S} {n : Nat}
theorem ps_wd_day {f b k : Nat} (hf : f < 6) (hb : b < 8) (hB : pv_B A) (hk : k < A (9 + (8 * f + b))) : ps_wd (ps_day A n) f b k = ps_wd A f b k := by
  have hg := hB.hg (p := 8 * f + b) (by omega)
  have e : ps_day A n (9 + (8 * f + b)) = A (9 + (8 * f + b)) := ps_day_lo (by omega) (by omega)
  unfold ps_wd
  rw [e]
  exact ps_day_lo (by omega) (by omega)
theorem ps_ck_day {f b k : Nat} (hf : f < A 0) (hb : b < 8) (hB : pv_B A) (hk : k < A (9 + (8 * f + b))) : ps_ck (ps_day A n) f b k = min 9 (ps_ck A f b k + n * pv_cakes (A (3 + f)) (A 2)) := by
  have h6 := hB.many
  have hg := hB.hg (p := 8 * f + b) (by omega)
  have e8 : (8 * f + b) / 8 = f := by omega
  have hD := ps_D_at (n := n) (P := 8 * f + b) (r := A (9 + (8 * f + b)) - 1 - k) (by omega) h6 (by omega) hg
  rw [e8] at hD
  have e : ps_day A n (9 + (8 * f + b)) = A (9 + (8 * f + b)) := ps_day_lo (by omega) (by omega)
  have e2 : 345 ≤ 345 + (6 * (8 * f + b) + (A (9 + (8 * f + b)) - 1 - k)) ∧ 345 + (6 * (8 * f + b) + (A (9 + (8 * f + b)) - 1 - k)) < 633 ∧ (345 + (6 * (8 * f + b) + (A (9 + (8 * f + b)) - 1 - k)) - 345) / 6 < 8 * A 0 := ⟨by omega, by omega, by omega⟩
  unfold ps_ck
  rw [e]
  unfold ps_day
  rw [pv_up1_ne (by omega)]
  unfold ps_dP
  rw [if_pos e2]
  exact hD
theorem ps_loose_day {f b s : Nat} (hf : f < A 0) (hb : b < 8) (hs : s ≤ 9) (hB : pv_B A) : ps_loose (ps_day A n) f b s 0 = ps_loose A f b s (n * pv_cakes (A (3 + f)) (A 2)) := by
  have h6 := hB.many
  have e : ps_day A n (9 + (8 * f + b)) = A (9 + (8 * f + b)) := ps_day_lo (by omega) (by omega)
  unfold ps_loose
  rw [e]
  congr 1
  refine pu_first_cong _ _ fun j _ hj => ?_
  rw [ps_ck_day hf hb hB (by omega)]
  have : (s ≤ min 9 (ps_ck A f b j + n * pv_cakes (A (3 + f)) (A 2)) + 0) ↔ s ≤ ps_ck A f b j + n * pv_cakes (A (3 + f)) (A 2) := by omega
  rw [decide_eq_decide]
  exact this
theorem ps_pushes_day {f b : Nat} (hf : f < 6) (hb : b < 8) (hB : pv_B A) (q : Nat × (Nat → Nat)) : ∀ N, N ≤ A (9 + (8 * f + b)) → ps_pushes (ps_day A n) f b q N = ps_pushes A f b q N
  | 0, _ => rfl
  | N + 1, h => by rw [ps_pushes_s, ps_pushes_s, ps_pushes_day hf hb hB q N (by omega), ps_wd_day hf hb hB (by omega)]
theorem ps_br_day {f s : Nat} (hf : f < A 0) (hs : s ≤ 9) (hB : pv_B A) : ∀ N, N ≤ 8 → ps_br (ps_day A n) f s 0 N = ps_br A f s (n * pv_cakes (A (3 + f)) (A 2)) N
  | 0, _ => rfl
  | N + 1, h => by
    have h6 := hB.many
    rw [ps_br_s, ps_br_s, ps_br_day hf hs hB N (by omega), ps_loose_day hf (by omega) hs hB, ps_pushes_day (by omega) (by omega) hB _ _ (ps_loose_le A f N s _)]
theorem pm_aside (τ : js_S) : ∃ s1, fX8_laysAside τ = some s1 ∧ pv_cp τ s1 4 1 := pv_cpL (fun n i s => fX8_laysAside_L2 n i s) _ 4 1 (by decide) (fun n s i hi => by
    show fX8_laysAside_L2 (n + 1) (nI i) s = _
    rw [fX8_laysAside_L2, if_neg (show ¬ (633 : Int32) ≤ nI i from nI_ge hi (by decide)), pu_gd hi (by decide), pu_gd hi (by decide), pu_cl (by omega), nI_1]) (fun n s => rfl) τ
theorem pm_back (τ : js_S) (a : Int32) : ∃ s1, fX8_takesBack a τ = some (a, s1) ∧ pv_cp τ s1 1 4 := pv_cpL (fun n i s => fX8_takesBack_L2 a n i s) (fun s => some (a, s)) 1 4 (by decide) (fun n s i hi => by
    show fX8_takesBack_L2 a (n + 1) (nI i) s = _
    rw [fX8_takesBack_L2, if_neg (show ¬ (633 : Int32) ≤ nI i from nI_ge hi (by decide)), pu_gd hi (by decide), pu_gd hi (by decide), pu_cl (by omega), nI_1]) (fun n s => rfl) τ
theorem pv_cp.O4 {a b : js_S} {c : Nat} (h : pv_cp a b 4 c) : pv_OM a b := ⟨fun k _ _ _ h4 _ => h.1 k h4, by rw [h.1 0 (by decide)], by rw [h.1 0 (by decide)], by rw [h.2.1]⟩
theorem pv_cp.O1 {a b : js_S} {c : Nat} (h : pv_cp a b 1 c) : pv_OM a b := ⟨fun k _ h1 _ _ _ => h.1 k h1, by rw [h.1 0 (by decide)], by rw [h.1 0 (by decide)], by rw [h.2.1]⟩
theorem pg_on (h : pv_R σ τ) (a b c d : Int32) : pv_G (fX7_on a b c d σ) (fX8_on a b c d τ) := by
  have h0 := h
  obtain ⟨⟨A', hB', hd', hC', hM'⟩, -, -⟩ := h0
  refine pg_brush h (fun σ => (if (fX7_isBelow d (61 : Int32)) = 0 then (fX7_found (-1000000001 : Int32) σ).bind fun r5 => some (r5.1, r5.2) else (fX0_putUp a b c d σ).bind fun r4 => some ((r4.1 11 0), r4))) (fun σ => (if (fX8_in (Int32.toInt64 d) (0 : Int64) (60 : Int64)) = 0 then (fX8_finds (-1000000001 : Int32) σ).bind fun r7 => some (r7.1, r7.2) else (fX8_laysAside σ).bind fun r3 => (fX8_goesOn d r3).bind fun r4 => (fX8_brings a b c r4).bind fun r5 => (fX8_takesBack (r5.1 0 7) r5).bind fun r6 => some (r6.1, r6.2))) ?_
  intro A f q s hB hC hM hf hq hs1 hs e1 e2 e3
  subst e1 e2 e3
  have h6 := hB.many
  have hd : A 1 ≤ 9999 := by
    have x1 := hM 1 (by decide)
    have x2 := hM' 1 (by decide)
    have hb1 := hB.day
    rw [x1] at x2
    have := (nI_eq (show A 1 < 2 ^ 31 by omega) (show A' 1 < 2 ^ 31 by omega)).mp x2
    omega
  have i1 : fX7_isBelow d (61 : Int32) = if pu_in d 61 then 1 else 0 := pu_below d (n := 61) (by decide)
  have i2 : fX8_in (Int32.toInt64 d) (0 : Int64) (60 : Int64) = if pu_in d 61 then 1 else 0 := pu_in0 d (n := 60) (by decide)
  show pv_G (if _ = 0 then _ else _) (if _ = 0 then _ else _)
  rw [i1, i2]
  by_cases h1 : pu_in d 61
  · rw [if_pos h1, pu_10, pu_10]
    obtain ⟨n, hn, rfl⟩ := pu_in_of h1 (by decide)
    obtain ⟨σ', c1, c2, c3⟩ := pc_putUp (d := n) hC hB hf hq hs (by omega)
    obtain ⟨s1, d1, d2⟩ := pm_aside τ
    have hM1 : pv_M A s1 1 := hM.keep (d2.1 1 (by decide))
    have hM4 : pv_M A s1 4 := pv_M.cp d2 hM
    obtain ⟨s2, f1, f2, f3⟩ := pm_goesOn (n := n) hM1 hB (by omega) (by omega)
    obtain ⟨s3, g1, g2, g3⟩ := pm_brings6 f2 (ps_day_B hB (by omega)) (show f < 6 by omega) hq hs
    obtain ⟨s4, k1, k2⟩ := pm_back s3 (s3.1 0 7)
    have hM' : pv_M A s4 1 := pv_M.cp k2 ((hM4.keep (f3.1 4 (by decide))).keep (g2.1 4 (by decide) (by decide)))
    rw [c1, d1, Option.bind_some, Option.bind_some, f1, Option.bind_some, g1, Option.bind_some, k1, Option.bind_some, c3.1, g3.1, ps_br_day hf hs hB _ (by omega)]
    exact ⟨_, _, _, rfl, rfl, h.step c2.O (((d2.O4.tr f3.O).tr g2.E.O).tr k2.O1) ⟨A, hB, hd, c2.C hC, hM'⟩⟩
  · rw [if_neg h1, pu_00, pu_00, pv_found0, pv_finds0]
    exact pv_G.found h 0
theorem pg_lostL {σ0 τ0 : js_S} (h : pv_R σ0 τ0) (hB : pv_B A) (hd : A 1 ≤ 9999) {f s : Nat} (hf : f < A 0) (hs : s ≤ 9) (w : Int32) : ∀ d j n m σ τ, j + d = 61 → d < n → d < m → pv_C A σ 1 → pv_EC σ0 σ → pv_M (ps_day A j) τ 1 → pv_M A τ 4 → pv_OM τ0 τ → pv_G (fX7_lost_L35 (nI f) w (nI s) n (nI j) σ) (fX8_lost_L36 (nI f) w (nI s) m (nI j) τ)
  | 0, j, n, m, σ, τ, hj, hn, hm, hC, hE, hM, hM4, hO => by
    obtain ⟨n, rfl⟩ : ∃ m, n = m + 1 := ⟨n - 1, by omega⟩
    obtain ⟨m, rfl⟩ : ∃ k, m = k + 1 := ⟨m - 1, by omega⟩
    have : j = 61 := by omega
    subst this
    obtain ⟨s4, k1, k2⟩ := pm_back τ (nI 61)
    rw [fX7_lost_L35, fX8_lost_L36, if_pos (show (60 : Int32) < nI 61 by decide), if_pos (show (60 : Int32) < nI 61 by decide), k1, Option.bind_some, if_neg (show ¬ nI 61 ≤ (60 : Int32) by decide), pv_found3, pv_finds3]
    exact pv_G.found (h.step hE.O (hO.tr k2.O1) ⟨A, hB, hd, hC, pv_M.cp k2 hM4⟩) 3
  | d + 1, j, n, m, σ, τ, hj, hn, hm, hC, hE, hM, hM4, hO => by
    obtain ⟨n, rfl⟩ : ∃ m, n = m + 1 := ⟨n - 1, by omega⟩
    obtain ⟨m, rfl⟩ : ∃ k, m = k + 1 := ⟨m - 1, by omega⟩
    have h6 := hB.many
    have hBj := ps_day_B (n := j) hB (by omega)
    obtain ⟨σ', c1, c2, c3⟩ := pc_putUp (d := j) hC hB hf (show 7 < 8 by decide) hs (by omega)
    obtain ⟨τ', d1, d2, d3⟩ := pm_broughtBy6 hM hBj (show f < 6 by omega) (show 7 < 8 by decide) hs
    rw [ps_br_day hf hs hB _ (by decide)] at d1
    have c1' : fX0_putUp (nI f) (7 : Int32) (nI s) (nI j) σ = some σ' := c1
    have d1' : fX8_broughtBy (nI f) (7 : Int32) (nI s) τ = some (ps_bset (ps_br A f s (j * pv_cakes (A (3 + f)) (A 2)) (7 + 1)), τ') := d1
    rw [fX7_lost_L35, fX8_lost_L36, if_neg (show ¬ (60 : Int32) < nI j from nI_nlt (a := 60) (by omega) (by decide)), if_neg (show ¬ (60 : Int32) < nI j from nI_nlt (a := 60) (by omega) (by decide)), c1', d1', Option.bind_some, Option.bind_some, c3.2.1, nI_1]
    unfold fX7_hasBit
    have hM1' : pv_M (ps_day A j) τ' 1 := hM.keep (d2.1 1 (by decide) (by decide))
    have hM4' : pv_M A τ' 4 := hM4.keep (d2.1 4 (by decide) (by decide))
    by_cases e : (ps_bset (ps_br A f s (j * pv_cakes (A (3 + f)) (A 2)) (7 + 1)) >>> (w &&& 31)) &&& (1 : Int32) = (1 : Int32)
    · rw [if_pos e, if_pos e, pu_10]
      obtain ⟨τ2, f1, f2, f3⟩ := pm_day hM1' hBj
      rw [ps_day_s hB] at f2
      show pv_G _ ((fX8_day τ').bind _)
      rw [f1, Option.bind_some]
      exact pg_lostL h hB hd hf hs w d (j + 1) n m σ' τ2 (by omega) (by omega) (by omega) (c2.C hC) (hE.tr c2) f2 (hM4'.keep (f3.1 4 (by decide))) ((hO.tr d2.E.O).tr f3.O)
    · rw [if_neg e, if_neg e, pu_00]
      obtain ⟨s4, k1, k2⟩ := pm_back τ' (nI j)
      show pv_G _ ((fX8_takesBack (nI j) τ').bind _)
      rw [k1, Option.bind_some, if_pos (show nI j ≤ (60 : Int32) from nI_le (b := 60) (by omega) (by decide))]
      exact ⟨_, _, _, rfl, rfl, h.step (hE.tr c2).O ((hO.tr d2.E.O).tr k2.O1) ⟨A, hB, hd, c2.C hC, pv_M.cp k2 hM4'⟩⟩
theorem pg_lost (h : pv_R σ τ) (a b c : Int32) : pv_G (fX7_lost a b c σ) (fX8_lost a b c τ) := by
  have h0 := h
  obtain ⟨⟨A, hB, hd, hC, hM⟩, -, -⟩ := h0
  have h6 := hB.many
  unfold fX7_lost fX8_lost
  rw [pc_hasFlue hC hB, pm_isFlue hM hB, Option.bind_some, Option.bind_some, pu_C_isWord, pu_M_isWord, pu_C_isStrength, pu_M_isStrength]
  by_cases h1 : pu_in a (A 0)
  · rw [if_pos h1, pu_10, pu_10]
    obtain ⟨f, hf, rfl⟩ := pu_in_of h1 (by omega)
    by_cases h2 : pu_in b 16
    · rw [if_pos h2, pu_10, pu_10]
      by_cases h3 : pu_st c
      · rw [if_pos h3, pu_10, pu_10]
        obtain ⟨s, hs1, hs, rfl⟩ := pu_st_of h3
        obtain ⟨s1, d1, d2⟩ := pm_aside τ
        rw [d1, Option.bind_some]
        exact pg_lostL h hB hd hf hs b 61 0 js_FU js_FU σ s1 (by decide) (by decide) (by decide) hC (pv_EC.rf σ) (by rw [ps_day_0 hB]; exact hM.keep (d2.1 1 (by decide))) (pv_M.cp d2 hM) d2.O4
      · rw [if_neg h3, pu_00, pu_00, pv_found0, pv_finds0]
        exact pv_G.found h 0
    · rw [if_neg h2, pu_00, pu_00, pv_found0, pv_finds0]
      exact pv_G.found h 0
  · rw [if_neg h1, pu_00, pu_00, pv_found0, pv_finds0]
    exact pv_G.found h 0
end PL
/-! PURE: feed -/
section PF
variable {σ τ : js_S}
theorem pu_255 (x : Int32) : ∃ k, k < 256 ∧ x &&& (255 : Int32) = nI k := by
  have h : (x &&& (255 : Int32)).toBitVec.toNat < 256 := by
    have : (x &&& (255 : Int32)).toBitVec = x.toBitVec &&& 255#32 := rfl
    rw [this, BitVec.toNat_and]
    exact Nat.lt_of_le_of_lt Nat.and_le_right (by decide)
  refine ⟨(x &&& (255 : Int32)).toBitVec.toNat, h, ?_⟩
  apply Int32.toBitVec_inj.mp
  apply BitVec.eq_of_toNat_eq
  show _ = (nI _).toBitVec.toNat
  have : (nI (x &&& (255 : Int32)).toBitVec.toNat).toBitVec = BitVec.ofNat 32 (x &&& (255 : Int32)).toBitVec.toNat := rfl
  rw [this, BitVec.toNat_ofNat, Nat.mod_eq_of_lt (by omega)]
/-- one byte more on both tapes -/
theorem pv_R.byte (h : pv_R σ τ) {n k : Nat} (hn : n < 120) (h1 : σ.1 15 0 = nI n) (h2 : τ.1 0 9 = nI n) (hk : k < 256) : pv_R (js_sI (js_sI σ 16 n (nI k)) 15 0 (nI (n + 1))) (js_sI (js_sI τ 7 n (nI k)) 0 9 (nI (n + 1))) := by
  obtain ⟨⟨A, b1, b2, b3, b4⟩, ⟨A', c1, c2, c3, c4⟩, t1, t2, t3, t4, ⟨T, t5, t6⟩, t8, t9⟩ := h
  refine ⟨⟨A, b1, b2, (b3.keepI (by decide) (by decide) (by decide) (by decide) (by decide)).keepI (by decide) (by decide) (by decide) (by decide) (by decide), (b4.keep (pv_sI_ne (by decide))).keep (pv_sI_ne (by decide))⟩, ⟨A', c1, c2, (c3.keepI (by decide) (by decide) (by decide) (by decide) (by decide)).keepI (by decide) (by decide) (by decide) (by decide) (by decide), (c4.keep (pv_sI_ne (by decide))).keep (pv_sI_ne (by decide))⟩, ?_⟩
  unfold pv_T
  rw [pv_sI_ne (show (0 : Nat) ≠ 15 by decide), pv_sI_ne (show (22 : Nat) ≠ 15 by decide), pv_sI_ne (show (16 : Nat) ≠ 15 by decide), pv_sI_ne (show (19 : Nat) ≠ 15 by decide), pv_sI_ne (show (20 : Nat) ≠ 15 by decide), pv_sI_ne (show (5 : Nat) ≠ 0 by decide), pv_sI_ne (show (7 : Nat) ≠ 0 by decide), pv_sI_ne (show (8 : Nat) ≠ 0 by decide), pv_sI_ne (show (9 : Nat) ≠ 0 by decide), pv_sI_2, pv_sI_2, pv_sI_at, pv_sI_at, pv_sI_at, pv_sI_ne (show (0 : Nat) ≠ 16 by decide), pv_sI_ne (show (22 : Nat) ≠ 16 by decide), pv_sI_ne (show (19 : Nat) ≠ 16 by decide), pv_sI_ne (show (20 : Nat) ≠ 16 by decide), pv_sI_ne (show (5 : Nat) ≠ 7 by decide), pv_sI_ne (show (0 : Nat) ≠ 7 by decide), pv_sI_ne (show (8 : Nat) ≠ 7 by decide), pv_sI_ne (show (9 : Nat) ≠ 7 by decide), pv_sI_2, pv_sI_2, if_neg (by decide), if_pos rfl, if_pos rfl]
  refine ⟨t1, t2, t3, ⟨n + 1, by omega, rfl, rfl⟩, ⟨fun i => if i = n then k else T i, fun i => ?_, fun i hi => ?_⟩, t8, t9⟩
  · show (if i = n then k else T i) < 256
    split
    · exact hk
    · exact t5 i
  · show (js_sI σ 16 n (nI k)).1 16 i = nI (if i = n then k else T i) ∧ (js_sI τ 7 n (nI k)).1 7 i = nI (if i = n then k else T i)
    rw [pv_sI_at, pv_sI_at]
    by_cases e : i = n
    · rw [if_pos e, if_pos e, if_pos e]; exact ⟨rfl, rfl⟩
    · rw [if_neg e, if_neg e, if_neg e]; exact t6 i hi
theorem pg_feedL (w : Int32) : ∀ d n m k σ τ, d < n → d < m → pv_R σ τ → σ.1 15 0 = nI k → τ.1 0 9 = nI k → k + d ≤ 120 → pv_G (fX7_feed_L39 w n (nI d + (-1 : Int32)) σ) (fX8_feed_L41 w m (nI d + (-1 : Int32)) τ)
  | 0, n, m, k, σ, τ, hn, hm, h, h1, h2, hk => by
    obtain ⟨n, rfl⟩ : ∃ m, n = m + 1 := ⟨n - 1, by omega⟩
    obtain ⟨m, rfl⟩ : ∃ k, m = k + 1 := ⟨m - 1, by omega⟩
    rw [fX7_feed_L39, fX8_feed_L41, if_pos (by decide), if_pos (by decide), h1, h2]
    exact pv_G.same h
  | d + 1, n, m, k, σ, τ, hn, hm, h, h1, h2, hk => by
    obtain ⟨n, rfl⟩ : ∃ m, n = m + 1 := ⟨n - 1, by omega⟩
    obtain ⟨m, rfl⟩ : ∃ k, m = k + 1 := ⟨m - 1, by omega⟩
    obtain ⟨v, hv, e⟩ := pu_255 (w >>> (((8 : Int32) * nI d) &&& 31))
    have hR := h.byte (n := k) (by omega) h1 h2 hv
    have e1 : fX4_add (nI v) σ = some (js_sI (js_sI σ 16 k (nI v)) 15 0 (nI (k + 1))) := by
      unfold fX4_add
      rw [h1, if_neg (nI_pos (by omega)), if_pos (show nI k < (120 : Int32) from nI_lt (b := 120) (by omega) (by decide)), pu_gd (by omega) (by decide), pu_cl (by omega), pv_sI_ne (show (15 : Nat) ≠ 16 by decide), h1, nI_1]
    rw [pk_m1, fX7_feed_L39, fX8_feed_L41, if_neg (nI_pos (by omega)), if_neg (nI_pos (by omega)), e, e1, Option.bind_some, h2, pu_gd (by omega) (by decide), pu_cl (by omega), pv_sI_ne (show (0 : Nat) ≠ 7 by decide), h2, nI_1]
    refine pg_feedL w d n m (k + 1) _ _ (by omega) (by omega) hR ?_ ?_ (by omega)
    · rw [pv_sI_at, if_pos rfl]
    · rw [pv_sI_at, if_pos rfl]
theorem pg_feed (h : pv_R σ τ) (a b : Int32) : pv_G (fX7_feed a b σ) (fX8_feed a b τ) := by
  have h0 := h
  obtain ⟨-, -, -, -, -, ⟨k, hk, t1, t2⟩, -⟩ := h0
  have e1 : (b < (1 : Int32)) ↔ b.toInt < 1 := by rw [fa_lt]; rfl
  have e2 : (b ≤ (4 : Int32)) ↔ b.toInt ≤ 4 := by rw [fa_le]; rfl
  unfold fX7_feed fX8_feed
  rw [pu_fin, Int32.toInt_toInt64]
  have e4 : ((1 : Int64).toInt ≤ b.toInt ∧ b.toInt ≤ (4 : Int64).toInt) ↔ (1 ≤ b.toInt ∧ b.toInt ≤ 4) := Iff.rfl
  simp only [e1, e2, e4]
  by_cases h1 : 1 ≤ b.toInt ∧ b.toInt ≤ 4
  · rw [if_pos h1, pu_10, if_neg (by omega), if_pos h1.2]
    obtain ⟨n, hn, rfl⟩ : ∃ n, n < 5 ∧ b = nI n := pu_in_of (n := 5) (by constructor <;> omega) (by decide)
    have hn1 : 1 ≤ n := by
      have := h1.1
      rw [nI_toInt (by omega)] at this
      omega
    unfold fX4_hasRoom
    rw [t1, t2, fa_lit 120, pk_sub hk, nI_add, fa_lit 1, pk_sub hn1]
    have e5 : (nI (120 - k) < nI n) ↔ 120 < k + n := by rw [nI_ltI (by omega) (by omega)]; omega
    have e6 : (nI (k + n) ≤ nI 120) ↔ k + n ≤ 120 := nI_leI (by omega) (by omega)
    by_cases h2 : k + n ≤ 120
    · rw [if_neg (fun x => by have := e5.mp x; omega), Option.bind_some, if_neg (show ¬ nI 1 = 0 by decide), if_pos (e6.mpr h2)]
      have e7 : nI (n - 1) = nI n + (-1 : Int32) := by
        obtain ⟨j, rfl⟩ : ∃ j, n = j + 1 := ⟨n - 1, by omega⟩
        rw [pk_m1]
        rfl
      rw [e7]
      exact pg_feedL a n js_FU js_FU k σ τ (by unfold js_FU; omega) (by unfold js_FU; omega) h t1 t2 h2
    · rw [if_pos (e5.mpr (by omega)), Option.bind_some, pu_00, if_neg (fun x => h2 (e6.mp x)), pv_found1, pv_finds1]
      exact pv_G.found h 1
  · rw [if_neg h1, pu_00, pv_finds0]
    by_cases h2 : b.toInt < 1
    · rw [if_pos h2, pv_found0]
      exact pv_G.found h 0
    · rw [if_neg h2, if_neg (by omega), pv_found0]
      exact pv_G.found h 0
end PF
