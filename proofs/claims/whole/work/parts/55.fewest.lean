/-! PURE: fewest -/
def pu_bit (j f : Nat) : Bool := decide (((nI j >>> (nI f &&& 31)) &&& (1 : Int32)) = (1 : Int32))
theorem pu_bit_hi : ∀ f, f < 6 → ∀ j, j < 2 ^ f → ¬ pu_bit j f = true := by decide +kernel
theorem pu_shl : ∀ a, a < 7 → (1 : Int32) <<< (nI a &&& 31) = nI (2 ^ a) := by decide +kernel
theorem pu_and_not (p j s : Int32) : (p &&& (j ^^^ (-1 : Int32))) &&& (s ^^^ (-1 : Int32)) = p &&& ((j ||| s) ^^^ (-1 : Int32)) := by
  apply Int32.toBitVec_inj.mp
  show (p.toBitVec &&& (j.toBitVec ^^^ BitVec.allOnes 32)) &&& (s.toBitVec ^^^ BitVec.allOnes 32) = p.toBitVec &&& ((j.toBitVec ||| s.toBitVec) ^^^ BitVec.allOnes 32)
  apply BitVec.eq_of_getLsbD_eq
  intro i hi
  simp only [BitVec.getLsbD_and, BitVec.getLsbD_xor, BitVec.getLsbD_or, BitVec.getLsbD_allOnes, hi, decide_true]
  cases p.toBitVec.getLsbD i <;> cases j.toBitVec.getLsbD i <;> cases s.toBitVec.getLsbD i <;> rfl
theorem pu_and_0 (p : Int32) : p &&& ((0 : Int32) ^^^ (-1 : Int32)) = p := by
  apply Int32.toBitVec_inj.mp
  show p.toBitVec &&& (0#32 ^^^ BitVec.allOnes 32) = p.toBitVec
  apply BitVec.eq_of_getLsbD_eq
  intro i hi
  simp only [BitVec.getLsbD_and, BitVec.getLsbD_xor, BitVec.getLsbD_allOnes, BitVec.getLsbD_zero, hi, decide_true]
  cases p.toBitVec.getLsbD i <;> rfl
theorem pu_and_16 {p x : Int32} (hp : p &&& (65535 : Int32) = p) : (p &&& x) &&& (65535 : Int32) = p &&& x := by
  have : (p &&& x) &&& (65535 : Int32) = (p &&& (65535 : Int32)) &&& x := by rw [Int32.and_assoc, Int32.and_comm x, ← Int32.and_assoc]
  rw [this, hp]
def ps_J (S : Nat → Int32) (j n : Nat) : Int32 := pu_fold (fun x f => if pu_bit j f then x ||| S f else x) 0 0 n
theorem ps_J_s (S : Nat → Int32) (j n : Nat) : ps_J S j (n + 1) = if pu_bit j n then ps_J S j n ||| S n else ps_J S j n := by
  unfold ps_J
  rw [pu_fold_end, Nat.zero_add]
theorem ps_J_cong {S S' : Nat → Int32} {j : Nat} : ∀ n, (∀ f, f < n → S f = S' f) → ps_J S j n = ps_J S' j n
  | 0, _ => rfl
  | n + 1, h => by rw [ps_J_s, ps_J_s, ps_J_cong n (fun f hf => h f (by omega)), h n (by omega)]
theorem ps_J_hi {S : Nat → Int32} {j a : Nat} (hj : j < 2 ^ a) : ∀ n, a + n ≤ 6 → ps_J S j (a + n) = ps_J S j a
  | 0, _ => rfl
  | n + 1, h => by
    rw [← Nat.add_assoc, ps_J_s, if_neg (pu_bit_hi (a + n) (by omega) j (Nat.lt_of_lt_of_le hj (Nat.pow_le_pow_right (by decide) (by omega)))), ps_J_hi hj n (by omega)]
section PW
variable {A : Nat → Nat} {σ τ : js_S}
theorem pc_joined (σ : js_S) (j : Nat) : fX7_joined (nI j) σ = some (ps_J (fun f => σ.1 23 f) j 6) := by
  unfold fX7_joined ps_J
  refine pu_loop0 (fun n a i => fX7_joined_L4 (nI j) σ n a i) (fun x f => if pu_bit j f then x ||| σ.1 23 f else x) some 6 (by decide) (fun n a i hi => ?_) (fun n a => ?_) 0
  · show fX7_joined_L4 (nI j) σ (n + 1) a (nI i) = _
    rw [fX7_joined_L4, if_neg (show ¬ (6 : Int32) ≤ nI i from nI_ge hi (by decide)), nI_1]
    unfold fX7_hasBit
    by_cases e : pu_bit j i
    · have e' : ((nI j >>> (nI i &&& 31)) &&& (1 : Int32)) = (1 : Int32) := of_decide_eq_true e
      rw [if_pos e', if_neg (show ¬ (1 : Int32) = 0 by decide), pu_gd hi (by decide), pu_cl (by omega), if_pos e]
    · have e' : ¬ ((nI j >>> (nI i &&& 31)) &&& (1 : Int32)) = (1 : Int32) := fun q => e (decide_eq_true q)
      rw [if_neg e', if_pos (show (0 : Int32) = 0 from rfl), if_neg e]
  · show fX7_joined_L4 (nI j) σ (n + 1) a (nI 6) = _
    rw [fX7_joined_L4, if_pos (show (6 : Int32) ≤ nI 6 by decide)]
/-- what flue f gives to a brush of strength s -/
def ps_S (A : Nat → Nat) (s f : Nat) : Int32 := ps_bset (ps_br A f s 0 8)
theorem pc_setsL (hB : pv_B A) {s : Nat} (hs : s ≤ 9) (K : js_S → Option (Int32 × js_S)) (p1 : Int32) : ∀ d f n s0, f + d = A 0 → d < n → pv_C A s0 1 → pv_EC σ s0 → (∀ g, g < f → s0.1 23 g = ps_S A s g) → ∃ s1, fX7_fewest_L23 K p1 (nI s) n (nI f) s0 = K s1 ∧ pv_C A s1 1 ∧ pv_EC σ s1 ∧ (∀ g, g < A 0 → s1.1 23 g = ps_S A s g)
  | 0, f, n, s0, hf, hn, hC, hE, hS => by
    obtain ⟨n, rfl⟩ : ∃ m, n = m + 1 := ⟨n - 1, by omega⟩
    have h6 := hB.many
    have : f = A 0 := by omega
    subst this
    rw [fX7_fewest_L23, hC.many, if_pos (nI_le (Nat.le_refl _) (by omega))]
    exact ⟨s0, rfl, hC, hE, hS⟩
  | d + 1, f, n, s0, hf, hn, hC, hE, hS => by
    obtain ⟨n, rfl⟩ : ∃ m, n = m + 1 := ⟨n - 1, by omega⟩
    have h6 := hB.many
    obtain ⟨s1, c1, c2, c3⟩ := pc_putUp11 (d := 0) (f := f) (b := 7) hC hB (by omega) (by decide) hs (by decide)
    rw [Nat.zero_mul] at c3
    have c1' : fX0_putUp (nI f) (7 : Int32) (nI s) (0 : Int32) s0 = some s1 := c1
    have e2 : pv_EC s1 (js_sI s1 23 f (s1.1 11 1)) := ⟨fun q _ _ _ _ _ _ h7 => pv_sI_ne h7, by rw [pv_sI_ne (by decide)], rfl⟩
    rw [fX7_fewest_L23, hC.many, if_neg (nI_ge (by omega) (by omega)), if_neg (show ¬ (6 : Int32) ≤ nI f from nI_ge (b := 6) (by omega) (by decide)), c1', Option.bind_some, pu_gd (by omega) (by decide), pu_cl (by omega), nI_1]
    refine pc_setsL hB hs K p1 d (f + 1) n _ (by omega) (by omega) (e2.C (c2.E.C hC)) ((hE.tr c2.E).tr e2) fun g hg => ?_
    rw [pv_sI_at]
    by_cases e : g = f
    · rw [if_pos e, c3.2.1, e]; rfl
    · rw [if_neg e, c2.1 23 (by decide) (by decide)]; exact hS g (by omega)
theorem pm_fewL45 (hB : pv_B A) {s j : Nat} (hs : s ≤ 9) {w : Int32} (hw : w &&& (65535 : Int32) = w) (K : Int32 → js_S → Option (Int32 × js_S)) (p1 p3 : Int32) : ∀ d f n s0, f + d = A 0 → d < n → pv_M A s0 1 → pv_EM τ s0 → ∃ s1, fX8_fewest_L45 K p1 (nI s) p3 (nI j) n (w &&& (ps_J (ps_S A s) j f ^^^ (-1 : Int32))) (nI f) s0 = K (w &&& (ps_J (ps_S A s) j (A 0) ^^^ (-1 : Int32))) s1 ∧ pv_M A s1 1 ∧ pv_EM τ s1
  | 0, f, n, s0, hf, hn, hM, hE => by
    obtain ⟨n, rfl⟩ : ∃ m, n = m + 1 := ⟨n - 1, by omega⟩
    have h6 := hB.many
    have : f = A 0 := by omega
    subst this
    rw [fX8_fewest_L45, pm_g0, pm_s0 hM, if_pos (nI_le (Nat.le_refl _) (by omega))]
    exact ⟨s0, rfl, hM, hE⟩
  | d + 1, f, n, s0, hf, hn, hM, hE => by
    obtain ⟨n, rfl⟩ : ∃ m, n = m + 1 := ⟨n - 1, by omega⟩
    have h6 := hB.many
    have hJ := ps_J_s (ps_S A s) j f
    rw [fX8_fewest_L45, pm_g0, pm_s0 hM, if_neg (nI_ge (by omega) (by omega)), nI_1]
    by_cases e : pu_bit j f
    · have e' : ((nI j >>> (nI f &&& 31)) &&& (1 : Int32)) = (1 : Int32) := of_decide_eq_true e
      rw [if_pos e] at hJ
      obtain ⟨s1, d1, d2, d3⟩ := pm_broughtBy6 (f := f) (b := 7) hM hB (by omega) (by decide) hs
      have d1' : fX8_broughtBy (nI f) (7 : Int32) (nI s) s0 = some (ps_S A s f, s1) := d1
      rw [if_pos e', d1', Option.bind_some]
      show ∃ s1', fX8_fewest_L45 K p1 (nI s) p3 (nI j) n ((w &&& (ps_J (ps_S A s) j f ^^^ (-1 : Int32))) &&& (ps_S A s f ^^^ (-1 : Int32))) (nI (f + 1)) s1 = _ ∧ _
      rw [pu_and_not, ← hJ]
      exact pm_fewL45 hB hs hw K p1 p3 d (f + 1) n s1 (by omega) (by omega) (d2.E.M hM) (hE.tr d2.E)
    · have e' : ¬ ((nI j >>> (nI f &&& 31)) &&& (1 : Int32)) = (1 : Int32) := fun q => e (decide_eq_true q)
      rw [if_neg e] at hJ
      rw [if_neg e', pu_and_16 hw, ← hJ]
      exact pm_fewL45 hB hs hw K p1 p3 d (f + 1) n s0 (by omega) (by omega) hM hE
theorem pg_fewL (hB : pv_B A) {s : Nat} (hs : s ≤ 9) {w : Int32} (hw : w &&& (65535 : Int32) = w) : ∀ d j n m x σ τ, j + d = 2 ^ A 0 → d < n → d < m → (x = (-1) ∨ ∃ g, g < 64 ∧ x = nI g) → pv_R σ τ → pv_C A σ 1 → pv_M A τ 1 → (∀ g, g < A 0 → σ.1 23 g = ps_S A s g) → pv_G (fX7_fewest_L80 w n x (nI j) σ) (fX8_fewest_L26 w (nI s) m x (nI j) τ)
  | 0, j, n, m, x, σ, τ, hj, hn, hm, hx, h, hC, hM, hS => by
    obtain ⟨n, rfl⟩ : ∃ m, n = m + 1 := ⟨n - 1, by omega⟩
    obtain ⟨m, rfl⟩ : ∃ k, m = k + 1 := ⟨m - 1, by omega⟩
    have h6 := hB.many
    have h64 : 2 ^ A 0 ≤ 2 ^ 6 := Nat.pow_le_pow_right (by decide) h6
    have : j = 2 ^ A 0 := by omega
    subst this
    rw [fX7_fewest_L80, fX8_fewest_L26, pm_g0, pm_s0 hM, hC.many, pu_shl _ (by omega), if_pos (nI_le (Nat.le_refl _) (by omega)), if_pos (nI_le (Nat.le_refl _) (by omega))]
    rcases hx with rfl | ⟨g, hg, rfl⟩
    · rw [if_pos rfl, if_neg (by decide), pv_found3, pv_finds3]
      exact pv_G.found h 3
    · rw [if_neg (pu_m1 (by omega)), if_pos (nI_pos' (by omega))]
      exact pv_G.same h
  | d + 1, j, n, m, x, σ, τ, hj, hn, hm, hx, h, hC, hM, hS => by
    obtain ⟨n, rfl⟩ : ∃ m, n = m + 1 := ⟨n - 1, by omega⟩
    obtain ⟨m, rfl⟩ : ∃ k, m = k + 1 := ⟨m - 1, by omega⟩
    have h6 := hB.many
    have h64 : 2 ^ A 0 ≤ 2 ^ 6 := Nat.pow_le_pow_right (by decide) h6
    have hJ : ps_J (fun f => σ.1 23 f) j 6 = ps_J (ps_S A s) j (A 0) := by
      have := ps_J_hi (S := fun f => σ.1 23 f) (j := j) (a := A 0) (by omega) (6 - A 0) (by omega)
      rw [show A 0 + (6 - A 0) = 6 by omega] at this
      rw [this]
      exact ps_J_cong _ fun f hf => hS f hf
    rw [fX7_fewest_L80, fX8_fewest_L26, pm_g0, pm_s0 hM, hC.many, pu_shl _ (by omega), if_neg (nI_ge (by omega) (by omega)), if_neg (nI_ge (by omega) (by omega)), pc_joined, hJ]
    obtain ⟨τ', d1, d2, d3⟩ := pm_fewL45 (τ := τ) (j := j) hB hs hw (fun w4 s5 => (if w4 = 0 then (if x < 0 then fX8_fewest_L26 w (nI s) m (nI j) (nI j + (1 : Int32)) s5 else (fX8_ones (nI j) s5).bind fun r6 => (fX8_ones x s5).bind fun r7 => (if r7 ≤ r6 then fX8_fewest_L26 w (nI s) m x (nI j + (1 : Int32)) s5 else fX8_fewest_L26 w (nI s) m (nI j) (nI j + (1 : Int32)) s5)) else fX8_fewest_L26 w (nI s) m x (nI j + (1 : Int32)) s5)) w x (A 0) 0 js_FU τ (by omega) (by unfold js_FU; omega) hM (pv_EM.rf τ)
    have d1' : fX8_fewest_L45 _ w (nI s) x (nI j) js_FU (w &&& ((0 : Int32) ^^^ (-1 : Int32))) (0 : Int32) τ = _ := d1
    rw [pu_and_0] at d1'
    rw [d1', Option.bind_some, nI_1]
    have hR := h.keep (pv_EC.rf σ) d3
    have go := fun y hy => pg_fewL hB hs hw d (j + 1) n m y σ τ' (by omega) (by omega) (by omega) hy hR hC d2 hS
    rcases hx with rfl | ⟨g, hg, rfl⟩
    · rw [if_pos rfl, if_neg (show ¬ (1 : Int32) = 0 by decide), if_pos (show (-1 : Int32) < 0 by decide)]
      by_cases e : w &&& (ps_J (ps_S A s) j (A 0) ^^^ (-1 : Int32)) = 0
      · rw [if_pos e, if_pos e]
        exact go _ (Or.inr ⟨j, by omega, rfl⟩)
      · rw [if_neg e, if_neg e]
        exact go _ (Or.inl rfl)
    · rw [if_neg (pu_m1 (by omega)), if_neg (show ¬ nI g < 0 from nI_pos (by omega)), pb_count (show j < 65536 by omega), Option.bind_some, pb_count (show g < 65536 by omega), Option.bind_some]
      by_cases e2 : fJ6_bitCount_0f7a4 (nI g) ≤ fJ6_bitCount_0f7a4 (nI j)
      · rw [if_pos e2, if_pos (show (0 : Int32) = 0 from rfl), if_pos e2]
        by_cases e : w &&& (ps_J (ps_S A s) j (A 0) ^^^ (-1 : Int32)) = 0
        · rw [if_pos e]
          exact go _ (Or.inr ⟨g, hg, rfl⟩)
        · rw [if_neg e]
          exact go _ (Or.inr ⟨g, hg, rfl⟩)
      · rw [if_neg e2, if_neg (show ¬ (1 : Int32) = 0 by decide), if_neg e2]
        by_cases e : w &&& (ps_J (ps_S A s) j (A 0) ^^^ (-1 : Int32)) = 0
        · rw [if_pos e, if_pos e]
          exact go _ (Or.inr ⟨j, by omega, rfl⟩)
        · rw [if_neg e, if_neg e]
          exact go _ (Or.inr ⟨g, hg, rfl⟩)
theorem pg_fewest (h : pv_R σ τ) (a b : Int32) : pv_G (fX7_fewest a b σ) (fX8_fewest a b τ) := by
  have h0 := h
  obtain ⟨⟨A, hB, hd, hC, hM⟩, -, -⟩ := h0
  have h6 := hB.many
  unfold fX7_fewest fX8_fewest
  rw [pu_C_isSet, pu_M_areWords, pu_C_isStrength, pu_M_isStrength]
  by_cases h2 : pu_in a 65536
  · rw [if_pos h2, pu_10, pu_10]
    by_cases h3 : pu_st b
    · rw [if_pos h3, pu_10, pu_10]
      obtain ⟨s, hs1, hs, rfl⟩ := pu_st_of h3
      obtain ⟨q, hq, rfl⟩ := pu_in_of h2 (by omega)
      have hw : nI q &&& (65535 : Int32) = nI q := by
        have := pk_and (nI q) (m := 65535) 16 (by decide)
        rw [this]
        apply Int32.toBitVec_inj.mp
        apply BitVec.eq_of_toNat_eq
        show (BitVec.ofNat 32 _).toNat = (BitVec.ofNat 32 q).toNat
        rw [BitVec.toNat_ofNat]
        show (BitVec.ofNat 32 q).toNat % 2 ^ 16 % 2 ^ 32 = (BitVec.ofNat 32 q).toNat
        rw [BitVec.toNat_ofNat]
        omega
      obtain ⟨s1, c1, c2, c3, c4⟩ := pc_setsL (σ := σ) hB hs (fun s3 => fX7_fewest_L80 (nI q) js_FU (-1 : Int32) (0 : Int32) s3) (nI q) (A 0) 0 js_FU σ (by omega) (by unfold js_FU; omega) hC (pv_EC.rf σ) (fun g hg => by cases hg)
      have c1' : fX7_fewest_L23 (fun s3 => fX7_fewest_L80 (nI q) js_FU (-1 : Int32) (0 : Int32) s3) (nI q) (nI s) js_FU (0 : Int32) σ = _ := c1
      rw [c1']
      have h64 : 2 ^ A 0 ≤ 2 ^ 6 := Nat.pow_le_pow_right (by decide) h6
      exact pg_fewL hB hs hw (2 ^ A 0) 0 js_FU js_FU (-1) s1 τ (by omega) (by unfold js_FU; omega) (by unfold js_FU; omega) (Or.inl rfl) (h.keep c3 (pv_EM.rf τ)) c2 hM c4
    · rw [if_neg h3, pu_00, pu_00, pv_found0, pv_finds0]
      exact pv_G.found h 0
  · rw [if_neg h2, pu_00, pu_00, pv_found0, pv_finds0]
    exact pv_G.found h 0
end PW
