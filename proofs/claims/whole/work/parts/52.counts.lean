/-! PURE: days, now, count -/
/-- a number for each layer, added up: bend by bend -/
def ps_sb (A : Nat → Nat) (F : Nat → Int32) (s : Int32) (p : Nat) : Int32 := pu_fold (fun s k => s + F (A (345 + (6 * p + k)))) s 0 (A (9 + p))
def ps_sum (A : Nat → Nat) (F : Nat → Int32) : Int32 := pu_fold (ps_sb A F) 0 0 (8 * A 0)
def ps_ind (v c : Nat) : Int32 := if c = v then 1 else 0
section PZ
variable {A : Nat → Nat} {σ τ : js_S}
theorem ps_sb_rev (F : Nat → Int32) (s : Int32) (p : Nat) : pu_fold (fun s k => s + F (A (345 + (6 * p + (A (9 + p) - 1 - k))))) s 0 (A (9 + p)) = ps_sb A F s p := pu_fold_rev (· + ·) pu_add_a pu_add_c (fun k => F (A (345 + (6 * p + k)))) _ s
/-- the three loops of the class, as one -/
theorem ps_sum_rows (F : Nat → Int32) : pu_fold (fun x f => pu_fold (fun y b => ps_sb A F y (8 * f + b)) x 0 8) 0 0 (A 0) = ps_sum A F := (pu_fold_rows (ps_sb A F) 8 0 (A 0)).symm
theorem pc_countL (hC : pv_C A σ 1) (hB : pv_B A) {v : Nat} (hv : v ≤ 9) : fX3_layersOfCake (nI v) σ = some (ps_sum A (ps_ind v)) := by
  have h6 := hB.many
  have l1 : ∀ (k59 : Int32 → Option Int32) f b acc, f < A 0 → b < 8 → fX3_layersOfCake_L25 k59 (nI v) (nI f) (nI b) σ js_FU acc (0 : Int32) = k59 (ps_sb A (ps_ind v) acc (8 * f + b)) := by
    intro k59 f b acc hf hb
    have hg := hB.hg (p := 8 * f + b) (by omega)
    rw [← ps_sb_rev]
    refine pu_loop0 (fun n a i => fX3_layersOfCake_L25 k59 (nI v) (nI f) (nI b) σ n a i) (fun s k => s + ps_ind v (A (345 + (6 * (8 * f + b) + (A (9 + (8 * f + b)) - 1 - k))))) k59 _ (by omega) (fun n a i hi => ?_) (fun n a => ?_) acc
    · have hcc := hB.ck (i := 6 * (8 * f + b) + (A (9 + (8 * f + b)) - 1 - i)) (by omega)
      have e : (nI (A (345 + (6 * (8 * f + b) + (A (9 + (8 * f + b)) - 1 - i)))) = nI v) ↔ A (345 + (6 * (8 * f + b) + (A (9 + (8 * f + b)) - 1 - i))) = v := nI_eq (by omega) (by omega)
      show fX3_layersOfCake_L25 k59 (nI v) (nI f) (nI b) σ (n + 1) a (nI i) = _
      rw [fX3_layersOfCake_L25, pc_height hC hB hf hb, Option.bind_some, if_neg (nI_ge hi (by omega)), pc_cakeAt hC hB hf hb hi, Option.bind_some, nI_1]
      unfold ps_ind
      by_cases q : A (345 + (6 * (8 * f + b) + (A (9 + (8 * f + b)) - 1 - i))) = v
      · rw [if_pos (e.mpr q), if_pos q]
      · rw [if_neg (fun x => q (e.mp x)), if_neg q, Int32.add_zero]
    · show fX3_layersOfCake_L25 k59 (nI v) (nI f) (nI b) σ (n + 1) a (nI (A (9 + (8 * f + b)))) = _
      rw [fX3_layersOfCake_L25, pc_height hC hB hf hb, Option.bind_some, if_pos (nI_le (Nat.le_refl _) (by omega))]
  have l2 : ∀ (k65 : Int32 → Option Int32) f acc, f < A 0 → fX3_layersOfCake_L15 k65 (nI v) (nI f) σ js_FU acc (0 : Int32) = k65 (pu_fold (fun y b => ps_sb A (ps_ind v) y (8 * f + b)) acc 0 8) := by
    intro k65 f acc hf
    refine pu_loop0 (fun n a i => fX3_layersOfCake_L15 k65 (nI v) (nI f) σ n a i) (fun y b => ps_sb A (ps_ind v) y (8 * f + b)) k65 8 (by decide) (fun n a i hi => ?_) (fun n a => rfl) acc
    show fX3_layersOfCake_L15 k65 (nI v) (nI f) σ (n + 1) a (nI i) = _
    rw [fX3_layersOfCake_L15, if_neg (show ¬ (8 : Int32) ≤ nI i from nI_ge hi (by decide)), l1 _ f i a hf hi, nI_1]
  rw [← ps_sum_rows]
  unfold fX3_layersOfCake
  refine pu_loop0 (fun n a i => fX3_layersOfCake_L4 (nI v) σ n a i) (fun x f => pu_fold (fun y b => ps_sb A (ps_ind v) y (8 * f + b)) x 0 8) some (A 0) (by omega) (fun n a i hi => ?_) (fun n a => ?_) 0
  · show fX3_layersOfCake_L4 (nI v) σ (n + 1) a (nI i) = _
    rw [fX3_layersOfCake_L4, hC.many, if_neg (nI_ge hi (by omega)), l2 _ i a hi, nI_1]
  · show fX3_layersOfCake_L4 (nI v) σ (n + 1) a (nI (A 0)) = _
    rw [fX3_layersOfCake_L4, hC.many, if_pos (nI_le (Nat.le_refl _) (by omega))]
theorem pm_withCake (hM : pv_M A τ 1) (hB : pv_B A) {v : Nat} (hv : v ≤ 9) : fX8_withCake (nI v) τ = some (ps_sum A (ps_ind v)) := by
  have h6 := hB.many
  have l1 : ∀ (k68 : Int32 → Option Int32) p acc, p < 48 → fX8_withCake_L20 k68 (nI v) (nI p) τ js_FU acc (0 : Int32) = k68 (ps_sb A (ps_ind v) acc p) := by
    intro k68 p acc hp
    have hg := hB.hg (p := p) hp
    refine pu_loop0 (fun n a i => fX8_withCake_L20 k68 (nI v) (nI p) τ n a i) (fun s k => s + ps_ind v (A (345 + (6 * p + k)))) k68 _ (by omega) (fun n a i hi => ?_) (fun n a => ?_) acc
    · have hcc := hB.ck (i := 6 * p + i) (by omega)
      have e : (nI (A (345 + (6 * p + i))) = nI v) ↔ A (345 + (6 * p + i)) = v := nI_eq (by omega) (by omega)
      show fX8_withCake_L20 k68 (nI v) (nI p) τ (n + 1) a (nI i) = _
      rw [fX8_withCake_L20, fa_lit 9, nI_add, pu_gd (by omega) (by decide), pu_cl (by omega), hM _ (by omega), if_neg (nI_ge hi (by omega)), fa_lit 345, fa_lit 6, pk_mul, nI_add, nI_add, Nat.add_assoc, pu_gd (by omega) (by decide), pu_cl (by omega), hM _ (by omega), nI_1]
      unfold ps_ind
      by_cases q : A (345 + (6 * p + i)) = v
      · rw [if_pos (e.mpr q), if_pos q]
      · rw [if_neg (fun x => q (e.mp x)), if_neg q]
    · show fX8_withCake_L20 k68 (nI v) (nI p) τ (n + 1) a (nI (A (9 + p))) = _
      rw [fX8_withCake_L20, fa_lit 9, nI_add, pu_gd (by omega) (by decide), pu_cl (by omega), hM _ (by omega), if_pos (nI_le (Nat.le_refl _) (by omega))]
  unfold fX8_withCake
  refine pu_loop0 (fun n a i => fX8_withCake_L4 (nI v) τ n a i) (ps_sb A (ps_ind v)) some (8 * A 0) (by omega) (fun n a i hi => ?_) (fun n a => ?_) 0
  · show fX8_withCake_L4 (nI v) τ (n + 1) a (nI i) = _
    rw [fX8_withCake_L4, pm_g0, pm_s0 hM, fa_lit 8, pk_mul, if_neg (nI_ge hi (by omega)), l1 _ i a (by omega), nI_1]
  · show fX8_withCake_L4 (nI v) τ (n + 1) a (nI (8 * A 0)) = _
    rw [fX8_withCake_L4, pm_g0, pm_s0 hM, fa_lit 8, pk_mul, if_pos (nI_le (Nat.le_refl _) (by omega))]
theorem pg_days (h : pv_R σ τ) (a : Int32) : pv_G (fX7_days a σ) (fX8_days a τ) := by
  have h0 := h
  obtain ⟨⟨A, hB, hd, hC, hM⟩, -, -⟩ := h0
  have e1 : (a < (1 : Int32)) ↔ a.toInt < 1 := by rw [fa_lt]; rfl
  have e2 : (a ≤ (60 : Int32)) ↔ a.toInt ≤ 60 := by rw [fa_le]; rfl
  unfold fX7_days fX8_days
  rw [pu_fin, Int32.toInt_toInt64]
  have e4 : ((1 : Int64).toInt ≤ a.toInt ∧ a.toInt ≤ (60 : Int64).toInt) ↔ (1 ≤ a.toInt ∧ a.toInt ≤ 60) := Iff.rfl
  simp only [e1, e2, e4]
  by_cases h1 : 1 ≤ a.toInt ∧ a.toInt ≤ 60
  · rw [if_pos h1, pu_10, if_neg (by omega), if_pos h1.2, pm_g1, pm_s1 hM, hC.day]
    obtain ⟨n, hn, rfl⟩ : ∃ n, n < 61 ∧ a = nI n := pu_in_of (n := 61) (by constructor <;> omega) (by decide)
    rw [nI_add]
    by_cases h2 : A 1 + n ≤ 9999
    · rw [if_pos (show nI (A 1 + n) ≤ (9999 : Int32) from nI_le h2 (by decide)), if_pos (show nI (A 1 + n) ≤ (9999 : Int32) from nI_le h2 (by decide))]
      obtain ⟨σ', c1, c2, c3⟩ := pc_passDays (n := n) hC hB (by omega)
      obtain ⟨τ', d1, d2, d3⟩ := pm_goesOn (n := n) hM hB (by omega) (by omega)
      have hB' := ps_day_B (n := n) hB (by omega)
      rw [c1, d1, Option.bind_some, Option.bind_some, show (9 : Int32) = nI 9 from rfl, pc_countL c2 hB' (by decide), pm_withCake d2 hB' (by decide)]
      exact ⟨_, _, _, rfl, rfl, h.step c3 d3.O ⟨_, hB', by rw [ps_day_1]; exact h2, c2, d2⟩⟩
    · rw [if_neg (show ¬ nI (A 1 + n) ≤ (9999 : Int32) from nI_ge (a := 9999) (by omega) (by omega)), if_neg (show ¬ nI (A 1 + n) ≤ (9999 : Int32) from nI_ge (a := 9999) (by omega) (by omega)), pv_found4, pv_finds4]
      exact pv_G.found h 4
  · rw [if_neg h1, pu_00, pv_finds0]
    by_cases h2 : a.toInt < 1
    · rw [if_pos h2, pv_found0]
      exact pv_G.found h 0
    · rw [if_neg h2, if_neg (by omega), pv_found0]
      exact pv_G.found h 0
/-! sums of layers, words, cakes -/
theorem pc_allLayers (hC : pv_C A σ 1) (hB : pv_B A) : fX3_allLayers σ = some (pu_fold (fun s f => s + ps_layers A f) 0 0 (A 0)) := by
  have h6 := hB.many
  refine pu_loop0 (fun n a i => fX3_allLayers_L4 σ n a i) (fun s f => s + ps_layers A f) some (A 0) (by omega) (fun n a i hi => ?_) (fun n a => ?_) 0
  · show fX3_allLayers_L4 σ (n + 1) a (nI i) = _
    rw [fX3_allLayers_L4, hC.many, if_neg (nI_ge hi (by omega)), pc_layersIn hC hB hi, Option.bind_some, nI_1]
  · show fX3_allLayers_L4 σ (n + 1) a (nI (A 0)) = _
    rw [fX3_allLayers_L4, hC.many, if_pos (nI_le (Nat.le_refl _) (by omega))]
theorem pm_layersAll (hM : pv_M A τ 1) (hB : pv_B A) : fX8_layersAll τ = some (pu_fold (fun s f => s + ps_layers A f) 0 0 (A 0)) := by
  have h6 := hB.many
  refine pu_loop0 (fun n a i => fX8_layersAll_L4 τ n a i) (fun s f => s + ps_layers A f) some (A 0) (by omega) (fun n a i hi => ?_) (fun n a => ?_) 0
  · show fX8_layersAll_L4 τ (n + 1) a (nI i) = _
    rw [fX8_layersAll_L4, pm_g0, pm_s0 hM, if_neg (nI_ge hi (by omega)), pm_layersOf hM (by omega), Option.bind_some, nI_1]
  · show fX8_layersAll_L4 τ (n + 1) a (nI (A 0)) = _
    rw [fX8_layersAll_L4, pm_g0, pm_s0 hM, if_pos (nI_le (Nat.le_refl _) (by omega))]
theorem pc_allWords (hC : pv_C A σ 1) (hB : pv_B A) : fX3_allWords σ = some (pu_fold (fun s f => s ||| ps_wordsOf A f) 0 0 (A 0)) := by
  have h6 := hB.many
  refine pu_loop0 (fun n a i => fX3_allWords_L4 σ n a i) (fun s f => s ||| ps_wordsOf A f) some (A 0) (by omega) (fun n a i hi => ?_) (fun n a => ?_) 0
  · show fX3_allWords_L4 σ (n + 1) a (nI i) = _
    rw [fX3_allWords_L4, hC.many, if_neg (nI_ge hi (by omega)), pc_wordsIn hC hB hi, Option.bind_some, nI_1]
  · show fX3_allWords_L4 σ (n + 1) a (nI (A 0)) = _
    rw [fX3_allWords_L4, hC.many, if_pos (nI_le (Nat.le_refl _) (by omega))]
theorem pm_wordsAll (hM : pv_M A τ 1) (hB : pv_B A) : fX8_wordsAll τ = some (pu_fold (fun s f => s ||| ps_wordsOf A f) 0 0 (A 0)) := by
  have h6 := hB.many
  refine pu_loop0 (fun n a i => fX8_wordsAll_L4 τ n a i) (fun s f => s ||| ps_wordsOf A f) some (A 0) (by omega) (fun n a i hi => ?_) (fun n a => ?_) 0
  · show fX8_wordsAll_L4 τ (n + 1) a (nI i) = _
    rw [fX8_wordsAll_L4, pm_g0, pm_s0 hM, if_neg (nI_ge hi (by omega)), pm_wordsOf hM hB (by omega), Option.bind_some, nI_1]
  · show fX8_wordsAll_L4 τ (n + 1) a (nI (A 0)) = _
    rw [fX8_wordsAll_L4, pm_g0, pm_s0 hM, if_pos (nI_le (Nat.le_refl _) (by omega))]
theorem pc_allCake (hC : pv_C A σ 1) (hB : pv_B A) : fX3_allCake σ = some (ps_sum A nI) := by
  have h6 := hB.many
  have l1 : ∀ (k51 : Int32 → Option Int32) f b acc, f < A 0 → b < 8 → fX3_allCake_L23 k51 (nI f) (nI b) σ js_FU acc (0 : Int32) = k51 (ps_sb A nI acc (8 * f + b)) := by
    intro k51 f b acc hf hb
    have hg := hB.hg (p := 8 * f + b) (by omega)
    rw [← ps_sb_rev]
    refine pu_loop0 (fun n a i => fX3_allCake_L23 k51 (nI f) (nI b) σ n a i) (fun s k => s + nI (A (345 + (6 * (8 * f + b) + (A (9 + (8 * f + b)) - 1 - k))))) k51 _ (by omega) (fun n a i hi => ?_) (fun n a => ?_) acc
    · show fX3_allCake_L23 k51 (nI f) (nI b) σ (n + 1) a (nI i) = _
      rw [fX3_allCake_L23, pc_height hC hB hf hb, Option.bind_some, if_neg (nI_ge hi (by omega)), pc_cakeAt hC hB hf hb hi, Option.bind_some, nI_1]
    · show fX3_allCake_L23 k51 (nI f) (nI b) σ (n + 1) a (nI (A (9 + (8 * f + b)))) = _
      rw [fX3_allCake_L23, pc_height hC hB hf hb, Option.bind_some, if_pos (nI_le (Nat.le_refl _) (by omega))]
  have l2 : ∀ (k57 : Int32 → Option Int32) f acc, f < A 0 → fX3_allCake_L14 k57 (nI f) σ js_FU acc (0 : Int32) = k57 (pu_fold (fun y b => ps_sb A nI y (8 * f + b)) acc 0 8) := by
    intro k57 f acc hf
    refine pu_loop0 (fun n a i => fX3_allCake_L14 k57 (nI f) σ n a i) (fun y b => ps_sb A nI y (8 * f + b)) k57 8 (by decide) (fun n a i hi => ?_) (fun n a => rfl) acc
    show fX3_allCake_L14 k57 (nI f) σ (n + 1) a (nI i) = _
    rw [fX3_allCake_L14, if_neg (show ¬ (8 : Int32) ≤ nI i from nI_ge hi (by decide)), l1 _ f i a hf hi, nI_1]
  rw [← ps_sum_rows]
  unfold fX3_allCake
  refine pu_loop0 (fun n a i => fX3_allCake_L4 σ n a i) (fun x f => pu_fold (fun y b => ps_sb A nI y (8 * f + b)) x 0 8) some (A 0) (by omega) (fun n a i hi => ?_) (fun n a => ?_) 0
  · show fX3_allCake_L4 σ (n + 1) a (nI i) = _
    rw [fX3_allCake_L4, hC.many, if_neg (nI_ge hi (by omega)), l2 _ i a hi, nI_1]
  · show fX3_allCake_L4 σ (n + 1) a (nI (A 0)) = _
    rw [fX3_allCake_L4, hC.many, if_pos (nI_le (Nat.le_refl _) (by omega))]
/-! sums are linear -/
theorem pu_sum_lin (c : Int32) (F G : Nat → Int32) : ∀ (d i : Nat) (a b : Int32), pu_fold (fun s k => s + F k) a i d + c * pu_fold (fun s k => s + G k) b i d = pu_fold (fun s k => s + (F k + c * G k)) (a + c * b) i d
  | 0, _, _, _ => rfl
  | d + 1, i, a, b => by
    show pu_fold _ (a + F i) (i + 1) d + c * pu_fold _ (b + G i) (i + 1) d = pu_fold _ (a + c * b + (F i + c * G i)) (i + 1) d
    rw [pu_sum_lin c F G d (i + 1), Int32.mul_add]
    congr 1
    rw [pu_add_a, pu_add_a, ← pu_add_a (F i), pu_add_c (F i) (c * b), pu_add_a]
theorem ps_sb_lin (c : Int32) (F G : Nat → Int32) (x y : Int32) (p : Nat) : ps_sb A F x p + c * ps_sb A G y p = ps_sb A (fun q => F q + c * G q) (x + c * y) p := pu_sum_lin c (fun k => F (A (345 + (6 * p + k)))) (fun k => G (A (345 + (6 * p + k)))) _ _ _ _
theorem ps_sum_lin (c : Int32) (F G : Nat → Int32) : ps_sum A F + c * ps_sum A G = ps_sum A (fun q => F q + c * G q) := by
  have key : ∀ (d i : Nat) (x y : Int32), pu_fold (ps_sb A F) x i d + c * pu_fold (ps_sb A G) y i d = pu_fold (ps_sb A (fun q => F q + c * G q)) (x + c * y) i d := by
    intro d
    induction d with
    | zero => intros; rfl
    | succ d ih =>
      intro i x y
      show pu_fold _ (ps_sb A F x i) (i + 1) d + c * pu_fold _ (ps_sb A G y i) (i + 1) d = pu_fold _ (ps_sb A _ (x + c * y) i) (i + 1) d
      rw [ih, ps_sb_lin]
  have h := key (8 * A 0) 0 0 0
  rw [Int32.mul_zero, Int32.add_zero] at h
  exact h
theorem ps_sum_cong (hB : pv_B A) {F G : Nat → Int32} (h : ∀ c, c ≤ 9 → F c = G c) : ps_sum A F = ps_sum A G := by
  have h6 := hB.many
  refine pu_fold_cong _ _ _ fun s p _ hp => pu_fold_cong _ _ _ fun x k _ hk => ?_
  have hg := hB.hg (p := p) (by omega)
  rw [h _ (hB.ck (i := 6 * p + k) (by omega))]
theorem pm_cakeAll (hM : pv_M A τ 1) (hB : pv_B A) : fX8_cakeAll τ = some (ps_sum A nI) := by
  have key := pu_loop (fun n a i => fX8_cakeAll_L4 τ n a i) (fun s v => s + nI v * ps_sum A (ps_ind v)) some (fun _ i => i ≤ 10) 10 (fun n a i hi h => ⟨by
    show fX8_cakeAll_L4 τ (n + 1) a (nI i) = _
    rw [fX8_cakeAll_L4, if_neg (show ¬ (9 : Int32) < nI i from nI_nlt (a := 9) (by omega) (by decide)), pm_withCake hM hB (by omega), Option.bind_some, nI_1], by omega⟩) (fun n a _ => rfl) 9 1 js_FU (0 : Int32) (by decide) (by decide) (by decide)
  have k1 : fX8_cakeAll τ = some (pu_fold (fun s v => s + nI v * ps_sum A (ps_ind v)) 0 1 9) := key.1
  have z0 : (0 : Int32) = ps_sum A (fun _ => 0) := by
    have e := ps_sum_lin (A := A) (0 : Int32) (fun _ => 0) (fun _ => 0)
    have : ∀ (d i : Nat) (x : Int32), pu_fold (ps_sb A (fun _ => 0)) x i d = x := by
      intro d
      induction d with
      | zero => intros; rfl
      | succ d ih =>
        intro i x
        show pu_fold _ (ps_sb A (fun _ => 0) x i) (i + 1) d = x
        rw [ih]
        have : ∀ (d i : Nat) (x : Int32), pu_fold (fun s k => s + (0 : Int32)) x i d = x := by
          intro d
          induction d with
          | zero => intros; rfl
          | succ d ih => intro i x; show pu_fold _ (x + 0) (i + 1) d = x; rw [ih, Int32.add_zero]
        exact this _ _ _
    exact (this _ _ _).symm
  rw [k1]
  congr 1
  show 0 + nI 1 * ps_sum A (ps_ind 1) + nI 2 * ps_sum A (ps_ind 2) + nI 3 * ps_sum A (ps_ind 3) + nI 4 * ps_sum A (ps_ind 4) + nI 5 * ps_sum A (ps_ind 5) + nI 6 * ps_sum A (ps_ind 6) + nI 7 * ps_sum A (ps_ind 7) + nI 8 * ps_sum A (ps_ind 8) + nI 9 * ps_sum A (ps_ind 9) = _
  rw [z0, ps_sum_lin, ps_sum_lin, ps_sum_lin, ps_sum_lin, ps_sum_lin, ps_sum_lin, ps_sum_lin, ps_sum_lin, ps_sum_lin]
  refine ps_sum_cong hB fun c hc => ?_
  rcases (show c = 0 ∨ c = 1 ∨ c = 2 ∨ c = 3 ∨ c = 4 ∨ c = 5 ∨ c = 6 ∨ c = 7 ∨ c = 8 ∨ c = 9 by omega) with rfl | rfl | rfl | rfl | rfl | rfl | rfl | rfl | rfl | rfl <;> decide
theorem pg_now (h : pv_R σ τ) (a : Int32) : pv_G (fX7_now a σ) (fX8_now a τ) := by
  have h0 := h
  obtain ⟨⟨A, hB, hd, hC, hM⟩, -, -⟩ := h0
  unfold fX7_now fX8_now
  rw [pm_g1, pm_g2, pm_s1 hM, pm_s2 hM, hC.day, hC.damp, pc_allLayers hC hB, pc_allWords hC hB, pc_allCake hC hB, pm_layersAll hM hB, pm_wordsAll hM hB, pm_cakeAll hM hB, pv_found0, pv_finds0]
  simp only [Option.bind_some]
  repeat' split
  all_goals first | exact pv_G.same h | exact pv_G.found h 0
/-! full bends -/
def ps_fl (A : Nat → Nat) (s : Int32) (p : Nat) : Int32 := if A (9 + p) < pv_hold (A (3 + p / 8)) (p % 8) then s else s + 1
theorem pc_fullBends (hC : pv_C A σ 1) (hB : pv_B A) : fX3_fullBends σ = some (pu_fold (ps_fl A) 0 0 (8 * A 0)) := by
  have h6 := hB.many
  have l2 : ∀ (k47 : Int32 → Option Int32) f acc, f < A 0 → fX3_fullBends_L14 k47 (nI f) σ js_FU acc (0 : Int32) = k47 (pu_fold (fun y b => ps_fl A y (8 * f + b)) acc 0 8) := by
    intro k47 f acc hf
    refine pu_loop0 (fun n a i => fX3_fullBends_L14 k47 (nI f) σ n a i) (fun y b => ps_fl A y (8 * f + b)) k47 8 (by decide) (fun n a i hi => ?_) (fun n a => rfl) acc
    have hk := hB.kd (f := f) (by omega)
    have hg := hB.hg (p := 8 * f + i) (by omega)
    have ht := pv_hold_tab (A (3 + f)) (by omega) i hi
    show fX3_fullBends_L14 k47 (nI f) σ (n + 1) a (nI i) = _
    rw [fX3_fullBends_L14, if_neg (show ¬ (8 : Int32) ≤ nI i from nI_ge hi (by decide)), pc_height hC hB hf hi, Option.bind_some, pc_kindOf hC hB hf, Option.bind_some, ht.1, nI_1]
    unfold ps_fl
    rw [show (8 * f + i) / 8 = f by omega, show (8 * f + i) % 8 = i by omega]
    by_cases e : A (9 + (8 * f + i)) < pv_hold (A (3 + f)) i
    · rw [if_pos (nI_lt e (by omega)), if_pos e]
    · rw [if_neg (nI_nlt (by omega) (by omega)), if_neg e]
  rw [pu_fold_rows]
  refine pu_loop0 (fun n a i => fX3_fullBends_L4 σ n a i) (fun x f => pu_fold (fun y b => ps_fl A y (8 * f + b)) x 0 8) some (A 0) (by omega) (fun n a i hi => ?_) (fun n a => ?_) 0
  · show fX3_fullBends_L4 σ (n + 1) a (nI i) = _
    rw [fX3_fullBends_L4, hC.many, if_neg (nI_ge hi (by omega)), l2 _ i a hi, nI_1]
  · show fX3_fullBends_L4 σ (n + 1) a (nI (A 0)) = _
    rw [fX3_fullBends_L4, hC.many, if_pos (nI_le (Nat.le_refl _) (by omega))]
theorem pm_fullOnes (hM : pv_M A τ 1) (hB : pv_B A) : fX8_fullOnes τ = some (pu_fold (ps_fl A) 0 0 (8 * A 0)) := by
  have h6 := hB.many
  refine pu_loop0 (fun n a i => fX8_fullOnes_L4 τ n a i) (ps_fl A) some (8 * A 0) (by omega) (fun n a i hi => ?_) (fun n a => ?_) 0
  · have w := pm_isFull hM hB (f := i / 8) (b := i % 8) (by omega) (by omega)
    rw [show 8 * (i / 8) + i % 8 = i by omega] at w
    show fX8_fullOnes_L4 τ (n + 1) a (nI i) = _
    rw [fX8_fullOnes_L4, pm_g0, pm_s0 hM, fa_lit 8, pk_mul, if_neg (nI_ge hi (by omega)), pk_rem (by omega) (by decide) (by decide), pk_div (by omega) (by decide) (by decide), w, Option.bind_some, Int32.add_zero, nI_1]
    unfold ps_fl
    by_cases e : A (9 + i) < pv_hold (A (3 + i / 8)) (i % 8)
    · rw [if_pos e, pu_00, if_pos e]
    · rw [if_neg e, pu_10, if_neg e]
  · show fX8_fullOnes_L4 τ (n + 1) a (nI (8 * A 0)) = _
    rw [fX8_fullOnes_L4, pm_g0, pm_s0 hM, fa_lit 8, pk_mul, if_pos (nI_le (Nat.le_refl _) (by omega))]
theorem pg_count (h : pv_R σ τ) (a : Int32) : pv_G (fX7_count a σ) (fX8_count a τ) := by
  have h0 := h
  obtain ⟨⟨A, hB, hd, hC, hM⟩, -, t1, t2, t3, ⟨n, t4, t5, t6⟩, -⟩ := h0
  unfold fX7_count fX8_count
  rw [pm_g0, pm_s0 hM, hC.many, t5, t6, pc_fullBends hC hB, pm_fullOnes hM hB, show fX3_layersOfCake (0 : Int32) σ = _ from pc_countL hC hB (v := 0) (by decide), show fX8_withCake (0 : Int32) τ = _ from pm_withCake hM hB (v := 0) (by decide), pv_found0, pv_finds0]
  simp only [Option.bind_some]
  repeat' split
  all_goals first | exact pv_G.same h | exact pv_G.found h 0
end PZ
