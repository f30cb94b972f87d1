/-! PURE: leaves of class and reference -/
def pv_mr (o : Option Int32) (a2 a3 : Int32) (c : Bool) : Option Int32 := (if (7 : Int32) ≤ a3 then (if (a2 - a2 / (8 : Int32) * (8 : Int32)) ≤ (0 : Int32) then (if (0 : Int32) ≤ (2 : Int32) then o.bind fun r1 => (if r1 = (1 : Int32) then some (a2 - a2 / (8 : Int32) * (8 : Int32)) else (if r1 = (2 : Int32) then some (0 : Int32) else (if r1 = (3 : Int32) then some (0 : Int32) else (if r1 = (4 : Int32) then (if a2 = (15 : Int32) then some (7 : Int32) else some (a2 - a2 / (8 : Int32) * (8 : Int32))) else (if r1 = (5 : Int32) then  ((if c = true then some (-1 : Int32) else some (0 : Int32))) else some (0 : Int32)))))) else o.bind fun r7 => (if r7 = (1 : Int32) then some (a2 - a2 / (8 : Int32) * (8 : Int32)) else (if r7 = (2 : Int32) then some ((0 : Int32) - (2 : Int32)) else (if r7 = (3 : Int32) then some (0 : Int32) else (if r7 = (4 : Int32) then (if a2 = (15 : Int32) then some (7 : Int32) else some (a2 - a2 / (8 : Int32) * (8 : Int32))) else (if r7 = (5 : Int32) then  ((if c = true then some (-1 : Int32) else some ((0 : Int32) - (2 : Int32)))) else some (0 : Int32))))))) else (if (0 : Int32) ≤ (2 : Int32) then o.bind fun r13 => (if r13 = (1 : Int32) then some (0 : Int32) else (if r13 = (2 : Int32) then some (0 : Int32) else (if r13 = (3 : Int32) then some (0 : Int32) else (if r13 = (4 : Int32) then (if a2 = (15 : Int32) then some (7 : Int32) else some (0 : Int32)) else (if r13 = (5 : Int32) then  ((if c = true then some (-1 : Int32) else some (0 : Int32))) else some (0 : Int32)))))) else o.bind fun r19 => (if r19 = (1 : Int32) then some (0 : Int32) else (if r19 = (2 : Int32) then some ((0 : Int32) - (2 : Int32)) else (if r19 = (3 : Int32) then some (0 : Int32) else (if r19 = (4 : Int32) then (if a2 = (15 : Int32) then some (7 : Int32) else some (0 : Int32)) else (if r19 = (5 : Int32) then  ((if c = true then some (-1 : Int32) else some ((0 : Int32) - (2 : Int32)))) else some (0 : Int32)))))))) else (if (a2 - a2 / (8 : Int32) * (8 : Int32)) ≤ ((7 : Int32) - a3) then (if ((7 : Int32) - a3) ≤ (2 : Int32) then o.bind fun r25 => (if r25 = (1 : Int32) then some (a2 - a2 / (8 : Int32) * (8 : Int32)) else (if r25 = (2 : Int32) then some (0 : Int32) else (if r25 = (3 : Int32) then some (0 : Int32) else (if r25 = (4 : Int32) then (if a2 = (15 : Int32) then some (7 : Int32) else some (a2 - a2 / (8 : Int32) * (8 : Int32))) else (if r25 = (5 : Int32) then  ((if c = true then some (-1 : Int32) else some (0 : Int32))) else some ((7 : Int32) - a3)))))) else o.bind fun r31 => (if r31 = (1 : Int32) then some (a2 - a2 / (8 : Int32) * (8 : Int32)) else (if r31 = (2 : Int32) then some (((7 : Int32) - a3) - (2 : Int32)) else (if r31 = (3 : Int32) then some (0 : Int32) else (if r31 = (4 : Int32) then (if a2 = (15 : Int32) then some (7 : Int32) else some (a2 - a2 / (8 : Int32) * (8 : Int32))) else (if r31 = (5 : Int32) then  ((if c = true then some (-1 : Int32) else some (((7 : Int32) - a3) - (2 : Int32)))) else some ((7 : Int32) - a3))))))) else (if ((7 : Int32) - a3) ≤ (2 : Int32) then o.bind fun r37 => (if r37 = (1 : Int32) then some ((7 : Int32) - a3) else (if r37 = (2 : Int32) then some (0 : Int32) else (if r37 = (3 : Int32) then some (0 : Int32) else (if r37 = (4 : Int32) then (if a2 = (15 : Int32) then some (7 : Int32) else some ((7 : Int32) - a3)) else (if r37 = (5 : Int32) then  ((if c = true then some (-1 : Int32) else some (0 : Int32))) else some ((7 : Int32) - a3)))))) else o.bind fun r43 => (if r43 = (1 : Int32) then some ((7 : Int32) - a3) else (if r43 = (2 : Int32) then some (((7 : Int32) - a3) - (2 : Int32)) else (if r43 = (3 : Int32) then some (0 : Int32) else (if r43 = (4 : Int32) then (if a2 = (15 : Int32) then some (7 : Int32) else some ((7 : Int32) - a3)) else (if r43 = (5 : Int32) then  ((if c = true then some (-1 : Int32) else some (((7 : Int32) - a3) - (2 : Int32)))) else some ((7 : Int32) - a3)))))))))
def pv_cr (a0 a1 a2 : Int32) (c : Bool) : Int32 := (if a0 = (1 : Int32) then (if (a1 - a1 / (8 : Int32) * (8 : Int32)) < (if (0 : Int32) < ((7 : Int32) - a2) then ((7 : Int32) - a2) else (0 : Int32)) then (a1 - a1 / (8 : Int32) * (8 : Int32)) else (if (0 : Int32) < ((7 : Int32) - a2) then ((7 : Int32) - a2) else (0 : Int32))) else (if a0 = (2 : Int32) then (if (0 : Int32) < ((if (0 : Int32) < ((7 : Int32) - a2) then ((7 : Int32) - a2) else (0 : Int32)) - (2 : Int32)) then ((if (0 : Int32) < ((7 : Int32) - a2) then ((7 : Int32) - a2) else (0 : Int32)) - (2 : Int32)) else (0 : Int32)) else (if a0 = (3 : Int32) then (0 : Int32) else (if a0 = (4 : Int32) then (if a1 = (15 : Int32) then (7 : Int32) else (if (a1 - a1 / (8 : Int32) * (8 : Int32)) < (if (0 : Int32) < ((7 : Int32) - a2) then ((7 : Int32) - a2) else (0 : Int32)) then (a1 - a1 / (8 : Int32) * (8 : Int32)) else (if (0 : Int32) < ((7 : Int32) - a2) then ((7 : Int32) - a2) else (0 : Int32)))) else (if a0 = (5 : Int32) then (if c = true then (-1 : Int32) else (if (0 : Int32) < ((if (0 : Int32) < ((7 : Int32) - a2) then ((7 : Int32) - a2) else (0 : Int32)) - (2 : Int32)) then ((if (0 : Int32) < ((7 : Int32) - a2) then ((7 : Int32) - a2) else (0 : Int32)) - (2 : Int32)) else (0 : Int32))) else (if (0 : Int32) < ((7 : Int32) - a2) then ((7 : Int32) - a2) else (0 : Int32)))))))
theorem pv_mr_of (a1 a2 a3 : Int32) (σ : js_S) : fX8_rise a1 a2 a3 σ = pv_mr (fX8_kindOf a1 σ) a2 a3 (decide (((σ.1 1 1) - (σ.1 1 1) / (4 : Int32) * (4 : Int32)) = (2 : Int32))) := by
  by_cases h : ((σ.1 1 1) - (σ.1 1 1) / (4 : Int32) * (4 : Int32)) = (2 : Int32)
  · rw [decide_eq_true h]
    unfold fX8_rise pv_mr
    rw [show (Int32.toNatClampNeg (1 : Int32)) = 1 from rfl]
    simp only [if_pos h, if_true]
    rfl
  · rw [decide_eq_false h]
    unfold fX8_rise pv_mr
    rw [show (Int32.toNatClampNeg (1 : Int32)) = 1 from rfl]
    simp only [if_neg h, if_false, Bool.false_eq_true]
    rfl
theorem pv_cr_of (a0 a1 a2 a3 : Int32) : fX1_rise a0 a1 a2 a3 = pv_cr a0 a1 a2 (decide ((a3 - a3 / (4 : Int32) * (4 : Int32)) = (2 : Int32))) := by
  unfold fX1_rise pv_cr
  simp only [decide_eq_true_eq]
set_option maxRecDepth 100000 in
theorem pv_rise_tab : ∀ k, k < 6 → ∀ w, w < 16 → ∀ v, v < 10 → ∀ c : Bool, pv_mr (some (nI k)) (nI w) (nI v) c = some (pv_cr (nI k) (nI w) (nI v) c) := by decide +kernel
set_option maxRecDepth 100000 in
theorem pv_rise_in : ∀ k, k < 6 → ∀ w, w < 16 → ∀ v, v < 10 → ∀ c : Bool, pv_cr (nI k) (nI w) (nI v) c = (-1) ∨ (pv_cr (nI k) (nI w) (nI v) c).toNatClampNeg ≤ 7 ∧ pv_cr (nI k) (nI w) (nI v) c = nI (pv_cr (nI k) (nI w) (nI v) c).toNatClampNeg := by decide +kernel
def pv_hold (k b : Nat) : Nat := (fX1_holds (nI k) (nI b)).toNatClampNeg
def pv_cakes (k d : Nat) : Nat := (fX1_cakes (nI k) (nI d)).toNatClampNeg
theorem pv_hold_tab : ∀ k, k < 6 → ∀ b, b < 8 → fX1_holds (nI k) (nI b) = nI (pv_hold k b) ∧ 3 ≤ pv_hold k b ∧ pv_hold k b ≤ 6 := by decide +kernel
theorem pv_cakes_tab : ∀ k, k < 6 → ∀ d, d < 10 → fX1_cakes (nI k) (nI d) = nI (pv_cakes k d) ∧ pv_cakes k d ≤ 6 := by decide +kernel
def pv_mh (o : Option Int32) (a2 : Int32) : Option Int32 := o.bind fun r1 => (if r1 = (1 : Int32) then (if (a2 - a2 / (2 : Int32) * (2 : Int32)) = (1 : Int32) then some (4 : Int32) else some (6 : Int32)) else (if r1 = (2 : Int32) then some (3 : Int32) else (if r1 = (3 : Int32) then some (6 : Int32) else (if r1 = (4 : Int32) then (if (a2 - a2 / (2 : Int32) * (2 : Int32)) = (1 : Int32) then some (5 : Int32) else some (6 : Int32)) else (if r1 = (5 : Int32) then (if a2 = (7 : Int32) then some (5 : Int32) else some (3 : Int32)) else some (6 : Int32))))))
def pv_mc (o : Option Int32) (d : Int32) : Option Int32 :=  (o.bind fun r1 => (if r1 = (1 : Int32) then  ((if d ≤ (5 : Int32) then some (d / (3 : Int32)) else some ((d / (3 : Int32)) + (1 : Int32)))) else (if r1 = (2 : Int32) then some (d / (3 : Int32)) else (if r1 = (3 : Int32) then some ((2 : Int32) * (d / (3 : Int32))) else (if r1 = (4 : Int32) then  ((if d ≤ (5 : Int32) then some (d / (3 : Int32)) else some ((d / (3 : Int32)) + (1 : Int32)))) else (if r1 = (5 : Int32) then (if (d / (3 : Int32)) ≤ 0 then some (0 : Int32) else some ((d / (3 : Int32)) - (1 : Int32))) else some (d / (3 : Int32))))))))
theorem pv_mh_tab : ∀ k, k < 6 → ∀ b, b < 8 → pv_mh (some (nI k)) (nI b) = some (nI (pv_hold k b)) := by decide +kernel
theorem pv_mc_tab : ∀ k, k < 6 → ∀ d, d < 10 → pv_mc (some (nI k)) (nI d) = some (nI (pv_cakes k d)) := by decide +kernel
theorem pv_mh_of (a1 a2 : Int32) (σ : js_S) : fX8_holds a1 a2 σ = pv_mh (fX8_kindOf a1 σ) a2 := rfl
theorem pv_mc_of (a1 : Int32) (σ : js_S) : fX8_cakes a1 σ = pv_mc (fX8_kindOf a1 σ) (σ.1 1 2) := rfl
/-- where a word rises: -1, or the bend -/
def pv_up (k w v day : Nat) : Int32 := fX1_rise (nI k) (nI w) (nI v) (nI day)
theorem pv_up_in {k w v day : Nat} (hk : k < 6) (hw : w < 16) (hv : v < 10) : pv_up k w v day = (-1) ∨ ∃ b, b < 8 ∧ pv_up k w v day = nI b := by
  unfold pv_up
  rw [pv_cr_of]
  rcases pv_rise_in k hk w hw v hv (decide (nI day - nI day / (4 : Int32) * (4 : Int32) = (2 : Int32))) with h | ⟨h1, h2⟩
  · exact Or.inl h
  · exact Or.inr ⟨_, by omega, h2⟩
section PL
variable {A : Nat → Nat} {σ τ : js_S}
theorem pc_hasFlue (hC : pv_C A σ 1) (hB : pv_B A) (x : Int32) : fX3_hasFlue x σ = some (if pu_in x (A 0) then 1 else 0) := by
  have h6 := hB.many
  have h0 : (x < 0) ↔ x.toInt < 0 := by rw [fa_lt]; rfl
  have h1 : (nI (A 0) ≤ x) ↔ (A 0 : Int) ≤ x.toInt := by rw [fa_le, nI_toInt (by omega)]
  have h2 : ((6 : Int32) ≤ x) ↔ 6 ≤ x.toInt := by rw [fa_le]; rfl
  unfold fX3_hasFlue
  rw [hC.many]
  simp only [h0, h1, h2]
  repeat' split
  all_goals first | rfl | (exfalso; omega)
theorem pc_hasFlue1 (hC : pv_C A σ 1) (hB : pv_B A) {f : Nat} (hf : f < A 0) : fX3_hasFlue (nI f) σ = some 1 := by
  rw [pc_hasFlue hC hB, if_pos (pu_in_nI hf (by have := hB.many; omega))]
theorem pc_kindOf (hC : pv_C A σ 1) (hB : pv_B A) {f : Nat} (hf : f < A 0) : fX3_kindOf (nI f) σ = some (nI (A (3 + f))) := by
  have h6 := hB.many
  unfold fX3_kindOf
  rw [pc_hasFlue1 hC hB hf, Option.bind_some, if_neg (by decide), pu_gd (by omega) (by decide), pu_cl (by omega), hC.kd (by omega)]
theorem pu_pl {f b : Nat} : nI f * (8 : Int32) + nI b = nI (8 * f + b) := by
  rw [fa_lit 8, pk_mul, nI_add, Nat.mul_comm]
theorem pc_isBend1 {b : Nat} (hb : b < 8) : fX7_isBend (nI b) = 1 := by rw [pu_C_isBend, if_pos (pu_in_nI hb (by decide))]
theorem pc_height (hC : pv_C A σ 1) (hB : pv_B A) {f b : Nat} (hf : f < A 0) (hb : b < 8) : fX3_height (nI f) (nI b) σ = some (nI (A (9 + (8 * f + b)))) := by
  have h6 := hB.many
  unfold fX3_height
  rw [pc_hasFlue1 hC hB hf, Option.bind_some, if_neg (by decide), pc_isBend1 hb, if_neg (by decide), pu_pl, pu_gd (by omega) (by decide), pu_cl (by omega), hC.hg (by omega)]
theorem pc_isPlace (hC : pv_C A σ 1) (hB : pv_B A) (x y : Int32) : fX7_isPlace x y σ = some (if pu_in x (A 0) ∧ pu_in y 8 then 1 else 0) := by
  unfold fX7_isPlace
  rw [pc_hasFlue hC hB, Option.bind_some, pu_C_isBend]
  by_cases h1 : pu_in x (A 0)
  · rw [if_pos h1, if_neg (by decide)]
    by_cases h2 : pu_in y 8
    · rw [if_pos h2, if_neg (by decide), if_pos ⟨h1, h2⟩]
    · rw [if_neg h2, if_pos rfl, if_neg (fun h => h2 h.2)]
  · rw [if_neg h1, if_pos rfl, if_neg (fun h => h1 h.1)]
theorem pc_hasLayer (hC : pv_C A σ 1) (hB : pv_B A) {f b : Nat} (hf : f < A 0) (hb : b < 8) (x : Int32) : fX3_hasLayer (nI f) (nI b) x σ = some (if pu_in x (A (9 + (8 * f + b))) then 1 else 0) := by
  have h6 := hB.many
  have h7 := hB.hg (p := 8 * f + b) (by omega)
  have h0 : (x < 0) ↔ x.toInt < 0 := by rw [fa_lt]; rfl
  have h1 : (nI (A (9 + (8 * f + b))) ≤ x) ↔ (A (9 + (8 * f + b)) : Int) ≤ x.toInt := by rw [fa_le, nI_toInt (by omega)]
  unfold fX3_hasLayer
  rw [pc_height hC hB hf hb, Option.bind_some]
  simp only [h0, h1]
  repeat' split
  all_goals first | rfl | (exfalso; omega)
theorem pc_place (hC : pv_C A σ 1) (hB : pv_B A) {f b k : Nat} (hf : f < A 0) (hb : b < 8) (hk : k < A (9 + (8 * f + b))) : fX3_place (nI f) (nI b) (nI k) σ = some (nI (6 * (8 * f + b) + (A (9 + (8 * f + b)) - 1 - k))) := by
  unfold fX3_place
  rw [pc_height hC hB hf hb, Option.bind_some, pu_pl, fa_lit 6, pk_mul, nI_add, fa_lit 1, pk_sub (by omega), pk_sub (by omega)]
  congr 2
  omega
theorem pc_wordAt (hC : pv_C A σ 1) (hB : pv_B A) {f b k : Nat} (hf : f < A 0) (hb : b < 8) (hk : k < A (9 + (8 * f + b))) : fX3_wordAt (nI f) (nI b) (nI k) σ = some (nI (A (57 + (6 * (8 * f + b) + (A (9 + (8 * f + b)) - 1 - k))))) := by
  have h6 := hB.many
  have h7 := hB.hg (p := 8 * f + b) (by omega)
  unfold fX3_wordAt
  rw [pc_hasLayer hC hB hf hb, if_pos (pu_in_nI hk (by omega)), Option.bind_some, if_neg (by decide), pc_place hC hB hf hb hk, Option.bind_some, pu_gd (by omega) (by decide), pu_cl (by omega), hC.wd (by omega)]
theorem pc_cakeAt (hC : pv_C A σ 1) (hB : pv_B A) {f b k : Nat} (hf : f < A 0) (hb : b < 8) (hk : k < A (9 + (8 * f + b))) : fX3_cakeAt (nI f) (nI b) (nI k) σ = some (nI (A (345 + (6 * (8 * f + b) + (A (9 + (8 * f + b)) - 1 - k))))) := by
  have h6 := hB.many
  have h7 := hB.hg (p := 8 * f + b) (by omega)
  unfold fX3_cakeAt
  rw [pc_hasLayer hC hB hf hb, if_pos (pu_in_nI hk (by omega)), Option.bind_some, if_neg (by decide), pc_place hC hB hf hb hk, Option.bind_some, pu_gd (by omega) (by decide), pu_cl (by omega), hC.ck (by omega)]
theorem pc_setCake (hC : pv_C A σ 1) (hB : pv_B A) {f b k : Nat} (hf : f < A 0) (hb : b < 8) (hk : k < A (9 + (8 * f + b))) (v : Int32) : fX3_setCake (nI f) (nI b) (nI k) v σ = some (js_sI σ 5 (6 * (8 * f + b) + (A (9 + (8 * f + b)) - 1 - k)) v) := by
  have h6 := hB.many
  have h7 := hB.hg (p := 8 * f + b) (by omega)
  unfold fX3_setCake
  rw [pc_hasLayer hC hB hf hb, if_pos (pu_in_nI hk (by omega)), Option.bind_some, if_neg (by decide), pc_place hC hB hf hb hk, Option.bind_some, pu_gd (by omega) (by decide), pu_cl (by omega)]
/-! the reference's -/
theorem pm_s0 (hM : pv_M A τ 1) : τ.1 1 (Int32.toNatClampNeg (0 : Int32)) = nI (A 0) := hM 0 (by decide)
theorem pm_s1 (hM : pv_M A τ 1) : τ.1 1 (Int32.toNatClampNeg (1 : Int32)) = nI (A 1) := hM 1 (by decide)
theorem pm_s2 (hM : pv_M A τ 1) : τ.1 1 (Int32.toNatClampNeg (2 : Int32)) = nI (A 2) := hM 2 (by decide)
theorem pm_g0 {α : Type} {o : Option α} : js_gd (js_ix (0 : Int32) 633) o = o := rfl
theorem pm_g1 {α : Type} {o : Option α} : js_gd (js_ix (1 : Int32) 633) o = o := rfl
theorem pm_g2 {α : Type} {o : Option α} : js_gd (js_ix (2 : Int32) 633) o = o := rfl
theorem pm_isFlue (hM : pv_M A τ 1) (hB : pv_B A) (x : Int32) : fX8_isFlue x τ = some (if pu_in x (A 0) then 1 else 0) := by
  have h6 := hB.many
  unfold fX8_isFlue
  rw [pm_g0, pm_s0 hM, pu_inS x (by omega)]
  split
  · rw [pu_b1]; rfl
  · rw [pu_b0]; rfl
theorem pm_kindOf (hM : pv_M A τ 1) {f : Nat} (hf : f < 6) : fX8_kindOf (nI f) τ = some (nI (A (3 + f))) := by
  unfold fX8_kindOf
  rw [fa_lit 3, nI_add, pu_gd (by omega) (by decide), pu_cl (by omega), hM _ (by omega)]
theorem pm_pl {f b : Nat} : fX8_place (nI f) (nI b) = nI (8 * f + b) := by
  unfold fX8_place
  rw [fa_lit 8, pk_mul, nI_add]
theorem pm_spot {f b k : Nat} : fX8_spot (nI f) (nI b) (nI k) = nI (6 * (8 * f + b) + k) := by
  unfold fX8_spot
  rw [pm_pl, fa_lit 6, pk_mul, nI_add]
theorem pm_layers (hM : pv_M A τ 1) {f b : Nat} (hf : f < 6) (hb : b < 8) : fX8_layers (nI f) (nI b) τ = some (nI (A (9 + (8 * f + b)))) := by
  unfold fX8_layers
  rw [pm_pl, fa_lit 9, nI_add, pu_gd (by omega) (by decide), pu_cl (by omega), hM _ (by omega)]
theorem pm_holds (hM : pv_M A τ 1) (hB : pv_B A) {f b : Nat} (hf : f < 6) (hb : b < 8) : fX8_holds (nI f) (nI b) τ = some (nI (pv_hold (A (3 + f)) b)) := by
  have h := hB.kd hf
  rw [pv_mh_of, pm_kindOf hM hf, pv_mh_tab _ (by omega) _ hb]
theorem pm_cakes (hM : pv_M A τ 1) (hB : pv_B A) {f : Nat} (hf : f < 6) : fX8_cakes (nI f) τ = some (nI (pv_cakes (A (3 + f)) (A 2))) := by
  have h := hB.kd hf
  have h2 := hB.damp
  rw [pv_mc_of, pm_kindOf hM hf, hM 2 (by decide), pv_mc_tab _ (by omega) _ (by omega)]
theorem pm_rise (hM : pv_M A τ 1) (hB : pv_B A) {f w v : Nat} (hf : f < 6) (hw : w < 16) (hv : v < 10) : fX8_rise (nI f) (nI w) (nI v) τ = some (pv_up (A (3 + f)) w v (A 1)) := by
  have h := hB.kd hf
  rw [pv_mr_of, pm_kindOf hM hf, hM 1 (by decide), pv_rise_tab _ (by omega) _ hw _ hv]
  unfold pv_up
  rw [pv_cr_of]
theorem pm_isFull (hM : pv_M A τ 1) (hB : pv_B A) {f b : Nat} (hf : f < 6) (hb : b < 8) : fX8_isFull (nI f) (nI b) τ = some (if A (9 + (8 * f + b)) < pv_hold (A (3 + f)) b then 0 else 1) := by
  have h := hB.kd hf
  have h2 := hB.hg (p := 8 * f + b) (by omega)
  have h3 := pv_hold_tab (A (3 + f)) (by omega) b hb
  unfold fX8_isFull
  rw [pm_layers hM hf hb, Option.bind_some, pm_holds hM hB hf hb, Option.bind_some]
  have h4 : (nI (A (9 + (8 * f + b))) < nI (pv_hold (A (3 + f)) b)) ↔ A (9 + (8 * f + b)) < pv_hold (A (3 + f)) b := nI_ltI (by omega) (by omega)
  simp only [h4]
  split <;> rfl
end PL
