/-! PURE: what is read of a flue, and the first acts -/
theorem pu_or_a (a b c : Int32) : (a ||| b) ||| c = a ||| (b ||| c) := Int32.or_assoc a b c
theorem pu_or_c (a b : Int32) : a ||| b = b ||| a := Int32.or_comm a b
theorem pu_add_a (a b c : Int32) : (a + b) + c = a + (b + c) := Int32.add_assoc a b c
theorem pu_add_c (a b : Int32) : a + b = b + a := Int32.add_comm a b
/-- the set of one word -/
def ps_bit (w : Nat) : Int32 := (1 : Int32) <<< (nI w &&& 31)
def ps_layers (A : Nat → Nat) (f : Nat) : Int32 := pu_fold (fun s b => s + nI (A (9 + (8 * f + b)))) 0 0 8
def ps_words (A : Nat → Nat) (f b : Nat) : Int32 := pu_fold (fun s k => s ||| ps_bit (A (57 + (6 * (8 * f + b) + k)))) 0 0 (A (9 + (8 * f + b)))
def ps_wordsOf (A : Nat → Nat) (f : Nat) : Int32 := pu_fold (fun s b => s ||| ps_words A f b) 0 0 8
def ps_bare (A : Nat → Nat) (f : Nat) : Int32 := pu_fold (fun s b => if A (9 + (8 * f + b)) = 0 then s ||| ((1 : Int32) <<< (nI b &&& 31)) else s) 0 0 8
theorem pu_10 {α : Type} {x y : α} : (if (1 : Int32) = 0 then x else y) = y := rfl
theorem pu_00 {α : Type} {x y : α} : (if (0 : Int32) = 0 then x else y) = x := rfl
section PR
variable {A : Nat → Nat} {σ τ : js_S}
theorem pc_layersIn (hC : pv_C A σ 1) (hB : pv_B A) {f : Nat} (hf : f < A 0) : fX3_layersIn (nI f) σ = some (ps_layers A f) := by
  unfold fX3_layersIn
  refine pu_loop0 (fun n a i => fX3_layersIn_L4 (nI f) σ n a i) (fun s b => s + nI (A (9 + (8 * f + b)))) some 8 (by decide) (fun n a i hi => ?_) (fun n a => ?_) 0
  · show fX3_layersIn_L4 (nI f) σ (n + 1) a (nI i) = _
    rw [fX3_layersIn_L4, if_neg (show ¬ (8 : Int32) ≤ nI i from nI_ge hi (by decide)), pc_height hC hB hf hi, Option.bind_some, nI_1]
  · show fX3_layersIn_L4 (nI f) σ (n + 1) a (nI 8) = _
    rw [fX3_layersIn_L4, if_pos (show (8 : Int32) ≤ nI 8 from nI_le (Nat.le_refl 8) (by decide))]
theorem pm_layersOf (hM : pv_M A τ 1) {f : Nat} (hf : f < 6) : fX8_layersOf (nI f) τ = some (ps_layers A f) := by
  unfold fX8_layersOf
  refine pu_loop0 (fun n a i => fX8_layersOf_L4 (nI f) τ n a i) (fun s b => s + nI (A (9 + (8 * f + b)))) some 8 (by decide) (fun n a i hi => ?_) (fun n a => ?_) 0
  · show fX8_layersOf_L4 (nI f) τ (n + 1) a (nI i) = _
    rw [fX8_layersOf_L4, if_neg (show ¬ (8 : Int32) ≤ nI i from nI_ge hi (by decide)), pm_layers hM hf hi, Option.bind_some, nI_1]
  · show fX8_layersOf_L4 (nI f) τ (n + 1) a (nI 8) = _
    rw [fX8_layersOf_L4, if_pos (show (8 : Int32) ≤ nI 8 from nI_le (Nat.le_refl 8) (by decide))]
theorem pc_wordsOn (hC : pv_C A σ 1) (hB : pv_B A) {f b : Nat} (hf : f < A 0) (hb : b < 8) : fX3_wordsOn (nI f) (nI b) σ = some (ps_words A f b) := by
  have h6 := hB.many
  have h7 := hB.hg (p := 8 * f + b) (by omega)
  unfold fX3_wordsOn ps_words
  rw [pc_height hC hB hf hb, Option.bind_some]
  rw [← pu_fold_rev _ pu_or_a pu_or_c (fun k => ps_bit (A (57 + (6 * (8 * f + b) + k))))]
  generalize hh : A (9 + (8 * f + b)) = h at *
  by_cases h0 : h = 0
  · subst h0
    obtain ⟨x, hx⟩ : ∃ x, fX3_place (nI f) (nI b) (0 : Int32) σ = some x := by
      unfold fX3_place
      rw [pc_height hC hB hf hb, Option.bind_some]
      exact ⟨_, rfl⟩
    rw [hx, Option.bind_some]
    rfl
  · have hp := pc_place (k := 0) hC hB hf hb (by omega)
    rw [show nI 0 = (0 : Int32) from rfl] at hp
    rw [hp, Option.bind_some, hh]
    refine pu_loop0 (fun n a i => fX3_wordsOn_L22 (nI h) (nI (6 * (8 * f + b) + (h - 1 - 0))) σ n a i) (fun s k => s ||| ps_bit (A (57 + (6 * (8 * f + b) + (h - 1 - k))))) some h (by omega) (fun n a i hi => ?_) (fun n a => ?_) 0
    · show fX3_wordsOn_L22 (nI h) (nI (6 * (8 * f + b) + (h - 1 - 0))) σ (n + 1) a (nI i) = _
      rw [fX3_wordsOn_L22, if_neg (nI_ge hi (by omega)), pk_sub (by omega), pu_gd (by omega) (by decide), pu_cl (by omega), hC.wd (by omega), nI_1, show 6 * (8 * f + b) + (h - 1 - 0) - i = 6 * (8 * f + b) + (h - 1 - i) by omega]
      rfl
    · show fX3_wordsOn_L22 (nI h) (nI (6 * (8 * f + b) + (h - 1 - 0))) σ (n + 1) a (nI h) = _
      rw [fX3_wordsOn_L22, if_pos (nI_le (Nat.le_refl h) (by omega))]
theorem pm_wordsAt (hM : pv_M A τ 1) (hB : pv_B A) {f b : Nat} (hf : f < 6) (hb : b < 8) : fX8_wordsAt (nI f) (nI b) τ = some (ps_words A f b) := by
  have h7 := hB.hg (p := 8 * f + b) (by omega)
  unfold fX8_wordsAt ps_words
  refine pu_loop0 (fun n a i => fX8_wordsAt_L5 (nI f) (nI b) τ n a i) (fun s k => s ||| ps_bit (A (57 + (6 * (8 * f + b) + k)))) some (A (9 + (8 * f + b))) (by omega) (fun n a i hi => ?_) (fun n a => ?_) 0
  · show fX8_wordsAt_L5 (nI f) (nI b) τ (n + 1) a (nI i) = _
    rw [fX8_wordsAt_L5, pm_layers hM hf hb, Option.bind_some, if_neg (nI_ge hi (by omega)), pm_spot, fa_lit 57, nI_add, pu_gd (by omega) (by decide), pu_cl (by omega), hM _ (by omega), nI_1]
    rfl
  · show fX8_wordsAt_L5 (nI f) (nI b) τ (n + 1) a (nI (A (9 + (8 * f + b)))) = _
    rw [fX8_wordsAt_L5, pm_layers hM hf hb, Option.bind_some, if_pos (nI_le (Nat.le_refl _) (by omega))]
theorem pc_wordsIn (hC : pv_C A σ 1) (hB : pv_B A) {f : Nat} (hf : f < A 0) : fX3_wordsIn (nI f) σ = some (ps_wordsOf A f) := by
  unfold fX3_wordsIn
  refine pu_loop0 (fun n a i => fX3_wordsIn_L4 (nI f) σ n a i) (fun s b => s ||| ps_words A f b) some 8 (by decide) (fun n a i hi => ?_) (fun n a => ?_) 0
  · show fX3_wordsIn_L4 (nI f) σ (n + 1) a (nI i) = _
    rw [fX3_wordsIn_L4, if_neg (show ¬ (8 : Int32) ≤ nI i from nI_ge hi (by decide)), pc_wordsOn hC hB hf hi, Option.bind_some, nI_1]
  · show fX3_wordsIn_L4 (nI f) σ (n + 1) a (nI 8) = _
    rw [fX3_wordsIn_L4, if_pos (show (8 : Int32) ≤ nI 8 from nI_le (Nat.le_refl 8) (by decide))]
theorem pm_wordsOf (hM : pv_M A τ 1) (hB : pv_B A) {f : Nat} (hf : f < 6) : fX8_wordsOf (nI f) τ = some (ps_wordsOf A f) := by
  unfold fX8_wordsOf
  refine pu_loop0 (fun n a i => fX8_wordsOf_L4 (nI f) τ n a i) (fun s b => s ||| ps_words A f b) some 8 (by decide) (fun n a i hi => ?_) (fun n a => ?_) 0
  · show fX8_wordsOf_L4 (nI f) τ (n + 1) a (nI i) = _
    rw [fX8_wordsOf_L4, if_neg (show ¬ (8 : Int32) ≤ nI i from nI_ge hi (by decide)), pm_wordsAt hM hB hf hi, Option.bind_some, nI_1]
  · show fX8_wordsOf_L4 (nI f) τ (n + 1) a (nI 8) = _
    rw [fX8_wordsOf_L4, if_pos (show (8 : Int32) ≤ nI 8 from nI_le (Nat.le_refl 8) (by decide))]
theorem pu_eq0 {n : Nat} (h : n < 2 ^ 31) : (nI n = 0) ↔ n = 0 := nI_eq (b := 0) h (by decide)
theorem pc_bareBends (hC : pv_C A σ 1) (hB : pv_B A) {f : Nat} (hf : f < A 0) : fX3_bareBends (nI f) σ = some (ps_bare A f) := by
  have h6 := hB.many
  unfold fX3_bareBends
  refine pu_loop0 (fun n a i => fX3_bareBends_L4 (nI f) σ n a i) (fun s b => if A (9 + (8 * f + b)) = 0 then s ||| ((1 : Int32) <<< (nI b &&& 31)) else s) some 8 (by decide) (fun n a i hi => ?_) (fun n a => ?_) 0
  · show fX3_bareBends_L4 (nI f) σ (n + 1) a (nI i) = _
    have h7 := hB.hg (p := 8 * f + i) (by omega)
    rw [fX3_bareBends_L4, if_neg (show ¬ (8 : Int32) ≤ nI i from nI_ge hi (by decide)), pc_height hC hB hf hi, Option.bind_some, nI_1]
    simp only [pu_eq0 (show A (9 + (8 * f + i)) < 2 ^ 31 by omega)]
    split <;> rfl
  · show fX3_bareBends_L4 (nI f) σ (n + 1) a (nI 8) = _
    rw [fX3_bareBends_L4, if_pos (show (8 : Int32) ≤ nI 8 from nI_le (Nat.le_refl 8) (by decide))]
theorem pm_emptyBends (hM : pv_M A τ 1) (hB : pv_B A) {f : Nat} (hf : f < 6) : fX8_emptyBends (nI f) τ = some (ps_bare A f) := by
  unfold fX8_emptyBends
  refine pu_loop0 (fun n a i => fX8_emptyBends_L4 (nI f) τ n a i) (fun s b => if A (9 + (8 * f + b)) = 0 then s ||| ((1 : Int32) <<< (nI b &&& 31)) else s) some 8 (by decide) (fun n a i hi => ?_) (fun n a => ?_) 0
  · show fX8_emptyBends_L4 (nI f) τ (n + 1) a (nI i) = _
    have h7 := hB.hg (p := 8 * f + i) (by omega)
    rw [fX8_emptyBends_L4, if_neg (show ¬ (8 : Int32) ≤ nI i from nI_ge hi (by decide)), pm_layers hM hf hi, Option.bind_some, nI_1, Int32.or_zero]
    simp only [pu_eq0 (show A (9 + (8 * f + i)) < 2 ^ 31 by omega)]
    split <;> rfl
  · show fX8_emptyBends_L4 (nI f) τ (n + 1) a (nI 8) = _
    rw [fX8_emptyBends_L4, if_pos (show (8 : Int32) ≤ nI 8 from nI_le (Nat.le_refl 8) (by decide))]
end PR
