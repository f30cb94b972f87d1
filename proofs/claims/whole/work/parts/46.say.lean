/-! PURE: as, say, cake -/
def ps_set (H : Nat → Nat) (k : Nat) : Nat → Int32
  | 0 => (-1 : Int32)
  | b + 1 => if H b < pv_hold k b then nI b else ps_set H k b
theorem ps_set_in (H : Nat → Nat) (k : Nat) : ∀ b, ps_set H k b = (-1) ∨ ∃ q, q < b ∧ ps_set H k b = nI q ∧ H q < pv_hold k q
  | 0 => Or.inl rfl
  | b + 1 => by
    unfold ps_set
    split
    · exact Or.inr ⟨b, by omega, rfl, by assumption⟩
    · rcases ps_set_in H k b with h | ⟨q, h1, h2, h3⟩
      · exact Or.inl h
      · exact Or.inr ⟨q, by omega, h2, h3⟩
def ps_land (H : Nat → Nat) (k : Nat) (u : Int32) : Int32 := if u = (-1) then (-1) else ps_set H k (u.toNatClampNeg + 1)
theorem pu_m1 {b : Nat} (h : b < 2 ^ 31) : ¬ nI b = (-1 : Int32) := fun x => by
  rw [fa_eq, nI_toInt h] at x
  have : ((-1 : Int32)).toInt = -1 := rfl
  omega
def ps_lay (A : Nat → Nat) (f b w c : Nat) : Nat → Nat := pv_up1 (pv_up1 (pv_up1 A (57 + (6 * (8 * f + b) + A (9 + (8 * f + b)))) w) (345 + (6 * (8 * f + b) + A (9 + (8 * f + b)))) c) (9 + (8 * f + b)) (A (9 + (8 * f + b)) + 1)
section PS
variable {A : Nat → Nat} {σ τ : js_S}
theorem pc_under {k q : Nat} (hk : k < 6) (hq : q < 6) : fX1_isOrIsUnder (nI k) (nI q) σ = some (fX8_isUnder (nI k) (nI q)) := by
  rcases (show k = 0 ∨ k = 1 ∨ k = 2 ∨ k = 3 ∨ k = 4 ∨ k = 5 by omega) with rfl | rfl | rfl | rfl | rfl | rfl <;> rcases (show q = 0 ∨ q = 1 ∨ q = 2 ∨ q = 3 ∨ q = 4 ∨ q = 5 by omega) with rfl | rfl | rfl | rfl | rfl | rfl <;> rfl
theorem pg_as (h : pv_R σ τ) (a b : Int32) : pv_G (fX7_as a b σ) (fX8_as a b τ) := by
  have h0 := h
  obtain ⟨⟨A, hB, hd, hC, hM⟩, -, -⟩ := h0
  have h6 := hB.many
  unfold fX7_as fX8_as
  rw [pc_hasFlue hC hB, pm_isFlue hM hB, Option.bind_some, Option.bind_some]
  by_cases h1 : pu_in a (A 0)
  · rw [if_pos h1, pu_10, pu_10, pu_C_isKind, pu_M_isKind]
    obtain ⟨f, hf, rfl⟩ := pu_in_of h1 (by omega)
    by_cases h2 : pu_in b 6
    · rw [if_pos h2, pu_10, pu_10]
      obtain ⟨v, hv, rfl⟩ := pu_in_of h2 (by omega)
      have hk := hB.kd (f := f) (by omega)
      rw [pc_kindOf hC hB hf, Option.bind_some, pm_kindOf hM (by omega), Option.bind_some, pc_under (by omega) hv, Option.bind_some, pc_layersIn hC hB hf, pm_layersOf hM (by omega)]
      split
      · rw [pv_found2, pv_finds2]
        exact pv_G.found h 2
      · exact pv_G.same h
    · rw [if_neg h2, pu_00, pu_00, pv_found0, pv_finds0]
      exact pv_G.found h 0
  · rw [if_neg h1, pu_00, pu_00, pv_found0, pv_finds0]
    exact pv_G.found h 0
theorem pc_settleL (hC : pv_C A σ 1) (hB : pv_B A) {k f : Nat} (hk : k < 6) (hf : f < 6) : ∀ b n, b ≤ 8 → b < n → fX1_settle_L8 (nI k) (nI (8 * f)) σ n (nI b + (-1)) = some (ps_set (fun b => A (9 + (8 * f + b))) k b)
  | 0, n, hb, hn => by
    obtain ⟨m, rfl⟩ : ∃ m, n = m + 1 := ⟨n - 1, by omega⟩
    rw [fX1_settle_L8, if_pos (by decide)]
    rfl
  | b + 1, n, hb, hn => by
    obtain ⟨m, rfl⟩ : ∃ m, n = m + 1 := ⟨n - 1, by omega⟩
    have hh := hB.hg (p := 8 * f + b) (by omega)
    have ht := pv_hold_tab k hk b (by omega)
    rw [pk_m1, fX1_settle_L8, if_neg (nI_pos (by omega)), nI_add, if_neg (nI_pos (by omega)), if_neg (show ¬ (48 : Int32) ≤ nI (8 * f + b) from nI_ge (b := 48) (by omega) (by decide)), pu_gd (by omega) (by decide), pu_cl (by omega), hC.hg (by omega), ht.1]
    have e : (nI (pv_hold k b) ≤ nI (A (9 + (8 * f + b)))) ↔ ¬ A (9 + (8 * f + b)) < pv_hold k b := by rw [nI_leI (by omega) (by omega)]; omega
    unfold ps_set
    by_cases e2 : A (9 + (8 * f + b)) < pv_hold k b
    · rw [if_neg (fun x => e.mp x e2), if_pos e2]
    · rw [if_pos (e.mpr e2), if_neg e2]
      exact pc_settleL hC hB hk hf b m (by omega) (by omega)
theorem pm_landsL (hM : pv_M A τ 1) (hB : pv_B A) {f : Nat} (hf : f < 6) : ∀ b n, b ≤ 8 → b < n → fX8_lands_L9 (nI f) τ n (nI b + (-1)) = some (ps_set (fun b => A (9 + (8 * f + b))) (A (3 + f)) b)
  | 0, n, hb, hn => by
    obtain ⟨m, rfl⟩ : ∃ m, n = m + 1 := ⟨n - 1, by omega⟩
    rw [fX8_lands_L9, if_pos (by decide)]
    rfl
  | b + 1, n, hb, hn => by
    obtain ⟨m, rfl⟩ : ∃ m, n = m + 1 := ⟨n - 1, by omega⟩
    rw [pk_m1, fX8_lands_L9, if_neg (nI_pos (by omega)), pm_isFull hM hB hf (by omega), Option.bind_some]
    unfold ps_set
    by_cases e2 : A (9 + (8 * f + b)) < pv_hold (A (3 + f)) b
    · rw [if_pos e2, pu_00, if_pos e2]
    · rw [if_neg e2, pu_10, if_neg e2]
      exact pm_landsL hM hB hf b m (by omega) (by omega)
theorem pu_upn {u : Int32} {b : Nat} (h : u = nI b) (hb : b < 8) : u = nI (b + 1) + (-1) := by rw [pk_m1]; exact h
theorem pc_settle (hC : pv_C A σ 1) (hB : pv_B A) {k f : Nat} (hk : k < 6) (hf : f < 6) {u : Int32} (hu : u = (-1) ∨ ∃ b, b < 8 ∧ u = nI b) : fX1_settle (nI k) u (nI (8 * f)) σ = some (ps_land (fun b => A (9 + (8 * f + b))) k u) := by
  unfold fX1_settle ps_land
  rcases hu with rfl | ⟨b, hb, rfl⟩
  · rw [if_pos rfl, if_neg (by decide)]
    exact pc_settleL hC hB hk hf 0 js_FU (by decide) (by decide)
  · rw [if_neg (pu_m1 (by omega)), if_neg (show ¬ (7 : Int32) < nI b from nI_nlt (b := b) (a := 7) (by omega) (by decide)), pu_cl (by omega), pu_upn rfl hb]
    exact pc_settleL hC hB hk hf (b + 1) js_FU (by omega) (by unfold js_FU; omega)
def ps_at (A : Nat → Nat) (f w v : Nat) : Int32 := ps_land (fun b => A (9 + (8 * f + b))) (A (3 + f)) (pv_up (A (3 + f)) w v (A 1))
theorem ps_at_in (hB : pv_B A) {f w v : Nat} (hf : f < 6) (hw : w < 16) (hv : v < 10) : ps_at A f w v = (-1) ∨ ∃ q, q < 8 ∧ ps_at A f w v = nI q ∧ A (9 + (8 * f + q)) < pv_hold (A (3 + f)) q := by
  have hk := hB.kd hf
  unfold ps_at ps_land
  split
  · exact Or.inl rfl
  · rcases pv_up_in (day := A 1) (show A (3 + f) < 6 by omega) hw hv with e | ⟨b, hb, e⟩
    · rename_i h; exact absurd e h
    · rw [e, pu_cl (by omega)]
      rcases ps_set_in (fun b => A (9 + (8 * f + b))) (A (3 + f)) (b + 1) with h | ⟨q, h1, h2, h3⟩
      · exact Or.inl h
      · exact Or.inr ⟨q, by omega, h2, h3⟩
theorem pc_landing (hC : pv_C A σ 1) (hB : pv_B A) {f w v : Nat} (hf : f < A 0) (hw : w < 16) (hv : v < 10) : fX3_landing (nI f) (nI w) (nI v) σ = some (ps_at A f w v) := by
  have h6 := hB.many
  have hk := hB.kd (f := f) (by omega)
  unfold fX3_landing
  rw [pc_kindOf hC hB hf, Option.bind_some, hC.day, fa_lit 8, pk_mul, Nat.mul_comm f 8]
  rw [show fX1_rise (nI (A (3 + f))) (nI w) (nI v) (nI (A 1)) = pv_up (A (3 + f)) w v (A 1) from rfl, pc_settle hC hB (by omega) (by omega) (pv_up_in (by omega) hw hv)]
  rfl
theorem pm_lands (hM : pv_M A τ 1) (hB : pv_B A) {f w v : Nat} (hf : f < 6) (hw : w < 16) (hv : v < 10) : fX8_lands (nI f) (nI w) (nI v) τ = some (ps_at A f w v) := by
  have hk := hB.kd (f := f) (by omega)
  unfold fX8_lands ps_at ps_land
  rw [pm_rise hM hB hf hw hv, Option.bind_some]
  rcases pv_up_in (day := A 1) (show A (3 + f) < 6 by omega) hw hv with e | ⟨b, hb, e⟩
  · rw [e, if_pos rfl]
    exact pm_landsL hM hB hf 0 js_FU (by decide) (by decide)
  · rw [e, if_neg (pu_m1 (by omega)), pu_cl (by omega), pu_upn rfl hb]
    exact pm_landsL hM hB hf (b + 1) js_FU (by omega) (by unfold js_FU; omega)
theorem ps_lay_B (hB : pv_B A) {f b w c : Nat} (hf : f < 6) (hb : b < 8) (hw : w ≤ 15) (hc : c ≤ 9) (hh : A (9 + (8 * f + b)) < 6) : pv_B (ps_lay A f b w c) := by
  unfold ps_lay
  refine ((hB.put ?_).put ?_).put ?_ <;> (unfold pv_bd; omega)
theorem ps_lay_lo {f b w c j : Nat} (hj : j < 9) : ps_lay A f b w c j = A j := by
  unfold ps_lay
  rw [pv_up1_ne (by omega), pv_up1_ne (by omega), pv_up1_ne (by omega)]
theorem pc_lay (hC : pv_C A σ 1) (hB : pv_B A) {f b w c : Nat} (hf : f < A 0) (hb : b < 8) (hh : A (9 + (8 * f + b)) < pv_hold (A (3 + f)) b) : ∃ σ', fX3_lay (nI f) (nI b) (nI w) (nI c) σ = some σ' ∧ pv_OC σ σ' ∧ pv_C (ps_lay A f b w c) σ' 1 := by
  have h6 := hB.many
  have hk := hB.kd (f := f) (by omega)
  have ht := pv_hold_tab (A (3 + f)) (by omega) b hb
  unfold fX3_lay
  rw [pc_hasFlue1 hC hB hf, Option.bind_some, pu_10, pc_isBend1 hb, pu_10, pc_height hC hB hf hb, Option.bind_some, if_neg (show ¬ (6 : Int32) ≤ nI (A (9 + (8 * f + b))) from nI_ge (b := 6) (by omega) (by decide)), pc_kindOf hC hB hf, Option.bind_some, ht.1, if_pos (nI_lt hh (by omega)), pu_pl, fa_lit 6, pk_mul, nI_add, Nat.mul_comm (8 * f + b) 6, pu_gd (by omega) (by decide), pu_gd (by omega) (by decide), pu_gd (by omega) (by decide), pu_cl (by omega), pu_cl (by omega), nI_1]
  refine ⟨_, rfl, ((pv_OC.put σ (by decide)).tr (pv_OC.put _ (by decide))).tr (pv_OC.put _ (by decide)), ?_⟩
  exact ((hC.putwd (by omega)).putck (by omega)).puthg (by omega)
theorem pm_lies (hM : pv_M A τ 1) (hB : pv_B A) {f b w c : Nat} (hf : f < 6) (hb : b < 8) (hh : A (9 + (8 * f + b)) < 6) : ∃ τ', fX8_lies (nI f) (nI b) (nI w) (nI c) τ = some τ' ∧ pv_OM τ τ' ∧ pv_M (ps_lay A f b w c) τ' 1 := by
  unfold fX8_lies
  rw [pm_layers hM hf hb, Option.bind_some, pm_spot, pm_pl, fa_lit 57, fa_lit 345, fa_lit 9, nI_add, nI_add, nI_add, pu_gd (by omega) (by decide), pu_gd (by omega) (by decide), pu_gd (by omega) (by decide), pu_gd (by omega) (by decide), pu_cl (by omega), pu_cl (by omega), pu_cl (by omega)]
  have h1 : pv_M (pv_up1 (pv_up1 A (57 + (6 * (8 * f + b) + A (9 + (8 * f + b)))) w) (345 + (6 * (8 * f + b) + A (9 + (8 * f + b)))) c) (js_sI (js_sI τ 1 (57 + (6 * (8 * f + b) + A (9 + (8 * f + b)))) (nI w)) 1 (345 + (6 * (8 * f + b) + A (9 + (8 * f + b)))) (nI c)) 1 := (hM.put (k := 57 + (6 * (8 * f + b) + A (9 + (8 * f + b))))).put
  rw [h1 (9 + (8 * f + b)) (by omega), pv_up1_ne (by omega), pv_up1_ne (by omega), nI_1]
  exact ⟨_, rfl, ((pv_OM.put τ).tr (pv_OM.put _)).tr (pv_OM.put _), h1.put⟩
def ps_say (A : Nat → Nat) (f w v : Nat) : Nat → Nat := if ps_at A f w v = (-1) then A else ps_lay A f (ps_at A f w v).toNatClampNeg w 0
theorem ps_say_B (hB : pv_B A) {f w v : Nat} (hf : f < 6) (hw : w < 16) (hv : v < 10) : pv_B (ps_say A f w v) := by
  have hk := hB.kd hf
  unfold ps_say
  rcases ps_at_in hB hf hw hv with e | ⟨q, hq, e, hh⟩
  · rw [if_pos e]; exact hB
  · have ht := pv_hold_tab (A (3 + f)) (by omega) q hq
    rw [if_neg (by rw [e]; exact pu_m1 (by omega)), e, pu_cl (by omega)]
    exact ps_lay_B hB hf hq (by omega) (by omega) (by omega)
theorem ps_say_lo {f w v j : Nat} (hj : j < 9) : ps_say A f w v j = A j := by
  unfold ps_say
  split
  · rfl
  · exact ps_lay_lo hj
theorem pc_speak (hC : pv_C A σ 1) (hB : pv_B A) {f w v : Nat} (hf : f < A 0) (hw : w < 16) (hv : v < 10) : ∃ σ', fX3_speak (nI f) (nI w) (nI v) σ = some (ps_at A f w v, σ') ∧ pv_OC σ σ' ∧ pv_C (ps_say A f w v) σ' 1 := by
  have h6 := hB.many
  unfold fX3_speak ps_say
  rw [pc_landing hC hB hf hw hv, Option.bind_some]
  rcases ps_at_in hB (show f < 6 by omega) hw hv with e | ⟨q, hq, e, hh⟩
  · rw [e, if_pos rfl, if_pos rfl]
    exact ⟨σ, rfl, pv_OC.rf σ, hC⟩
  · have hk := hB.kd (f := f) (by omega)
    have ht := pv_hold_tab (A (3 + f)) (by omega) q hq
    rw [e, if_neg (pu_m1 (by omega)), if_neg (pu_m1 (by omega)), pu_cl (by omega)]
    obtain ⟨σ', h1, h2, h3⟩ := pc_lay (w := w) (c := 0) hC hB hf hq hh
    rw [show (0 : Int32) = nI 0 from rfl, h1]
    exact ⟨σ', rfl, h2, h3⟩
theorem pm_says (hM : pv_M A τ 1) (hB : pv_B A) {f w v : Nat} (hf : f < 6) (hw : w < 16) (hv : v < 10) : ∃ τ', fX8_says (nI f) (nI w) (nI v) τ = some (ps_at A f w v, τ') ∧ pv_OM τ τ' ∧ pv_M (ps_say A f w v) τ' 1 := by
  unfold fX8_says ps_say
  rw [pm_lands hM hB hf hw hv, Option.bind_some]
  rcases ps_at_in hB (show f < 6 by omega) hw hv with e | ⟨q, hq, e, hh⟩
  · rw [e, if_pos (by decide), if_pos rfl]
    exact ⟨τ, rfl, pv_OM.rf τ, hM⟩
  · have hk := hB.kd (f := f) (by omega)
    have ht := pv_hold_tab (A (3 + f)) (by omega) q hq
    rw [e, if_neg (nI_pos (by omega)), if_neg (pu_m1 (by omega)), pu_cl (by omega)]
    obtain ⟨τ', h1, h2, h3⟩ := pm_lies (w := w) (c := 0) hM hB hf hq (by omega)
    rw [show (0 : Int32) = nI 0 from rfl, h1]
    exact ⟨τ', rfl, h2, h3⟩
theorem pg_say (h : pv_R σ τ) (a b c : Int32) : pv_G (fX7_say a b c σ) (fX8_say a b c τ) := by
  have h0 := h
  obtain ⟨⟨A, hB, hd, hC, hM⟩, -, -⟩ := h0
  have h6 := hB.many
  unfold fX7_say fX8_say
  rw [pc_hasFlue hC hB, pm_isFlue hM hB, Option.bind_some, Option.bind_some]
  by_cases h1 : pu_in a (A 0)
  · rw [if_pos h1, pu_10, pu_10, pu_C_isWord, pu_M_isWord]
    obtain ⟨f, hf, rfl⟩ := pu_in_of h1 (by omega)
    by_cases h2 : pu_in b 16
    · rw [if_pos h2, pu_10, pu_10, pu_C_isVoice, pu_M_isVoice]
      obtain ⟨w, hw, rfl⟩ := pu_in_of h2 (by omega)
      by_cases h3 : pu_in c 10
      · rw [if_pos h3, pu_10, pu_10]
        obtain ⟨v, hv, rfl⟩ := pu_in_of h3 (by omega)
        obtain ⟨σ', e1, e2, e3⟩ := pc_speak hC hB hf hw hv
        obtain ⟨τ', d1, d2, d3⟩ := pm_says hM hB (show f < 6 by omega) hw hv
        rw [e1, d1]
        exact ⟨_, _, _, rfl, rfl, h.step e2 d2 ⟨_, ps_say_B hB (by omega) hw hv, by rw [ps_say_lo (by decide)]; exact hd, e3, d3⟩⟩
      · rw [if_neg h3, pu_00, pu_00, pv_found0, pv_finds0]
        exact pv_G.found h 0
    · rw [if_neg h2, pu_00, pu_00, pv_found0, pv_finds0]
      exact pv_G.found h 0
  · rw [if_neg h1, pu_00, pu_00, pv_found0, pv_finds0]
    exact pv_G.found h 0
theorem pg_cake (h : pv_R σ τ) (a b c d : Int32) : pv_G (fX7_cake a b c d σ) (fX8_cake a b c d τ) := by
  have h0 := h
  obtain ⟨⟨A, hB, hd, hC, hM⟩, -, -⟩ := h0
  have h6 := hB.many
  unfold fX7_cake fX8_cake
  rw [pm_isFlue hM hB, Option.bind_some]
  by_cases h1 : pu_in a (A 0)
  · rw [if_pos h1, pu_10, pu_M_isBend]
    obtain ⟨f, hf, rfl⟩ := pu_in_of h1 (by omega)
    by_cases h2 : pu_in b 8
    · rw [if_pos h2, pc_isPlaceY hC hB h1 h2, Option.bind_some, pu_10, pu_10]
      obtain ⟨q, hq, rfl⟩ := pu_in_of h2 (by omega)
      have hh := hB.hg (p := 8 * f + q) (by omega)
      rw [show (9 : Int64) = lN 9 from rfl, pu_in0 d (by decide), fa_lit 10, pu_below d (by decide)]
      by_cases h3 : pu_in d 10
      · rw [if_pos h3, pu_10, pu_10, pc_hasLayer hC hB hf hq, Option.bind_some, pm_layers hM (by omega) hq, Option.bind_some, pu_inS c (by omega)]
        obtain ⟨j, hj, rfl⟩ := pu_in_of h3 (by decide)
        by_cases h4 : pu_in c (A (9 + (8 * f + q)))
        · rw [if_pos h4, pu_10, pu_10]
          obtain ⟨k, hk, rfl⟩ := pu_in_of h4 (by omega)
          unfold fX8_becomes
          rw [pc_cakeAt hC hB hf hq hk, Option.bind_some, pc_setCake hC hB hf hq hk, Option.bind_some, fa_lit 1, pk_sub (show 1 ≤ A (9 + (8 * f + q)) by omega), pk_sub (by omega), pm_spot, fa_lit 345, nI_add, pu_gd (by omega) (by decide), pu_gd (by omega) (by decide), pu_cl (by omega), hM _ (by omega)]
          refine ⟨_, _, _, rfl, rfl, h.step (pv_OC.put σ (by decide)) (pv_OM.put τ) ⟨_, hB.put ?_, ?_, hC.putck (by omega), hM.put⟩⟩
          · unfold pv_bd; omega
          · rw [pv_up1_ne (by omega)]; exact hd
        · rw [if_neg h4, pu_00, pu_00, pv_found3, pv_finds3]
          exact pv_G.found h 3
      · rw [if_neg h3, pu_00, pu_00, pv_found0, pv_finds0]
        exact pv_G.found h 0
    · rw [if_neg h2, pc_isPlaceN2 hC hB h2, Option.bind_some, pu_00, pu_00, pv_found0, pv_finds0]
      exact pv_G.found h 0
  · rw [if_neg h1, pc_isPlaceN1 hC hB h1, Option.bind_some, pu_00, pu_00, pv_found0, pv_finds0]
    exact pv_G.found h 0
end PS
