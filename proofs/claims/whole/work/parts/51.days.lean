/-! PURE: days -/
/-- n days on -/
def ps_D (A : Nat → Nat) (n i : Nat) : Nat := if 345 ≤ i ∧ i < 633 ∧ (i - 345) / 6 < 8 * A 0 ∧ (i - 345) % 6 < A (9 + (i - 345) / 6) then min 9 (A i + n * pv_cakes (A (3 + (i - 345) / 48)) (A 2)) else A i
/-- the bends below P done -/
def ps_dP (A : Nat → Nat) (n P : Nat) : Nat → Nat := fun i => if 345 ≤ i ∧ i < 633 ∧ (i - 345) / 6 < P then ps_D A n i else A i
/-- of bend P those from the top, those from below -/
def ps_dC (A : Nat → Nat) (n P k : Nat) : Nat → Nat := fun i => if 345 ≤ i ∧ i < 633 ∧ ((i - 345) / 6 < P ∨ (i - 345) / 6 = P ∧ A (9 + P) ≤ k + (i - 345) % 6) then ps_D A n i else A i
def ps_dM (A : Nat → Nat) (n P k : Nat) : Nat → Nat := fun i => if 345 ≤ i ∧ i < 633 ∧ ((i - 345) / 6 < P ∨ (i - 345) / 6 = P ∧ (i - 345) % 6 < k) then ps_D A n i else A i
def ps_day (A : Nat → Nat) (n : Nat) : Nat → Nat := pv_up1 (ps_dP A n (8 * A 0)) 1 (A 1 + n)
/-- only the reference's row has changed -/
def pv_O1 (τ τ' : js_S) : Prop := (∀ k, k ≠ 1 → τ'.1 k = τ.1 k) ∧ τ'.2 = τ.2
theorem pv_O1.rf (τ : js_S) : pv_O1 τ τ := ⟨fun _ _ => rfl, rfl⟩
theorem pv_O1.tr {a b c : js_S} (h : pv_O1 a b) (g : pv_O1 b c) : pv_O1 a c := ⟨fun k h1 => (g.1 k h1).trans (h.1 k h1), g.2.trans h.2⟩
theorem pv_O1.put (τ : js_S) {i : Nat} {v : Int32} : pv_O1 τ (js_sI τ 1 i v) := ⟨fun q h1 => pv_sI_ne h1, rfl⟩
theorem pv_O1.O {τ τ' : js_S} (h : pv_O1 τ τ') : pv_OM τ τ' := ⟨fun k _ h1 _ _ _ => h.1 k h1, by rw [h.1 0 (by decide)], by rw [h.1 0 (by decide)], by rw [h.2]⟩
section PY
variable {A : Nat → Nat} {σ τ : js_S} {n : Nat}
theorem ps_D_at {P r : Nat} (hP : P < 8 * A 0) (h6 : A 0 ≤ 6) (hr : r < A (9 + P)) (hh : A (9 + P) ≤ 6) : ps_D A n (345 + (6 * P + r)) = min 9 (A (345 + (6 * P + r)) + n * pv_cakes (A (3 + P / 8)) (A 2)) := by
  unfold ps_D
  have e1 : (345 + (6 * P + r) - 345) / 6 = P := by omega
  have e2 : (345 + (6 * P + r) - 345) % 6 = r := by omega
  have e3 : (345 + (6 * P + r) - 345) / 48 = P / 8 := by omega
  rw [e1, e2, e3, if_pos ⟨by omega, by omega, hP, hr⟩]
theorem ps_D_no {i : Nat} (h : ¬ (i - 345) % 6 < A (9 + (i - 345) / 6)) : ps_D A n i = A i := by
  unfold ps_D
  rw [if_neg (fun q => h q.2.2.2)]
theorem ps_D_le (hB : pv_B A) {i : Nat} (h : i < 288) : ps_D A n (345 + i) ≤ 9 := by
  have := hB.ck h
  unfold ps_D
  split
  · omega
  · exact this
theorem ps_dP_0 : ps_dP A n 0 = A := by
  funext i
  unfold ps_dP
  rw [if_neg (by omega)]
theorem ps_dC_0 {P : Nat} : ps_dC A n P 0 = ps_dP A n P := by
  funext i
  unfold ps_dC ps_dP
  by_cases h : 345 ≤ i ∧ i < 633 ∧ (i - 345) / 6 < P
  · rw [if_pos h, if_pos ⟨h.1, h.2.1, Or.inl h.2.2⟩]
  · rw [if_neg h]
    split
    · rename_i q
      rcases q.2.2 with e | e
      · exact absurd ⟨q.1, q.2.1, e⟩ h
      · exact ps_D_no (by rw [e.1]; omega)
    · rfl
theorem ps_dC_h {P : Nat} : ps_dC A n P (A (9 + P)) = ps_dP A n (P + 1) := by
  funext i
  unfold ps_dC ps_dP
  by_cases h : 345 ≤ i ∧ i < 633 ∧ (i - 345) / 6 < P + 1
  · rw [if_pos h, if_pos ⟨h.1, h.2.1, by omega⟩]
  · rw [if_neg h, if_neg (fun q => h ⟨q.1, q.2.1, by omega⟩)]
theorem ps_dM_0 {P : Nat} : ps_dM A n P 0 = ps_dP A n P := by
  funext i
  unfold ps_dM ps_dP
  by_cases h : 345 ≤ i ∧ i < 633 ∧ (i - 345) / 6 < P
  · rw [if_pos h, if_pos ⟨h.1, h.2.1, Or.inl h.2.2⟩]
  · rw [if_neg h, if_neg (fun q => h ⟨q.1, q.2.1, by omega⟩)]
theorem ps_dM_h {P : Nat} : ps_dM A n P (A (9 + P)) = ps_dP A n (P + 1) := by
  funext i
  unfold ps_dM ps_dP
  by_cases h : 345 ≤ i ∧ i < 633 ∧ (i - 345) / 6 < P + 1
  · rw [if_pos h]
    split
    · rfl
    · rename_i q
      refine (ps_D_no fun q2 => q ⟨h.1, h.2.1, ?_⟩).symm
      by_cases e : (i - 345) / 6 = P
      · exact Or.inr ⟨e, by rw [← e]; exact q2⟩
      · exact Or.inl (by omega)
  · rw [if_neg h, if_neg (fun q => h ⟨q.1, q.2.1, by omega⟩)]
theorem ps_dC_s {P k : Nat} (hP : P < 48) (hk : k < A (9 + P)) (hh : A (9 + P) ≤ 6) : ps_dC A n P (k + 1) = pv_up1 (ps_dC A n P k) (345 + (6 * P + (A (9 + P) - 1 - k))) (ps_D A n (345 + (6 * P + (A (9 + P) - 1 - k)))) := by
  funext i
  unfold ps_dC pv_up1
  by_cases e : i = 345 + (6 * P + (A (9 + P) - 1 - k))
  · rw [if_pos e, if_pos ⟨by omega, by omega, Or.inr ⟨by omega, by omega⟩⟩, e]
  · rw [if_neg e]
    dsimp only
    by_cases h : 345 ≤ i ∧ i < 633 ∧ ((i - 345) / 6 < P ∨ (i - 345) / 6 = P ∧ A (9 + P) ≤ k + (i - 345) % 6)
    · rw [if_pos h, if_pos ⟨h.1, h.2.1, by omega⟩]
    · rw [if_neg h, if_neg (fun q => h ⟨q.1, q.2.1, by omega⟩)]
theorem ps_dM_s {P k : Nat} (hP : P < 48) (hk : k < 6) : ps_dM A n P (k + 1) = pv_up1 (ps_dM A n P k) (345 + (6 * P + k)) (ps_D A n (345 + (6 * P + k))) := by
  funext i
  unfold ps_dM pv_up1
  by_cases e : i = 345 + (6 * P + k)
  · rw [if_pos e, if_pos ⟨by omega, by omega, Or.inr ⟨by omega, by omega⟩⟩, e]
  · rw [if_neg e]
    dsimp only
    by_cases h : 345 ≤ i ∧ i < 633 ∧ ((i - 345) / 6 < P ∨ (i - 345) / 6 = P ∧ (i - 345) % 6 < k)
    · rw [if_pos h, if_pos ⟨h.1, h.2.1, by omega⟩]
    · rw [if_neg h, if_neg (fun q => h ⟨q.1, q.2.1, by omega⟩)]
theorem ps_dP_lo {P i : Nat} (h : i < 345) : ps_dP A n P i = A i := by unfold ps_dP; rw [if_neg (by omega)]
theorem ps_dC_lo {P k i : Nat} (h : i < 345) : ps_dC A n P k i = A i := by unfold ps_dC; rw [if_neg (by omega)]
theorem ps_dM_lo {P k i : Nat} (h : i < 345) : ps_dM A n P k i = A i := by unfold ps_dM; rw [if_neg (by omega)]
theorem ps_B_of {X : Nat → Nat} (hB : pv_B A) (hl : ∀ i, i < 345 → X i = A i) (hc : ∀ i, i < 288 → X (345 + i) ≤ 9) : pv_B X := by
  obtain ⟨a0, a1, a2, a3, a4, a5, a6⟩ := hB
  exact ⟨by rw [hl _ (by decide)]; exact a0, by rw [hl _ (by decide)]; exact a1, by rw [hl _ (by decide)]; exact a2, fun f hf => by rw [hl _ (by omega)]; exact a3 f hf, fun f hf => by rw [hl _ (by omega)]; exact a4 f hf, fun f hf => by rw [hl _ (by omega)]; exact a5 f hf, hc⟩
theorem ps_dP_B (hB : pv_B A) (P : Nat) : pv_B (ps_dP A n P) := ps_B_of hB (fun i h => ps_dP_lo h) fun i h => by
  unfold ps_dP
  split
  · exact ps_D_le hB h
  · exact hB.ck h
theorem ps_dC_B (hB : pv_B A) (P k : Nat) : pv_B (ps_dC A n P k) := ps_B_of hB (fun i h => ps_dC_lo h) fun i h => by
  unfold ps_dC
  split
  · exact ps_D_le hB h
  · exact hB.ck h
theorem ps_dM_B (hB : pv_B A) (P k : Nat) : pv_B (ps_dM A n P k) := ps_B_of hB (fun i h => ps_dM_lo h) fun i h => by
  unfold ps_dM
  split
  · exact ps_D_le hB h
  · exact hB.ck h
theorem ps_day_B (hB : pv_B A) (h : A 1 + n ≤ 20000) : pv_B (ps_day A n) := (ps_dP_B hB _).put (by unfold pv_bd; omega)
theorem ps_day_lo {i : Nat} (h : i < 345) (h1 : i ≠ 1) : ps_day A n i = A i := by
  unfold ps_day
  rw [pv_up1_ne h1, ps_dP_lo h]
theorem ps_day_1 : ps_day A n 1 = A 1 + n := pv_up1_at
/-! the class -/
theorem pc_dayL38 (hB : pv_B A) {f b more : Nat} (hf : f < A 0) (hb : b < 8) (hm : more = n * pv_cakes (A (3 + f)) (A 2)) (hn : n ≤ 60) (k81 : js_S → Option js_S) (p1 : Int32) (s0 : js_S) (hC : pv_C (ps_dP A n (8 * f + b)) s0 1) (hO : pv_OC σ s0) :
    ∃ s1, fX3_passDays_L38 k81 p1 (nI f) (nI more) (nI b) js_FU (0 : Int32) s0 = k81 s1 ∧ pv_C (ps_dP A n (8 * f + (b + 1))) s1 1 ∧ pv_OC σ s1 := by
  have h6 := hB.many
  have hg := hB.hg (p := 8 * f + b) (by omega)
  have hk := hB.kd (f := f) (by omega)
  have hdm := hB.damp
  have hc := pv_cakes_tab (A (3 + f)) (by omega) (A 2) (by omega)
  have hmm : n * pv_cakes (A (3 + f)) (A 2) ≤ 60 * 6 := Nat.mul_le_mul hn hc.2
  have key := pu_loopI (fun m s i => fX3_passDays_L38 k81 p1 (nI f) (nI more) (nI b) m i s) (fun s k => js_sI s 5 (6 * (8 * f + b) + (A (9 + (8 * f + b)) - 1 - k)) (nI (ps_D A n (345 + (6 * (8 * f + b) + (A (9 + (8 * f + b)) - 1 - k)))))) k81 (fun s k => pv_C (ps_dC A n (8 * f + b) k) s 1 ∧ pv_OC σ s) (A (9 + (8 * f + b))) (by omega) ?_ ?_ s0 ⟨by rw [ps_dC_0]; exact hC, hO⟩
  · refine ⟨_, key.1, ?_, key.2.2⟩
    have := key.2.1
    rw [ps_dC_h] at this
    exact this
  · intro m s k hk2 ⟨h1, h2⟩
    have hB' := ps_dC_B (n := n) hB (8 * f + b) k
    have e0 : ps_dC A n (8 * f + b) k 0 = A 0 := ps_dC_lo (by decide)
    have eh : ps_dC A n (8 * f + b) k (9 + (8 * f + b)) = A (9 + (8 * f + b)) := ps_dC_lo (by omega)
    have ec : ps_dC A n (8 * f + b) k (345 + (6 * (8 * f + b) + (A (9 + (8 * f + b)) - 1 - k))) = A (345 + (6 * (8 * f + b) + (A (9 + (8 * f + b)) - 1 - k))) := by
      unfold ps_dC
      rw [if_neg (by omega)]
    have hcc := hB.ck (i := 6 * (8 * f + b) + (A (9 + (8 * f + b)) - 1 - k)) (by omega)
    have w1 := pc_height h1 hB' (f := f) (b := b) (by omega) hb
    have w2 := pc_cakeAt h1 hB' (f := f) (b := b) (k := k) (by omega) hb (by omega)
    have w3 := pc_setCake h1 hB' (f := f) (b := b) (k := k) (by omega) hb (by omega)
    rw [eh] at w1 w2 w3
    rw [ec] at w2
    have e8 : (8 * f + b) / 8 = f := by omega
    have hD := ps_D_at (n := n) (P := 8 * f + b) (r := A (9 + (8 * f + b)) - 1 - k) (by omega) h6 (by omega) hg
    rw [e8, ← hm] at hD
    refine ⟨?_, ?_, h2.tr (pv_OC.put s (by decide))⟩
    · show fX3_passDays_L38 k81 p1 (nI f) (nI more) (nI b) (m + 1) (nI k) s = _
      rw [fX3_passDays_L38, w1, Option.bind_some, if_neg (nI_ge hk2 (by omega)), w2, Option.bind_some, nI_add, w3, Option.bind_some, nI_1, hD]
      by_cases e : A (345 + (6 * (8 * f + b) + (A (9 + (8 * f + b)) - 1 - k))) + more < 9
      · rw [if_pos (show nI _ < (9 : Int32) from nI_lt e (by decide)), Nat.min_eq_right (by omega)]
      · rw [if_neg (show ¬ nI _ < (9 : Int32) from nI_nlt (b := 9) (by omega) (by omega)), Nat.min_eq_left (by omega)]
        rfl
    · rw [ps_dC_s (by omega) hk2 hg]
      exact h1.putck (by omega)
  · intro m s ⟨h1, h2⟩
    have hB' := ps_dC_B (n := n) hB (8 * f + b) (A (9 + (8 * f + b)))
    have e0 : ps_dC A n (8 * f + b) (A (9 + (8 * f + b))) 0 = A 0 := ps_dC_lo (by decide)
    have eh : ps_dC A n (8 * f + b) (A (9 + (8 * f + b))) (9 + (8 * f + b)) = A (9 + (8 * f + b)) := ps_dC_lo (by omega)
    have w1 := pc_height h1 hB' (f := f) (b := b) (by omega) hb
    rw [eh] at w1
    show fX3_passDays_L38 k81 p1 (nI f) (nI more) (nI b) (m + 1) (nI (A (9 + (8 * f + b)))) s = _
    rw [fX3_passDays_L38, w1, Option.bind_some, if_pos (nI_le (Nat.le_refl _) (by omega))]
theorem pc_dayL28 (hB : pv_B A) {f more : Nat} (hf : f < A 0) (hm : more = n * pv_cakes (A (3 + f)) (A 2)) (hn : n ≤ 60) (k87 : js_S → Option js_S) (p1 : Int32) : ∀ d b m s0, b + d = 8 → d < m → pv_C (ps_dP A n (8 * f + b)) s0 1 → pv_OC σ s0 →
    ∃ s1, fX3_passDays_L28 k87 p1 (nI f) (nI more) m (nI b) s0 = k87 s1 ∧ pv_C (ps_dP A n (8 * (f + 1))) s1 1 ∧ pv_OC σ s1
  | 0, b, m, s0, hb, hd, hC, hO => by
    obtain ⟨m, rfl⟩ : ∃ k, m = k + 1 := ⟨m - 1, by omega⟩
    have : b = 8 := by omega
    subst this
    rw [fX3_passDays_L28, if_pos (show (8 : Int32) ≤ nI 8 by decide)]
    exact ⟨s0, rfl, by rw [show 8 * (f + 1) = 8 * f + 8 by omega]; exact hC, hO⟩
  | d + 1, b, m, s0, hb, hd, hC, hO => by
    obtain ⟨m, rfl⟩ : ∃ k, m = k + 1 := ⟨m - 1, by omega⟩
    rw [fX3_passDays_L28, if_neg (show ¬ (8 : Int32) ≤ nI b from nI_ge (b := 8) (by omega) (by decide)), nI_1]
    obtain ⟨s1, e1, e2, e3⟩ := pc_dayL38 hB hf (show b < 8 by omega) hm hn (fun s5 => fX3_passDays_L28 k87 p1 (nI f) (nI more) m (nI (b + 1)) s5) p1 s0 hC hO
    rw [e1]
    exact pc_dayL28 hB hf hm hn k87 p1 d (b + 1) m s1 (by omega) (by omega) e2 e3
theorem pc_dayL2 (hB : pv_B A) (hn : n ≤ 60) : ∀ d f m s0, f + d = A 0 → d < m → pv_C (ps_dP A n (8 * f)) s0 1 → pv_OC σ s0 → ∃ s1, fX3_passDays_L2 (nI n) m (nI f) s0 = some s1 ∧ pv_C (ps_day A n) s1 1 ∧ pv_OC σ s1
  | 0, f, m, s0, hf, hd, hC, hO => by
    obtain ⟨m, rfl⟩ : ∃ k, m = k + 1 := ⟨m - 1, by omega⟩
    have h6 := hB.many
    have : f = A 0 := by omega
    subst this
    rw [fX3_passDays_L2, hC.many, ps_dP_lo (by decide), if_pos (nI_le (Nat.le_refl _) (by omega)), hC.day, ps_dP_lo (by decide), nI_add]
    exact ⟨_, rfl, hC.putday, hO.tr (pv_OC.put s0 (by decide))⟩
  | d + 1, f, m, s0, hf, hd, hC, hO => by
    obtain ⟨m, rfl⟩ : ∃ k, m = k + 1 := ⟨m - 1, by omega⟩
    have h6 := hB.many
    have hk := hB.kd (f := f) (by omega)
    have hdm := hB.damp
    have hB' := ps_dP_B (n := n) hB (8 * f)
    have e0 : ps_dP A n (8 * f) 0 = A 0 := ps_dP_lo (by decide)
    have w := pc_kindOf hC hB' (f := f) (by omega)
    rw [ps_dP_lo (by omega)] at w
    rw [fX3_passDays_L2, hC.many, e0, if_neg (nI_ge (by omega) (by omega)), w, Option.bind_some, hC.damp, ps_dP_lo (by decide), (pv_cakes_tab (A (3 + f)) (by omega) (A 2) (by omega)).1, pk_mul, nI_1]
    obtain ⟨s1, e1, e2, e3⟩ := pc_dayL28 (more := n * pv_cakes (A (3 + f)) (A 2)) hB (show f < A 0 by omega) rfl hn (fun s6 => fX3_passDays_L2 (nI n) m (nI (f + 1)) s6) (nI n) 8 0 js_FU s0 (by decide) (by decide) hC hO
    rw [show (0 : Int32) = nI 0 from rfl, e1]
    exact pc_dayL2 hB hn d (f + 1) m s1 (by omega) (by omega) e2 e3
theorem pc_passDays (hC : pv_C A σ 1) (hB : pv_B A) (hn : n ≤ 60) : ∃ σ', fX3_passDays (nI n) σ = some σ' ∧ pv_C (ps_day A n) σ' 1 ∧ pv_OC σ σ' := by
  have h6 := hB.many
  exact pc_dayL2 hB hn (A 0) 0 js_FU σ (by omega) (by unfold js_FU; omega) (by rw [Nat.mul_zero, ps_dP_0]; exact hC) (pv_OC.rf σ)
/-! the reference -/
theorem pm_dayL26 (hB : pv_B A) {P more : Nat} (hP : P < 8 * A 0) (hm : more = pv_cakes (A (3 + P / 8)) (A 2)) (k92 : js_S → Option js_S) (s0 : js_S) (hM : pv_M (ps_dP A 1 P) s0 1) (hO : pv_O1 τ s0) :
    ∃ s1, fX8_day_L26 k92 (nI P) (nI more) js_FU (0 : Int32) s0 = k92 s1 ∧ pv_M (ps_dP A 1 (P + 1)) s1 1 ∧ pv_O1 τ s1 := by
  have h6 := hB.many
  have hg := hB.hg (p := P) (by omega)
  have hk := hB.kd (f := P / 8) (by omega)
  have hdm := hB.damp
  have hc := pv_cakes_tab (A (3 + P / 8)) (by omega) (A 2) (by omega)
  have key := pu_loopI (fun m s i => fX8_day_L26 k92 (nI P) (nI more) m i s) (fun s k => js_sI s 1 (345 + (6 * P + k)) (nI (ps_D A 1 (345 + (6 * P + k))))) k92 (fun s k => pv_M (ps_dM A 1 P k) s 1 ∧ pv_O1 τ s) (A (9 + P)) (by omega) ?_ ?_ s0 ⟨by rw [ps_dM_0]; exact hM, hO⟩
  · refine ⟨_, key.1, ?_, key.2.2⟩
    have := key.2.1
    rw [ps_dM_h] at this
    exact this
  · intro m s k hk2 ⟨h1, h2⟩
    have eh : ps_dM A 1 P k (9 + P) = A (9 + P) := ps_dM_lo (by omega)
    have ec : ps_dM A 1 P k (345 + (6 * P + k)) = A (345 + (6 * P + k)) := by
      unfold ps_dM
      rw [if_neg (by omega)]
    have hcc := hB.ck (i := 6 * P + k) (by omega)
    have hD := ps_D_at (n := 1) (P := P) (r := k) hP h6 hk2 hg
    rw [← hm, Nat.one_mul] at hD
    refine ⟨?_, ?_, h2.tr (pv_O1.put s)⟩
    · show fX8_day_L26 k92 (nI P) (nI more) (m + 1) (nI k) s = _
      rw [fX8_day_L26, fa_lit 9, nI_add, pu_gd (by omega) (by decide), pu_cl (by omega), h1 _ (by omega), eh, if_neg (nI_ge hk2 (by omega)), fa_lit 345, fa_lit 6, pk_mul, nI_add, nI_add, Nat.add_assoc, pu_gd (by omega) (by decide), pu_gd (by omega) (by decide), pu_gd (by omega) (by decide), pu_cl (by omega), h1 _ (by omega), ec, nI_add, pu_gd (by omega) (by decide), nI_1, hD]
      by_cases e : A (345 + (6 * P + k)) + more ≤ 9
      · rw [if_pos (nI_le e (by decide)), Nat.min_eq_right e]
      · rw [if_neg (nI_ge (by omega) (by omega)), Nat.min_eq_left (by omega)]
    · rw [ps_dM_s (by omega) (by omega)]
      exact h1.put
  · intro m s ⟨h1, h2⟩
    have eh : ps_dM A 1 P (A (9 + P)) (9 + P) = A (9 + P) := ps_dM_lo (by omega)
    show fX8_day_L26 k92 (nI P) (nI more) (m + 1) (nI (A (9 + P))) s = _
    rw [fX8_day_L26, fa_lit 9, nI_add, pu_gd (by omega) (by decide), pu_cl (by omega), h1 _ (by omega), eh, if_pos (nI_le (Nat.le_refl _) (by omega))]
theorem pm_dayL2 (hB : pv_B A) : ∀ d P m s0, P + d = 8 * A 0 → d < m → pv_M (ps_dP A 1 P) s0 1 → pv_O1 τ s0 → ∃ s1, fX8_day_L2 m (nI P) s0 = some s1 ∧ pv_M (ps_day A 1) s1 1 ∧ pv_O1 τ s1
  | 0, P, m, s0, hP, hd, hM, hO => by
    obtain ⟨m, rfl⟩ : ∃ k, m = k + 1 := ⟨m - 1, by omega⟩
    have h6 := hB.many
    have : P = 8 * A 0 := by omega
    subst this
    rw [fX8_day_L2, pm_g0, pm_s0 hM, ps_dP_lo (by decide), fa_lit 8, pk_mul, if_pos (nI_le (Nat.le_refl _) (by omega)), pm_g1, pm_g1, pm_s1 hM, ps_dP_lo (by decide), nI_1]
    exact ⟨_, rfl, hM.put (k := 1), hO.tr (pv_O1.put s0)⟩
  | d + 1, P, m, s0, hP, hd, hM, hO => by
    obtain ⟨m, rfl⟩ : ∃ k, m = k + 1 := ⟨m - 1, by omega⟩
    have h6 := hB.many
    have hB' := ps_dP_B (n := 1) hB P
    have w := pm_cakes hM hB' (f := P / 8) (by omega)
    rw [ps_dP_lo (by omega), ps_dP_lo (by decide)] at w
    rw [fX8_day_L2, pm_g0, pm_s0 hM, ps_dP_lo (by decide), fa_lit 8, pk_mul, if_neg (nI_ge (by omega) (by omega)), pk_div (by omega) (by decide) (by decide), w, Option.bind_some, nI_1]
    obtain ⟨s1, e1, e2, e3⟩ := pm_dayL26 hB (show P < 8 * A 0 by omega) rfl (fun s2 => fX8_day_L2 m (nI (P + 1)) s2) s0 hM hO
    rw [e1]
    exact pm_dayL2 hB d (P + 1) m s1 (by omega) (by omega) e2 e3
theorem pm_day (hM : pv_M A τ 1) (hB : pv_B A) : ∃ τ', fX8_day τ = some τ' ∧ pv_M (ps_day A 1) τ' 1 ∧ pv_O1 τ τ' := by
  have h6 := hB.many
  exact pm_dayL2 hB (8 * A 0) 0 js_FU τ (by omega) (by unfold js_FU; omega) (by rw [ps_dP_0]; exact hM) (pv_O1.rf τ)
theorem ps_day_0 (hB : pv_B A) : ps_day A 0 = A := by
  funext i
  unfold ps_day pv_up1
  split
  · rename_i h; rw [h]; rfl
  · unfold ps_dP ps_D
    split
    · split
      · rename_i h1 h2 h3
        have h4 := hB.ck (i := i - 345) (by omega)
        rw [show 345 + (i - 345) = i by omega] at h4
        rw [Nat.zero_mul, Nat.add_zero, Nat.min_eq_right h4]
      · rfl
    · rfl
theorem ps_day_s (hB : pv_B A) : ps_day (ps_day A n) 1 = ps_day A (n + 1) := by
  have h6 := hB.many
  have l0 : ps_day A n 0 = A 0 := ps_day_lo (by decide) (by decide)
  have l2 : ps_day A n 2 = A 2 := ps_day_lo (by decide) (by decide)
  funext i
  by_cases e1 : i = 1
  · subst e1
    rw [ps_day_1, ps_day_1, ps_day_1]
    omega
  · have q1 : ps_day (ps_day A n) 1 i = ps_dP (ps_day A n) 1 (8 * A 0) i := by
      unfold ps_day
      rw [pv_up1_ne e1]
      show ps_dP _ 1 (8 * ps_day A n 0) i = _
      rw [l0]
    have q2 : ps_day A (n + 1) i = ps_dP A (n + 1) (8 * A 0) i := by unfold ps_day; rw [pv_up1_ne e1]
    have q3 : ps_day A n i = ps_dP A n (8 * A 0) i := by unfold ps_day; rw [pv_up1_ne e1]
    rw [q1, q2]
    unfold ps_dP
    by_cases h : 345 ≤ i ∧ i < 633 ∧ (i - 345) / 6 < 8 * A 0
    · rw [if_pos h, if_pos h]
      have l3 : ps_day A n (9 + (i - 345) / 6) = A (9 + (i - 345) / 6) := ps_day_lo (by omega) (by omega)
      have l4 : ps_day A n (3 + (i - 345) / 48) = A (3 + (i - 345) / 48) := ps_day_lo (by omega) (by omega)
      unfold ps_D
      rw [l0, l2, l3, l4]
      by_cases h2 : 345 ≤ i ∧ i < 633 ∧ (i - 345) / 6 < 8 * A 0 ∧ (i - 345) % 6 < A (9 + (i - 345) / 6)
      · rw [if_pos h2, if_pos h2, q3]
        unfold ps_dP ps_D
        rw [if_pos h, if_pos h2, Nat.one_mul, Nat.succ_mul]
        omega
      · rw [if_neg h2, if_neg h2, q3]
        unfold ps_dP ps_D
        rw [if_pos h, if_neg h2]
    · rw [if_neg h, if_neg h, q3]
      unfold ps_dP
      rw [if_neg h]
theorem pm_goesOnL (hB : pv_B A) {N : Nat} (hN : A 1 + N ≤ 20000) (hN2 : N ≤ 60) : ∀ d j m s0, j + d = N → d < m → pv_M (ps_day A j) s0 1 → pv_O1 τ s0 → ∃ s1, fX8_goesOn_L2 (nI N) m (nI j) s0 = some s1 ∧ pv_M (ps_day A N) s1 1 ∧ pv_O1 τ s1
  | 0, j, m, s0, hj, hd, hM, hO => by
    obtain ⟨m, rfl⟩ : ∃ k, m = k + 1 := ⟨m - 1, by omega⟩
    have : j = N := by omega
    subst this
    rw [fX8_goesOn_L2, if_pos (nI_le (Nat.le_refl _) (by omega))]
    exact ⟨s0, rfl, hM, hO⟩
  | d + 1, j, m, s0, hj, hd, hM, hO => by
    obtain ⟨m, rfl⟩ : ∃ k, m = k + 1 := ⟨m - 1, by omega⟩
    obtain ⟨s1, e1, e2, e3⟩ := pm_day hM (ps_day_B hB (by omega))
    rw [ps_day_s hB] at e2
    rw [fX8_goesOn_L2, if_neg (nI_ge (by omega) (by omega)), e1, Option.bind_some, nI_1]
    exact pm_goesOnL hB hN hN2 d (j + 1) m s1 (by omega) (by omega) e2 (hO.tr e3)
theorem pm_goesOn (hM : pv_M A τ 1) (hB : pv_B A) (hn : n ≤ 60) (hd : A 1 + n ≤ 20000) : ∃ τ', fX8_goesOn (nI n) τ = some τ' ∧ pv_M (ps_day A n) τ' 1 ∧ pv_O1 τ τ' :=
  pm_goesOnL hB hd hn n 0 js_FU τ (by omega) (by unfold js_FU; omega) (by rw [ps_day_0 hB]; exact hM) (pv_O1.rf τ)
end PY
