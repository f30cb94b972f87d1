/-! PURE: brushes -/
/-- cake and word of the k-th layer from the top -/
def ps_ck (A : Nat → Nat) (f b k : Nat) : Nat := A (345 + (6 * (8 * f + b) + (A (9 + (8 * f + b)) - 1 - k)))
def ps_wd (A : Nat → Nat) (f b k : Nat) : Nat := A (57 + (6 * (8 * f + b) + (A (9 + (8 * f + b)) - 1 - k)))
def ps_loose (A : Nat → Nat) (f b s more : Nat) : Nat := (pu_first (fun k => decide (s ≤ ps_ck A f b k + more)) 0 (A (9 + (8 * f + b)))).getD (A (9 + (8 * f + b)))
theorem ps_loose_le (A : Nat → Nat) (f b s more : Nat) : ps_loose A f b s more ≤ A (9 + (8 * f + b)) := by
  unfold ps_loose
  cases h : pu_first (fun k => decide (s ≤ ps_ck A f b k + more)) 0 (A (9 + (8 * f + b))) with
  | none => exact Nat.le_refl _
  | some j =>
    have := pu_first_lt _ _ _ h
    show j ≤ _
    omega
def ps_push (q : Nat × (Nat → Nat)) (w : Nat) : Nat × (Nat → Nat) := (q.1 + 1, fun j => if j = q.1 then w else q.2 j)
def ps_bset (q : Nat × (Nat → Nat)) : Int32 := pu_fold (fun s k => s ||| ps_bit (q.2 k)) 0 0 q.1
theorem ps_bset_push (q : Nat × (Nat → Nat)) (w : Nat) : ps_bset (ps_push q w) = ps_bset q ||| ps_bit w := by
  unfold ps_bset
  show pu_fold _ 0 0 (q.1 + 1) = _
  rw [pu_fold_end, Nat.zero_add]
  have h1 : (ps_push q w).2 q.1 = w := if_pos rfl
  rw [h1]
  congr 1
  exact pu_fold_cong q.1 0 0 fun b j _ hj => by
    have h2 : (ps_push q w).2 j = q.2 j := if_neg (by omega)
    rw [h2]
def ps_pushes (A : Nat → Nat) (f b : Nat) (q : Nat × (Nat → Nat)) (n : Nat) : Nat × (Nat → Nat) := pu_fold (fun q k => ps_push q (ps_wd A f b k)) q 0 n
theorem ps_pushes_s (A : Nat → Nat) (f b : Nat) (q : Nat × (Nat → Nat)) (n : Nat) : ps_pushes A f b q (n + 1) = ps_push (ps_pushes A f b q n) (ps_wd A f b n) := by
  unfold ps_pushes
  rw [pu_fold_end, Nat.zero_add]
theorem ps_pushes_n (A : Nat → Nat) (f b : Nat) (q : Nat × (Nat → Nat)) : ∀ n, (ps_pushes A f b q n).1 = q.1 + n
  | 0 => rfl
  | n + 1 => by rw [ps_pushes_s]; show (ps_pushes A f b q n).1 + 1 = _; rw [ps_pushes_n A f b q n]; omega
/-- what a brush of strength s brings from the first n bends, cake being so much more -/
def ps_br (A : Nat → Nat) (f s more n : Nat) : Nat × (Nat → Nat) := pu_fold (fun q b => ps_pushes A f b q (ps_loose A f b s more)) (0, fun _ => 0) 0 n
theorem ps_br_s (A : Nat → Nat) (f s more n : Nat) : ps_br A f s more (n + 1) = ps_pushes A f n (ps_br A f s more n) (ps_loose A f n s more) := by
  unfold ps_br
  rw [pu_fold_end, Nat.zero_add]
def pv_br (σ : js_S) (q : Nat × (Nat → Nat)) : Prop := σ.1 11 0 = nI q.1 ∧ σ.1 11 1 = ps_bset q ∧ ∀ k, k < q.1 → σ.1 12 k = nI (q.2 k)
def pv_cm (τ : js_S) (q : Nat × (Nat → Nat)) : Prop := τ.1 0 7 = nI q.1 ∧ ∀ k, k < q.1 → τ.1 6 k = nI (q.2 k)
theorem pv_EC.s11 (σ : js_S) {k i : Nat} {v : Int32} (hk : k = 11 ∨ k = 12) : pv_EC σ (js_sI σ k i v) := ⟨fun q h1 h2 _ _ _ _ _ => pv_sI_ne (by omega), by rw [pv_sI_ne (by omega)], rfl⟩
theorem pv_EM.s6 (τ : js_S) {i : Nat} {v : Int32} : pv_EM τ (js_sI τ 6 i v) := ⟨fun q _ _ _ h => pv_sI_ne h, by rw [pv_sI_ne (by decide)], by rw [pv_sI_ne (by decide)], rfl⟩
theorem pv_EM.s0 (τ : js_S) {i : Nat} {v : Int32} (h5 : i ≠ 5) (h9 : i ≠ 9) : pv_EM τ (js_sI τ 0 i v) := ⟨fun q h _ _ _ => pv_sI_ne h, by rw [pv_sI_at, if_neg (fun e => h5 e.symm)], by rw [pv_sI_at, if_neg (fun e => h9 e.symm)], rfl⟩
/-- only what a brush writes has changed -/
def pv_E6 (τ τ' : js_S) : Prop := (∀ k, k ≠ 0 → k ≠ 6 → τ'.1 k = τ.1 k) ∧ τ'.1 0 5 = τ.1 0 5 ∧ τ'.1 0 9 = τ.1 0 9 ∧ τ'.2 = τ.2
theorem pv_E6.rf (τ : js_S) : pv_E6 τ τ := ⟨fun _ _ _ => rfl, rfl, rfl, rfl⟩
theorem pv_E6.tr {a b c : js_S} (h : pv_E6 a b) (g : pv_E6 b c) : pv_E6 a c := ⟨fun k h1 h2 => (g.1 k h1 h2).trans (h.1 k h1 h2), g.2.1.trans h.2.1, g.2.2.1.trans h.2.2.1, g.2.2.2.trans h.2.2.2⟩
theorem pv_E6.E {τ τ' : js_S} (h : pv_E6 τ τ') : pv_EM τ τ' := ⟨fun k h1 _ _ h4 => h.1 k h1 h4, h.2.1, h.2.2.1, by rw [h.2.2.2]⟩
theorem pv_E6.M {A : Nat → Nat} {τ τ' : js_S} {c : Nat} (e : pv_E6 τ τ') (h : pv_M A τ c) (h0 : c ≠ 0) (h6 : c ≠ 6) : pv_M A τ' c := h.keep (e.1 c h0 h6)
theorem pv_E6.s6 (τ : js_S) {i : Nat} {v : Int32} : pv_E6 τ (js_sI τ 6 i v) := ⟨fun q _ h => pv_sI_ne h, by rw [pv_sI_ne (by decide)], by rw [pv_sI_ne (by decide)], rfl⟩
theorem pv_E6.s0 (τ : js_S) {i : Nat} {v : Int32} (h5 : i ≠ 5) (h9 : i ≠ 9) : pv_E6 τ (js_sI τ 0 i v) := ⟨fun q h _ => pv_sI_ne h, by rw [pv_sI_at, if_neg (fun e => h5 e.symm)], by rw [pv_sI_at, if_neg (fun e => h9 e.symm)], rfl⟩
/-- only the class's brush has changed -/
def pv_E11 (σ σ' : js_S) : Prop := (∀ k, k ≠ 11 → k ≠ 12 → σ'.1 k = σ.1 k) ∧ σ'.2 = σ.2
theorem pv_E11.rf (σ : js_S) : pv_E11 σ σ := ⟨fun _ _ _ => rfl, rfl⟩
theorem pv_E11.tr {a b c : js_S} (h : pv_E11 a b) (g : pv_E11 b c) : pv_E11 a c := ⟨fun k h1 h2 => (g.1 k h1 h2).trans (h.1 k h1 h2), g.2.trans h.2⟩
theorem pv_E11.E {a b : js_S} (h : pv_E11 a b) : pv_EC a b := ⟨fun k h1 h2 _ _ _ _ _ => h.1 k h1 h2, by rw [h.1 15 (by decide) (by decide)], h.2⟩
theorem pv_E11.s11 (σ : js_S) {k i : Nat} {v : Int32} (hk : k = 11 ∨ k = 12) : pv_E11 σ (js_sI σ k i v) := ⟨fun q h1 h2 => pv_sI_ne (by omega), rfl⟩
section PB
variable {A : Nat → Nat} {σ τ : js_S}
theorem ps_br_lt (hB : pv_B A) {f s more : Nat} (hf : f < 6) : ∀ n, n ≤ 8 → (ps_br A f s more n).1 ≤ 6 * n
  | 0, _ => Nat.le_refl 0
  | n + 1, hn => by
    have h1 := ps_br_lt hB (s := s) (more := more) hf n (by omega)
    have h2 := ps_loose_le A f n s more
    have h3 := hB.hg (p := 8 * f + n) (by omega)
    rw [ps_br_s, ps_pushes_n]
    omega
theorem pc_looseL (hC : pv_C A σ 1) (hB : pv_B A) {f b s more h : Nat} (hf : f < 6) (hb : b < 8) (hs : s ≤ 9) (hm : more < 100000) (hh : A (9 + (8 * f + b)) = h) (h0 : 0 < h) : ∀ d k n, k + d = h → d < n → fX3_loose_L20 (nI s) (nI more) (nI h) (nI (6 * (8 * f + b) + (h - 1))) σ n (nI k) = some (nI ((pu_first (fun k => decide (s ≤ ps_ck A f b k + more)) k d).getD h))
  | 0, k, n, hk, hn => by
    obtain ⟨m, rfl⟩ : ∃ m, n = m + 1 := ⟨n - 1, by omega⟩
    have h7 := hB.hg (p := 8 * f + b) (by omega)
    rw [fX3_loose_L20, if_pos (nI_le (by omega) (by omega))]
    rfl
  | d + 1, k, n, hk, hn => by
    obtain ⟨m, rfl⟩ : ∃ m, n = m + 1 := ⟨n - 1, by omega⟩
    have h7 := hB.hg (p := 8 * f + b) (by omega)
    have h8 := hB.ck (i := 6 * (8 * f + b) + (h - 1) - k) (by omega)
    have e1 : A (345 + (6 * (8 * f + b) + (h - 1) - k)) = ps_ck A f b k := by
      unfold ps_ck
      rw [hh]
      congr 1
      omega
    rw [e1] at h8
    rw [fX3_loose_L20, if_neg (nI_ge (by omega) (by omega)), pk_sub (by omega), pu_gd (by omega) (by decide), pu_cl (by omega), hC.ck (by omega), e1, nI_add, nI_1]
    unfold pu_first
    by_cases e2 : s ≤ ps_ck A f b k + more
    · rw [if_neg (nI_nlt e2 (by omega)), if_pos (decide_eq_true e2)]
      rfl
    · rw [if_pos (nI_lt (by omega) (by omega)), if_neg (by simpa using e2)]
      exact pc_looseL hC hB hf hb hs hm hh h0 d (k + 1) m (by omega) (by omega)
theorem pc_loose (hC : pv_C A σ 1) (hB : pv_B A) {f b s more : Nat} (hf : f < A 0) (hb : b < 8) (hs : s ≤ 9) (hm : more < 100000) : fX3_loose (nI f) (nI b) (nI s) (nI more) σ = some (nI (ps_loose A f b s more)) := by
  have h6 := hB.many
  have h7 := hB.hg (p := 8 * f + b) (by omega)
  unfold fX3_loose ps_loose
  rw [pc_height hC hB hf hb, Option.bind_some]
  by_cases h0 : A (9 + (8 * f + b)) = 0
  · obtain ⟨x, hx⟩ : ∃ x, fX3_place (nI f) (nI b) (0 : Int32) σ = some x := by
      unfold fX3_place
      rw [pc_height hC hB hf hb, Option.bind_some]
      exact ⟨_, rfl⟩
    rw [hx, Option.bind_some, h0]
    rfl
  · have hp := pc_place (k := 0) hC hB hf hb (by omega)
    rw [show nI 0 = (0 : Int32) from rfl] at hp
    rw [hp, Option.bind_some]
    exact pc_looseL hC hB (by omega) hb hs hm rfl (by omega) _ 0 js_FU (by omega) (by unfold js_FU; omega)
theorem pm_looseL (hM : pv_M A τ 1) (hB : pv_B A) {f b s h : Nat} (hf : f < 6) (hb : b < 8) (hs : s ≤ 9) (hh : A (9 + (8 * f + b)) = h) : ∀ d k n, k + d = h → d < n → fX8_loose_L3 (nI f) (nI b) (nI s) τ n (nI k) = some (nI ((pu_first (fun k => decide (s ≤ ps_ck A f b k + 0)) k d).getD h))
  | 0, k, n, hk, hn => by
    obtain ⟨m, rfl⟩ : ∃ m, n = m + 1 := ⟨n - 1, by omega⟩
    have h7 := hB.hg (p := 8 * f + b) (by omega)
    rw [fX8_loose_L3, pm_layers hM hf hb, Option.bind_some, if_pos (nI_le (by omega) (by omega)), show k = h by omega]
    rfl
  | d + 1, k, n, hk, hn => by
    obtain ⟨m, rfl⟩ : ∃ m, n = m + 1 := ⟨n - 1, by omega⟩
    have h7 := hB.hg (p := 8 * f + b) (by omega)
    have h8 := hB.ck (i := 6 * (8 * f + b) + (h - 1 - k)) (by omega)
    have e1 : A (345 + (6 * (8 * f + b) + (h - 1 - k))) = ps_ck A f b k := by
      unfold ps_ck
      rw [hh]
    rw [e1] at h8
    rw [fX8_loose_L3, pm_layers hM hf hb, Option.bind_some, if_neg (nI_ge (by omega) (by omega)), Option.bind_some, hh, fa_lit 1, pk_sub (by omega), pk_sub (by omega), pm_spot, fa_lit 345, nI_add, pu_gd (by omega) (by decide), pu_cl (by omega), hM _ (by omega), e1, nI_add]
    unfold pu_first
    by_cases e2 : s ≤ ps_ck A f b k + 0
    · rw [if_pos (nI_le (by omega) (by omega)), if_pos (decide_eq_true e2)]
      rfl
    · rw [if_neg (nI_ge (by omega) (by omega)), if_neg (by simpa using e2)]
      exact pm_looseL hM hB hf hb hs hh d (k + 1) m (by omega) (by omega)
theorem pm_loose (hM : pv_M A τ 1) (hB : pv_B A) {f b s : Nat} (hf : f < 6) (hb : b < 8) (hs : s ≤ 9) : fX8_loose (nI f) (nI b) (nI s) τ = some (nI (ps_loose A f b s 0)) := by
  have h7 := hB.hg (p := 8 * f + b) (by omega)
  exact pm_looseL hM hB hf hb hs rfl _ 0 js_FU (by omega) (by unfold js_FU; omega)
/-! sweep -/
def ps_sw (f s : Nat) (A : Nat → Nat) (b : Nat) : Nat → Nat := pv_up1 A (9 + (8 * f + b)) (A (9 + (8 * f + b)) - ps_loose A f b s 0)
def ps_swA (A : Nat → Nat) (f s n : Nat) : Nat → Nat := pu_fold (ps_sw f s) A 0 n
def ps_swS (A : Nat → Nat) (f s n : Nat) : Int32 := pu_fold (fun x i => x + nI (ps_loose (ps_swA A f s i) f i s 0)) 0 0 n
theorem ps_swA_s (f s n : Nat) : ps_swA A f s (n + 1) = ps_sw f s (ps_swA A f s n) n := by
  unfold ps_swA
  rw [pu_fold_end, Nat.zero_add]
theorem ps_swS_s (f s n : Nat) : ps_swS A f s (n + 1) = ps_swS A f s n + nI (ps_loose (ps_swA A f s n) f n s 0) := by
  unfold ps_swS
  rw [pu_fold_end, Nat.zero_add]
theorem ps_swA_B (hB : pv_B A) {f s : Nat} (hf : f < 6) : ∀ n, n ≤ 8 → pv_B (ps_swA A f s n)
  | 0, _ => hB
  | n + 1, hn => by
    have h1 := ps_swA_B hB (s := s) hf n (by omega)
    have h2 := h1.hg (p := 8 * f + n) (by omega)
    rw [ps_swA_s]
    refine h1.put ?_
    unfold pv_bd
    omega
theorem ps_swA_lo {f s j : Nat} (hj : j < 9) : ∀ n, ps_swA A f s n j = A j
  | 0 => rfl
  | n + 1 => by rw [ps_swA_s]; unfold ps_sw; rw [pv_up1_ne (by omega), ps_swA_lo hj n]
theorem pc_takeDown (hC : pv_C A σ 1) (hB : pv_B A) {f b s : Nat} (hf : f < A 0) (hb : b < 8) (hs : s ≤ 9) : ∃ σ', fX3_takeDown (nI f) (nI b) (nI s) σ = some (ps_swS A f s (b + 1), σ') ∧ pv_OC σ σ' ∧ pv_C (ps_swA A f s (b + 1)) σ' 1 := by
  have h6 := hB.many
  unfold fX3_takeDown
  have key := pu_loopI (fun n (a : Int32 × js_S) i => fX3_takeDown_L6 (nI f) (nI b) (nI s) n a.1 i a.2) (fun a i => (a.1 + nI (ps_loose (ps_swA A f s i) f i s 0), js_sI a.2 3 (8 * f + i) (nI (ps_swA A f s i (9 + (8 * f + i)) - ps_loose (ps_swA A f s i) f i s 0)))) (fun a => some a) (fun a i => a.1 = ps_swS A f s i ∧ pv_C (ps_swA A f s i) a.2 1 ∧ pv_OC σ a.2) (b + 1) (by omega) ?_ ?_ (0, σ) ⟨rfl, hC, pv_OC.rf σ⟩
  · obtain ⟨k1, k2, k3, k4⟩ := key
    refine ⟨_, k1.trans ?_, k4, k3⟩
    rw [← k2]
  · intro n a i hi ⟨h1, h2, h3⟩
    have hB' := ps_swA_B hB (s := s) (show f < 6 by omega) i (by omega)
    have hm : ps_swA A f s i 0 = A 0 := ps_swA_lo (by decide) i
    have hl := ps_loose_le (ps_swA A f s i) f i s 0
    have hg := hB'.hg (p := 8 * f + i) (by omega)
    refine ⟨?_, ?_, ?_, h3.tr (pv_OC.put a.2 (by decide))⟩
    · show fX3_takeDown_L6 (nI f) (nI b) (nI s) (n + 1) a.1 (nI i) a.2 = _
      rw [fX3_takeDown_L6, if_neg (nI_nlt (by omega) (by omega)), if_neg (show ¬ (8 : Int32) ≤ nI i from nI_ge (b := 8) (by omega) (by decide)), show (0 : Int32) = nI 0 from rfl, pc_loose h2 hB' (by omega) (by omega) hs (by decide), Option.bind_some, pc_hasFlue1 h2 hB' (by omega), Option.bind_some, show nI 0 = (0 : Int32) from rfl, pu_10, pu_pl, pu_gd (by omega) (by decide), pu_gd (by omega) (by decide), pu_cl (by omega), h2.hg (by omega), pk_sub hl, nI_1]
    · rw [ps_swS_s, ← h1]
    · rw [ps_swA_s]
      exact h2.puthg (by omega)
  · intro n a h
    show fX3_takeDown_L6 (nI f) (nI b) (nI s) (n + 1) a.1 (nI (b + 1)) a.2 = _
    rw [fX3_takeDown_L6, if_pos (nI_lt (by omega) (by omega))]
theorem pm_sweepL (hM : pv_M A τ 1) (hB : pv_B A) {f b s : Nat} (hf : f < 6) (hb : b < 8) (hs : s ≤ 9) : ∃ τ', fX8_sweep_L23 (nI f) (nI b) (nI s) js_FU (0 : Int32) (0 : Int32) τ = some (ps_swS A f s (b + 1), τ') ∧ pv_OM τ τ' ∧ pv_M (ps_swA A f s (b + 1)) τ' 1 := by
  have key := pu_loopI (fun n (a : Int32 × js_S) i => fX8_sweep_L23 (nI f) (nI b) (nI s) n a.1 i a.2) (fun a i => (a.1 + nI (ps_loose (ps_swA A f s i) f i s 0), js_sI a.2 1 (9 + (8 * f + i)) (nI (ps_swA A f s i (9 + (8 * f + i)) - ps_loose (ps_swA A f s i) f i s 0)))) (fun a => some a) (fun a i => a.1 = ps_swS A f s i ∧ pv_M (ps_swA A f s i) a.2 1 ∧ pv_OM τ a.2) (b + 1) (by omega) ?_ ?_ (0, τ) ⟨rfl, hM, pv_OM.rf τ⟩
  · obtain ⟨k1, k2, k3, k4⟩ := key
    refine ⟨_, k1.trans ?_, k4, k3⟩
    rw [← k2]
  · intro n a i hi ⟨h1, h2, h3⟩
    have hB' := ps_swA_B hB (s := s) hf i (by omega)
    have hl := ps_loose_le (ps_swA A f s i) f i s 0
    have hg := hB'.hg (p := 8 * f + i) (by omega)
    refine ⟨?_, ?_, ?_, h3.tr (pv_OM.put a.2)⟩
    · show fX8_sweep_L23 (nI f) (nI b) (nI s) (n + 1) a.1 (nI i) a.2 = _
      rw [fX8_sweep_L23, if_neg (nI_nlt (by omega) (by omega)), pm_loose h2 hB' hf (by omega) hs, Option.bind_some, pm_pl, fa_lit 9, nI_add, pu_gd (by omega) (by decide), pu_gd (by omega) (by decide), pu_cl (by omega), h2 _ (by omega), pk_sub hl, nI_1]
    · rw [ps_swS_s, ← h1]
    · rw [ps_swA_s]
      exact h2.put
  · intro n a h
    show fX8_sweep_L23 (nI f) (nI b) (nI s) (n + 1) a.1 (nI (b + 1)) a.2 = _
    rw [fX8_sweep_L23, if_pos (nI_lt (by omega) (by omega))]
theorem pm_isBrush (hM : pv_M A τ 1) (hB : pv_B A) (x y z : Int32) : fX8_isBrush x y z τ = some (if pu_in x (A 0) ∧ pu_in y 8 ∧ pu_st z then 1 else 0) := by
  unfold fX8_isBrush
  rw [pm_isFlue hM hB, Option.bind_some, pu_M_isBend, pu_M_isStrength]
  by_cases h1 : pu_in x (A 0)
  · rw [if_pos h1, pu_10]
    by_cases h2 : pu_in y 8
    · rw [if_pos h2, pu_10]
      by_cases h3 : pu_st z
      · have h : pu_in x (A 0) ∧ pu_in y 8 ∧ pu_st z := ⟨h1, h2, h3⟩
        rw [if_pos h3, pu_10, if_pos h]
      · have h : ¬ (pu_in x (A 0) ∧ pu_in y 8 ∧ pu_st z) := fun q => h3 q.2.2
        rw [if_neg h3, pu_00, if_neg h]
    · have h : ¬ (pu_in x (A 0) ∧ pu_in y 8 ∧ pu_st z) := fun q => h2 q.2.1
      rw [if_neg h2, pu_00, if_neg h]
  · have h : ¬ (pu_in x (A 0) ∧ pu_in y 8 ∧ pu_st z) := fun q => h1 q.1
    rw [if_neg h1, pu_00, if_neg h]
theorem pg_sweep (h : pv_R σ τ) (a b c : Int32) : pv_G (fX7_sweep a b c σ) (fX8_sweep a b c τ) := by
  have h0 := h
  obtain ⟨⟨A, hB, hd, hC, hM⟩, -, -⟩ := h0
  have h6 := hB.many
  unfold fX7_sweep fX8_sweep
  rw [pm_isBrush hM hB, Option.bind_some, pc_isPlace hC hB, Option.bind_some, pu_C_isStrength]
  by_cases h1 : pu_in a (A 0) ∧ pu_in b 8
  · rw [if_pos h1, pu_10]
    by_cases h2 : pu_st c
    · have h12 : pu_in a (A 0) ∧ pu_in b 8 ∧ pu_st c := ⟨h1.1, h1.2, h2⟩
      rw [if_pos h2, if_pos h12, pu_10, pu_10]
      obtain ⟨f, hf, rfl⟩ := pu_in_of h1.1 (by omega)
      obtain ⟨q, hq, rfl⟩ := pu_in_of h1.2 (by omega)
      obtain ⟨s, hs1, hs, rfl⟩ := pu_st_of h2
      obtain ⟨σ', e1, e2, e3⟩ := pc_takeDown hC hB hf hq hs
      obtain ⟨τ', d1, d2, d3⟩ := pm_sweepL hM hB (show f < 6 by omega) hq hs
      rw [e1, d1]
      exact ⟨_, _, _, rfl, rfl, h.step e2 d2 ⟨_, ps_swA_B hB (by omega) _ (by omega), by rw [ps_swA_lo (by decide)]; exact hd, e3, d3⟩⟩
    · have h12 : ¬ (pu_in a (A 0) ∧ pu_in b 8 ∧ pu_st c) := fun q => h2 q.2.2
      rw [if_neg h2, if_neg h12, pu_00, pu_00, pv_found0, pv_finds0]
      exact pv_G.found h 0
  · have h12 : ¬ (pu_in a (A 0) ∧ pu_in b 8 ∧ pu_st c) := fun q => h1 ⟨q.1, q.2.1⟩
    rw [if_neg h1, if_neg h12, pu_00, pu_00, pv_found0, pv_finds0]
    exact pv_G.found h 0
/-! what a brush would bring -/
def ps_tk (s : js_S) (w : Int32) : js_S := (fX0_take w s).getD s
theorem pc_take {q : Nat × (Nat → Nat)} (h : pv_br σ q) (hq : q.1 < 48) (w : Nat) : fX0_take (nI w) σ = some (ps_tk σ (nI w)) ∧ pv_E11 σ (ps_tk σ (nI w)) ∧ pv_br (ps_tk σ (nI w)) (ps_push q w) := by
  obtain ⟨h1, h2, h3⟩ := h
  have e : fX0_take (nI w) σ = some (js_sI (js_sI (js_sI σ 12 q.1 (nI w)) 11 0 (nI (q.1 + 1))) 11 1 (ps_bset q ||| ps_bit w)) := by
    unfold fX0_take
    rw [h1, if_pos (show nI q.1 < (48 : Int32) from nI_lt hq (by decide)), pu_gd hq (by decide), pu_cl (by omega), pv_sI_ne (show (11 : Nat) ≠ 12 by decide), h1, nI_1, pv_sI_at, if_neg (by decide), pv_sI_ne (show (11 : Nat) ≠ 12 by decide), h2]
    rfl
  have e2 : ps_tk σ (nI w) = js_sI (js_sI (js_sI σ 12 q.1 (nI w)) 11 0 (nI (q.1 + 1))) 11 1 (ps_bset q ||| ps_bit w) := by
    unfold ps_tk
    rw [e]
    rfl
  rw [e2]
  refine ⟨e, ((pv_E11.s11 σ (by decide)).tr (pv_E11.s11 _ (by decide))).tr (pv_E11.s11 _ (by decide)), ?_, ?_, fun k hk => ?_⟩
  · rw [pv_sI_at, if_neg (by decide), pv_sI_at, if_pos rfl]; rfl
  · rw [pv_sI_at, if_pos rfl, ps_bset_push]
  · rw [pv_sI_ne (by decide), pv_sI_ne (by decide), pv_sI_at]
    have hk : k < q.1 + 1 := hk
    show _ = nI (if k = q.1 then w else q.2 k)
    by_cases e : k = q.1
    · rw [if_pos e, if_pos e]
    · rw [if_neg e, if_neg e]; exact h3 k (by omega)
theorem pc_putL59 (hB : pv_B A) {f b s more : Nat} (hf : f < A 0) (hb : b < 8) (k85 : js_S → Option js_S) (p3 p4 p6 : Int32) {q : Nat × (Nat → Nat)} (hq : q.1 ≤ 6 * b) (s0 : js_S) (hC : pv_C A s0 1) (hE : pv_E11 σ s0) (hr : pv_br s0 q) :
    ∃ s1, fX0_putUp_L59 k85 (nI f) p3 p4 p6 (nI b) (nI (ps_loose A f b s more)) js_FU (0 : Int32) s0 = k85 s1 ∧ pv_C A s1 1 ∧ pv_E11 σ s1 ∧ pv_br s1 (ps_pushes A f b q (ps_loose A f b s more)) := by
  have h6 := hB.many
  have hl := ps_loose_le A f b s more
  have hg := hB.hg (p := 8 * f + b) (by omega)
  have key := pu_loopI (fun n s0 i => fX0_putUp_L59 k85 (nI f) p3 p4 p6 (nI b) (nI (ps_loose A f b s more)) n i s0) (fun s0 i => ps_tk s0 (nI (ps_wd A f b i))) k85 (fun s0 i => pv_C A s0 1 ∧ pv_E11 σ s0 ∧ pv_br s0 (ps_pushes A f b q i)) (ps_loose A f b s more) (by omega) ?_ ?_ s0 ⟨hC, hE, hr⟩
  · exact ⟨_, key.1, key.2⟩
  · intro n t i hi ⟨h1, h2, h3⟩
    have ht := pc_take h3 (by rw [ps_pushes_n]; omega) (ps_wd A f b i)
    refine ⟨?_, (ht.2.1).E.C h1, h2.tr ht.2.1, by rw [ps_pushes_s]; exact ht.2.2⟩
    show fX0_putUp_L59 k85 (nI f) p3 p4 p6 (nI b) (nI (ps_loose A f b s more)) (n + 1) (nI i) t = _
    rw [fX0_putUp_L59, if_neg (nI_ge hi (by omega)), pc_wordAt h1 hB hf hb (by omega), Option.bind_some, show A (57 + (6 * (8 * f + b) + (A (9 + (8 * f + b)) - 1 - i))) = ps_wd A f b i from rfl, ht.1, Option.bind_some, nI_1]
  · intro n t _
    show fX0_putUp_L59 k85 (nI f) p3 p4 p6 (nI b) (nI (ps_loose A f b s more)) (n + 1) (nI (ps_loose A f b s more)) t = _
    rw [fX0_putUp_L59, if_pos (nI_le (Nat.le_refl _) (by omega))]
theorem pc_putL30 (hB : pv_B A) {f b s more : Nat} (hf : f < A 0) (hb : b < 8) (hs : s ≤ 9) (hm : more < 100000) : ∀ d i n s0, i + d = b + 1 → d < n → pv_C A s0 1 → pv_E11 σ s0 → pv_br s0 (ps_br A f s more i) →
    ∃ s1, fX0_putUp_L30 (nI f) (nI b) (nI s) (nI more) n (nI i) s0 = some s1 ∧ pv_E11 σ s1 ∧ pv_br s1 (ps_br A f s more (b + 1))
  | 0, i, n, s0, hi, hn, hC, hE, hr => by
    obtain ⟨m, rfl⟩ : ∃ m, n = m + 1 := ⟨n - 1, by omega⟩
    have : i = b + 1 := by omega
    subst this
    rw [fX0_putUp_L30, if_pos (nI_lt (by omega) (by omega))]
    exact ⟨s0, rfl, hE, hr⟩
  | d + 1, i, n, s0, hi, hn, hC, hE, hr => by
    obtain ⟨m, rfl⟩ : ∃ m, n = m + 1 := ⟨n - 1, by omega⟩
    have h6 := hB.many
    rw [fX0_putUp_L30, if_neg (nI_nlt (by omega) (by omega)), if_neg (show ¬ (8 : Int32) ≤ nI i from nI_ge (b := 8) (by omega) (by decide)), pc_loose hC hB hf (by omega) hs hm, Option.bind_some, nI_1]
    obtain ⟨s1, e1, e2, e3, e4⟩ := pc_putL59 (b := i) (s := s) (more := more) hB hf (by omega) (fun s5 => fX0_putUp_L30 (nI f) (nI b) (nI s) (nI more) m (nI (i + 1)) s5) (nI b) (nI s) (nI more) (ps_br_lt hB (by omega) i (by omega)) s0 hC hE hr
    rw [e1]
    exact pc_putL30 hB hf hb hs hm d (i + 1) m s1 (by omega) (by omega) e2 e3 (by rw [ps_br_s]; exact e4)
theorem pc_putUp11 (hC : pv_C A σ 1) (hB : pv_B A) {f b s d : Nat} (hf : f < A 0) (hb : b < 8) (hs : s ≤ 9) (hd : d ≤ 60) : ∃ σ', fX0_putUp (nI f) (nI b) (nI s) (nI d) σ = some σ' ∧ pv_E11 σ σ' ∧ pv_br σ' (ps_br A f s (d * pv_cakes (A (3 + f)) (A 2)) (b + 1)) := by
  have h6 := hB.many
  have hk := hB.kd (f := f) (by omega)
  have hdm := hB.damp
  have hc := pv_cakes_tab (A (3 + f)) (by omega) (A 2) (by omega)
  have hm : d * pv_cakes (A (3 + f)) (A 2) ≤ 60 * 6 := Nat.mul_le_mul hd hc.2
  unfold fX0_putUp
  rw [pc_kindOf hC hB hf, Option.bind_some, hC.damp, hc.1, pk_mul]
  have e0 : pv_E11 σ (js_sI (js_sI σ 11 0 (0 : Int32)) 11 1 (0 : Int32)) := (pv_E11.s11 σ (by decide)).tr (pv_E11.s11 _ (by decide))
  exact pc_putL30 hB hf hb hs (by omega) (b + 1) 0 js_FU _ (by omega) (by unfold js_FU; omega) (e0.E.C hC) e0 ⟨by rw [pv_sI_at, if_neg (by decide), pv_sI_at, if_pos rfl]; rfl, by rw [pv_sI_at, if_pos rfl]; rfl, fun k hk => by cases hk⟩
theorem pc_putUp (hC : pv_C A σ 1) (hB : pv_B A) {f b s d : Nat} (hf : f < A 0) (hb : b < 8) (hs : s ≤ 9) (hd : d ≤ 60) : ∃ σ', fX0_putUp (nI f) (nI b) (nI s) (nI d) σ = some σ' ∧ pv_EC σ σ' ∧ pv_br σ' (ps_br A f s (d * pv_cakes (A (3 + f)) (A 2)) (b + 1)) := by
  obtain ⟨σ', h1, h2, h3⟩ := pc_putUp11 hC hB hf hb hs hd
  exact ⟨σ', h1, h2.E, h3⟩
theorem pm_brL27 (hB : pv_B A) {f b : Nat} (hf : f < 6) (hb : b < 8) (k85 : js_S → Option js_S) (p2 p3 : Int32) {N : Nat} (hN : N ≤ A (9 + (8 * f + b))) {q : Nat × (Nat → Nat)} (hq : q.1 ≤ 6 * b) (s0 : js_S) (hM : pv_M A s0 1) (hE : pv_E6 τ s0) (hr : pv_cm s0 q) :
    ∃ s1, fX8_brings_L27 k85 (nI f) p2 p3 (nI b) (nI N) js_FU (0 : Int32) s0 = k85 s1 ∧ pv_M A s1 1 ∧ pv_E6 τ s1 ∧ pv_cm s1 (ps_pushes A f b q N) := by
  have hg := hB.hg (p := 8 * f + b) (by omega)
  have key := pu_loopI (fun n s0 i => fX8_brings_L27 k85 (nI f) p2 p3 (nI b) (nI N) n i s0) (fun s0 i => js_sI (js_sI s0 6 (q.1 + i) (nI (ps_wd A f b i))) 0 7 (nI (q.1 + i + 1))) k85 (fun s0 i => pv_M A s0 1 ∧ pv_E6 τ s0 ∧ pv_cm s0 (ps_pushes A f b q i)) N (by omega) ?_ ?_ s0 ⟨hM, hE, hr⟩
  · exact ⟨_, key.1, key.2⟩
  · intro n t i hi ⟨h1, h2, h3, h4⟩
    have hE2 : pv_E6 t (js_sI (js_sI t 6 (q.1 + i) (nI (ps_wd A f b i))) 0 7 (nI (q.1 + i + 1))) := (pv_E6.s6 t).tr (pv_E6.s0 _ (by decide) (by decide))
    rw [ps_pushes_n] at h3
    refine ⟨?_, hE2.M h1 (by decide) (by decide), h2.tr hE2, ?_, fun k hk => ?_⟩
    · show fX8_brings_L27 k85 (nI f) p2 p3 (nI b) (nI N) (n + 1) (nI i) t = _
      rw [fX8_brings_L27, if_neg (nI_ge hi (by omega)), pm_layers h1 hf hb, Option.bind_some, fa_lit 1, pk_sub (by omega), pk_sub (by omega), pm_spot, fa_lit 57, nI_add, pu_gd (by omega) (by decide), h3, pu_gd (by omega) (by decide), pu_cl (by omega), pu_cl (by omega), h1 _ (by omega), pv_sI_ne (show (0 : Nat) ≠ 6 by decide), h3, nI_add, nI_add]
      rfl
    · rw [pv_sI_at, if_pos rfl, ps_pushes_n]; rfl
    · rw [ps_pushes_n] at hk
      rw [pv_sI_ne (by decide), pv_sI_at, ps_pushes_s]
      show _ = nI (if k = (ps_pushes A f b q i).1 then ps_wd A f b i else (ps_pushes A f b q i).2 k)
      rw [ps_pushes_n]
      by_cases e : k = q.1 + i
      · rw [if_pos e, if_pos e]
      · rw [if_neg e, if_neg e]; exact h4 k (by rw [ps_pushes_n]; omega)
  · intro n t _
    show fX8_brings_L27 k85 (nI f) p2 p3 (nI b) (nI N) (n + 1) (nI N) t = _
    rw [fX8_brings_L27, if_pos (nI_le (Nat.le_refl _) (by omega))]
theorem pm_brL8 (hB : pv_B A) {f b s : Nat} (hf : f < 6) (hb : b < 8) (hs : s ≤ 9) : ∀ d i n s0, i + d = b + 1 → d < n → pv_M A s0 1 → pv_E6 τ s0 → pv_cm s0 (ps_br A f s 0 i) →
    ∃ s1, fX8_brings_L8 (nI f) (nI b) (nI s) n (nI i) s0 = some s1 ∧ pv_E6 τ s1 ∧ pv_cm s1 (ps_br A f s 0 (b + 1))
  | 0, i, n, s0, hi, hn, hC, hE, hr => by
    obtain ⟨m, rfl⟩ : ∃ m, n = m + 1 := ⟨n - 1, by omega⟩
    have : i = b + 1 := by omega
    subst this
    rw [fX8_brings_L8, if_pos (nI_lt (by omega) (by omega))]
    exact ⟨s0, rfl, hE, hr⟩
  | d + 1, i, n, s0, hi, hn, hC, hE, hr => by
    obtain ⟨m, rfl⟩ : ∃ m, n = m + 1 := ⟨n - 1, by omega⟩
    rw [fX8_brings_L8, if_neg (nI_nlt (by omega) (by omega)), pm_loose hC hB hf (by omega) hs, Option.bind_some, nI_1]
    obtain ⟨s1, e1, e2, e3, e4⟩ := pm_brL27 (b := i) hB hf (by omega) (fun s3 => fX8_brings_L8 (nI f) (nI b) (nI s) m (nI (i + 1)) s3) (nI b) (nI s) (ps_loose_le A f i s 0) (ps_br_lt hB hf i (by omega)) s0 hC hE hr
    rw [e1]
    exact pm_brL8 hB hf hb hs d (i + 1) m s1 (by omega) (by omega) e2 e3 (by rw [ps_br_s]; exact e4)
theorem pm_brings6 (hM : pv_M A τ 1) (hB : pv_B A) {f b s : Nat} (hf : f < 6) (hb : b < 8) (hs : s ≤ 9) : ∃ τ', fX8_brings (nI f) (nI b) (nI s) τ = some τ' ∧ pv_E6 τ τ' ∧ pv_cm τ' (ps_br A f s 0 (b + 1)) := by
  have e0 : pv_E6 τ (js_sI τ 0 7 (0 : Int32)) := pv_E6.s0 τ (by decide) (by decide)
  exact pm_brL8 hB hf hb hs (b + 1) 0 js_FU _ (by omega) (by unfold js_FU; omega) (e0.M hM (by decide) (by decide)) e0 ⟨by rw [pv_sI_at, if_pos rfl]; rfl, fun k hk => by cases hk⟩
theorem pm_broughtBy6 (hM : pv_M A τ 1) (hB : pv_B A) {f b s : Nat} (hf : f < 6) (hb : b < 8) (hs : s ≤ 9) : ∃ τ', fX8_broughtBy (nI f) (nI b) (nI s) τ = some (ps_bset (ps_br A f s 0 (b + 1)), τ') ∧ pv_E6 τ τ' ∧ pv_cm τ' (ps_br A f s 0 (b + 1)) := by
  obtain ⟨τ', e1, e2, e3, e4⟩ := pm_brings6 hM hB hf hb hs
  have hl := ps_br_lt hB (s := s) (more := 0) hf (b + 1) (by omega)
  unfold fX8_broughtBy
  rw [e1, Option.bind_some]
  refine ⟨τ', ?_, e2, e3, e4⟩
  have key := pu_loop0 (fun n a i => fX8_broughtBy_L13 n a i τ') (fun s0 k => if k < (ps_br A f s 0 (b + 1)).1 then s0 ||| ps_bit ((ps_br A f s 0 (b + 1)).2 k) else s0) (fun a => some (a, τ')) (ps_br A f s 0 (b + 1)).1 (by omega) (fun n a i hi => ?_) (fun n a => ?_) 0
  · rw [key]
    congr 2
    exact pu_fold_cong _ _ _ fun x j _ hj => if_pos (by omega)
  · show fX8_broughtBy_L13 (n + 1) a (nI i) τ' = _
    rw [fX8_broughtBy_L13, e3, if_neg (nI_ge hi (by omega)), pu_gd (by omega) (by decide), pu_cl (by omega), e4 i hi, nI_1, if_pos hi]
    rfl
  · show fX8_broughtBy_L13 (n + 1) a (nI _) τ' = _
    rw [fX8_broughtBy_L13, e3, if_pos (nI_le (Nat.le_refl _) (by omega))]
theorem pm_brings (hM : pv_M A τ 1) (hB : pv_B A) {f b s : Nat} (hf : f < 6) (hb : b < 8) (hs : s ≤ 9) : ∃ τ', fX8_brings (nI f) (nI b) (nI s) τ = some τ' ∧ pv_EM τ τ' ∧ pv_cm τ' (ps_br A f s 0 (b + 1)) := by
  obtain ⟨τ', h1, h2, h3⟩ := pm_brings6 hM hB hf hb hs
  exact ⟨τ', h1, h2.E, h3⟩
theorem pm_broughtBy (hM : pv_M A τ 1) (hB : pv_B A) {f b s : Nat} (hf : f < 6) (hb : b < 8) (hs : s ≤ 9) : ∃ τ', fX8_broughtBy (nI f) (nI b) (nI s) τ = some (ps_bset (ps_br A f s 0 (b + 1)), τ') ∧ pv_EM τ τ' ∧ pv_cm τ' (ps_br A f s 0 (b + 1)) := by
  obtain ⟨τ', h1, h2, h3⟩ := pm_broughtBy6 hM hB hf hb hs
  exact ⟨τ', h1, h2.E, h3⟩
end PB
