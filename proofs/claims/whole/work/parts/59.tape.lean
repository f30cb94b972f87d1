/-! PURE: the tape's tokens -/
def pt_let (c : Nat) : Bool := decide (97 ≤ c ∧ c ≤ 122)
def pt_dig (c : Nat) : Bool := decide (48 ≤ c ∧ c ≤ 57)
def pt_run (P : Nat → Bool) (L p : Nat) : Nat := (pu_first (fun i => !(P i)) p (L - p)).getD L
def pt_sk (T : Nat → Nat) (L p : Nat) : Nat := pt_run (fun i => decide (T i = 32)) L p
def pt_ty (T : Nat → Nat) (L q : Nat) : Nat := if L ≤ q then 0 else if pt_let (T q) then 1 else if pt_dig (T q) then 2 else if T q = 59 then 3 else 4
def pt_to (T : Nat → Nat) (L q : Nat) : Nat := if L ≤ q then q else if pt_let (T q) then pt_run (fun i => pt_let (T i)) L q else if pt_dig (T q) then pt_run (fun i => pt_dig (T i)) L q else q + 1
def pt_cs (T : Nat → Nat) (v i : Nat) : Nat := min 1000 (10 * v + (T i - 48))
def pt_cv (T : Nat → Nat) (L q : Nat) : Nat := pu_fold (pt_cs T) 0 q (pt_to T L q - q)
theorem pt_run_end {P : Nat → Bool} {L p : Nat} (h : L ≤ p) : pt_run P L p = L := by
  unfold pt_run
  rw [show L - p = 0 by omega]
  rfl
theorem pt_run_yes {P : Nat → Bool} {L p : Nat} (h : p < L) (hP : P p = true) : pt_run P L p = pt_run P L (p + 1) := by
  unfold pt_run
  rw [show L - p = (L - (p + 1)) + 1 by omega]
  show (if (!(P p)) = true then some p else pu_first _ (p + 1) (L - (p + 1))).getD L = _
  rw [hP]
  rfl
theorem pt_run_no {P : Nat → Bool} {L p : Nat} (h : p < L) (hP : ¬ P p = true) : pt_run P L p = p := by
  unfold pt_run
  rw [show L - p = (L - (p + 1)) + 1 by omega]
  show (if (!(P p)) = true then some p else pu_first _ (p + 1) (L - (p + 1))).getD L = _
  rw [Bool.not_eq_true] at hP
  rw [hP]
  rfl
theorem pt_run_ge {P : Nat → Bool} {L : Nat} : ∀ d p, p + d = L → p ≤ pt_run P L p ∧ pt_run P L p ≤ L
  | 0, p, h => by rw [pt_run_end (by omega)]; omega
  | d + 1, p, h => by
    by_cases hP : P p = true
    · rw [pt_run_yes (by omega) hP]
      have := pt_run_ge (P := P) (L := L) d (p + 1) (by omega)
      omega
    · rw [pt_run_no (by omega) hP]; omega
theorem pt_sk_le {T : Nat → Nat} {L p : Nat} (h : p ≤ L) : p ≤ pt_sk T L p ∧ pt_sk T L p ≤ L := pt_run_ge (L - p) p (by omega)
theorem pt_to_le {T : Nat → Nat} {L q : Nat} (h : q ≤ L) : q ≤ pt_to T L q ∧ pt_to T L q ≤ L := by
  unfold pt_to
  split
  · omega
  · split
    · exact pt_run_ge (L - q) q (by omega)
    · split
      · exact pt_run_ge (L - q) q (by omega)
      · omega
/-- the class's tape holds T, L long -/
def pv_tb (T : Nat → Nat) (L : Nat) (σ : js_S) : Prop := σ.1 15 0 = nI L ∧ ∀ i, i < 120 → σ.1 16 i = nI (T i)
/-- the class stands at the token that begins at q -/
def pv_tk (T : Nat → Nat) (L : Nat) (σ : js_S) (q : Nat) : Prop := σ.1 15 1 = nI (pt_ty T L q) ∧ σ.1 15 2 = nI q ∧ σ.1 15 3 = nI (pt_to T L q) ∧ (pt_ty T L q = 2 → σ.1 15 4 = nI (pt_cv T L q))
def pv_E15 (σ σ' : js_S) : Prop := (∀ k, k ≠ 15 → σ'.1 k = σ.1 k) ∧ σ'.1 15 0 = σ.1 15 0 ∧ σ'.2 = σ.2
theorem pv_E15.rf (σ : js_S) : pv_E15 σ σ := ⟨fun _ _ => rfl, rfl, rfl⟩
theorem pv_E15.tr {a b c : js_S} (h : pv_E15 a b) (g : pv_E15 b c) : pv_E15 a c := ⟨fun k h1 => (g.1 k h1).trans (h.1 k h1), g.2.1.trans h.2.1, g.2.2.trans h.2.2⟩
theorem pv_E15.put (σ : js_S) {i : Nat} {v : Int32} (hi : i ≠ 0) : pv_E15 σ (js_sI σ 15 i v) := ⟨fun k h => pv_sI_ne h, by rw [pv_sI_at, if_neg (fun e => hi e.symm)], rfl⟩
theorem pv_E15.tb {T : Nat → Nat} {L : Nat} {σ σ' : js_S} (e : pv_E15 σ σ') (h : pv_tb T L σ) : pv_tb T L σ' := ⟨by rw [e.2.1]; exact h.1, by rw [e.1 16 (by decide)]; exact h.2⟩
theorem pv_E15.E {σ σ' : js_S} (e : pv_E15 σ σ') : pv_EC σ σ' := ⟨fun k _ _ _ _ h _ _ => e.1 k h, e.2⟩
section PT
variable {T : Nat → Nat} {L : Nat} {σ τ : js_S}
theorem pc_at (h : pv_tb T L σ) (hL : L ≤ 120) {i : Nat} (hi : i < L) : fX4_at (nI i) σ = some (nI (T i)) := by
  unfold fX4_at
  rw [if_neg (nI_pos (by omega)), h.1, if_neg (nI_ge hi (by omega)), if_neg (show ¬ (120 : Int32) ≤ nI i from nI_ge (b := 120) (by omega) (by decide)), pu_gd (by omega) (by decide), pu_cl (by omega), h.2 i (by omega)]
theorem pu_C_let {c : Nat} (hc : c < 256) : fX4_isLetter (nI c) = if pt_let c then 1 else 0 := by
  unfold fX4_isLetter pt_let
  have e1 : (nI c < (97 : Int32)) ↔ c < 97 := nI_ltI (b := 97) (by omega) (by decide)
  have e2 : ((122 : Int32) < nI c) ↔ 122 < c := nI_ltI (a := 122) (by decide) (by omega)
  by_cases h1 : c < 97
  · have q : ¬ decide (97 ≤ c ∧ c ≤ 122) = true := by rw [decide_eq_true_iff]; omega
    rw [if_pos (e1.mpr h1), if_neg q]
  · rw [if_neg (fun x => h1 (e1.mp x))]
    by_cases h2 : 122 < c
    · have q : ¬ decide (97 ≤ c ∧ c ≤ 122) = true := by rw [decide_eq_true_iff]; omega
      rw [if_pos (e2.mpr h2), if_neg q]
    · have q : decide (97 ≤ c ∧ c ≤ 122) = true := by rw [decide_eq_true_iff]; omega
      rw [if_neg (fun x => h2 (e2.mp x)), if_pos q]
theorem pu_C_dig {c : Nat} (hc : c < 256) : fX4_isDigit (nI c) = if pt_dig c then 1 else 0 := by
  unfold fX4_isDigit pt_dig
  have e1 : (nI c < (48 : Int32)) ↔ c < 48 := nI_ltI (b := 48) (by omega) (by decide)
  have e2 : ((57 : Int32) < nI c) ↔ 57 < c := nI_ltI (a := 57) (by decide) (by omega)
  by_cases h1 : c < 48
  · have q : ¬ decide (48 ≤ c ∧ c ≤ 57) = true := by rw [decide_eq_true_iff]; omega
    rw [if_pos (e1.mpr h1), if_neg q]
  · rw [if_neg (fun x => h1 (e1.mp x))]
    by_cases h2 : 57 < c
    · have q : ¬ decide (48 ≤ c ∧ c ≤ 57) = true := by rw [decide_eq_true_iff]; omega
      rw [if_pos (e2.mpr h2), if_neg q]
    · have q : decide (48 ≤ c ∧ c ≤ 57) = true := by rw [decide_eq_true_iff]; omega
      rw [if_neg (fun x => h2 (e2.mp x)), if_pos q]
theorem pu_M_let {c : Nat} (hc : c < 256) : fX8_isLetter (nI c) = if pt_let c then 1 else 0 := by
  unfold fX8_isLetter pt_let
  rw [pu_fin, Int32.toInt_toInt64, nI_toInt (by omega)]
  have e : ((97 : Int64).toInt ≤ (c : Int) ∧ (c : Int) ≤ (122 : Int64).toInt) ↔ (97 ≤ c ∧ c ≤ 122) := by
    have a1 : (97 : Int64).toInt = 97 := rfl
    have a2 : (122 : Int64).toInt = 122 := rfl
    omega
  by_cases h : 97 ≤ c ∧ c ≤ 122
  · rw [if_pos (e.mpr h), if_pos (decide_eq_true h)]
  · rw [if_neg (fun x => h (e.mp x)), if_neg (fun x => h (of_decide_eq_true x))]
theorem pu_M_dig {c : Nat} (hc : c < 256) : fX8_isDigit (nI c) = if pt_dig c then 1 else 0 := by
  unfold fX8_isDigit pt_dig
  rw [pu_fin, Int32.toInt_toInt64, nI_toInt (by omega)]
  have e : ((48 : Int64).toInt ≤ (c : Int) ∧ (c : Int) ≤ (57 : Int64).toInt) ↔ (48 ≤ c ∧ c ≤ 57) := by
    have a1 : (48 : Int64).toInt = 48 := rfl
    have a2 : (57 : Int64).toInt = 57 := rfl
    omega
  by_cases h : 48 ≤ c ∧ c ≤ 57
  · rw [if_pos (e.mpr h), if_pos (decide_eq_true h)]
  · rw [if_neg (fun x => h (e.mp x)), if_neg (fun x => h (of_decide_eq_true x))]
theorem pc_stepL8 (hL : L ≤ 120) (hT : ∀ i, T i < 256) (K : js_S → Option js_S) : ∀ d p n s0, p + d = L → d < n → pv_tb T L s0 → pv_E15 σ s0 → s0.1 15 2 = nI p → ∃ s1, fX4_step_L8 K n s0 = K s1 ∧ pv_E15 σ s1 ∧ s1.1 15 2 = nI (pt_sk T L p)
  | 0, p, n, s0, hp, hn, hb, hE, h2 => by
    obtain ⟨n, rfl⟩ : ∃ m, n = m + 1 := ⟨n - 1, by omega⟩
    rw [fX4_step_L8, hb.1, h2, if_pos (nI_le (by omega) (by omega))]
    exact ⟨s0, rfl, hE, by unfold pt_sk; rw [h2, pt_run_end (by omega), show p = L by omega]⟩
  | d + 1, p, n, s0, hp, hn, hb, hE, h2 => by
    obtain ⟨n, rfl⟩ : ∃ m, n = m + 1 := ⟨n - 1, by omega⟩
    have ht := hT p
    rw [fX4_step_L8, hb.1, h2, if_neg (nI_ge (by omega) (by omega)), pc_at hb hL (by omega), Option.bind_some, nI_1]
    have e32 : (nI (T p) = (32 : Int32)) ↔ T p = 32 := nI_eq (b := 32) (by omega) (by decide)
    by_cases e : T p = 32
    · rw [if_pos (e32.mpr e)]
      have := pc_stepL8 hL hT K d (p + 1) n (js_sI s0 15 2 (nI (p + 1))) (by omega) (by omega) ((pv_E15.put s0 (by decide)).tb hb) (hE.tr (pv_E15.put s0 (by decide))) (by rw [pv_sI_at, if_pos rfl])
      have hr : pt_sk T L p = pt_sk T L (p + 1) := pt_run_yes (by omega) (decide_eq_true e)
      rw [hr]
      exact this
    · rw [if_neg (fun x => e (e32.mp x))]
      have hr : pt_sk T L p = p := pt_run_no (by omega) (fun x => e (of_decide_eq_true x))
      exact ⟨s0, rfl, hE, by rw [hr]; exact h2⟩
theorem pc_stepL96 (hL : L ≤ 120) (hT : ∀ i, T i < 256) : ∀ d p n s0, p + d = L → d < n → pv_tb T L s0 → s0.1 15 3 = nI p → ∃ s1, fX4_step_L96 n s0 = some s1 ∧ pv_E15 s0 s1 ∧ s1.1 15 1 = s0.1 15 1 ∧ s1.1 15 2 = s0.1 15 2 ∧ s1.1 15 3 = nI (pt_run (fun i => pt_let (T i)) L p)
  | 0, p, n, s0, hp, hn, hb, h2 => by
    obtain ⟨n, rfl⟩ : ∃ m, n = m + 1 := ⟨n - 1, by omega⟩
    rw [fX4_step_L96, hb.1, h2, if_pos (nI_le (by omega) (by omega))]
    exact ⟨s0, rfl, pv_E15.rf s0, rfl, rfl, by rw [h2, pt_run_end (by omega), show p = L by omega]⟩
  | d + 1, p, n, s0, hp, hn, hb, h2 => by
    obtain ⟨n, rfl⟩ : ∃ m, n = m + 1 := ⟨n - 1, by omega⟩
    have ht := hT p
    rw [fX4_step_L96, hb.1, h2, if_neg (nI_ge (by omega) (by omega)), pc_at hb hL (by omega), Option.bind_some, nI_1, pu_C_let ht]
    by_cases e : pt_let (T p) = true
    · rw [if_pos e, if_neg (show ¬ (1 : Int32) = 0 by decide)]
      obtain ⟨s1, c1, c2, c3, c4, c5⟩ := pc_stepL96 hL hT d (p + 1) n (js_sI s0 15 3 (nI (p + 1))) (by omega) (by omega) ((pv_E15.put s0 (by decide)).tb hb) (by rw [pv_sI_at, if_pos rfl])
      refine ⟨s1, c1, (pv_E15.put s0 (by decide)).tr c2, ?_, ?_, ?_⟩
      · rw [c3, pv_sI_at, if_neg (by decide)]
      · rw [c4, pv_sI_at, if_neg (by decide)]
      · rw [c5, pt_run_yes (p := p) (by omega) e]
    · rw [if_neg e, if_pos (show (0 : Int32) = 0 from rfl)]
      exact ⟨s0, rfl, pv_E15.rf s0, rfl, rfl, by rw [h2, pt_run_no (p := p) (by omega) e]⟩
theorem pt_cs_le (v i : Nat) : pt_cs T v i ≤ 1000 := by unfold pt_cs; omega
theorem pc_stepL153 (hL : L ≤ 120) (hT : ∀ i, T i < 256) : ∀ d p v n s0, p + d = L → d < n → v ≤ 1000 → pv_tb T L s0 → s0.1 15 3 = nI p → s0.1 15 4 = nI v → ∃ s1, fX4_step_L153 n s0 = some s1 ∧ pv_E15 s0 s1 ∧ s1.1 15 1 = s0.1 15 1 ∧ s1.1 15 2 = s0.1 15 2 ∧ s1.1 15 3 = nI (pt_run (fun i => pt_dig (T i)) L p) ∧ s1.1 15 4 = nI (pu_fold (pt_cs T) v p (pt_run (fun i => pt_dig (T i)) L p - p))
  | 0, p, v, n, s0, hp, hn, hv, hb, h2, h4 => by
    obtain ⟨n, rfl⟩ : ∃ m, n = m + 1 := ⟨n - 1, by omega⟩
    rw [fX4_step_L153, hb.1, h2, if_pos (nI_le (by omega) (by omega))]
    refine ⟨s0, rfl, pv_E15.rf s0, rfl, rfl, by rw [h2, pt_run_end (by omega), show p = L by omega], ?_⟩
    rw [pt_run_end (by omega), show L - p = 0 by omega, h4]
    rfl
  | d + 1, p, v, n, s0, hp, hn, hv, hb, h2, h4 => by
    obtain ⟨n, rfl⟩ : ∃ m, n = m + 1 := ⟨n - 1, by omega⟩
    have ht := hT p
    rw [fX4_step_L153, hb.1, h2, if_neg (nI_ge (by omega) (by omega)), pc_at hb hL (by omega), Option.bind_some, Option.bind_some, pu_C_dig ht]
    by_cases e : pt_dig (T p) = true
    · have e48 := of_decide_eq_true e
      have hval : (if (((10 : Int32) * s0.1 15 4 + nI (T p)) - (48 : Int32)) < (1000 : Int32) then (((10 : Int32) * s0.1 15 4 + nI (T p)) - (48 : Int32)) else (1000 : Int32)) = nI (pt_cs T v p) := by
        rw [h4, fa_lit 10, pk_mul, nI_add, fa_lit 48, pk_sub (by omega)]
        unfold pt_cs
        have e1 : (nI (10 * v + T p - 48) < (1000 : Int32)) ↔ 10 * v + T p - 48 < 1000 := nI_ltI (b := 1000) (by omega) (by decide)
        by_cases e2 : 10 * v + T p - 48 < 1000
        · rw [if_pos (e1.mpr e2)]
          congr 1
          omega
        · rw [if_neg (fun x => e2 (e1.mp x)), show min 1000 (10 * v + (T p - 48)) = 1000 by omega]
          rfl
      rw [if_pos e, if_neg (show ¬ (1 : Int32) = 0 by decide), hval, pv_sI_at, if_neg (show ¬ (3 : Nat) = 4 by decide), h2, nI_1]
      obtain ⟨s1, c1, c2, c3, c4, c5, c6⟩ := pc_stepL153 hL hT d (p + 1) (pt_cs T v p) n (js_sI (js_sI s0 15 4 (nI (pt_cs T v p))) 15 3 (nI (p + 1))) (by omega) (by omega) (pt_cs_le v p) (((pv_E15.put s0 (by decide)).tr (pv_E15.put _ (by decide))).tb hb) (by rw [pv_sI_at, if_pos rfl]) (by rw [pv_sI_at, if_neg (by decide), pv_sI_at, if_pos rfl])
      have hge := (pt_run_ge (P := fun i => pt_dig (T i)) (L := L) (L - (p + 1)) (p + 1) (by omega)).1
      refine ⟨s1, c1, ((pv_E15.put s0 (by decide)).tr (pv_E15.put _ (by decide))).tr c2, ?_, ?_, ?_, ?_⟩
      · rw [c3, pv_sI_at, if_neg (by decide), pv_sI_at, if_neg (by decide)]
      · rw [c4, pv_sI_at, if_neg (by decide), pv_sI_at, if_neg (by decide)]
      · rw [c5, pt_run_yes (p := p) (by omega) e]
      · rw [c6, pt_run_yes (p := p) (by omega) e, show pt_run (fun i => pt_dig (T i)) L (p + 1) - p = (pt_run (fun i => pt_dig (T i)) L (p + 1) - (p + 1)) + 1 by omega]
        rfl
    · rw [if_neg e, if_pos (show (0 : Int32) = 0 from rfl)]
      refine ⟨s0, rfl, pv_E15.rf s0, rfl, rfl, by rw [h2, pt_run_no (p := p) (by omega) e], ?_⟩
      rw [pt_run_no (p := p) (by omega) e, Nat.sub_self, h4]
      rfl
theorem pc_step (hL : L ≤ 120) (hT : ∀ i, T i < 256) (hb : pv_tb T L σ) {p : Nat} (hp : p ≤ L) (h3 : σ.1 15 3 = nI p) : ∃ σ', fX4_step σ = some σ' ∧ pv_E15 σ σ' ∧ pv_tk T L σ' (pt_sk T L p) := by
  have hq := (pt_sk_le (T := T) hp).2
  unfold fX4_step
  rw [h3]
  have E0 := pv_E15.put (i := 2) (v := nI p) σ (by decide)
  obtain ⟨s2, c1, c2, c3⟩ := pc_stepL8 (σ := σ) hL hT (fun s2 => (if ((js_sI (js_sI s2 15 3 (s2.1 15 2)) 15 4 (0 : Int32)).1 15 2) < ((js_sI (js_sI s2 15 3 (s2.1 15 2)) 15 4 (0 : Int32)).1 15 0) then (fX4_at ((js_sI (js_sI s2 15 3 (s2.1 15 2)) 15 4 (0 : Int32)).1 15 2) (js_sI (js_sI s2 15 3 (s2.1 15 2)) 15 4 (0 : Int32))).bind fun r3 => (if (fX4_isLetter r3) = 0 then (fX4_at ((js_sI (js_sI s2 15 3 (s2.1 15 2)) 15 4 (0 : Int32)).1 15 2) (js_sI (js_sI s2 15 3 (s2.1 15 2)) 15 4 (0 : Int32))).bind fun r4 => (if (fX4_isDigit r4) = 0 then (fX4_at ((js_sI (js_sI s2 15 3 (s2.1 15 2)) 15 4 (0 : Int32)).1 15 2) (js_sI (js_sI s2 15 3 (s2.1 15 2)) 15 4 (0 : Int32))).bind fun r5 => (if r5 = (59 : Int32) then some (js_sI (js_sI (js_sI (js_sI s2 15 3 (s2.1 15 2)) 15 4 (0 : Int32)) 15 1 (3 : Int32)) 15 3 (((js_sI (js_sI (js_sI s2 15 3 (s2.1 15 2)) 15 4 (0 : Int32)) 15 1 (3 : Int32)).1 15 3) + (1 : Int32))) else some (js_sI (js_sI (js_sI (js_sI s2 15 3 (s2.1 15 2)) 15 4 (0 : Int32)) 15 1 (4 : Int32)) 15 3 (((js_sI (js_sI (js_sI s2 15 3 (s2.1 15 2)) 15 4 (0 : Int32)) 15 1 (4 : Int32)).1 15 3) + (1 : Int32)))) else fX4_step_L153 js_FU (js_sI (js_sI (js_sI s2 15 3 (s2.1 15 2)) 15 4 (0 : Int32)) 15 1 (2 : Int32))) else fX4_step_L96 js_FU (js_sI (js_sI (js_sI s2 15 3 (s2.1 15 2)) 15 4 (0 : Int32)) 15 1 (1 : Int32))) else some (js_sI (js_sI (js_sI s2 15 3 (s2.1 15 2)) 15 4 (0 : Int32)) 15 1 (0 : Int32)))) (L - p) p js_FU (js_sI σ 15 2 (nI p)) (by omega) (by unfold js_FU; omega) (E0.tb hb) E0 (by rw [pv_sI_at, if_pos rfl])
  rw [c1]
  generalize pt_sk T L p = q at *
  have E3 : pv_E15 σ (js_sI (js_sI s2 15 3 (s2.1 15 2)) 15 4 (0 : Int32)) := (c2.tr (pv_E15.put s2 (by decide))).tr (pv_E15.put _ (by decide))
  have x2 : (js_sI (js_sI s2 15 3 (s2.1 15 2)) 15 4 (0 : Int32)).1 15 2 = nI q := by rw [pv_sI_at, if_neg (by decide), pv_sI_at, if_neg (by decide), c3]
  have x3 : (js_sI (js_sI s2 15 3 (s2.1 15 2)) 15 4 (0 : Int32)).1 15 3 = nI q := by rw [pv_sI_at, if_neg (by decide), pv_sI_at, if_pos rfl, c3]
  have x4 : (js_sI (js_sI s2 15 3 (s2.1 15 2)) 15 4 (0 : Int32)).1 15 4 = nI 0 := by rw [pv_sI_at, if_pos rfl]; rfl
  generalize (js_sI (js_sI s2 15 3 (s2.1 15 2)) 15 4 (0 : Int32)) = s3 at *
  have hb3 := E3.tb hb
  rw [x2, hb3.1]
  by_cases e0 : L ≤ q
  · have ty : pt_ty T L q = 0 := by unfold pt_ty; rw [if_pos e0]
    have to : pt_to T L q = q := by unfold pt_to; rw [if_pos e0]
    rw [if_neg (nI_nlt e0 (by omega))]
    refine ⟨_, rfl, E3.tr (pv_E15.put s3 (by decide)), ?_, ?_, ?_, fun x => ?_⟩
    · rw [pv_sI_at, if_pos rfl, ty]; rfl
    · rw [pv_sI_at, if_neg (by decide), x2]
    · rw [pv_sI_at, if_neg (by decide), x3, to]
    · rw [ty] at x; cases x
  · rw [if_pos (nI_lt (by omega) (by omega)), pc_at hb3 hL (by omega), Option.bind_some, Option.bind_some, Option.bind_some, pu_C_let (hT q), pu_C_dig (hT q)]
    by_cases e1 : pt_let (T q) = true
    · have ty : pt_ty T L q = 1 := by unfold pt_ty; rw [if_neg e0, if_pos e1]
      have to : pt_to T L q = pt_run (fun i => pt_let (T i)) L q := by unfold pt_to; rw [if_neg e0, if_pos e1]
      rw [if_pos e1, if_neg (show ¬ (1 : Int32) = 0 by decide)]
      have E4 := pv_E15.put (i := 1) (v := (1 : Int32)) s3 (by decide)
      obtain ⟨s1, d1, d2, d3, d4, d5⟩ := pc_stepL96 hL hT (L - q) q js_FU (js_sI s3 15 1 (1 : Int32)) (by omega) (by unfold js_FU; omega) (E4.tb hb3) (by rw [pv_sI_at, if_neg (by decide), x3])
      refine ⟨s1, d1, (E3.tr E4).tr d2, ?_, ?_, ?_, fun x => ?_⟩
      · rw [d3, pv_sI_at, if_pos rfl, ty]; rfl
      · rw [d4, pv_sI_at, if_neg (by decide), x2]
      · rw [d5, to]
      · rw [ty] at x; cases x
    · rw [if_neg e1, if_pos (show (0 : Int32) = 0 from rfl)]
      by_cases e2 : pt_dig (T q) = true
      · have ty : pt_ty T L q = 2 := by unfold pt_ty; rw [if_neg e0, if_neg e1, if_pos e2]
        have to : pt_to T L q = pt_run (fun i => pt_dig (T i)) L q := by unfold pt_to; rw [if_neg e0, if_neg e1, if_pos e2]
        rw [if_pos e2, if_neg (show ¬ (1 : Int32) = 0 by decide)]
        have E4 := pv_E15.put (i := 1) (v := (2 : Int32)) s3 (by decide)
        obtain ⟨s1, d1, d2, d3, d4, d5, d6⟩ := pc_stepL153 hL hT (L - q) q 0 js_FU (js_sI s3 15 1 (2 : Int32)) (by omega) (by unfold js_FU; omega) (by omega) (E4.tb hb3) (by rw [pv_sI_at, if_neg (by decide), x3]) (by rw [pv_sI_at, if_neg (by decide), x4])
        refine ⟨s1, d1, (E3.tr E4).tr d2, ?_, ?_, ?_, fun x => ?_⟩
        · rw [d3, pv_sI_at, if_pos rfl, ty]; rfl
        · rw [d4, pv_sI_at, if_neg (by decide), x2]
        · rw [d5, to]
        · rw [d6]; unfold pt_cv; rw [to]
      · have to : pt_to T L q = q + 1 := by unfold pt_to; rw [if_neg e0, if_neg e1, if_neg e2]
        rw [if_neg e2, if_pos (show (0 : Int32) = 0 from rfl)]
        have ht := hT q
        have e59 : (nI (T q) = (59 : Int32)) ↔ T q = 59 := nI_eq (b := 59) (by omega) (by decide)
        by_cases e3 : T q = 59
        · have ty : pt_ty T L q = 3 := by unfold pt_ty; rw [if_neg e0, if_neg e1, if_neg e2, if_pos e3]
          rw [if_pos (e59.mpr e3)]
          refine ⟨_, rfl, (E3.tr (pv_E15.put s3 (by decide))).tr (pv_E15.put _ (by decide)), ?_, ?_, ?_, fun x => ?_⟩
          · rw [pv_sI_at, if_neg (by decide), pv_sI_at, if_pos rfl, ty]; rfl
          · rw [pv_sI_at, if_neg (by decide), pv_sI_at, if_neg (by decide), x2]
          · rw [pv_sI_at, if_pos rfl, pv_sI_at, if_neg (by decide), x3, nI_1, to]
          · rw [ty] at x; cases x
        · have ty : pt_ty T L q = 4 := by unfold pt_ty; rw [if_neg e0, if_neg e1, if_neg e2, if_neg e3]
          rw [if_neg (fun x => e3 (e59.mp x))]
          refine ⟨_, rfl, (E3.tr (pv_E15.put s3 (by decide))).tr (pv_E15.put _ (by decide)), ?_, ?_, ?_, fun x => ?_⟩
          · rw [pv_sI_at, if_neg (by decide), pv_sI_at, if_pos rfl, ty]; rfl
          · rw [pv_sI_at, if_neg (by decide), pv_sI_at, if_neg (by decide), x2]
          · rw [pv_sI_at, if_pos rfl, pv_sI_at, if_neg (by decide), x3, nI_1, to]
          · rw [ty] at x; cases x
end PT
/-! the reference's -/
def pv_tbm (T : Nat → Nat) (L : Nat) (τ : js_S) : Prop := τ.1 0 9 = nI L ∧ ∀ i, i < 120 → τ.1 7 i = nI (T i)
def pv_tkm (T : Nat → Nat) (L : Nat) (τ : js_S) (q : Nat) : Prop := τ.1 0 10 = nI q ∧ τ.1 0 11 = nI (pt_to T L q)
/-- only the reference's token has changed -/
def pv_E0 (τ τ' : js_S) : Prop := (∀ k, k ≠ 0 → τ'.1 k = τ.1 k) ∧ (∀ i, i ≠ 10 → i ≠ 11 → τ'.1 0 i = τ.1 0 i) ∧ τ'.2 = τ.2
theorem pv_E0.rf (τ : js_S) : pv_E0 τ τ := ⟨fun _ _ => rfl, fun _ _ _ => rfl, rfl⟩
theorem pv_E0.tr {a b c : js_S} (h : pv_E0 a b) (g : pv_E0 b c) : pv_E0 a c := ⟨fun k h1 => (g.1 k h1).trans (h.1 k h1), fun i h1 h2 => (g.2.1 i h1 h2).trans (h.2.1 i h1 h2), g.2.2.trans h.2.2⟩
theorem pv_E0.put (τ : js_S) {i : Nat} {v : Int32} (hi : i = 10 ∨ i = 11) : pv_E0 τ (js_sI τ 0 i v) := ⟨fun k h => pv_sI_ne h, fun j h1 h2 => by rw [pv_sI_at, if_neg (by omega)], rfl⟩
theorem pv_E0.tb {T : Nat → Nat} {L : Nat} {τ τ' : js_S} (e : pv_E0 τ τ') (h : pv_tbm T L τ) : pv_tbm T L τ' := ⟨by rw [e.2.1 9 (by decide) (by decide)]; exact h.1, by rw [e.1 7 (by decide)]; exact h.2⟩
section PU
variable {T : Nat → Nat} {L : Nat} {σ τ : js_S}
theorem pm_at (h : pv_tbm T L τ) (hL : L ≤ 120) {i : Nat} (hi : i < L) : fX8_byteAt (nI i) τ = some (nI (T i)) := by
  unfold fX8_byteAt
  rw [h.1, if_neg (nI_ge hi (by omega)), pu_gd (by omega) (by decide), pu_cl (by omega), h.2 i (by omega)]
theorem pm_atE (h : pv_tbm T L τ) {i : Nat} (hi : L ≤ i) (hi2 : i < 1000) : fX8_byteAt (nI i) τ = some (-1 : Int32) := by
  unfold fX8_byteAt
  rw [h.1, if_pos (nI_le hi (by omega))]
theorem pm_tokL8 (hL : L ≤ 120) (hT : ∀ i, T i < 256) (K : js_S → Option js_S) : ∀ d p n s0, p + d = L → d < n → pv_tbm T L s0 → pv_E0 τ s0 → s0.1 0 10 = nI p → ∃ s1, fX8_token_L8 K n s0 = K s1 ∧ pv_E0 τ s1 ∧ s1.1 0 10 = nI (pt_sk T L p)
  | 0, p, n, s0, hp, hn, hb, hE, h2 => by
    obtain ⟨n, rfl⟩ : ∃ m, n = m + 1 := ⟨n - 1, by omega⟩
    rw [fX8_token_L8, h2, pm_atE hb (by omega) (by omega), Option.bind_some, if_neg (by decide)]
    exact ⟨s0, rfl, hE, by unfold pt_sk; rw [h2, pt_run_end (by omega), show p = L by omega]⟩
  | d + 1, p, n, s0, hp, hn, hb, hE, h2 => by
    obtain ⟨n, rfl⟩ : ∃ m, n = m + 1 := ⟨n - 1, by omega⟩
    have ht := hT p
    rw [fX8_token_L8, h2, pm_at hb hL (by omega), Option.bind_some, nI_1]
    have e32 : (nI (T p) = (32 : Int32)) ↔ T p = 32 := nI_eq (b := 32) (by omega) (by decide)
    by_cases e : T p = 32
    · rw [if_pos (e32.mpr e)]
      have := pm_tokL8 hL hT K d (p + 1) n (js_sI s0 0 10 (nI (p + 1))) (by omega) (by omega) ((pv_E0.put s0 (by decide)).tb hb) (hE.tr (pv_E0.put s0 (by decide))) (by rw [pv_sI_at, if_pos rfl])
      have hr : pt_sk T L p = pt_sk T L (p + 1) := pt_run_yes (by omega) (decide_eq_true e)
      rw [hr]
      exact this
    · rw [if_neg (fun x => e (e32.mp x))]
      have hr : pt_sk T L p = p := pt_run_no (by omega) (fun x => e (of_decide_eq_true x))
      exact ⟨s0, rfl, hE, by rw [hr]; exact h2⟩
theorem pm_L86let (hL : L ≤ 120) (hT : ∀ i, T i < 256) : ∀ d p n s0, p + d = L → d < n → pv_tbm T L s0 → s0.1 0 11 = nI p → ∃ s1, fX8_token_L86_3 (1 : Int32) (0 : Int32) n s0 = some s1 ∧ pv_E0 s0 s1 ∧ s1.1 0 10 = s0.1 0 10 ∧ s1.1 0 11 = nI (pt_run (fun i => pt_let (T i)) L p)
  | 0, p, n, s0, hp, hn, hb, h2 => by
    obtain ⟨n, rfl⟩ : ∃ m, n = m + 1 := ⟨n - 1, by omega⟩
    rw [fX8_token_L86_3, if_neg (show ¬ (1 : Int32) = 0 by decide), h2, pm_atE hb (by omega) (by omega), Option.bind_some, if_pos (show fX8_isLetter (-1 : Int32) = 0 by decide), if_pos rfl]
    exact ⟨s0, rfl, pv_E0.rf s0, rfl, by rw [h2, pt_run_end (by omega), show p = L by omega]⟩
  | d + 1, p, n, s0, hp, hn, hb, h2 => by
    obtain ⟨n, rfl⟩ : ∃ m, n = m + 1 := ⟨n - 1, by omega⟩
    rw [fX8_token_L86_3, if_neg (show ¬ (1 : Int32) = 0 by decide), h2, pm_at hb hL (by omega), Option.bind_some, pu_M_let (hT p), nI_1]
    by_cases e : pt_let (T p) = true
    · rw [if_pos e, if_neg (show ¬ (1 : Int32) = 0 by decide)]
      obtain ⟨s1, c1, c2, c3, c4⟩ := pm_L86let hL hT d (p + 1) n (js_sI s0 0 11 (nI (p + 1))) (by omega) (by omega) ((pv_E0.put s0 (by decide)).tb hb) (by rw [pv_sI_at, if_pos rfl])
      exact ⟨s1, c1, (pv_E0.put s0 (by decide)).tr c2, by rw [c3, pv_sI_at, if_neg (by decide)], by rw [c4, pt_run_yes (p := p) (by omega) e]⟩
    · rw [if_neg e, if_pos (show (0 : Int32) = 0 from rfl), if_pos (show (0 : Int32) = 0 from rfl)]
      exact ⟨s0, rfl, pv_E0.rf s0, rfl, by rw [h2, pt_run_no (p := p) (by omega) e]⟩
theorem pm_L86dig (hL : L ≤ 120) (hT : ∀ i, T i < 256) : ∀ d p n s0, p + d = L → d < n → pv_tbm T L s0 → s0.1 0 11 = nI p → ∃ s1, fX8_token_L86_3 (0 : Int32) (1 : Int32) n s0 = some s1 ∧ pv_E0 s0 s1 ∧ s1.1 0 10 = s0.1 0 10 ∧ s1.1 0 11 = nI (pt_run (fun i => pt_dig (T i)) L p)
  | 0, p, n, s0, hp, hn, hb, h2 => by
    obtain ⟨n, rfl⟩ : ∃ m, n = m + 1 := ⟨n - 1, by omega⟩
    rw [fX8_token_L86_3, if_pos (show (0 : Int32) = 0 from rfl), if_neg (show ¬ (1 : Int32) = 0 by decide), h2, pm_atE hb (by omega) (by omega), Option.bind_some, if_pos (show fX8_isDigit (-1 : Int32) = 0 by decide)]
    exact ⟨s0, rfl, pv_E0.rf s0, rfl, by rw [h2, pt_run_end (by omega), show p = L by omega]⟩
  | d + 1, p, n, s0, hp, hn, hb, h2 => by
    obtain ⟨n, rfl⟩ : ∃ m, n = m + 1 := ⟨n - 1, by omega⟩
    rw [fX8_token_L86_3, if_pos (show (0 : Int32) = 0 from rfl), if_neg (show ¬ (1 : Int32) = 0 by decide), h2, pm_at hb hL (by omega), Option.bind_some, pu_M_dig (hT p), nI_1]
    by_cases e : pt_dig (T p) = true
    · rw [if_pos e, if_neg (show ¬ (1 : Int32) = 0 by decide)]
      obtain ⟨s1, c1, c2, c3, c4⟩ := pm_L86dig hL hT d (p + 1) n (js_sI s0 0 11 (nI (p + 1))) (by omega) (by omega) ((pv_E0.put s0 (by decide)).tb hb) (by rw [pv_sI_at, if_pos rfl])
      exact ⟨s1, c1, (pv_E0.put s0 (by decide)).tr c2, by rw [c3, pv_sI_at, if_neg (by decide)], by rw [c4, pt_run_yes (p := p) (by omega) e]⟩
    · rw [if_neg e, if_pos (show (0 : Int32) = 0 from rfl)]
      exact ⟨s0, rfl, pv_E0.rf s0, rfl, by rw [h2, pt_run_no (p := p) (by omega) e]⟩
theorem pm_token (hL : L ≤ 120) (hT : ∀ i, T i < 256) (hb : pv_tbm T L τ) {p : Nat} (hp : p ≤ L) (h3 : τ.1 0 11 = nI p) : ∃ τ', fX8_token τ = some τ' ∧ pv_E0 τ τ' ∧ pv_tkm T L τ' (pt_sk T L p) := by
  have hq := (pt_sk_le (T := T) hp).2
  unfold fX8_token
  rw [h3]
  have E0 := pv_E0.put (i := 10) (v := nI p) τ (by decide)
  obtain ⟨s2, c1, c2, c3⟩ := pm_tokL8 (τ := τ) hL hT (fun s2 => (fX8_byteAt (s2.1 0 10) s2).bind fun r3 => (fX8_byteAt (s2.1 0 10) s2).bind fun r4 => (if (s2.1 0 9) ≤ (s2.1 0 10) then fX8_token_L86 (fX8_isLetter r3) (fX8_isDigit r4) js_FU (js_sI s2 0 11 (s2.1 0 10)) else fX8_token_L86_3 (fX8_isLetter r3) (fX8_isDigit r4) js_FU (js_sI s2 0 11 ((s2.1 0 10) + (1 : Int32))))) (L - p) p js_FU (js_sI τ 0 10 (nI p)) (by omega) (by unfold js_FU; omega) (E0.tb hb) E0 (by rw [pv_sI_at, if_pos rfl])
  rw [c1]
  generalize pt_sk T L p = q at *
  have hb2 := c2.tb hb
  show ∃ τ', ((fX8_byteAt (s2.1 0 10) s2).bind fun r3 => (fX8_byteAt (s2.1 0 10) s2).bind fun r4 => (if (s2.1 0 9) ≤ (s2.1 0 10) then fX8_token_L86 (fX8_isLetter r3) (fX8_isDigit r4) js_FU (js_sI s2 0 11 (s2.1 0 10)) else fX8_token_L86_3 (fX8_isLetter r3) (fX8_isDigit r4) js_FU (js_sI s2 0 11 ((s2.1 0 10) + (1 : Int32))))) = some τ' ∧ _
  rw [c3, hb2.1]
  by_cases e0 : L ≤ q
  · have to : pt_to T L q = q := by unfold pt_to; rw [if_pos e0]
    rw [pm_atE hb2 e0 (by omega), Option.bind_some, Option.bind_some, if_pos (nI_le e0 (by omega)), show fX8_isLetter (-1 : Int32) = 0 from by decide, show fX8_isDigit (-1 : Int32) = 0 from by decide]
    refine ⟨js_sI s2 0 11 (nI q), ?_, c2.tr (pv_E0.put s2 (by decide)), ?_, ?_⟩
    · rw [show js_FU = (js_FU - 1) + 1 from rfl, fX8_token_L86, if_pos rfl, if_pos rfl]
    · rw [pv_sI_at, if_neg (by decide), c3]
    · rw [pv_sI_at, if_pos rfl, to]
  · rw [pm_at hb2 hL (by omega), Option.bind_some, Option.bind_some, if_neg (nI_ge (by omega) (by omega)), pu_M_let (hT q), pu_M_dig (hT q), nI_1]
    have E4 := pv_E0.put (i := 11) (v := nI (q + 1)) s2 (by decide)
    by_cases e1 : pt_let (T q) = true
    · have e2 : ¬ pt_dig (T q) = true := fun x => by
        have a1 := of_decide_eq_true e1
        have a2 := of_decide_eq_true x
        omega
      have to : pt_to T L q = pt_run (fun i => pt_let (T i)) L (q + 1) := by unfold pt_to; rw [if_neg e0, if_pos e1, pt_run_yes (p := q) (by omega) e1]
      rw [if_pos e1, if_neg e2]
      obtain ⟨s1, d1, d2, d3, d4⟩ := pm_L86let hL hT (L - (q + 1)) (q + 1) js_FU (js_sI s2 0 11 (nI (q + 1))) (by omega) (by unfold js_FU; omega) (E4.tb hb2) (by rw [pv_sI_at, if_pos rfl])
      exact ⟨s1, d1, (c2.tr E4).tr d2, by rw [d3, pv_sI_at, if_neg (by decide), c3], by rw [d4, to]⟩
    · rw [if_neg e1]
      by_cases e2 : pt_dig (T q) = true
      · have to : pt_to T L q = pt_run (fun i => pt_dig (T i)) L (q + 1) := by unfold pt_to; rw [if_neg e0, if_neg e1, if_pos e2, pt_run_yes (p := q) (by omega) e2]
        rw [if_pos e2]
        obtain ⟨s1, d1, d2, d3, d4⟩ := pm_L86dig hL hT (L - (q + 1)) (q + 1) js_FU (js_sI s2 0 11 (nI (q + 1))) (by omega) (by unfold js_FU; omega) (E4.tb hb2) (by rw [pv_sI_at, if_pos rfl])
        exact ⟨s1, d1, (c2.tr E4).tr d2, by rw [d3, pv_sI_at, if_neg (by decide), c3], by rw [d4, to]⟩
      · have to : pt_to T L q = q + 1 := by unfold pt_to; rw [if_neg e0, if_neg e1, if_neg e2]
        rw [if_neg e2]
        refine ⟨js_sI s2 0 11 (nI (q + 1)), ?_, c2.tr E4, ?_, ?_⟩
        · rw [show js_FU = (js_FU - 1) + 1 from rfl, fX8_token_L86_3, if_pos rfl, if_pos rfl]
        · rw [pv_sI_at, if_neg (by decide), c3]
        · rw [pv_sI_at, if_pos rfl, to]
end PU
