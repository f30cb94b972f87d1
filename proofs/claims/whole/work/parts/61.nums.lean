/-! PURE: the tape's numbers -/
def pt_nx (T : Nat → Nat) (L q : Nat) : Nat := pt_sk T L (pt_to T L q)
theorem pt_nx_le {T : Nat → Nat} {L q : Nat} (h : q ≤ L) : pt_nx T L q ≤ L := (pt_sk_le (pt_to_le h).2).2
def pt_ms (T : Nat → Nat) (v i : Nat) : Nat := if v ≤ 999 then 10 * v + T i - 48 else v
def pt_mv (T : Nat → Nat) (L q : Nat) : Nat := pu_fold (pt_ms T) 0 q (pt_to T L q - q)
/-- the number where we stand, below hi -/
def pt_num (T : Nat → Nat) (L q hi : Nat) : Prop := pt_ty T L q = 2 ∧ pt_cv T L q < hi
/-- only the reference's token, value and flag have changed -/
def pv_E0b (τ τ' : js_S) : Prop := (∀ k, k ≠ 0 → τ'.1 k = τ.1 k) ∧ (∀ i, i < 10 → τ'.1 0 i = τ.1 0 i) ∧ τ'.2 = τ.2
theorem pv_E0b.rf (τ : js_S) : pv_E0b τ τ := ⟨fun _ _ => rfl, fun _ _ => rfl, rfl⟩
theorem pv_E0b.tr {a b c : js_S} (h : pv_E0b a b) (g : pv_E0b b c) : pv_E0b a c := ⟨fun k h1 => (g.1 k h1).trans (h.1 k h1), fun i h1 => (g.2.1 i h1).trans (h.2.1 i h1), g.2.2.trans h.2.2⟩
theorem pv_E0b.put (τ : js_S) {i : Nat} {v : Int32} (hi : 10 ≤ i) : pv_E0b τ (js_sI τ 0 i v) := ⟨fun k h => pv_sI_ne h, fun j h1 => by rw [pv_sI_at, if_neg (by omega)], rfl⟩
theorem pv_E0.b {a b : js_S} (h : pv_E0 a b) : pv_E0b a b := ⟨h.1, fun i hi => h.2.1 i (by omega) (by omega), h.2.2⟩
theorem pv_E0b.tb {T : Nat → Nat} {L : Nat} {τ τ' : js_S} (e : pv_E0b τ τ') (h : pv_tbm T L τ) : pv_tbm T L τ' := ⟨by rw [e.2.1 9 (by decide)]; exact h.1, by rw [e.1 7 (by decide)]; exact h.2⟩
section PV
variable {T : Nat → Nat} {L : Nat} {σ τ : js_S}
theorem pt_digits {q : Nat} (hq : q ≤ L) (h : pt_ty T L q = 2) : q < pt_to T L q ∧ pt_dig (T q) = true ∧ ∀ i, q ≤ i → i < pt_to T L q → 48 ≤ T i ∧ T i ≤ 57 := by
  have hl := pt_ty_lt (T := T) (L := L) (q := q) (by omega)
  have e1 : ¬ pt_let (T q) = true ∧ pt_dig (T q) = true := by
    unfold pt_ty at h
    rw [if_neg (by omega)] at h
    by_cases e : pt_let (T q) = true
    · rw [if_pos e] at h; cases h
    · rw [if_neg e] at h
      refine ⟨e, ?_⟩
      by_cases e2 : pt_dig (T q) = true
      · exact e2
      · rw [if_neg e2] at h
        split at h <;> cases h
  have to : pt_to T L q = pt_run (fun i => pt_dig (T i)) L q := by unfold pt_to; rw [if_neg (by omega), if_neg e1.1, if_pos e1.2]
  refine ⟨?_, e1.2, fun i h1 h2 => ?_⟩
  · rw [to, pt_run_yes (p := q) hl e1.2]
    exact (pt_run_ge (L - (q + 1)) (q + 1) (by omega)).1
  · rw [to] at h2
    exact of_decide_eq_true (pt_run_all (P := fun i => pt_dig (T i)) (L - q) q (by omega) i h1 h2)
theorem pt_vals : ∀ d c m i, (∀ j, i ≤ j → j < i + d → 48 ≤ T j ∧ T j ≤ 57) → c = min 1000 m → m ≤ 9999 → pu_fold (pt_cs T) c i d = min 1000 (pu_fold (pt_ms T) m i d) ∧ pu_fold (pt_ms T) m i d ≤ 9999
  | 0, c, m, i, _, h, h2 => ⟨h, h2⟩
  | d + 1, c, m, i, hd, h, h2 => by
    have ht := hd i (Nat.le_refl _) (by omega)
    refine pt_vals d (pt_cs T c i) (pt_ms T m i) (i + 1) (fun j h1 h2 => hd j (by omega) (by omega)) ?_ ?_
    · unfold pt_cs pt_ms
      split <;> omega
    · unfold pt_ms
      split <;> omega
theorem pt_cm {q : Nat} (hq : q ≤ L) (h : pt_ty T L q = 2) : pt_cv T L q = min 1000 (pt_mv T L q) ∧ pt_mv T L q ≤ 9999 := by
  have hd := pt_digits hq h
  exact pt_vals _ 0 0 q (fun j h1 h2 => hd.2.2 j h1 (by omega)) rfl (by decide)
theorem pc_num (hL : L ≤ 120) (hT : ∀ i, T i < 256) (hb : pv_tb T L σ) {q hi : Nat} (ht : pv_tk T L σ q) (hq : q ≤ L) (hh : hi ≤ 16) :
    (pt_num T L q hi → ∃ σ', fX4_passNumber (nI hi) σ = some (nI (pt_cv T L q), σ') ∧ pv_E15 σ σ' ∧ pv_tk T L σ' (pt_nx T L q)) ∧ (¬ pt_num T L q hi → fX4_passNumber (nI hi) σ = some (-1, σ)) := by
  have hty := pt_ty_le (T := T) (L := L) q
  have e1 : (nI (pt_ty T L q) = (2 : Int32)) ↔ pt_ty T L q = 2 := nI_eq (b := 2) (by omega) (by decide)
  unfold fX4_passNumber
  rw [ht.1]
  by_cases c1 : pt_ty T L q = 2
  · have hcv := pt_cm hq c1
    have e2 : (nI (pt_cv T L q) < nI hi) ↔ pt_cv T L q < hi := nI_ltI (by omega) (by omega)
    rw [if_pos (e1.mpr c1), ht.2.2.2 c1]
    by_cases c2 : pt_cv T L q < hi
    · obtain ⟨σ', s1, s2, s3⟩ := pc_step hL hT hb (pt_to_le (T := T) hq).2 ht.2.2.1
      rw [if_pos (e2.mpr c2), s1, Option.bind_some]
      exact ⟨fun _ => ⟨σ', rfl, s2, s3⟩, fun x => absurd ⟨c1, c2⟩ x⟩
    · rw [if_neg (fun x => c2 (e2.mp x))]
      exact ⟨fun x => absurd x.2 c2, fun _ => rfl⟩
  · rw [if_neg (fun x => c1 (e1.mp x))]
    exact ⟨fun x => absurd x.1 c1, fun _ => rfl⟩
theorem pm_must1 (hL : L ≤ 120) (hT : ∀ i, T i < 256) (hb : pv_tbm T L τ) {q : Nat} (ht : pv_tkm T L τ q) (hq : q ≤ L) (hw : τ.1 0 13 = 0) : ∃ τ', fX8_must (1 : Int32) τ = some τ' ∧ pv_E0b τ τ' ∧ τ'.1 0 13 = 0 ∧ τ'.1 0 12 = τ.1 0 12 ∧ pv_tkm T L τ' (pt_nx T L q) := by
  have E := pv_E0b.put (i := 13) (v := (0 : Int32)) τ (by decide)
  obtain ⟨τ', s1, s2, s3⟩ := pm_token hL hT (E.tb hb) (pt_to_le (T := T) hq).2 (show (js_sI τ 0 13 (0 : Int32)).1 0 11 = _ by rw [pv_sI_at, if_neg (by decide)]; exact ht.2)
  unfold fX8_must
  rw [if_pos hw, if_neg (show ¬ (1 : Int32) = 0 by decide), pv_sI_at, if_pos rfl, if_pos (show (0 : Int32) = 0 from rfl), s1, Option.bind_some]
  refine ⟨τ', rfl, E.tr s2.b, ?_, ?_, s3⟩
  · rw [s2.2.1 13 (by decide) (by decide), pv_sI_at, if_pos rfl]
  · rw [s2.2.1 12 (by decide) (by decide), pv_sI_at, if_neg (by decide)]
theorem pm_must0 : fX8_must (0 : Int32) τ = some (js_sI τ 0 13 (1 : Int32)) := by
  have e : (js_sI τ 0 13 (1 : Int32)).1 0 13 = 1 := by rw [pv_sI_at, if_pos rfl]
  unfold fX8_must
  rw [e, if_neg (show ¬ (1 : Int32) = 0 by decide), if_pos (show (0 : Int32) = 0 from rfl)]
  split <;> rfl
theorem pm_mustW (h : ¬ τ.1 0 13 = 0) (a : Int32) : fX8_must a τ = some (js_sI τ 0 13 (1 : Int32)) := by
  unfold fX8_must
  rw [pv_sI_at, if_pos rfl, if_neg (show ¬ (1 : Int32) = 0 by decide), if_neg h]
theorem pm_numL (hL : L ≤ 120) (hb : pv_tbm T L τ) {q : Nat} (hq : q ≤ L) (ht : pv_tkm T L τ q) (hty : pt_ty T L q = 2) (K : Int32 → js_S → Option js_S) (p1 p2 : Int32) : ∀ d i v n, i + d = pt_to T L q → q ≤ i → d < n → v ≤ 9999 → fX8_number_L29 K p1 p2 (1 : Int32) n (nI v) (nI i) τ = K (nI (pu_fold (pt_ms T) v i d)) τ
  | 0, i, v, n, hi, hqi, hn, hv => by
    obtain ⟨n, rfl⟩ : ∃ m, n = m + 1 := ⟨n - 1, by omega⟩
    have := (pt_to_le (T := T) hq).2
    rw [fX8_number_L29, ht.2, if_pos (nI_le (by omega) (by omega))]
    rfl
  | d + 1, i, v, n, hi, hqi, hn, hv => by
    obtain ⟨n, rfl⟩ : ∃ m, n = m + 1 := ⟨n - 1, by omega⟩
    have hto := (pt_to_le (T := T) hq).2
    have hd := (pt_digits hq hty).2.2 i hqi (by omega)
    have e : (nI v ≤ (999 : Int32)) ↔ v ≤ 999 := nI_leI (b := 999) (by omega) (by decide)
    rw [fX8_number_L29, ht.2, if_neg (nI_ge (by omega) (by omega)), if_neg (show ¬ (1 : Int32) = 0 by decide), nI_1]
    show _ = K (nI (pu_fold (pt_ms T) (pt_ms T v i) (i + 1) d)) τ
    by_cases c : v ≤ 999
    · have e2 : pt_ms T v i = 10 * v + T i - 48 := by unfold pt_ms; rw [if_pos c]
      rw [if_pos (e.mpr c), pu_gd (by omega) (by decide), pu_cl (by omega), hb.2 i (by omega), fa_lit 10, pk_mul, nI_add, fa_lit 48, pk_sub (by omega), e2]
      exact pm_numL hL hb hq ht hty K p1 p2 d (i + 1) _ n (by omega) (by omega) (by omega) (by omega)
    · have e2 : pt_ms T v i = v := by unfold pt_ms; rw [if_neg c]
      rw [if_neg (fun x => c (e.mp x)), e2]
      exact pm_numL hL hb hq ht hty K p1 p2 d (i + 1) v n (by omega) (by omega) (by omega) hv
theorem pm_num (hL : L ≤ 120) (hT : ∀ i, T i < 256) (hb : pv_tbm T L τ) {q hi : Nat} {y : Int32} (ht : pv_tkm T L τ q) (hq : q ≤ L) (hh : hi ≤ 16) (hy : y.toInt = (hi : Int) - 1) (hw : τ.1 0 13 = 0) :
    (pt_num T L q hi → ∃ τ', fX8_number (0 : Int32) y τ = some τ' ∧ pv_E0b τ τ' ∧ τ'.1 0 13 = 0 ∧ τ'.1 0 12 = nI (pt_cv T L q) ∧ pv_tkm T L τ' (pt_nx T L q)) ∧ (¬ pt_num T L q hi → ∃ τ', fX8_number (0 : Int32) y τ = some τ' ∧ pv_E0b τ τ' ∧ τ'.1 0 13 = 1 ∧ pv_tkm T L τ' q) := by
  unfold fX8_number
  rw [if_pos hw, ht.1]
  have bad : ∀ v, ∃ τ', ((fX8_must (0 : Int32) (js_sI τ 0 12 v)).bind fun r4 => some r4) = some τ' ∧ pv_E0b τ τ' ∧ τ'.1 0 13 = 1 ∧ pv_tkm T L τ' q := fun v => by
    rw [pm_must0, Option.bind_some]
    refine ⟨_, rfl, (pv_E0b.put τ (by decide)).tr (pv_E0b.put _ (by decide)), ?_, ?_, ?_⟩
    · rw [pv_sI_at, if_pos rfl]
    · rw [pv_sI_at, if_neg (by decide), pv_sI_at, if_neg (by decide)]; exact ht.1
    · rw [pv_sI_at, if_neg (by decide), pv_sI_at, if_neg (by decide)]; exact ht.2
  have imm : ∀ (K : Int32 → js_S → Option js_S), fX8_number_L29 K (0 : Int32) y (0 : Int32) js_FU (0 : Int32) (nI q) τ = K 0 τ := fun K => by
    rw [show js_FU = (js_FU - 1) + 1 from rfl, fX8_number_L29]
    split
    · rfl
    · rfl
  by_cases c1 : pt_ty T L q = 2
  · have hd := pt_digits hq c1
    have hcm := pt_cm hq c1
    have hlt := pt_ty_lt (T := T) (L := L) (q := q) (by omega)
    have hto := (pt_to_le (T := T) hq).2
    rw [pm_at hb hL hlt, Option.bind_some, pu_M_dig (hT q), if_pos hd.2.1]
    have key : ∀ K : Int32 → js_S → Option js_S, fX8_number_L29 K (0 : Int32) y (1 : Int32) js_FU (0 : Int32) (nI q) τ = K (nI (pt_mv T L q)) τ := fun K => pm_numL (τ := τ) hL hb hq ht c1 K (0 : Int32) y (pt_to T L q - q) q 0 js_FU (by omega) (Nat.le_refl _) (by unfold js_FU; omega) (by decide)
    rw [key]
    show (_ → ∃ τ', (if (1 : Int32) = 0 then _ else _) = some τ' ∧ _) ∧ (_ → ∃ τ', (if (1 : Int32) = 0 then _ else _) = some τ' ∧ _)
    rw [if_neg (show ¬ (1 : Int32) = 0 by decide)]
    have hin : fX8_in (Int32.toInt64 (nI (pt_mv T L q))) (Int32.toInt64 (0 : Int32)) (Int32.toInt64 y) = if pt_cv T L q < hi then 1 else 0 := by
      show fX8_in (Int32.toInt64 (nI (pt_mv T L q))) (0 : Int64) (Int32.toInt64 y) = _
      rw [pu_inI, hy, nI_toInt (by omega)]
      by_cases c2 : pt_cv T L q < hi
      · have : 0 ≤ (pt_mv T L q : Int) ∧ (pt_mv T L q : Int) ≤ (hi : Int) - 1 := ⟨by omega, by omega⟩
        rw [if_pos this, if_pos c2]
      · have : ¬ (0 ≤ (pt_mv T L q : Int) ∧ (pt_mv T L q : Int) ≤ (hi : Int) - 1) := by omega
        rw [if_neg this, if_neg c2]
    rw [hin]
    by_cases c2 : pt_cv T L q < hi
    · rw [if_pos c2, if_neg (show ¬ (1 : Int32) = 0 by decide)]
      refine ⟨fun _ => ?_, fun x => absurd ⟨c1, c2⟩ x⟩
      have E := pv_E0b.put (i := 12) (v := nI (pt_mv T L q)) τ (by decide)
      obtain ⟨τ', s1, s2, s3, s4, s5⟩ := pm_must1 (τ := js_sI τ 0 12 (nI (pt_mv T L q))) hL hT (E.tb hb) (q := q) ⟨by rw [pv_sI_at, if_neg (by decide)]; exact ht.1, by rw [pv_sI_at, if_neg (by decide)]; exact ht.2⟩ hq (by rw [pv_sI_at, if_neg (by decide)]; exact hw)
      rw [s1, Option.bind_some]
      refine ⟨τ', rfl, E.tr s2, s3, ?_, s5⟩
      rw [s4, pv_sI_at, if_pos rfl, show pt_mv T L q = pt_cv T L q by omega]
    · rw [if_neg c2, if_pos (show (0 : Int32) = 0 from rfl)]
      exact ⟨fun x => absurd x.2 c2, fun _ => bad _⟩
  · have hno : ¬ pt_num T L q hi := fun x => c1 x.1
    refine ⟨fun x => absurd x hno, fun _ => ?_⟩
    by_cases e : L ≤ q
    · rw [pm_atE hb e (by omega), Option.bind_some, show fX8_isDigit (-1 : Int32) = 0 from by decide, imm]
      show ∃ τ', (if (0 : Int32) = 0 then _ else _) = some τ' ∧ _
      rw [if_pos rfl]
      exact bad _
    · by_cases c3 : pt_dig (T q) = true
      · have c4 : ¬ pt_let (T q) = true := fun x => by
          have a1 := of_decide_eq_true x
          have a2 := of_decide_eq_true c3
          omega
        exact absurd (show pt_ty T L q = 2 by unfold pt_ty; rw [if_neg e, if_neg c4, if_pos c3]) c1
      · rw [pm_at hb hL (by omega), Option.bind_some, pu_M_dig (hT q), if_neg c3, imm]
        show ∃ τ', (if (0 : Int32) = 0 then _ else _) = some τ' ∧ _
        rw [if_pos rfl]
        exact bad _
end PV
