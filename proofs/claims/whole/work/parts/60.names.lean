/-! PURE: the tape's words -/
def pt_nl (k : Nat) : Nat := js_len.getD k 0
def pt_nm (k i : Nat) : Nat := ((js_byt.getD k []).getD i 0).toNatClampNeg
theorem pt_tab1 : ∀ k, k < 11 → js_slen k = some (nI (pt_nl k)) ∧ 1 ≤ pt_nl k ∧ pt_nl k ≤ 8 := by decide +kernel
theorem pt_tab2 : ∀ k, k < 11 → ∀ i, i < 8 → i < pt_nl k → js_schar k (nI i) = some (nI (pt_nm k i)) ∧ 97 ≤ pt_nm k i ∧ pt_nm k i ≤ 122 := by decide +kernel
def pt_is (T : Nat → Nat) (L q k : Nat) : Prop := pt_ty T L q = 1 ∧ pt_to T L q - q = pt_nl k ∧ ∀ i, i < pt_nl k → T (q + i) = pt_nm k i
section PN
variable {T : Nat → Nat} {L : Nat} {σ τ : js_S}
theorem pc_passL (hL : L ≤ 120) (hT : ∀ i, T i < 256) (hb : pv_tb T L σ) {q k : Nat} (hk : k < 11) (h2 : σ.1 15 2 = nI q) (hq : q + pt_nl k ≤ L) : ∀ d i n, i + d = pt_nl k → d < n →
    ((∀ j, i ≤ j → j < pt_nl k → T (q + j) = pt_nm k j) → fX4_pass_L28 k n (nI i) σ = (fX4_step σ).bind fun r3 => some ((1 : Int32), r3)) ∧ (¬ (∀ j, i ≤ j → j < pt_nl k → T (q + j) = pt_nm k j) → fX4_pass_L28 k n (nI i) σ = some ((0 : Int32), σ))
  | 0, i, n, hi, hn => by
    obtain ⟨n, rfl⟩ : ∃ m, n = m + 1 := ⟨n - 1, by omega⟩
    have t1 := pt_tab1 k hk
    refine ⟨fun _ => ?_, fun x => absurd (fun j h1 h2 => by omega) x⟩
    rw [fX4_pass_L28, t1.1, Option.bind_some, if_pos (nI_le (by omega) (by omega))]
  | d + 1, i, n, hi, hn => by
    obtain ⟨n, rfl⟩ : ∃ m, n = m + 1 := ⟨n - 1, by omega⟩
    have t1 := pt_tab1 k hk
    have t2 := pt_tab2 k hk i (by omega) (by omega)
    have ht := hT (q + i)
    have ih := pc_passL hL hT hb hk h2 hq d (i + 1) n (by omega) (by omega)
    have e : (nI (T (q + i)) = nI (pt_nm k i)) ↔ T (q + i) = pt_nm k i := nI_eq (by omega) (by omega)
    rw [fX4_pass_L28, t1.1, Option.bind_some, if_neg (nI_ge (by omega) (by omega)), h2, nI_add, pc_at hb hL (by omega), Option.bind_some, t2.1, Option.bind_some, nI_1]
    by_cases c : T (q + i) = pt_nm k i
    · rw [if_pos (e.mpr c)]
      refine ⟨fun x => ih.1 fun j h1 h2 => x j (by omega) h2, fun x => ih.2 fun y => x fun j h1 h2 => ?_⟩
      by_cases e2 : j = i
      · rw [e2]; exact c
      · exact y j (by omega) h2
    · rw [if_neg (fun x => c (e.mp x))]
      exact ⟨fun x => absurd (x i (Nat.le_refl _) (by omega)) c, fun _ => rfl⟩
theorem pt_ty_lt {q : Nat} (h : pt_ty T L q ≠ 0) : q < L := by
  unfold pt_ty at h
  by_cases e : L ≤ q
  · rw [if_pos e] at h; exact absurd rfl h
  · omega
theorem pt_ty_le (q : Nat) : pt_ty T L q ≤ 4 := by
  unfold pt_ty
  repeat' split
  all_goals omega
theorem pc_pass (hL : L ≤ 120) (hT : ∀ i, T i < 256) (hb : pv_tb T L σ) {q k : Nat} (hk : k < 11) (ht : pv_tk T L σ q) (hq : q ≤ L) :
    (pt_is T L q k → ∃ σ', fX4_pass k σ = some (1, σ') ∧ pv_E15 σ σ' ∧ pv_tk T L σ' (pt_sk T L (pt_to T L q))) ∧ (¬ pt_is T L q k → fX4_pass k σ = some (0, σ)) := by
  have t1 := pt_tab1 k hk
  have hto := pt_to_le (T := T) hq
  have hty := pt_ty_le (T := T) (L := L) q
  have e1 : (nI (pt_ty T L q) = (1 : Int32)) ↔ pt_ty T L q = 1 := nI_eq (b := 1) (by omega) (by decide)
  have e2 : (nI (pt_to T L q - q) = nI (pt_nl k)) ↔ pt_to T L q - q = pt_nl k := nI_eq (by omega) (by omega)
  unfold fX4_pass
  rw [ht.1, ht.2.1, ht.2.2.1, pk_sub hto.1, t1.1, Option.bind_some]
  by_cases c1 : pt_ty T L q = 1
  · rw [if_pos (e1.mpr c1)]
    by_cases c2 : pt_to T L q - q = pt_nl k
    · rw [if_pos (e2.mpr c2)]
      have key := pc_passL hL hT hb hk ht.2.1 (by omega) (pt_nl k) 0 js_FU (by omega) (by unfold js_FU; omega)
      refine ⟨fun x => ?_, fun x => ?_⟩
      · obtain ⟨σ', s1, s2, s3⟩ := pc_step hL hT hb hto.2 ht.2.2.1
        have := key.1 fun j _ h => x.2.2 j h
        rw [show (0 : Int32) = nI 0 from rfl, this, s1, Option.bind_some]
        exact ⟨σ', rfl, s2, s3⟩
      · exact key.2 fun y => x ⟨c1, c2, fun j h => y j (by omega) h⟩
    · rw [if_neg (fun x => c2 (e2.mp x))]
      exact ⟨fun x => absurd x.2.1 c2, fun _ => rfl⟩
  · rw [if_neg (fun x => c1 (e1.mp x))]
    exact ⟨fun x => absurd x.1 c1, fun _ => rfl⟩
end PN
/-! the reference's words as numbers -/
def pt_hs (T : Nat → Nat) (v i : Nat) : Nat := if v ≤ 36028797018963967 then 32 * v + (T i - 96) else v
def pt_h (T : Nat → Nat) (q n : Nat) : Nat := pu_fold (pt_hs T) 0 q n
def pt_hx (U : Nat → Nat) (l : Nat) : Nat := pu_fold (fun v i => 32 * v + (U i - 96)) 0 0 l
theorem pt_h_s (T : Nat → Nat) (q n : Nat) : pt_h T q (n + 1) = pt_hs T (pt_h T q n) (q + n) := by
  unfold pt_h
  rw [pu_fold_end]
theorem pt_hx_s (U : Nat → Nat) (l : Nat) : pt_hx U (l + 1) = 32 * pt_hx U l + (U l - 96) := by
  unfold pt_hx
  rw [pu_fold_end, Nat.zero_add]
theorem pt_hx_lt {U : Nat → Nat} : ∀ l, l ≤ 8 → (∀ i, i < l → 97 ≤ U i ∧ U i ≤ 122) → pt_hx U l < 2 ^ (5 * l)
  | 0, _, _ => Nat.zero_lt_one
  | l + 1, hl, h => by
    have ih := pt_hx_lt (U := U) l (by omega) (fun i hi => h i (by omega))
    have hu := h l (by omega)
    rw [pt_hx_s, show 5 * (l + 1) = 5 * l + 5 by omega, Nat.pow_add]
    omega
theorem pt_hx_40 {U : Nat → Nat} {l : Nat} (hl : l ≤ 8) (h : ∀ i, i < l → 97 ≤ U i ∧ U i ≤ 122) : pt_hx U l < 2 ^ 40 :=
  Nat.lt_of_lt_of_le (pt_hx_lt l hl h) (Nat.pow_le_pow_right (by decide) (by omega))
theorem pt_h_of {T U : Nat → Nat} {q : Nat} : ∀ l, l ≤ 8 → (∀ i, i < l → 97 ≤ U i ∧ U i ≤ 122) → (∀ i, i < l → T (q + i) = U i) → pt_h T q l = pt_hx U l
  | 0, _, _, _ => rfl
  | l + 1, hl, h, e => by
    have ih := pt_h_of (T := T) (U := U) (q := q) l (by omega) (fun i hi => h i (by omega)) (fun i hi => e i (by omega))
    have hb := pt_hx_40 (U := U) (l := l) (by omega) (fun i hi => h i (by omega))
    rw [pt_h_s, pt_hx_s, ih]
    unfold pt_hs
    rw [if_pos (by omega), e l (by omega)]
theorem pt_h_inj {T U : Nat → Nat} {q : Nat} : ∀ n l, l ≤ 8 → (∀ i, i < l → 97 ≤ U i ∧ U i ≤ 122) → (∀ i, i < n → 97 ≤ T (q + i) ∧ T (q + i) ≤ 122) → pt_h T q n = pt_hx U l → n = l ∧ ∀ i, i < l → T (q + i) = U i
  | 0, 0, _, _, _, _ => ⟨rfl, fun i hi => by cases hi⟩
  | 0, l + 1, hl, h, ht, e => by
    have hu := h l (by omega)
    rw [pt_hx_s] at e
    have : pt_h T q 0 = 0 := rfl
    omega
  | n + 1, l, hl, h, ht, e => by
    have hd := ht n (by omega)
    have hb := pt_hx_40 hl h
    rw [pt_h_s] at e
    unfold pt_hs at e
    by_cases c : pt_h T q n ≤ 36028797018963967
    · rw [if_pos c] at e
      match l, hl, h, e, hb with
      | 0, hl, h, e, hb =>
        have : pt_hx U 0 = 0 := rfl
        omega
      | l + 1, hl, h, e, hb =>
        have hu := h l (by omega)
        rw [pt_hx_s] at e
        obtain ⟨e1, e2⟩ := pt_h_inj (T := T) (U := U) (q := q) n l (by omega) (fun i hi => h i (by omega)) (fun i hi => ht i (by omega)) (by omega)
        refine ⟨by omega, fun i hi => ?_⟩
        by_cases c2 : i = l
        · subst c2
          rw [← e1]
          rw [e1] at hd e ⊢
          omega
        · exact e2 i (by omega)
    · rw [if_neg c] at e
      omega
section PO
variable {T : Nat → Nat} {L : Nat} {σ τ : js_S}
/-- a run's places all are so -/
theorem pt_run_all {P : Nat → Bool} : ∀ d p, p + d = L → ∀ i, p ≤ i → i < pt_run P L p → P i = true
  | 0, p, h, i, h1, h2 => by rw [pt_run_end (by omega)] at h2; omega
  | d + 1, p, h, i, h1, h2 => by
    by_cases hP : P p = true
    · rw [pt_run_yes (by omega) hP] at h2
      by_cases e : i = p
      · rw [e]; exact hP
      · exact pt_run_all d (p + 1) (by omega) i (by omega) h2
    · rw [pt_run_no (by omega) hP] at h2
      omega
theorem pt_letters {q : Nat} (hq : q ≤ L) (h : pt_ty T L q = 1) : ∀ i, q ≤ i → i < pt_to T L q → 97 ≤ T i ∧ T i ≤ 122 := by
  intro i h1 h2
  have hl := pt_ty_lt (T := T) (L := L) (q := q) (by omega)
  have e1 : pt_let (T q) = true := by
    unfold pt_ty at h
    rw [if_neg (by omega)] at h
    by_cases e : pt_let (T q) = true
    · exact e
    · rw [if_neg e] at h
      split at h
      · cases h
      · split at h <;> cases h
  unfold pt_to at h2
  rw [if_neg (by omega), if_pos e1] at h2
  have := pt_run_all (P := fun i => pt_let (T i)) (L - q) q (by omega) i h1 h2
  exact of_decide_eq_true this
theorem pm_wordA (hL : L ≤ 120) (hb : pv_tbm T L τ) {e : Nat} (he : e ≤ L) (h11 : τ.1 0 11 = nI e) (K : Int64 → Option Int64) : ∀ d i n v, i + d = e → d < n → ∃ w, fX8_word_L7 K τ n v (nI i) = K w
  | 0, i, n, v, hi, hn => by
    obtain ⟨n, rfl⟩ : ∃ m, n = m + 1 := ⟨n - 1, by omega⟩
    rw [fX8_word_L7, h11, if_pos (nI_le (by omega) (by omega))]
    exact ⟨v, rfl⟩
  | d + 1, i, n, v, hi, hn => by
    obtain ⟨n, rfl⟩ : ∃ m, n = m + 1 := ⟨n - 1, by omega⟩
    rw [fX8_word_L7, h11, if_neg (nI_ge (by omega) (by omega)), nI_1]
    split
    · rw [pu_gd (by omega) (by decide)]
      exact pm_wordA hL hb he h11 K d (i + 1) n _ (by omega) (by omega)
    · exact pm_wordA hL hb he h11 K d (i + 1) n _ (by omega) (by omega)
theorem pm_wordB (hL : L ≤ 120) (hb : pv_tbm T L τ) {e q : Nat} (he : e ≤ L) (h11 : τ.1 0 11 = nI e) (hl : ∀ i, q ≤ i → i < e → 97 ≤ T i ∧ T i ≤ 122) (K : Int64 → Option Int64) : ∀ d j n, q + j + d = e → d < n → pt_h T q j < 2 ^ 61 → fX8_word_L7 K τ n (lN (pt_h T q j)) (nI (q + j)) = K (lN (pt_h T q (e - q))) ∧ pt_h T q (e - q) < 2 ^ 61
  | 0, j, n, hi, hn, hv => by
    obtain ⟨n, rfl⟩ : ∃ m, n = m + 1 := ⟨n - 1, by omega⟩
    rw [fX8_word_L7, h11, if_pos (nI_le (by omega) (by omega)), show e - q = j by omega]
    exact ⟨rfl, hv⟩
  | d + 1, j, n, hi, hn, hv => by
    obtain ⟨n, rfl⟩ : ∃ m, n = m + 1 := ⟨n - 1, by omega⟩
    have hd := hl (q + j) (by omega) (by omega)
    rw [fX8_word_L7, h11, if_neg (nI_ge (by omega) (by omega)), nI_1]
    have e1 : (lg_cmp (lN (pt_h T q j)) (36028797018963967 : Int64) ≤ 0) ↔ pt_h T q j ≤ 36028797018963967 := by
      rw [lg_cmp_le]
      exact pk_lLE (b := 36028797018963967) (by omega) (by decide)
    have hs := pt_h_s T q j
    unfold pt_hs at hs
    by_cases c : pt_h T q j ≤ 36028797018963967
    · rw [if_pos c] at hs
      have ih := pm_wordB hL hb he h11 hl K d (j + 1) n (by omega) (by omega) (by rw [hs]; omega)
      rw [if_pos (e1.mpr c), pu_gd (by omega) (by decide), pu_cl (by omega), hb.2 _ (by omega), fa_lit 96, pk_sub (by omega), nI_l (by omega), fa_litL 32, lN_mul, lN_add, ← hs]
      exact ih
    · rw [if_neg c] at hs
      have ih := pm_wordB hL hb he h11 hl K d (j + 1) n (by omega) (by omega) (by rw [hs]; omega)
      rw [if_neg (fun x => c (e1.mp x))]
      rw [hs] at ih
      exact ih
/-- the word where the reference stands: 0 unless it is one of letters -/
theorem pm_word (hL : L ≤ 120) (hT : ∀ i, T i < 256) (hb : pv_tbm T L τ) {q : Nat} (hq : q ≤ L) (ht : pv_tkm T L τ q) : fX8_word τ = some (if τ.1 0 13 = 0 ∧ pt_ty T L q = 1 then lN (pt_h T q (pt_to T L q - q)) else 0) := by
  have hto := pt_to_le (T := T) hq
  unfold fX8_word
  rw [ht.1]
  by_cases c0 : τ.1 0 13 = 0
  · by_cases c1 : pt_ty T L q = 1
    · have hl := pt_letters hq c1
      have hlt := pt_ty_lt (T := T) (L := L) (q := q) (by omega)
      have c2 : pt_let (T q) = true := decide_eq_true (by
        have hge : q < pt_to T L q := by
          unfold pt_to
          have c3 : pt_let (T q) = true := by
            unfold pt_ty at c1
            rw [if_neg (by omega)] at c1
            by_cases e : pt_let (T q) = true
            · exact e
            · rw [if_neg e] at c1
              split at c1
              · cases c1
              · split at c1 <;> cases c1
          rw [if_neg (by omega), if_pos c3, pt_run_yes (p := q) hlt c3]
          exact (pt_run_ge (L - (q + 1)) (q + 1) (by omega)).1
        exact hl q (Nat.le_refl _) hge)
      have key := pm_wordB (τ := τ) hL hb hto.2 ht.2 hl (fun w1 => (if (τ.1 0 13) = 0 then (fX8_byteAt (nI q) τ).bind fun r2 => (if (fX8_isLetter r2) = 0 then some (0 : Int64) else some w1) else some (0 : Int64))) (pt_to T L q - q) 0 js_FU (by omega) (by unfold js_FU; omega) (show (0 : Nat) < 2 ^ 61 by decide)
      have h0 : ∀ K : Int64 → Option Int64, fX8_word_L7 K τ js_FU (0 : Int64) (nI q) = fX8_word_L7 K τ js_FU (lN (pt_h T q 0)) (nI (q + 0)) := fun K => rfl
      have cc : τ.1 0 13 = 0 ∧ pt_ty T L q = 1 := ⟨c0, c1⟩
      rw [h0, key.1, if_pos c0, pm_at hb hL hlt, Option.bind_some, pu_M_let (hT q), if_pos c2, if_neg (show ¬ (1 : Int32) = 0 by decide), if_pos cc]
    · obtain ⟨w, hw⟩ := pm_wordA (τ := τ) hL hb hto.2 ht.2 (fun w1 => (if (τ.1 0 13) = 0 then (fX8_byteAt (nI q) τ).bind fun r2 => (if (fX8_isLetter r2) = 0 then some (0 : Int64) else some w1) else some (0 : Int64))) (pt_to T L q - q) q js_FU 0 (by omega) (by unfold js_FU; omega)
      have cc : ¬ (τ.1 0 13 = 0 ∧ pt_ty T L q = 1) := fun x => c1 x.2
      rw [hw, if_pos c0, if_neg cc]
      by_cases e : L ≤ q
      · rw [pm_atE hb e (by omega), Option.bind_some, if_pos (show fX8_isLetter (-1 : Int32) = 0 by decide)]
      · have c2 : ¬ pt_let (T q) = true := fun x => c1 (by unfold pt_ty; rw [if_neg e, if_pos x])
        rw [pm_at hb hL (by omega), Option.bind_some, pu_M_let (hT q), if_neg c2, if_pos (show (0 : Int32) = 0 from rfl)]
  · obtain ⟨w, hw⟩ := pm_wordA (τ := τ) hL hb hto.2 ht.2 (fun w1 => (if (τ.1 0 13) = 0 then (fX8_byteAt (nI q) τ).bind fun r2 => (if (fX8_isLetter r2) = 0 then some (0 : Int64) else some w1) else some (0 : Int64))) (pt_to T L q - q) q js_FU 0 (by omega) (by unfold js_FU; omega)
    have cc : ¬ (τ.1 0 13 = 0 ∧ pt_ty T L q = 1) := fun x => c0 x.1
    rw [hw, if_neg c0, if_neg cc]
theorem pt_hash : ∀ k, k < 11 → 0 < pt_hx (pt_nm k) (pt_nl k) := by decide +kernel
/-- the reference's comparison is the class's -/
theorem pm_isWord (hL : L ≤ 120) {q k : Nat} (hk : k < 11) (hq : q ≤ L) {c : Int64} (hc : c = lN (pt_hx (pt_nm k) (pt_nl k))) : (lg_cmp (if τ.1 0 13 = 0 ∧ pt_ty T L q = 1 then lN (pt_h T q (pt_to T L q - q)) else 0) c = 0) ↔ (τ.1 0 13 = 0 ∧ pt_is T L q k) := by
  have t1 := pt_tab1 k hk
  have hn : ∀ i, i < pt_nl k → 97 ≤ pt_nm k i ∧ pt_nm k i ≤ 122 := fun i hi => (pt_tab2 k hk i (by omega) hi).2
  have h40 := pt_hx_40 (U := pt_nm k) (l := pt_nl k) (by omega) hn
  have hpos := pt_hash k hk
  rw [lg_cmp_eq, hc]
  by_cases cc : τ.1 0 13 = 0 ∧ pt_ty T L q = 1
  · rw [if_pos cc]
    have hl := pt_letters hq cc.2
    have hto := pt_to_le (T := T) hq
    have hsm : ∀ n, pt_h T q n < 2 ^ 61 ∨ True := fun n => Or.inr trivial
    have key : pt_h T q (pt_to T L q - q) = pt_hx (pt_nm k) (pt_nl k) ↔ (pt_to T L q - q = pt_nl k ∧ ∀ i, i < pt_nl k → T (q + i) = pt_nm k i) := by
      refine ⟨fun x => pt_h_inj _ _ (by omega) hn (fun i hi => hl (q + i) (by omega) (by omega)) x, fun x => ?_⟩
      rw [x.1]
      exact pt_h_of _ (by omega) hn x.2
    have hbd : ∀ n, (∀ i, i < n → 97 ≤ T (q + i) ∧ T (q + i) ≤ 122) → pt_h T q n < 2 ^ 61 := by
      intro n
      induction n with
      | zero => intro _; exact (show (0 : Nat) < 2 ^ 61 by decide)
      | succ n ih =>
        intro hh
        have h1 := ih fun i hi => hh i (by omega)
        have h2 := hh n (by omega)
        rw [pt_h_s]
        unfold pt_hs
        split <;> omega
    have hb := hbd (pt_to T L q - q) fun i hi => hl (q + i) (by omega) (by omega)
    rw [pk_lEQ (by omega) (by omega), key]
    exact ⟨fun x => ⟨cc.1, cc.2, x⟩, fun x => x.2.2⟩
  · rw [if_neg cc]
    have : ¬ (0 : Int64) = lN (pt_hx (pt_nm k) (pt_nl k)) := fun x => by
      have := (pk_lEQ (a := 0) (by decide) (by omega)).mp x
      omega
    exact ⟨fun x => absurd x this, fun x => absurd ⟨x.1, x.2.1⟩ cc⟩
/-- the constants are the names' -/
theorem pt_consts : (19513 : Int64) = lN (pt_hx (pt_nm 0) (pt_nl 0)) ∧ (23569509 : Int64) = lN (pt_hx (pt_nm 1) (pt_nl 1)) ∧ (12641458 : Int64) = lN (pt_hx (pt_nm 2) (pt_nl 2)) ∧ (99685 : Int64) = lN (pt_hx (pt_nm 3) (pt_nl 3)) ∧ (132528 : Int64) = lN (pt_hx (pt_nm 4) (pt_nl 4)) ∧ (3841436836 : Int64) = lN (pt_hx (pt_nm 5) (pt_nl 5)) ∧ (763013 : Int64) = lN (pt_hx (pt_nm 6) (pt_nl 6)) ∧ (631476 : Int64) = lN (pt_hx (pt_nm 7) (pt_nl 7)) ∧ (592614867 : Int64) = lN (pt_hx (pt_nm 8) (pt_nl 8)) ∧ (10774482999 : Int64) = lN (pt_hx (pt_nm 9) (pt_nl 9)) ∧ (209573 : Int64) = lN (pt_hx (pt_nm 10) (pt_nl 10)) := by decide +kernel
end PO
