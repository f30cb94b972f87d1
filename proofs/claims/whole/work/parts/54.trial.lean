/-! PURE: kind, best -/
def ps_hs (A : Nat → Nat) (f : Nat) : Nat := A (9 + (8 * f + 0)) + A (9 + (8 * f + 1)) + A (9 + (8 * f + 2)) + A (9 + (8 * f + 3)) + A (9 + (8 * f + 4)) + A (9 + (8 * f + 5)) + A (9 + (8 * f + 6)) + A (9 + (8 * f + 7))
/-- the words of the set said one after another -/
def ps_tA (A : Nat → Nat) (f : Nat) (p : Int32) (v n : Nat) : Nat → Nat := pu_fold (fun X w => if ((p >>> (nI w &&& 31)) &&& (1 : Int32)) = (1 : Int32) then ps_say X f w v else X) A 0 n
def ps_ts (A : Nat → Nat) (f : Nat) (p : Int32) (v n : Nat) : Int32 := pu_fold (fun x w => if ((p >>> (nI w &&& 31)) &&& (1 : Int32)) = (1 : Int32) then x + ps_at (ps_tA A f p v w) f w v else x) 0 0 n
/-- the class's trial -/
def pv_tr (X : Nat → Nat) (s : js_S) (f N : Nat) (S : Int32) : Prop := (∀ b, b < 8 → s.1 14 b = nI (X (9 + (8 * f + b)))) ∧ N ≤ ps_hs X f ∧ s.1 13 0 = nI (ps_hs X f - N) ∧ s.1 13 1 = S
section PK
variable {A X : Nat → Nat} {σ τ : js_S} {f v : Nat} {p : Int32}
theorem ps_hs_of : ps_layers A f = nI (ps_hs A f) := by
  show (((((((((0 : Int32) + nI (A (9 + (8 * f + 0)))) + nI (A (9 + (8 * f + 1)))) + nI (A (9 + (8 * f + 2)))) + nI (A (9 + (8 * f + 3)))) + nI (A (9 + (8 * f + 4)))) + nI (A (9 + (8 * f + 5)))) + nI (A (9 + (8 * f + 6)))) + nI (A (9 + (8 * f + 7)))) = _
  unfold ps_hs
  rw [show (0 : Int32) = nI 0 from rfl, nI_add, nI_add, nI_add, nI_add, nI_add, nI_add, nI_add, nI_add, Nat.zero_add]
theorem ps_hs_le (hB : pv_B A) (hf : f < 6) : ps_hs A f ≤ 48 := by
  have h0 := hB.hg (p := 8 * f + 0) (by omega)
  have h1 := hB.hg (p := 8 * f + 1) (by omega)
  have h2 := hB.hg (p := 8 * f + 2) (by omega)
  have h3 := hB.hg (p := 8 * f + 3) (by omega)
  have h4 := hB.hg (p := 8 * f + 4) (by omega)
  have h5 := hB.hg (p := 8 * f + 5) (by omega)
  have h6 := hB.hg (p := 8 * f + 6) (by omega)
  have h7 := hB.hg (p := 8 * f + 7) (by omega)
  unfold ps_hs
  omega
theorem ps_tA_s (n : Nat) : ps_tA A f p v (n + 1) = if ((p >>> (nI n &&& 31)) &&& (1 : Int32)) = (1 : Int32) then ps_say (ps_tA A f p v n) f n v else ps_tA A f p v n := by
  unfold ps_tA
  rw [pu_fold_end, Nat.zero_add]
theorem ps_ts_s (n : Nat) : ps_ts A f p v (n + 1) = if ((p >>> (nI n &&& 31)) &&& (1 : Int32)) = (1 : Int32) then ps_ts A f p v n + ps_at (ps_tA A f p v n) f n v else ps_ts A f p v n := by
  unfold ps_ts
  rw [pu_fold_end, Nat.zero_add]
theorem ps_tA_B (hB : pv_B A) (hf : f < 6) (hv : v < 10) : ∀ n, n ≤ 16 → pv_B (ps_tA A f p v n)
  | 0, _ => hB
  | n + 1, hn => by
    rw [ps_tA_s]
    split
    · exact ps_say_B (ps_tA_B hB hf hv n (by omega)) hf (by omega) hv
    · exact ps_tA_B hB hf hv n (by omega)
theorem ps_tA_lo {j : Nat} (hj : j < 9) : ∀ n, ps_tA A f p v n j = A j
  | 0 => rfl
  | n + 1 => by
    rw [ps_tA_s]
    split
    · rw [ps_say_lo hj, ps_tA_lo hj n]
    · exact ps_tA_lo hj n
theorem ps_lay_hg {q w c b : Nat} (hf : f < 6) (hq : q < 8) (hh : A (9 + (8 * f + q)) < 6) (hb : b < 8) : ps_lay A f q w c (9 + (8 * f + b)) = if b = q then A (9 + (8 * f + q)) + 1 else A (9 + (8 * f + b)) := by
  unfold ps_lay
  by_cases e : b = q
  · subst e
    rw [if_pos rfl, pv_up1_at]
  · rw [if_neg e, pv_up1_ne (by omega), pv_up1_ne (by omega), pv_up1_ne (by omega)]
theorem ps_hs_lay {q w c : Nat} (hf : f < 6) (hq : q < 8) (hh : A (9 + (8 * f + q)) < 6) : ps_hs (ps_lay A f q w c) f = ps_hs A f + 1 := by
  unfold ps_hs
  rw [ps_lay_hg hf hq hh (b := 0) (by decide), ps_lay_hg hf hq hh (b := 1) (by decide), ps_lay_hg hf hq hh (b := 2) (by decide), ps_lay_hg hf hq hh (b := 3) (by decide), ps_lay_hg hf hq hh (b := 4) (by decide), ps_lay_hg hf hq hh (b := 5) (by decide), ps_lay_hg hf hq hh (b := 6) (by decide), ps_lay_hg hf hq hh (b := 7) (by decide)]
  rcases (show q = 0 ∨ q = 1 ∨ q = 2 ∨ q = 3 ∨ q = 4 ∨ q = 5 ∨ q = 6 ∨ q = 7 by omega) with rfl | rfl | rfl | rfl | rfl | rfl | rfl | rfl <;> simp <;> omega
theorem pv_EC.s13 (σ : js_S) {k i : Nat} {v : Int32} (hk : k = 13 ∨ k = 14) : pv_EC σ (js_sI σ k i v) := ⟨fun q _ _ h3 h4 _ _ _ => pv_sI_ne (by omega), by rw [pv_sI_ne (by omega)], rfl⟩
theorem pc_settle1L {H : Nat → Nat} (h : ∀ b, b < 8 → σ.1 14 b = nI (H b)) (hH : ∀ b, b < 8 → H b ≤ 6) {k : Nat} (hk : k < 6) : ∀ b n, b ≤ 8 → b < n → fX1_settle_i1_L8 (nI k) (0 : Int32) σ n (nI b + (-1)) = some (ps_set H k b)
  | 0, n, hb, hn => by
    obtain ⟨m, rfl⟩ : ∃ m, n = m + 1 := ⟨n - 1, by omega⟩
    rw [fX1_settle_i1_L8, if_pos (by decide)]
    rfl
  | b + 1, n, hb, hn => by
    obtain ⟨m, rfl⟩ : ∃ m, n = m + 1 := ⟨n - 1, by omega⟩
    have hh := hH b (by omega)
    have ht := pv_hold_tab k hk b (by omega)
    rw [pk_m1, fX1_settle_i1_L8, if_neg (nI_pos (by omega)), Int32.zero_add, if_neg (nI_pos (by omega)), if_neg (show ¬ (8 : Int32) ≤ nI b from nI_ge (b := 8) (by omega) (by decide)), pu_gd (by omega) (by decide), pu_cl (by omega), h b (by omega), ht.1]
    have e : (nI (pv_hold k b) ≤ nI (H b)) ↔ ¬ H b < pv_hold k b := by rw [nI_leI (by omega) (by omega)]; omega
    unfold ps_set
    by_cases e2 : H b < pv_hold k b
    · rw [if_neg (fun x => e.mp x e2), if_pos e2]
    · rw [if_pos (e.mpr e2), if_neg e2]
      exact pc_settle1L h hH hk b m (by omega) (by omega)
theorem pc_settle1 {H : Nat → Nat} (h : ∀ b, b < 8 → σ.1 14 b = nI (H b)) (hH : ∀ b, b < 8 → H b ≤ 6) {k : Nat} (hk : k < 6) {u : Int32} (hu : u = (-1) ∨ ∃ b, b < 8 ∧ u = nI b) : fX1_settle_i1 (nI k) u (0 : Int32) σ = some (ps_land H k u) := by
  unfold fX1_settle_i1 ps_land
  rcases hu with rfl | ⟨b, hb, rfl⟩
  · rw [if_pos rfl, if_neg (by decide)]
    exact pc_settle1L h hH hk 0 js_FU (by decide) (by decide)
  · rw [if_neg (pu_m1 (by omega)), if_neg (show ¬ (7 : Int32) < nI b from nI_nlt (b := b) (a := 7) (by omega) (by decide)), pu_cl (by omega), pu_upn rfl hb]
    exact pc_settle1L h hH hk (b + 1) js_FU (by omega) (by unfold js_FU; omega)
theorem pc_one {s : js_S} {N w : Nat} {S : Int32} (h : pv_tr X s f N S) (hX : pv_B X) (hf : f < 6) (hw : w < 16) (hv : v < 10) : ∃ s', fX6_settleOne (nI (X (3 + f))) (pv_up (X (3 + f)) w v (X 1)) s = some s' ∧ pv_EC s s' ∧ pv_tr (ps_say X f w v) s' f N (S + ps_at X f w v) := by
  obtain ⟨h1, h2, h3, h4⟩ := h
  have hk := hX.kd hf
  unfold fX6_settleOne
  rw [pc_settle1 h1 (fun b hb => hX.hg (p := 8 * f + b) (by omega)) (by omega) (pv_up_in (by omega) hw hv), Option.bind_some]
  rw [show ps_land (fun b => X (9 + (8 * f + b))) (X (3 + f)) (pv_up (X (3 + f)) w v (X 1)) = ps_at X f w v from rfl, h4]
  unfold ps_say
  rcases ps_at_in hX hf hw hv with e | ⟨q, hq, e, hh⟩
  · rw [e, if_pos (show fX7_isBend (-1 : Int32) = 0 by decide), if_pos rfl]
    refine ⟨_, rfl, pv_EC.s13 s (by decide), fun b hb => ?_, h2, ?_, ?_⟩
    · rw [pv_sI_ne (by decide)]; exact h1 b hb
    · rw [pv_sI_at, if_neg (by decide)]; exact h3
    · rw [pv_sI_at, if_pos rfl]
  · have ht := pv_hold_tab (X (3 + f)) (by omega) q hq
    have hl := ps_hs_lay (A := X) (w := w) (c := 0) hf hq (by omega)
    rw [e, pc_isBend1 hq, if_neg (show ¬ (1 : Int32) = 0 by decide), if_neg (pu_m1 (by omega)), pu_gd (by omega) (by decide), pu_gd (by omega) (by decide), pu_cl (by omega)]
    refine ⟨_, rfl, ((pv_EC.s13 s (by decide)).tr (pv_EC.s13 _ (by decide))).tr (pv_EC.s13 _ (by decide)), fun b hb => ?_, by rw [hl]; omega, ?_, ?_⟩
    · rw [pv_sI_ne (by decide), pv_sI_at, pv_sI_ne (by decide), ps_lay_hg hf hq (by omega) hb]
      by_cases e2 : b = q
      · rw [if_pos e2, if_pos e2, h1 q hq, nI_1]
      · rw [if_neg e2, if_neg e2, h1 b hb]
    · rw [pv_sI_at, if_pos rfl, pv_sI_ne (by decide), pv_sI_at, if_neg (by decide), h3, nI_1, hl]
      congr 1
      omega
    · rw [pv_sI_at, if_neg (by decide), pv_sI_ne (by decide), pv_sI_at, if_pos rfl]
theorem pc_trL43 (hB : pv_B A) (hf : f < 6) (hv : v < 10) {N : Nat} (hday : σ.1 1 0 = nI (A 1)) : ∀ d w n s0, w + d = 16 → d < n → pv_EC σ s0 → pv_tr (ps_tA A f p v w) s0 f N (ps_ts A f p v w) → ∃ s1, fX6_speakAll_L43 (nI (A (3 + f))) p (nI v) n (nI w) s0 = some s1 ∧ pv_EC σ s1 ∧ pv_tr (ps_tA A f p v 16) s1 f N (ps_ts A f p v 16)
  | 0, w, n, s0, hw, hn, hE, hT => by
    obtain ⟨n, rfl⟩ : ∃ m, n = m + 1 := ⟨n - 1, by omega⟩
    have : w = 16 := by omega
    subst this
    rw [fX6_speakAll_L43, if_pos (show (16 : Int32) ≤ nI 16 by decide)]
    exact ⟨s0, rfl, hE, hT⟩
  | d + 1, w, n, s0, hw, hn, hE, hT => by
    obtain ⟨n, rfl⟩ : ∃ m, n = m + 1 := ⟨n - 1, by omega⟩
    rw [fX6_speakAll_L43, if_neg (show ¬ (16 : Int32) ≤ nI w from nI_ge (b := 16) (by omega) (by decide)), nI_1]
    unfold fX7_hasBit
    have hs := ps_tA_s (A := A) (f := f) (p := p) (v := v) w
    have ht := ps_ts_s (A := A) (f := f) (p := p) (v := v) w
    by_cases e : ((p >>> (nI w &&& 31)) &&& (1 : Int32)) = (1 : Int32)
    · rw [if_pos e] at hs ht
      rw [if_pos e, if_neg (show ¬ (1 : Int32) = 0 by decide), hE.1 1 (by decide) (by decide) (by decide) (by decide) (by decide) (by decide) (by decide), hday]
      obtain ⟨s1, c1, c2, c3⟩ := pc_one (w := w) hT (ps_tA_B hB hf hv w (by omega)) hf (by omega) hv
      rw [ps_tA_lo (by omega), ps_tA_lo (by decide)] at c1
      rw [show fX1_rise (nI (A (3 + f))) (nI w) (nI v) (nI (A 1)) = pv_up (A (3 + f)) w v (A 1) from rfl, c1, Option.bind_some]
      exact pc_trL43 hB hf hv hday d (w + 1) n s1 (by omega) (by omega) (hE.tr c2) (by rw [hs, ht]; exact c3)
    · rw [if_neg e] at hs ht
      rw [if_neg e, if_pos (show (0 : Int32) = 0 from rfl)]
      exact pc_trL43 hB hf hv hday d (w + 1) n s0 (by omega) (by omega) hE (by rw [hs, ht]; exact hT)
theorem pc_speakAll (hC : pv_C A σ 1) (hB : pv_B A) (hX : pv_B X) (hf : f < A 0) (hv : v < 10) (e1 : X 1 = A 1) (e9 : ∀ b, b < 8 → X (9 + (8 * f + b)) = A (9 + (8 * f + b))) : ∃ s1, fX6_speakAll (nI f) (nI (X (3 + f))) p (nI v) σ = some s1 ∧ pv_EC σ s1 ∧ pv_tr (ps_tA X f p v 16) s1 f (ps_hs X f) (ps_ts X f p v 16) := by
  have h6 := hB.many
  unfold fX6_speakAll
  have e0 : pv_EC σ (js_sI (js_sI σ 13 0 (0 : Int32)) 13 1 (0 : Int32)) := (pv_EC.s13 σ (by decide)).tr (pv_EC.s13 _ (by decide))
  have key := pu_loopI (fun n s i => fX6_speakAll_L13 (fun s2 => fX6_speakAll_L43 (nI (X (3 + f))) p (nI v) js_FU (0 : Int32) s2) (nI f) (nI (X (3 + f))) p (nI v) n i s) (fun s b => js_sI s 14 b (nI (X (9 + (8 * f + b))))) (fun s2 => fX6_speakAll_L43 (nI (X (3 + f))) p (nI v) js_FU (0 : Int32) s2) (fun s i => pv_EC σ s ∧ s.1 13 0 = 0 ∧ s.1 13 1 = 0 ∧ ∀ b, b < i → s.1 14 b = nI (X (9 + (8 * f + b)))) 8 (by decide) ?_ ?_ (js_sI (js_sI σ 13 0 (0 : Int32)) 13 1 (0 : Int32)) ⟨e0, rfl, rfl, fun b hb => by cases hb⟩
  · obtain ⟨k1, k2, k3, k4, k5⟩ := key
    rw [k1]
    refine pc_trL43 (p := p) (N := ps_hs X f) hX (by omega) hv ?_ 16 0 js_FU _ (by decide) (by decide) k2 ⟨k5, Nat.le_refl _, ?_, k4⟩
    · rw [hC.day, e1]
    · rw [k3]
      show _ = nI (ps_hs X f - ps_hs X f)
      rw [Nat.sub_self]
      rfl
  · intro n s i hi ⟨h1, h2, h3, h4⟩
    refine ⟨?_, h1.tr (pv_EC.s13 s (by decide)), by rw [pv_sI_ne (by decide)]; exact h2, by rw [pv_sI_ne (by decide)]; exact h3, fun b hb => ?_⟩
    · show fX6_speakAll_L13 _ (nI f) (nI (X (3 + f))) p (nI v) (n + 1) (nI i) s = _
      rw [fX6_speakAll_L13, if_neg (show ¬ (8 : Int32) ≤ nI i from nI_ge hi (by decide)), pc_height (h1.C hC) hB hf hi, Option.bind_some, pu_gd hi (by decide), pu_cl (by omega), nI_1, ← e9 i hi]
    · rw [pv_sI_at]
      by_cases e : b = i
      · rw [if_pos e, e]
      · rw [if_neg e]; exact h4 b (by omega)
  · intro n s _
    show fX6_speakAll_L13 _ (nI f) (nI (X (3 + f))) p (nI v) (n + 1) (nI 8) s = _
    rw [fX6_speakAll_L13, if_pos (show (8 : Int32) ≤ nI 8 by decide)]
theorem pm_lies1 (hM : pv_M A τ 1) {f b w c : Nat} (hf : f < 6) (hb : b < 8) (hh : A (9 + (8 * f + b)) < 6) : ∃ τ', fX8_lies (nI f) (nI b) (nI w) (nI c) τ = some τ' ∧ pv_O1 τ τ' ∧ pv_M (ps_lay A f b w c) τ' 1 := by
  unfold fX8_lies
  rw [pm_layers hM hf hb, Option.bind_some, pm_spot, pm_pl, fa_lit 57, fa_lit 345, fa_lit 9, nI_add, nI_add, nI_add, pu_gd (by omega) (by decide), pu_gd (by omega) (by decide), pu_gd (by omega) (by decide), pu_gd (by omega) (by decide), pu_cl (by omega), pu_cl (by omega), pu_cl (by omega)]
  have h1 : pv_M (pv_up1 (pv_up1 A (57 + (6 * (8 * f + b) + A (9 + (8 * f + b)))) w) (345 + (6 * (8 * f + b) + A (9 + (8 * f + b)))) c) (js_sI (js_sI τ 1 (57 + (6 * (8 * f + b) + A (9 + (8 * f + b)))) (nI w)) 1 (345 + (6 * (8 * f + b) + A (9 + (8 * f + b)))) (nI c)) 1 := (hM.put (k := 57 + (6 * (8 * f + b) + A (9 + (8 * f + b))))).put
  rw [h1 (9 + (8 * f + b)) (by omega), pv_up1_ne (by omega), pv_up1_ne (by omega), nI_1]
  exact ⟨_, rfl, ((pv_O1.put τ).tr (pv_O1.put _)).tr (pv_O1.put _), h1.put⟩
theorem pm_says1 (hM : pv_M A τ 1) (hB : pv_B A) {f w v : Nat} (hf : f < 6) (hw : w < 16) (hv : v < 10) : ∃ τ', fX8_says (nI f) (nI w) (nI v) τ = some (ps_at A f w v, τ') ∧ pv_O1 τ τ' ∧ pv_M (ps_say A f w v) τ' 1 := by
  unfold fX8_says ps_say
  rw [pm_lands hM hB hf hw hv, Option.bind_some]
  rcases ps_at_in hB (show f < 6 by omega) hw hv with e | ⟨q, hq, e, hh⟩
  · rw [e, if_pos (by decide), if_pos rfl]
    exact ⟨τ, rfl, pv_O1.rf τ, hM⟩
  · have hk := hB.kd (f := f) (by omega)
    have ht := pv_hold_tab (A (3 + f)) (by omega) q hq
    rw [e, if_neg (nI_pos (by omega)), if_neg (pu_m1 (by omega)), pu_cl (by omega)]
    obtain ⟨τ', h1, h2, h3⟩ := pm_lies1 (w := w) (c := 0) hM hf hq (by omega)
    rw [show (0 : Int32) = nI 0 from rfl, h1]
    exact ⟨τ', rfl, h2, h3⟩
theorem pm_saysL (hB : pv_B A) (hf : f < 6) (hv : v < 10) : ∀ d w n s0, w + d = 16 → d < n → pv_O1 τ s0 → pv_M (ps_tA A f p v w) s0 1 → ∃ s1, fX8_saysAll_L6 (nI f) p (nI v) n (ps_ts A f p v w) (nI w) s0 = some (ps_ts A f p v 16, s1) ∧ pv_O1 τ s1 ∧ pv_M (ps_tA A f p v 16) s1 1
  | 0, w, n, s0, hw, hn, hE, hT => by
    obtain ⟨n, rfl⟩ : ∃ m, n = m + 1 := ⟨n - 1, by omega⟩
    have : w = 16 := by omega
    subst this
    rw [fX8_saysAll_L6, if_pos (show (16 : Int32) ≤ nI 16 by decide)]
    exact ⟨s0, rfl, hE, hT⟩
  | d + 1, w, n, s0, hw, hn, hE, hT => by
    obtain ⟨n, rfl⟩ : ∃ m, n = m + 1 := ⟨n - 1, by omega⟩
    rw [fX8_saysAll_L6, if_neg (show ¬ (16 : Int32) ≤ nI w from nI_ge (b := 16) (by omega) (by decide)), nI_1, Int32.add_zero]
    have hs := ps_tA_s (A := A) (f := f) (p := p) (v := v) w
    have ht := ps_ts_s (A := A) (f := f) (p := p) (v := v) w
    by_cases e : ((p >>> (nI w &&& 31)) &&& (1 : Int32)) = (1 : Int32)
    · rw [if_pos e] at hs ht
      obtain ⟨s1, c1, c2, c3⟩ := pm_says1 (w := w) hT (ps_tA_B hB hf hv w (by omega)) hf (by omega) hv
      rw [if_pos e, c1, Option.bind_some]
      show ∃ s1', fX8_saysAll_L6 (nI f) p (nI v) n (ps_ts A f p v w + ps_at (ps_tA A f p v w) f w v) (nI (w + 1)) s1 = _ ∧ _
      rw [← ht]
      exact pm_saysL hB hf hv d (w + 1) n s1 (by omega) (by omega) (hE.tr c2) (by rw [hs]; exact c3)
    · rw [if_neg e] at hs ht
      rw [if_neg e, ← ht]
      exact pm_saysL hB hf hv d (w + 1) n s0 (by omega) (by omega) hE (by rw [hs]; exact hT)
theorem pm_saysAll (hM : pv_M A τ 1) (hB : pv_B A) (hf : f < 6) (hv : v < 10) : ∃ s1, fX8_saysAll (nI f) p (nI v) τ = some (ps_ts A f p v 16, s1) ∧ pv_O1 τ s1 ∧ pv_M (ps_tA A f p v 16) s1 1 :=
  pm_saysL hB hf hv 16 0 js_FU τ (by decide) (by decide) (pv_O1.rf τ) hM
theorem pg_kindL {σ0 τ0 : js_S} (h : pv_R σ0 τ0) (hB : pv_B A) (hd : A 1 ≤ 9999) (hf : f < A 0) (hv : v < 10) : ∀ d k n m x y z σ τ, k + d = 6 → d < n → d < m → (y = (-1) ∧ z = (-1) ∨ ∃ L, L ≤ 100 ∧ y = nI L ∧ z = nI (ps_hs A f + L)) → pv_C A σ 1 → pv_EC σ0 σ → pv_M A τ 1 → pv_OM τ0 τ → pv_G (fX7_kind_L41 (nI f) p (nI v) n x y (nI k) σ) (fX8_kind_L38 (nI f) p (nI v) m x z (nI k) τ)
  | 0, k, n, m, x, y, z, σ, τ, hk, hn, hm, hi, hC, hE, hM, hO => by
    obtain ⟨n, rfl⟩ : ∃ m, n = m + 1 := ⟨n - 1, by omega⟩
    obtain ⟨m, rfl⟩ : ∃ k, m = k + 1 := ⟨m - 1, by omega⟩
    have : k = 6 := by omega
    subst this
    rw [fX7_kind_L41, fX8_kind_L38, if_pos (show (6 : Int32) ≤ nI 6 by decide), if_pos (show (5 : Int32) < nI 6 by decide)]
    exact ⟨_, _, _, rfl, rfl, h.step hE.O hO ⟨A, hB, hd, hC, hM⟩⟩
  | d + 1, k, n, m, x, y, z, σ, τ, hk, hn, hm, hi, hC, hE, hM, hO => by
    obtain ⟨n, rfl⟩ : ∃ m, n = m + 1 := ⟨n - 1, by omega⟩
    obtain ⟨m, rfl⟩ : ∃ k, m = k + 1 := ⟨m - 1, by omega⟩
    have h6 := hB.many
    have hX : pv_B (pv_up1 A (3 + f) k) := hB.put (by unfold pv_bd; omega)
    have ek : pv_up1 A (3 + f) k (3 + f) = k := pv_up1_at
    have e9 : ∀ b, b < 8 → pv_up1 A (3 + f) k (9 + (8 * f + b)) = A (9 + (8 * f + b)) := fun b hb => pv_up1_ne (by omega)
    have eh : ps_hs (pv_up1 A (3 + f) k) f = ps_hs A f := by
      unfold ps_hs
      rw [e9 0 (by decide), e9 1 (by decide), e9 2 (by decide), e9 3 (by decide), e9 4 (by decide), e9 5 (by decide), e9 6 (by decide), e9 7 (by decide)]
    obtain ⟨s1, c1, c2, c3⟩ := pc_speakAll (p := p) hC hB hX hf hv (pv_up1_ne (by omega)) e9
    rw [ek] at c1
    rw [eh] at c3
    obtain ⟨-, c4, c5, -⟩ := c3
    obtain ⟨t1, d1, d2⟩ := pm_aside τ
    have hM4 : pv_M A t1 4 := pv_M.cp d2 hM
    have hM1 : pv_M (pv_up1 A (3 + f) k) (js_sI t1 1 (3 + f) (nI k)) 1 := (hM.keep (d2.1 1 (by decide))).put
    obtain ⟨t2, f1, f2, f3⟩ := pm_saysAll (p := p) hM1 hX (show f < 6 by omega) hv
    have hl := ps_hs_le (ps_tA_B (p := p) hX (show f < 6 by omega) hv 16 (by decide)) (show f < 6 by omega)
    obtain ⟨t3, g1, g2⟩ := pm_back t2 (nI (ps_hs (ps_tA (pv_up1 A (3 + f) k) f p v 16) f))
    have hM' : pv_M A t3 1 := pv_M.cp g2 ((hM4.keep (pv_sI_ne (by decide))).keep (f2.1 4 (by decide)))
    have hO' : pv_OM τ0 t3 := (((hO.tr d2.O4).tr (pv_OM.put t1)).tr f2.O).tr g2.O1
    rw [fX7_kind_L41, fX8_kind_L38, if_neg (show ¬ (6 : Int32) ≤ nI k from nI_ge (b := 6) (by omega) (by decide)), if_neg (show ¬ (5 : Int32) < nI k from nI_nlt (a := 5) (by omega) (by decide)), c1, Option.bind_some, d1, Option.bind_some, fa_lit 3, nI_add, pu_gd (by omega) (by decide), pu_cl (by omega), f1, Option.bind_some, pm_layersOf f3 (by omega), Option.bind_some, ps_hs_of, g1, Option.bind_some, c5, nI_1]
    generalize hT : ps_hs (ps_tA (pv_up1 A (3 + f) k) f p v 16) f = T at *
    have key : (nI (T - ps_hs A f) ≤ y) ↔ (nI T ≤ z) := by
      rcases hi with ⟨rfl, rfl⟩ | ⟨L, hL, rfl, rfl⟩
      · have q1 : ¬ nI (T - ps_hs A f) ≤ (-1 : Int32) := by
          rw [fa_le, nI_toInt (by omega)]
          have : ((-1 : Int32)).toInt = -1 := rfl
          omega
        have q2 : ¬ nI T ≤ (-1 : Int32) := by
          rw [fa_le, nI_toInt (by omega)]
          have : ((-1 : Int32)).toInt = -1 := rfl
          omega
        exact ⟨fun q => absurd q q1, fun q => absurd q q2⟩
      · rw [nI_leI (by omega) (by omega), nI_leI (by omega) (by omega)]
        omega
    by_cases e : nI (T - ps_hs A f) ≤ y
    · have e' := key.mp e
      rw [if_pos e, if_pos e', if_pos e']
      exact pg_kindL h hB hd hf hv d (k + 1) n m x y z s1 t3 (by omega) (by omega) (by omega) hi (c2.C hC) (hE.tr c2) hM' hO'
    · have e' : ¬ nI T ≤ z := fun q => e (key.mpr q)
      rw [if_neg e, if_neg e', if_neg e']
      exact pg_kindL h hB hd hf hv d (k + 1) n m (nI k) _ _ s1 t3 (by omega) (by omega) (by omega) (Or.inr ⟨T - ps_hs A f, by omega, rfl, by rw [show ps_hs A f + (T - ps_hs A f) = T by omega]⟩) (c2.C hC) (hE.tr c2) hM' hO'
theorem pg_kind (h : pv_R σ τ) (a b c : Int32) : pv_G (fX7_kind a b c σ) (fX8_kind a b c τ) := by
  have h0 := h
  obtain ⟨⟨A, hB, hd, hC, hM⟩, -, -⟩ := h0
  have h6 := hB.many
  unfold fX7_kind fX8_kind
  rw [pc_hasFlue hC hB, pm_isFlue hM hB, Option.bind_some, Option.bind_some, pu_C_isSet, pu_M_areWords, pu_C_isVoice, pu_M_isVoice]
  by_cases h1 : pu_in a (A 0)
  · rw [if_pos h1, pu_10, pu_10]
    obtain ⟨f, hf, rfl⟩ := pu_in_of h1 (by omega)
    by_cases h2 : pu_in b 65536
    · rw [if_pos h2, pu_10, pu_10]
      by_cases h3 : pu_in c 10
      · rw [if_pos h3, pu_10, pu_10]
        obtain ⟨v, hv, rfl⟩ := pu_in_of h3 (by omega)
        exact pg_kindL h hB hd hf hv 6 0 js_FU js_FU 0 (-1) (-1) σ τ (by decide) (by decide) (by decide) (Or.inl ⟨rfl, rfl⟩) hC (pv_EC.rf σ) hM (pv_OM.rf τ)
      · rw [if_neg h3, pu_00, pu_00, pv_found0, pv_finds0]
        exact pv_G.found h 0
    · rw [if_neg h2, pu_00, pu_00, pv_found0, pv_finds0]
      exact pv_G.found h 0
  · rw [if_neg h1, pu_00, pu_00, pv_found0, pv_finds0]
    exact pv_G.found h 0
theorem pg_bestL {σ0 τ0 : js_S} (h : pv_R σ0 τ0) (hB : pv_B A) (hd : A 1 ≤ 9999) (h00 : 0 < A 0) (hv : v < 10) : ∀ d f n m x x' y y' σ τ, f + d = A 0 → d < n → d < m → (f = 0 ∧ x' = (-1) ∨ 0 < f ∧ y = y' ∧ ∃ g, g < f ∧ x = nI g ∧ x' = nI g) → pv_C A σ 1 → pv_EC σ0 σ → pv_M A τ 1 → pv_OM τ0 τ → pv_G (fX7_best_L46 p (nI v) n x y (nI f) σ) (fX8_best_L29 p (nI v) m x' y' (nI f) τ)
  | 0, f, n, m, x, x', y, y', σ, τ, hk, hn, hm, hi, hC, hE, hM, hO => by
    obtain ⟨n, rfl⟩ : ∃ m, n = m + 1 := ⟨n - 1, by omega⟩
    obtain ⟨m, rfl⟩ : ∃ k, m = k + 1 := ⟨m - 1, by omega⟩
    have h6 := hB.many
    have : f = A 0 := by omega
    subst this
    rcases hi with ⟨e, -⟩ | ⟨-, rfl, g, hg, rfl, rfl⟩
    · omega
    · rw [fX7_best_L46, fX8_best_L29, hC.many, if_pos (nI_le (Nat.le_refl _) (by omega)), pm_g0, pm_s0 hM, if_pos (nI_le (Nat.le_refl _) (by omega)), if_pos (nI_pos' (by omega))]
      exact ⟨_, _, _, rfl, rfl, h.step hE.O hO ⟨A, hB, hd, hC, hM⟩⟩
  | d + 1, f, n, m, x, x', y, y', σ, τ, hk, hn, hm, hi, hC, hE, hM, hO => by
    obtain ⟨n, rfl⟩ : ∃ m, n = m + 1 := ⟨n - 1, by omega⟩
    obtain ⟨m, rfl⟩ : ∃ k, m = k + 1 := ⟨m - 1, by omega⟩
    have h6 := hB.many
    obtain ⟨s1, c1, c2, c3⟩ := pc_speakAll (p := p) (f := f) hC hB hB (by omega) hv rfl (fun b hb => rfl)
    obtain ⟨-, -, -, c6⟩ := c3
    obtain ⟨t1, d1, d2⟩ := pm_aside τ
    have hM4 : pv_M A t1 4 := pv_M.cp d2 hM
    obtain ⟨t2, f1, f2, f3⟩ := pm_saysAll (p := p) (f := f) (hM.keep (d2.1 1 (by decide))) hB (by omega) hv
    obtain ⟨t3, g1, g2⟩ := pm_back t2 (ps_ts A f p v 16)
    have hM' : pv_M A t3 1 := pv_M.cp g2 (hM4.keep (f2.1 4 (by decide)))
    have hO' : pv_OM τ0 t3 := ((hO.tr d2.O4).tr f2.O).tr g2.O1
    rw [fX7_best_L46, fX8_best_L29, hC.many, if_neg (nI_ge (by omega) (by omega)), pm_g0, pm_s0 hM, if_neg (nI_ge (by omega) (by omega)), pc_kindOf hC hB (by omega), Option.bind_some, c1, Option.bind_some, d1, Option.bind_some, f1, Option.bind_some, g1, Option.bind_some, c6, nI_1]
    rcases hi with ⟨rfl, rfl⟩ | ⟨hf0, rfl, g, hg, rfl, rfl⟩
    · rw [if_pos (show nI 0 = 0 from rfl), if_pos (show (-1 : Int32) < 0 by decide), if_pos rfl]
      exact pg_bestL h hB hd h00 hv d (0 + 1) n m (nI 0) (nI 0) _ _ s1 t3 (by omega) (by omega) (by omega) (Or.inr ⟨by omega, rfl, 0, by omega, rfl, rfl⟩) (c2.C hC) (hE.tr c2) hM' hO'
    · rw [if_neg (nI_ne0 hf0 (by omega)), if_neg (nI_pos (by omega))]
      by_cases e : ps_ts A f p v 16 ≤ y
      · rw [if_pos e, if_pos e, if_neg (fun q => by have := (nI_eq (by omega) (by omega)).mp q; omega)]
        exact pg_bestL h hB hd h00 hv d (f + 1) n m (nI g) (nI g) _ _ s1 t3 (by omega) (by omega) (by omega) (Or.inr ⟨by omega, rfl, g, by omega, rfl, rfl⟩) (c2.C hC) (hE.tr c2) hM' hO'
      · rw [if_neg e, if_neg e, if_pos rfl]
        exact pg_bestL h hB hd h00 hv d (f + 1) n m (nI f) (nI f) _ _ s1 t3 (by omega) (by omega) (by omega) (Or.inr ⟨by omega, rfl, f, by omega, rfl, rfl⟩) (c2.C hC) (hE.tr c2) hM' hO'
theorem pg_best (h : pv_R σ τ) (a b : Int32) : pv_G (fX7_best a b σ) (fX8_best a b τ) := by
  have h0 := h
  obtain ⟨⟨A, hB, hd, hC, hM⟩, -, -⟩ := h0
  have h6 := hB.many
  unfold fX7_best fX8_best
  rw [pu_C_isSet, pu_M_areWords, pu_C_isVoice, pu_M_isVoice]
  by_cases h2 : pu_in a 65536
  · rw [if_pos h2, pu_10, pu_10]
    by_cases h3 : pu_in b 10
    · rw [if_pos h3, pu_10, pu_10, hC.many]
      obtain ⟨v, hv, rfl⟩ := pu_in_of h3 (by omega)
      by_cases h4 : A 0 = 0
      · rw [h4, if_pos (show nI 0 = 0 from rfl)]
        have e : fX8_best_L29 a (nI v) js_FU (-1 : Int32) (0 : Int32) (0 : Int32) τ = (fX8_finds (-1000000004 : Int32) τ).bind fun r2 => some (r2.1, r2.2) := by
          rw [show js_FU = (js_FU - 1) + 1 from rfl, fX8_best_L29, pm_g0, pm_s0 hM, h4, if_pos (show nI 0 ≤ (0 : Int32) by decide), if_neg (show ¬ (0 : Int32) ≤ (-1) by decide)]
        rw [e, pv_found3, pv_finds3]
        exact pv_G.found h 3
      · rw [if_neg (nI_ne0 (by omega) (by omega))]
        exact pg_bestL h hB hd (by omega) hv (A 0) 0 js_FU js_FU 0 (-1) 0 0 σ τ (by omega) (by unfold js_FU; omega) (by unfold js_FU; omega) (Or.inl ⟨rfl, rfl⟩) hC (pv_EC.rf σ) hM (pv_OM.rf τ)
    · rw [if_neg h3, pu_00, pu_00, pv_found0, pv_finds0]
      exact pv_G.found h 0
  · rw [if_neg h2, pu_00, pu_00, pv_found0, pv_finds0]
    exact pv_G.found h 0
end PK
