/-! PURE: the tape's items, the reference -/
def pv_EI (τ τ' : js_S) : Prop := (∀ k, k ≠ 0 → k ≠ 1 → τ'.1 k = τ.1 k) ∧ (∀ i, i < 10 → τ'.1 0 i = τ.1 0 i) ∧ τ'.2 = τ.2
theorem pv_EI.tr {a b c : js_S} (h : pv_EI a b) (g : pv_EI b c) : pv_EI a c := ⟨fun k h1 h2 => (g.1 k h1 h2).trans (h.1 k h1 h2), fun i h1 => (g.2.1 i h1).trans (h.2.1 i h1), g.2.2.trans h.2.2⟩
theorem pv_E0b.I {a b : js_S} (h : pv_E0b a b) : pv_EI a b := ⟨fun k h1 _ => h.1 k h1, h.2⟩
theorem pv_O1.I {a b : js_S} (h : pv_O1 a b) : pv_EI a b := ⟨fun k _ h1 => h.1 k h1, fun i _ => by rw [h.1 0 (by decide)], h.2⟩
theorem pv_tkm.O1 {T : Nat → Nat} {L q : Nat} {a b : js_S} (h : pv_tkm T L a q) (o : pv_O1 a b) : pv_tkm T L b q := by
  unfold pv_tkm
  rw [o.1 0 (by decide)]
  exact h
/-- the reference stands at q, all right so far -/
def pv_atm (T : Nat → Nat) (L : Nat) (τ t : js_S) (q : Nat) : Prop := pv_tbm T L t ∧ pv_tkm T L t q ∧ pv_E0b τ t ∧ t.1 0 13 = 0
/-- it stands at q, and something was wrong -/
def pv_bad (T : Nat → Nat) (L : Nat) (τ t : js_S) (q : Nat) : Prop := pv_tbm T L t ∧ pv_tkm T L t q ∧ pv_E0b τ t ∧ t.1 0 13 = 1
section PJ
variable {A T : Nat → Nat} {L q : Nat} {τ t : js_S}
theorem pm_numS (hL : L ≤ 120) (hT : ∀ i, T i < 256) (h : pv_atm T L τ t q) (hq : q ≤ L) {hi : Nat} {y : Int32} (hh : hi ≤ 16) (hy : y.toInt = (hi : Int) - 1) :
    (pt_num T L q hi → ∃ t', fX8_number (0 : Int32) y t = some t' ∧ pv_atm T L τ t' (pt_nx T L q) ∧ t'.1 0 12 = nI (pt_cv T L q)) ∧ (¬ pt_num T L q hi → ∃ t', fX8_number (0 : Int32) y t = some t' ∧ pv_bad T L τ t' q) := by
  have key := pm_num hL hT h.1 h.2.1 hq hh hy h.2.2.2
  refine ⟨fun x => ?_, fun x => ?_⟩
  · obtain ⟨t', e1, e2, e3, e4, e5⟩ := key.1 x
    exact ⟨t', e1, ⟨e2.tb h.1, e5, h.2.2.1.tr e2, e3⟩, e4⟩
  · obtain ⟨t', e1, e2, e3, e4⟩ := key.2 x
    exact ⟨t', e1, e2.tb h.1, e4, h.2.2.1.tr e2, e3⟩
theorem pm_numW (h : pv_bad T L τ t q) (a b : Int32) : fX8_number a b t = some t := by
  unfold fX8_number
  rw [h.2.2.2, if_neg (show ¬ (1 : Int32) = 0 by decide)]
theorem pm_mustS (hL : L ≤ 120) (hT : ∀ i, T i < 256) (h : pv_atm T L τ t q) (hq : q ≤ L) : ∃ t', fX8_must (1 : Int32) t = some t' ∧ pv_atm T L τ t' (pt_nx T L q) := by
  obtain ⟨t', e1, e2, e3, e4, e5⟩ := pm_must1 hL hT h.1 h.2.1 hq h.2.2.2
  exact ⟨t', e1, e2.tb h.1, e5, h.2.2.1.tr e2, e3⟩
theorem pm_perW (hL : L ≤ 120) (hT : ∀ i, T i < 256) (h : pv_bad T L τ t q) (hq : q ≤ L) {k : Nat} (hk : k < 11) {c : Int64} (hc : c = lN (pt_hx (pt_nm k) (pt_nl k))) (a : Int32) : fX8_perhaps c a t = some (a, t) := by
  have hw := pm_isWord (τ := t) (T := T) hL hk hq hc
  unfold fX8_perhaps
  rw [pm_word hL hT h.1 hq h.2.1, Option.bind_some, if_neg (fun x => by have := (hw.mp x).1; rw [h.2.2.2] at this; exact absurd this (by decide))]
theorem pm_perS (hL : L ≤ 120) (hT : ∀ i, T i < 256) (h : pv_atm T L τ t q) (hq : q ≤ L) {k : Nat} (hk : k < 11) {c : Int64} (hc : c = lN (pt_hx (pt_nm k) (pt_nl k))) (a : Int32) {q1 : Nat} (u1 : pt_nx T L q = q1) :
    (¬ pt_is T L q k → fX8_perhaps c a t = some (a, t)) ∧ (pt_is T L q k → ¬ pt_num T L q1 10 → ∃ t' x, fX8_perhaps c a t = some (x, t') ∧ pv_bad T L τ t' q1) ∧ (pt_is T L q k → pt_num T L q1 10 → ∃ t', fX8_perhaps c a t = some (nI (pt_cv T L q1), t') ∧ pv_atm T L τ t' (pt_nx T L q1)) := by
  have hw := pm_isWord (τ := t) (T := T) hL hk hq hc
  have l1 : q1 ≤ L := by rw [← u1]; exact pt_nx_le hq
  unfold fX8_perhaps
  rw [pm_word hL hT h.1 hq h.2.1, Option.bind_some]
  by_cases x : pt_is T L q k
  · obtain ⟨t1, e1, e2⟩ := pm_mustS hL hT h hq
    rw [u1] at e2
    rw [if_pos (hw.mpr ⟨h.2.2.2, x⟩), e1, Option.bind_some]
    have key := pm_numS (hi := 10) (y := (9 : Int32)) hL hT e2 l1 (by decide) rfl
    refine ⟨fun y => absurd x y, fun _ y => ?_, fun _ y => ?_⟩
    · obtain ⟨t', f1, f2⟩ := key.2 y
      rw [f1, Option.bind_some]
      exact ⟨t', _, rfl, f2⟩
    · obtain ⟨t', f1, f2, f3⟩ := key.1 y
      rw [f1, Option.bind_some, f3]
      exact ⟨t', rfl, f2⟩
  · rw [if_neg (fun y => x (hw.mp y).2)]
    exact ⟨fun _ => rfl, fun y => absurd y x, fun y => absurd y x⟩
theorem pm_sayItem (hL : L ≤ 120) (hT : ∀ i, T i < 256) (h : pv_atm T L τ t q) (hq : q ≤ L) (hB : pv_B A) (hM : pv_M A t 1) {q1 q2 q3 q4 : Nat} (u1 : pt_nx T L q = q1) (u2 : pt_nx T L q1 = q2) (u3 : pt_nx T L q2 = q3) (u4 : pt_nx T L q3 = q4) :
    (¬ pt_num T L q1 (A 0) → ∃ t', fX8_sayItem t = some t' ∧ pv_bad T L τ t' q1) ∧
    (pt_num T L q1 (A 0) → ¬ pt_num T L q2 16 → ∃ t', fX8_sayItem t = some t' ∧ pv_bad T L τ t' q2) ∧
    (pt_num T L q1 (A 0) → pt_num T L q2 16 → ¬ pt_is T L q3 1 → ∃ t', fX8_sayItem t = some t' ∧ pv_EI τ t' ∧ t'.1 0 13 = 0 ∧ pv_tkm T L t' q3 ∧ pv_M (ps_say A (pt_cv T L q1) (pt_cv T L q2) 5) t' 1) ∧
    (pt_num T L q1 (A 0) → pt_num T L q2 16 → pt_is T L q3 1 → ¬ pt_num T L q4 10 → ∃ t', fX8_sayItem t = some t' ∧ pv_bad T L τ t' q4) ∧
    (pt_num T L q1 (A 0) → pt_num T L q2 16 → pt_is T L q3 1 → pt_num T L q4 10 → ∃ t', fX8_sayItem t = some t' ∧ pv_EI τ t' ∧ t'.1 0 13 = 0 ∧ pv_tkm T L t' (pt_nx T L q4) ∧ pv_M (ps_say A (pt_cv T L q1) (pt_cv T L q2) (pt_cv T L q4)) t' 1) := by
  have h6 := hB.many
  have l1 : q1 ≤ L := by rw [← u1]; exact pt_nx_le hq
  have l2 : q2 ≤ L := by rw [← u2]; exact pt_nx_le l1
  have l3 : q3 ≤ L := by rw [← u3]; exact pt_nx_le l2
  have l4 : q4 ≤ L := by rw [← u4]; exact pt_nx_le l3
  obtain ⟨t1, e1, e2⟩ := pm_mustS hL hT h hq
  rw [u1] at e2
  have hM1 : ∀ t', pv_E0b τ t' → pv_E0b τ t → pv_M A t' 1 := fun t' a b => hM.keep (by rw [a.1 1 (by decide), b.1 1 (by decide)])
  have M1 := hM1 t1 e2.2.2.1 h.2.2.1
  have k1 := pm_numS (hi := A 0) (y := nI (A 0) - (1 : Int32)) hL hT e2 l1 (by omega) (pu_sub1 (by omega))
  rw [u2] at k1
  unfold fX8_sayItem
  rw [e1, Option.bind_some, pm_g0, pm_s0 M1]
  by_cases x1 : pt_num T L q1 (A 0)
  · obtain ⟨t2, f1, f2, f3⟩ := k1.1 x1
    have c1 := pt_cm l1 x1.1
    have b1 := x1.2
    rw [f1, Option.bind_some]
    have k2 := pm_numS (hi := 16) (y := (15 : Int32)) hL hT f2 l2 (by decide) rfl
    rw [u3] at k2
    by_cases x2 : pt_num T L q2 16
    · obtain ⟨t3, g1, g2, g3⟩ := k2.1 x2
      have b2 := x2.2
      rw [g1, Option.bind_some]
      have k3 := pm_perS (k := 1) (c := (23569509 : Int64)) hL hT g2 l3 (by decide) pt_consts.2.1 (5 : Int32) u4
      have fin : ∀ t4 v p, v < 10 → pv_atm T L τ t4 p → ∃ t', (if t4.1 0 13 = 0 then (fX8_says (t2.1 0 12) (t3.1 0 12) (nI v) t4).bind fun r5 => some r5.2 else some t4) = some t' ∧ pv_EI τ t' ∧ t'.1 0 13 = 0 ∧ pv_tkm T L t' p ∧ pv_M (ps_say A (pt_cv T L q1) (pt_cv T L q2) v) t' 1 := by
        intro t4 v p hv ha
        obtain ⟨t5, i1, i2, i3⟩ := pm_says1 (f := pt_cv T L q1) (w := pt_cv T L q2) (v := v) (hM1 t4 ha.2.2.1 h.2.2.1) hB (by omega) (by omega) hv
        rw [if_pos ha.2.2.2, f3, g3, i1, Option.bind_some]
        exact ⟨t5, rfl, ha.2.2.1.I.tr i2.I, by rw [i2.1 0 (by decide)]; exact ha.2.2.2, ha.2.1.O1 i2, i3⟩
      by_cases x3 : pt_is T L q3 1
      · refine ⟨fun y => absurd x1 y, fun _ y => absurd x2 y, fun _ _ y => absurd x3 y, fun _ _ _ y => ?_, fun _ _ _ y => ?_⟩
        · obtain ⟨t4, v, j1, j2⟩ := k3.2.1 x3 y
          rw [j1, Option.bind_some]
          dsimp only
          rw [j2.2.2.2, if_neg (show ¬ (1 : Int32) = 0 by decide)]
          exact ⟨t4, rfl, j2⟩
        · obtain ⟨t4, j1, j2⟩ := k3.2.2 x3 y
          rw [j1, Option.bind_some]
          exact fin t4 _ _ y.2 j2
      · refine ⟨fun y => absurd x1 y, fun _ y => absurd x2 y, fun _ _ _ => ?_, fun _ _ y => absurd y x3, fun _ _ y => absurd y x3⟩
        rw [k3.1 x3, Option.bind_some]
        exact fin t3 5 q3 (by decide) g2
    · refine ⟨fun y => absurd x1 y, fun _ _ => ?_, fun _ y => absurd y x2, fun _ y => absurd y x2, fun _ y => absurd y x2⟩
      obtain ⟨t3, g1, g2⟩ := k2.2 x2
      rw [g1, Option.bind_some, pm_perW hL hT g2 l2 (k := 1) (by decide) pt_consts.2.1, Option.bind_some]
      dsimp only
      rw [g2.2.2.2, if_neg (show ¬ (1 : Int32) = 0 by decide)]
      exact ⟨t3, rfl, g2⟩
  · refine ⟨fun _ => ?_, fun y => absurd y x1, fun y => absurd y x1, fun y => absurd y x1, fun y => absurd y x1⟩
    obtain ⟨t2, f1, f2⟩ := k1.2 x1
    rw [f1, Option.bind_some, pm_numW f2, Option.bind_some, pm_perW hL hT f2 l1 (k := 1) (by decide) pt_consts.2.1, Option.bind_some]
    dsimp only
    rw [f2.2.2.2, if_neg (show ¬ (1 : Int32) = 0 by decide)]
    exact ⟨t2, rfl, f2⟩
def ps_layF (A : Nat → Nat) (f b w c : Nat) : Nat → Nat := if A (9 + (8 * f + b)) < pv_hold (A (3 + f)) b then ps_lay A f b w c else A
theorem pm_layerItem (hL : L ≤ 120) (hT : ∀ i, T i < 256) (h : pv_atm T L τ t q) (hq : q ≤ L) (hB : pv_B A) (hM : pv_M A t 1) {q1 q2 q3 q4 q5 : Nat} (u1 : pt_nx T L q = q1) (u2 : pt_nx T L q1 = q2) (u3 : pt_nx T L q2 = q3) (u4 : pt_nx T L q3 = q4) (u5 : pt_nx T L q4 = q5) :
    (¬ pt_num T L q1 (A 0) → ∃ t', fX8_layerItem t = some t' ∧ pv_bad T L τ t' q1) ∧
    (pt_num T L q1 (A 0) → ¬ pt_num T L q2 8 → ∃ t', fX8_layerItem t = some t' ∧ pv_bad T L τ t' q2) ∧
    (pt_num T L q1 (A 0) → pt_num T L q2 8 → ¬ pt_num T L q3 16 → ∃ t', fX8_layerItem t = some t' ∧ pv_bad T L τ t' q3) ∧
    (pt_num T L q1 (A 0) → pt_num T L q2 8 → pt_num T L q3 16 → ¬ pt_is T L q4 3 → ∃ t', fX8_layerItem t = some t' ∧ pv_EI τ t' ∧ t'.1 0 13 = 0 ∧ pv_tkm T L t' q4 ∧ pv_M (ps_layF A (pt_cv T L q1) (pt_cv T L q2) (pt_cv T L q3) 0) t' 1) ∧
    (pt_num T L q1 (A 0) → pt_num T L q2 8 → pt_num T L q3 16 → pt_is T L q4 3 → ¬ pt_num T L q5 10 → ∃ t', fX8_layerItem t = some t' ∧ pv_bad T L τ t' q5) ∧
    (pt_num T L q1 (A 0) → pt_num T L q2 8 → pt_num T L q3 16 → pt_is T L q4 3 → pt_num T L q5 10 → ∃ t', fX8_layerItem t = some t' ∧ pv_EI τ t' ∧ t'.1 0 13 = 0 ∧ pv_tkm T L t' (pt_nx T L q5) ∧ pv_M (ps_layF A (pt_cv T L q1) (pt_cv T L q2) (pt_cv T L q3) (pt_cv T L q5)) t' 1) := by
  have h6 := hB.many
  have l1 : q1 ≤ L := by rw [← u1]; exact pt_nx_le hq
  have l2 : q2 ≤ L := by rw [← u2]; exact pt_nx_le l1
  have l3 : q3 ≤ L := by rw [← u3]; exact pt_nx_le l2
  have l4 : q4 ≤ L := by rw [← u4]; exact pt_nx_le l3
  have l5 : q5 ≤ L := by rw [← u5]; exact pt_nx_le l4
  obtain ⟨t1, e1, e2⟩ := pm_mustS hL hT h hq
  rw [u1] at e2
  have hM1 : ∀ t', pv_E0b τ t' → pv_E0b τ t → pv_M A t' 1 := fun t' a b => hM.keep (by rw [a.1 1 (by decide), b.1 1 (by decide)])
  have M1 := hM1 t1 e2.2.2.1 h.2.2.1
  have k1 := pm_numS (hi := A 0) (y := nI (A 0) - (1 : Int32)) hL hT e2 l1 (by omega) (pu_sub1 (by omega))
  rw [u2] at k1
  unfold fX8_layerItem
  rw [e1, Option.bind_some, pm_g0, pm_s0 M1]
  by_cases x1 : pt_num T L q1 (A 0)
  · obtain ⟨t2, f1, f2, f3⟩ := k1.1 x1
    have b1 := x1.2
    rw [f1, Option.bind_some]
    have k2 := pm_numS (hi := 8) (y := (7 : Int32)) hL hT f2 l2 (by decide) rfl
    rw [u3] at k2
    by_cases x2 : pt_num T L q2 8
    · obtain ⟨t3, g1, g2, g3⟩ := k2.1 x2
      have b2 := x2.2
      rw [g1, Option.bind_some]
      have k3 := pm_numS (hi := 16) (y := (15 : Int32)) hL hT g2 l3 (by decide) rfl
      rw [u4] at k3
      by_cases x3 : pt_num T L q3 16
      · obtain ⟨t4, i1, i2, i3⟩ := k3.1 x3
        have b3 := x3.2
        rw [i1, Option.bind_some]
        have k4 := pm_perS (k := 3) (c := (99685 : Int64)) hL hT i2 l4 (by decide) pt_consts.2.2.2.1 (0 : Int32) u5
        have fin : ∀ t5 c p, c < 10 → pv_atm T L τ t5 p → ∃ t', (if t5.1 0 13 = 0 then (fX8_isFull (t2.1 0 12) (t3.1 0 12) t5).bind fun r6 => (if r6 = 0 then (fX8_lies (t2.1 0 12) (t3.1 0 12) (t4.1 0 12) (nI c) t5).bind fun r7 => some r7 else some t5) else some t5) = some t' ∧ pv_EI τ t' ∧ t'.1 0 13 = 0 ∧ pv_tkm T L t' p ∧ pv_M (ps_layF A (pt_cv T L q1) (pt_cv T L q2) (pt_cv T L q3) c) t' 1 := by
          intro t5 c p hc ha
          have M5 := hM1 t5 ha.2.2.1 h.2.2.1
          rw [if_pos ha.2.2.2, f3, g3, i3, pm_isFull M5 hB (by omega) b2, Option.bind_some]
          unfold ps_layF
          have hk := hB.kd (f := pt_cv T L q1) (by omega)
          have htab := pv_hold_tab (A (3 + pt_cv T L q1)) (by omega) (pt_cv T L q2) b2
          by_cases z : A (9 + (8 * pt_cv T L q1 + pt_cv T L q2)) < pv_hold (A (3 + pt_cv T L q1)) (pt_cv T L q2)
          · obtain ⟨t6, j1, j2, j3⟩ := pm_lies1 (f := pt_cv T L q1) (b := pt_cv T L q2) (w := pt_cv T L q3) (c := c) M5 (by omega) b2 (by omega)
            rw [if_pos z, if_pos z, if_pos (show (0 : Int32) = 0 from rfl), j1, Option.bind_some]
            exact ⟨t6, rfl, ha.2.2.1.I.tr j2.I, by rw [j2.1 0 (by decide)]; exact ha.2.2.2, ha.2.1.O1 j2, j3⟩
          · rw [if_neg z, if_neg z, if_neg (show ¬ (1 : Int32) = 0 by decide)]
            exact ⟨t5, rfl, ha.2.2.1.I, ha.2.2.2, ha.2.1, M5⟩
        by_cases x4 : pt_is T L q4 3
        · refine ⟨fun y => absurd x1 y, fun _ y => absurd x2 y, fun _ _ y => absurd x3 y, fun _ _ _ y => absurd x4 y, fun _ _ _ _ y => ?_, fun _ _ _ _ y => ?_⟩
          · obtain ⟨t5, v, j1, j2⟩ := k4.2.1 x4 y
            rw [j1, Option.bind_some]
            dsimp only
            rw [j2.2.2.2, if_neg (show ¬ (1 : Int32) = 0 by decide)]
            exact ⟨t5, rfl, j2⟩
          · obtain ⟨t5, j1, j2⟩ := k4.2.2 x4 y
            rw [j1, Option.bind_some]
            exact fin t5 _ _ y.2 j2
        · refine ⟨fun y => absurd x1 y, fun _ y => absurd x2 y, fun _ _ y => absurd x3 y, fun _ _ _ _ => ?_, fun _ _ _ y => absurd y x4, fun _ _ _ y => absurd y x4⟩
          rw [k4.1 x4, Option.bind_some]
          exact fin t4 0 q4 (by decide) i2
      · refine ⟨fun y => absurd x1 y, fun _ y => absurd x2 y, fun _ _ _ => ?_, fun _ _ y => absurd y x3, fun _ _ y => absurd y x3, fun _ _ y => absurd y x3⟩
        obtain ⟨t4, i1, i2⟩ := k3.2 x3
        rw [i1, Option.bind_some, pm_perW hL hT i2 l3 (k := 3) (by decide) pt_consts.2.2.2.1, Option.bind_some]
        dsimp only
        rw [i2.2.2.2, if_neg (show ¬ (1 : Int32) = 0 by decide)]
        exact ⟨t4, rfl, i2⟩
    · refine ⟨fun y => absurd x1 y, fun _ _ => ?_, fun _ y => absurd y x2, fun _ y => absurd y x2, fun _ y => absurd y x2, fun _ y => absurd y x2⟩
      obtain ⟨t3, g1, g2⟩ := k2.2 x2
      rw [g1, Option.bind_some, pm_numW g2, Option.bind_some, pm_perW hL hT g2 l2 (k := 3) (by decide) pt_consts.2.2.2.1, Option.bind_some]
      dsimp only
      rw [g2.2.2.2, if_neg (show ¬ (1 : Int32) = 0 by decide)]
      exact ⟨t3, rfl, g2⟩
  · refine ⟨fun _ => ?_, fun y => absurd y x1, fun y => absurd y x1, fun y => absurd y x1, fun y => absurd y x1, fun y => absurd y x1⟩
    obtain ⟨t2, f1, f2⟩ := k1.2 x1
    rw [f1, Option.bind_some, pm_numW f2, Option.bind_some, pm_numW f2, Option.bind_some, pm_perW hL hT f2 l1 (k := 3) (by decide) pt_consts.2.2.2.1, Option.bind_some]
    dsimp only
    rw [f2.2.2.2, if_neg (show ¬ (1 : Int32) = 0 by decide)]
    exact ⟨t2, rfl, f2⟩
/-- what the reference's kindHere answers: the names 10, 5 .. 9 -/
def pt_kn (v : Nat) : Nat := if v = 0 then 10 else v + 4
theorem pm_kindHere (hL : L ≤ 120) (hT : ∀ i, T i < 256) (h : pv_atm T L τ t q) (hq : q ≤ L) : (∀ k, k < 6 → pt_is T L q (pt_kn k) → (∀ u, u < k → ¬ pt_is T L q (pt_kn u)) → fX8_kindHere t = some (nI k)) ∧ ((∀ k, k < 6 → ¬ pt_is T L q (pt_kn k)) → fX8_kindHere t = some (-1)) := by
  have cs := pt_consts
  have w := fun (k : Nat) (hk : k < 11) (c : Int64) (hc : c = lN (pt_hx (pt_nm k) (pt_nl k))) => pm_isWord (τ := t) (T := T) (q := q) hL hk hq hc
  have w0 := w 10 (by decide) _ cs.2.2.2.2.2.2.2.2.2.2
  have w1 := w 5 (by decide) _ cs.2.2.2.2.2.1
  have w2 := w 6 (by decide) _ cs.2.2.2.2.2.2.1
  have w3 := w 7 (by decide) _ cs.2.2.2.2.2.2.2.1
  have w4 := w 8 (by decide) _ cs.2.2.2.2.2.2.2.2.1
  have w5 := w 9 (by decide) _ cs.2.2.2.2.2.2.2.2.2.1
  have a := h.2.2.2
  unfold fX8_kindHere
  rw [pm_word hL hT h.1 hq h.2.1, Option.bind_some]
  constructor
  · intro k hk x y
    rcases (show k = 0 ∨ k = 1 ∨ k = 2 ∨ k = 3 ∨ k = 4 ∨ k = 5 by omega) with rfl | rfl | rfl | rfl | rfl | rfl
    · rw [if_pos (w0.mpr ⟨a, x⟩)]; rfl
    · rw [if_neg (fun z => y 0 (by decide) (w0.mp z).2), if_pos (w1.mpr ⟨a, x⟩)]; rfl
    · rw [if_neg (fun z => y 0 (by decide) (w0.mp z).2), if_neg (fun z => y 1 (by decide) (w1.mp z).2), if_pos (w2.mpr ⟨a, x⟩)]; rfl
    · rw [if_neg (fun z => y 0 (by decide) (w0.mp z).2), if_neg (fun z => y 1 (by decide) (w1.mp z).2), if_neg (fun z => y 2 (by decide) (w2.mp z).2), if_pos (w3.mpr ⟨a, x⟩)]; rfl
    · rw [if_neg (fun z => y 0 (by decide) (w0.mp z).2), if_neg (fun z => y 1 (by decide) (w1.mp z).2), if_neg (fun z => y 2 (by decide) (w2.mp z).2), if_neg (fun z => y 3 (by decide) (w3.mp z).2), if_pos (w4.mpr ⟨a, x⟩)]; rfl
    · rw [if_neg (fun z => y 0 (by decide) (w0.mp z).2), if_neg (fun z => y 1 (by decide) (w1.mp z).2), if_neg (fun z => y 2 (by decide) (w2.mp z).2), if_neg (fun z => y 3 (by decide) (w3.mp z).2), if_neg (fun z => y 4 (by decide) (w4.mp z).2), if_pos (w5.mpr ⟨a, x⟩)]; rfl
  · intro y
    rw [if_neg (fun z => y 0 (by decide) (w0.mp z).2), if_neg (fun z => y 1 (by decide) (w1.mp z).2), if_neg (fun z => y 2 (by decide) (w2.mp z).2), if_neg (fun z => y 3 (by decide) (w3.mp z).2), if_neg (fun z => y 4 (by decide) (w4.mp z).2), if_neg (fun z => y 5 (by decide) (w5.mp z).2)]
end PJ
