/-! PURE: one item of the tape -/
theorem pt_uniqT : ∀ k, k < 11 → ∀ j, j < 11 → pt_nl k = pt_nl j → (∀ i, i < 8 → i < pt_nl k → pt_nm k i = pt_nm j i) → k = j := by decide +kernel
theorem pt_uniq {T : Nat → Nat} {L q k j : Nat} (hk : k < 11) (hj : j < 11) (h : pt_is T L q k) (g : pt_is T L q j) : k = j := by
  have e : pt_nl k = pt_nl j := h.2.1.symm.trans g.2.1
  exact pt_uniqT k hk j hj e fun i _ hi => (h.2.2 i hi).symm.trans (g.2.2 i (by rw [← e]; exact hi))
theorem pt_to_gt {T : Nat → Nat} {L q : Nat} (h : q < L) : q < pt_to T L q := by
  unfold pt_to
  rw [if_neg (by omega)]
  by_cases e1 : pt_let (T q) = true
  · rw [if_pos e1, pt_run_yes (p := q) h e1]
    exact (pt_run_ge (L - (q + 1)) (q + 1) (by omega)).1
  · rw [if_neg e1]
    by_cases e2 : pt_dig (T q) = true
    · rw [if_pos e2, pt_run_yes (p := q) h e2]
      exact (pt_run_ge (L - (q + 1)) (q + 1) (by omega)).1
    · rw [if_neg e2]; omega
theorem pt_nx_ge {T : Nat → Nat} {L q : Nat} (h : q ≤ L) : q ≤ pt_nx T L q := Nat.le_trans (pt_to_le (T := T) h).1 (pt_sk_le (pt_to_le h).2).1
theorem pt_nx_gt {T : Nat → Nat} {L q : Nat} (h : q < L) : q < pt_nx T L q := Nat.lt_of_lt_of_le (pt_to_gt (T := T) h) (pt_sk_le (pt_to_le (by omega)).2).1
def pt_CI (T : Nat → Nat) (L m q : Nat) (ok : Bool) (pos m' : Nat) (F : (Nat → Nat) → Nat → Nat) : Prop := ∀ σ s, pv_at T L σ s q → s.1 17 0 = nI m → ∃ s', fX5_passItem s = some ((if ok then (1 : Int32) else 0), s') ∧ pv_at T L σ s' pos ∧ (ok = true → s'.1 17 0 = nI m' ∧ ∀ A, pv_B A → A 0 = m → pv_C A s' 1 → ∃ s'', fX5_perform s' = some s'' ∧ pv_O5 s' s'' ∧ pv_C (F A) s'' 1)
def pt_MI (T : Nat → Nat) (L m q : Nat) (ok : Bool) (pos : Nat) (F : (Nat → Nat) → Nat → Nat) : Prop := ∀ τ t A, pv_atm T L τ t q → pv_B A → A 0 = m → pv_M A t 1 → ∃ t', fX8_item t = some t' ∧ pv_EI τ t' ∧ (ok = false → t'.1 0 13 = 1 ∧ t'.1 0 10 = nI pos) ∧ (ok = true → t'.1 0 13 = 0 ∧ pv_tkm T L t' pos ∧ pv_M (F A) t' 1)
def pt_IT (T : Nat → Nat) (L m q : Nat) (ok : Bool) (pos m' : Nat) (F : (Nat → Nat) → Nat → Nat) : Prop := pos ≤ L ∧ (ok = true → q < pos ∧ m' ≤ 6 ∧ ∀ A, pv_B A → A 0 = m → pv_B (F A) ∧ F A 0 = m' ∧ F A 1 = A 1) ∧ pt_CI T L m q ok pos m' F ∧ pt_MI T L m q ok pos F
section PM
variable {T : Nat → Nat} {L m q : Nat} {σ τ s t : js_S}
theorem pc_passY (hL : L ≤ 120) (hT : ∀ i, T i < 256) (h : pv_at T L σ s q) (hq : q ≤ L) {k : Nat} (hk : k < 11) (x : pt_is T L q k) : ∃ s1, fX4_pass k s = some (1, s1) ∧ pv_at T L σ s1 (pt_nx T L q) ∧ s1.1 17 = s.1 17 := by
  obtain ⟨s1, e1, e2, e3⟩ := (pc_pass hL hT h.1 hk h.2.1 hq).1 x
  exact ⟨s1, e1, ⟨e2.tb h.1, e3, h.2.2.tr e2.w⟩, e2.1 17 (by decide)⟩
theorem pc_passN (hL : L ≤ 120) (hT : ∀ i, T i < 256) (h : pv_at T L σ s q) (hq : q ≤ L) {k : Nat} (hk : k < 11) (x : ¬ pt_is T L q k) : fX4_pass k s = some (0, s) := (pc_pass hL hT h.1 hk h.2.1 hq).2 x
/-- a failing item -/
theorem pt_bad {pos : Nat} (hp : pos ≤ L) (c : ∀ σ s, pv_at T L σ s q → s.1 17 0 = nI m → ∃ s', fX5_passItem s = some (0, s') ∧ pv_at T L σ s' pos) (d : ∀ τ t A, pv_atm T L τ t q → pv_B A → A 0 = m → pv_M A t 1 → ∃ t', fX8_item t = some t' ∧ pv_EI τ t' ∧ t'.1 0 13 = 1 ∧ t'.1 0 10 = nI pos) : ∃ ok pos m' F, pt_IT T L m q ok pos m' F := by
  refine ⟨false, pos, 0, fun A => A, hp, (fun x => by cases x), fun σ s h h0 => ?_, fun τ t A h hB hA hM => ?_⟩
  · obtain ⟨s', e1, e2⟩ := c σ s h h0
    exact ⟨s', e1, e2, fun x => by cases x⟩
  · obtain ⟨t', e1, e2, e3⟩ := d τ t A h hB hA hM
    exact ⟨t', e1, e2, fun _ => e3, fun x => by cases x⟩
theorem pm_kindN (hL : L ≤ 120) (hT : ∀ i, T i < 256) (h : pv_atm T L τ t q) (hq : q ≤ L) {k : Nat} (hk : k < 5) (x : pt_is T L q k) : fX8_kindHere t = some (-1) := by
  refine (pm_kindHere hL hT h hq).2 fun j hj y => ?_
  have hkn : pt_kn j < 11 ∧ 5 ≤ pt_kn j := by unfold pt_kn; split <;> omega
  have := pt_uniq (by omega) hkn.1 x y
  omega
theorem pt_say (hL : L ≤ 120) (hT : ∀ i, T i < 256) (hq : q ≤ L) (hm : m ≤ 6) (x : pt_is T L q 0) : ∃ ok pos m' F, pt_IT T L m q ok pos m' F := by
  have hlt := pt_ty_lt (T := T) (L := L) (q := q) (by rw [x.1]; decide)
  obtain ⟨q1, u1⟩ : ∃ p, pt_nx T L q = p := ⟨_, rfl⟩
  obtain ⟨q2, u2⟩ : ∃ p, pt_nx T L q1 = p := ⟨_, rfl⟩
  obtain ⟨q3, u3⟩ : ∃ p, pt_nx T L q2 = p := ⟨_, rfl⟩
  obtain ⟨q4, u4⟩ : ∃ p, pt_nx T L q3 = p := ⟨_, rfl⟩
  have g1 : q < q1 := by rw [← u1]; exact pt_nx_gt hlt
  have l1 : q1 ≤ L := by rw [← u1]; exact pt_nx_le hq
  have l2 : q2 ≤ L := by rw [← u2]; exact pt_nx_le l1
  have l3 : q3 ≤ L := by rw [← u3]; exact pt_nx_le l2
  have l4 : q4 ≤ L := by rw [← u4]; exact pt_nx_le l3
  have g2 : q1 ≤ q2 := by rw [← u2]; exact pt_nx_ge l1
  have g3 : q2 ≤ q3 := by rw [← u3]; exact pt_nx_ge l2
  have g4 : q3 ≤ q4 := by rw [← u4]; exact pt_nx_ge l3
  have g5 : q4 ≤ pt_nx T L q4 := pt_nx_ge l4
  have l5 : pt_nx T L q4 ≤ L := pt_nx_le l4
  have cl : ∀ σ s, pv_at T L σ s q → s.1 17 0 = nI m → ∃ s1, fX5_passItem s = ((fX5_passSaying s1).bind fun r8 => js_gd (js_b01 r8.1) (some (r8.1, r8.2))) ∧ pv_at T L σ s1 q1 ∧ s1.1 17 0 = nI m := fun σ s h h0 => by
    obtain ⟨s1, e1, e2, e3⟩ := pc_passY hL hT h hq (by decide) x
    rw [u1] at e2
    refine ⟨s1, ?_, e2, by rw [e3]; exact h0⟩
    unfold fX5_passItem
    rw [e1, Option.bind_some]
    dsimp only
    rw [if_neg (show ¬ (1 : Int32) = 0 by decide)]
  have md : ∀ τ t, pv_atm T L τ t q → fX8_item t = ((fX8_sayItem t).bind fun r8 => some r8) := fun τ t h => by
    unfold fX8_item
    rw [pm_kindN hL hT h hq (by decide) x, Option.bind_some, pm_word hL hT h.1 hq h.2.1, Option.bind_some, if_pos (show (-1 : Int32) < 0 by decide), if_pos ((pm_isWord hL (by decide) hq pt_consts.1).mpr ⟨h.2.2.2, x⟩)]
  have good : ∀ (f w v pos : Nat), f < m → w < 16 → v < 10 → pos ≤ L → q < pos → (∀ σ s1, pv_at T L σ s1 q1 → s1.1 17 0 = nI m → ∃ s', fX5_passSaying s1 = some (1, s') ∧ pv_at T L σ s' pos ∧ s'.1 17 0 = nI m ∧ s'.1 17 1 = 1 ∧ s'.1 17 3 = nI f ∧ s'.1 17 5 = nI w ∧ s'.1 17 6 = nI v) → (∀ τ t A, pv_atm T L τ t q → pv_B A → A 0 = m → pv_M A t 1 → ∃ t', fX8_sayItem t = some t' ∧ pv_EI τ t' ∧ t'.1 0 13 = 0 ∧ pv_tkm T L t' pos ∧ pv_M (ps_say A f w v) t' 1) → ∃ ok pos m' F, pt_IT T L m q ok pos m' F := by
    intro f w v pos hf hw hv hp hqp c d
    refine ⟨true, pos, m, fun A => ps_say A f w v, hp, fun _ => ⟨hqp, hm, fun A hB hA => ⟨ps_say_B hB (by omega) hw hv, (ps_say_lo (by decide)).trans hA, ps_say_lo (by decide)⟩⟩, fun σ s h h0 => ?_, fun τ t A h hB hA hM => ?_⟩
    · obtain ⟨s1, a1, a2, a3⟩ := cl σ s h h0
      obtain ⟨s', b1, b2, b3, b4, b5, b6, b7⟩ := c σ s1 a2 a3
      rw [a1, b1, Option.bind_some]
      refine ⟨s', rfl, b2, fun _ => ⟨b3, fun A hB hA hC => ?_⟩⟩
      obtain ⟨s'', i1, i2, i3⟩ := pc_speak5 (f := f) (w := w) (v := v) hC hB (by omega) hw hv
      unfold fX5_perform
      rw [b4, if_pos (show (1 : Int32) = 1 from rfl), b5, b6, b7, i1, Option.bind_some]
      exact ⟨s'', rfl, i2, i3⟩
    · obtain ⟨t', e1, e2⟩ := d τ t A h hB hA hM
      rw [md τ t h, e1, Option.bind_some]
      exact ⟨t', rfl, e2.1, fun x => (by cases x), fun _ => e2.2⟩
  have badly : ∀ pos, pos ≤ L → (∀ σ s1, pv_at T L σ s1 q1 → s1.1 17 0 = nI m → ∃ s', fX5_passSaying s1 = some (0, s') ∧ pv_at T L σ s' pos) → (∀ τ t A, pv_atm T L τ t q → pv_B A → A 0 = m → pv_M A t 1 → ∃ t', fX8_sayItem t = some t' ∧ pv_bad T L τ t' pos) → ∃ ok pos m' F, pt_IT T L m q ok pos m' F := by
    intro pos hp c d
    refine pt_bad hp (fun σ s h h0 => ?_) (fun τ t A h hB hA hM => ?_)
    · obtain ⟨s1, a1, a2, a3⟩ := cl σ s h h0
      obtain ⟨s', b1, b2⟩ := c σ s1 a2 a3
      rw [a1, b1, Option.bind_some]
      exact ⟨s', rfl, b2⟩
    · obtain ⟨t', e1, e2⟩ := d τ t A h hB hA hM
      rw [md τ t h, e1, Option.bind_some]
      exact ⟨t', rfl, e2.2.2.1.I, e2.2.2.2, e2.2.1.1⟩
  have C := fun (σ s : js_S) (h : pv_at T L σ s q1) (h0 : s.1 17 0 = nI m) => pc_saying (m := m) hL hT h l1 hm h0
  simp only [u2, u3, u4] at C
  have D := fun (τ t : js_S) (A : Nat → Nat) (h : pv_atm T L τ t q) (hB : pv_B A) (hM : pv_M A t 1) => pm_sayItem hL hT h hq hB hM u1 u2 u3 u4
  by_cases x1 : pt_num T L q1 m
  · by_cases x2 : pt_num T L q2 16
    · by_cases x3 : pt_is T L q3 1
      · by_cases x4 : pt_num T L q4 10
        · exact good (pt_cv T L q1) (pt_cv T L q2) (pt_cv T L q4) (pt_nx T L q4) x1.2 x2.2 x4.2 l5 (by omega) (fun σ s1 h h0 => (C σ s1 h h0).2.2.2.2 x1 x2 x3 x4) (fun τ t A h hB hA hM => (D τ t A h hB hM).2.2.2.2 (by rw [hA]; exact x1) x2 x3 x4)
        · exact badly q4 l4 (fun σ s1 h h0 => (C σ s1 h h0).2.2.2.1 x1 x2 x3 x4) (fun τ t A h hB hA hM => (D τ t A h hB hM).2.2.2.1 (by rw [hA]; exact x1) x2 x3 x4)
      · exact good (pt_cv T L q1) (pt_cv T L q2) 5 q3 x1.2 x2.2 (by decide) l3 (by omega) (fun σ s1 h h0 => (C σ s1 h h0).2.2.1 x1 x2 x3) (fun τ t A h hB hA hM => (D τ t A h hB hM).2.2.1 (by rw [hA]; exact x1) x2 x3)
    · exact badly q2 l2 (fun σ s1 h h0 => (C σ s1 h h0).2.1 x1 x2) (fun τ t A h hB hA hM => (D τ t A h hB hM).2.1 (by rw [hA]; exact x1) x2)
  · exact badly q1 l1 (fun σ s1 h h0 => (C σ s1 h h0).1 x1) (fun τ t A h hB hA hM => (D τ t A h hB hM).1 (by rw [hA]; exact x1))
theorem ps_layF_ok {A : Nat → Nat} (hB : pv_B A) {f b w c : Nat} (hf : f < 6) (hb : b < 8) (hw : w < 16) (hc : c < 10) : pv_B (ps_layF A f b w c) ∧ ps_layF A f b w c 0 = A 0 ∧ ps_layF A f b w c 1 = A 1 := by
  have hk := hB.kd hf
  have ht := pv_hold_tab (A (3 + f)) (by omega) b hb
  unfold ps_layF
  split
  · exact ⟨ps_lay_B hB hf hb (by omega) (by omega) (by omega), ps_lay_lo (by decide), ps_lay_lo (by decide)⟩
  · exact ⟨hB, rfl, rfl⟩
theorem pt_lay (hL : L ≤ 120) (hT : ∀ i, T i < 256) (hq : q ≤ L) (hm : m ≤ 6) (x : pt_is T L q 2) : ∃ ok pos m' F, pt_IT T L m q ok pos m' F := by
  have hlt := pt_ty_lt (T := T) (L := L) (q := q) (by rw [x.1]; decide)
  obtain ⟨q1, u1⟩ : ∃ p, pt_nx T L q = p := ⟨_, rfl⟩
  obtain ⟨q2, u2⟩ : ∃ p, pt_nx T L q1 = p := ⟨_, rfl⟩
  obtain ⟨q3, u3⟩ : ∃ p, pt_nx T L q2 = p := ⟨_, rfl⟩
  obtain ⟨q4, u4⟩ : ∃ p, pt_nx T L q3 = p := ⟨_, rfl⟩
  obtain ⟨q5, u5⟩ : ∃ p, pt_nx T L q4 = p := ⟨_, rfl⟩
  have g1 : q < q1 := by rw [← u1]; exact pt_nx_gt hlt
  have l1 : q1 ≤ L := by rw [← u1]; exact pt_nx_le hq
  have l2 : q2 ≤ L := by rw [← u2]; exact pt_nx_le l1
  have l3 : q3 ≤ L := by rw [← u3]; exact pt_nx_le l2
  have l4 : q4 ≤ L := by rw [← u4]; exact pt_nx_le l3
  have l5 : q5 ≤ L := by rw [← u5]; exact pt_nx_le l4
  have g2 : q1 ≤ q2 := by rw [← u2]; exact pt_nx_ge l1
  have g3 : q2 ≤ q3 := by rw [← u3]; exact pt_nx_ge l2
  have g4 : q3 ≤ q4 := by rw [← u4]; exact pt_nx_ge l3
  have g5 : q4 ≤ q5 := by rw [← u5]; exact pt_nx_ge l4
  have g6 : q5 ≤ pt_nx T L q5 := pt_nx_ge l5
  have l6 : pt_nx T L q5 ≤ L := pt_nx_le l5
  have n0 : ¬ pt_is T L q 0 := fun y => by have := pt_uniq (by decide) (by decide) x y; omega
  have cl : ∀ σ s, pv_at T L σ s q → s.1 17 0 = nI m → ∃ s1, fX5_passItem s = ((fX5_passLayer s1).bind fun r8 => js_gd (js_b01 r8.1) (some (r8.1, r8.2))) ∧ pv_at T L σ s1 q1 ∧ s1.1 17 0 = nI m := fun σ s h h0 => by
    obtain ⟨s1, e1, e2, e3⟩ := pc_passY hL hT h hq (by decide) x
    rw [u1] at e2
    refine ⟨s1, ?_, e2, by rw [e3]; exact h0⟩
    unfold fX5_passItem
    rw [pc_passN hL hT h hq (by decide) n0, Option.bind_some]
    dsimp only
    rw [if_pos (show (0 : Int32) = 0 from rfl), e1, Option.bind_some]
    dsimp only
    rw [if_neg (show ¬ (1 : Int32) = 0 by decide)]
  have md : ∀ τ t, pv_atm T L τ t q → fX8_item t = ((fX8_layerItem t).bind fun r7 => some r7) := fun τ t h => by
    unfold fX8_item
    rw [pm_kindN hL hT h hq (by decide) x, Option.bind_some, pm_word hL hT h.1 hq h.2.1, Option.bind_some, if_pos (show (-1 : Int32) < 0 by decide), if_neg (fun y => n0 ((pm_isWord hL (by decide) hq pt_consts.1).mp y).2), if_pos ((pm_isWord hL (by decide) hq pt_consts.2.2.1).mpr ⟨h.2.2.2, x⟩)]
  have good : ∀ (f b w c pos : Nat), f < m → b < 8 → w < 16 → c < 10 → pos ≤ L → q < pos → (∀ σ s1, pv_at T L σ s1 q1 → s1.1 17 0 = nI m → ∃ s', fX5_passLayer s1 = some (1, s') ∧ pv_at T L σ s' pos ∧ s'.1 17 0 = nI m ∧ s'.1 17 1 = 2 ∧ s'.1 17 3 = nI f ∧ s'.1 17 4 = nI b ∧ s'.1 17 5 = nI w ∧ s'.1 17 7 = nI c) → (∀ τ t A, pv_atm T L τ t q → pv_B A → A 0 = m → pv_M A t 1 → ∃ t', fX8_layerItem t = some t' ∧ pv_EI τ t' ∧ t'.1 0 13 = 0 ∧ pv_tkm T L t' pos ∧ pv_M (ps_layF A f b w c) t' 1) → ∃ ok pos m' F, pt_IT T L m q ok pos m' F := by
    intro f b w c pos hf hb hw hc hp hqp cc d
    refine ⟨true, pos, m, fun A => ps_layF A f b w c, hp, fun _ => ⟨hqp, hm, fun A hB hA => ?_⟩, fun σ s h h0 => ?_, fun τ t A h hB hA hM => ?_⟩
    · have := ps_layF_ok (f := f) (b := b) (w := w) (c := c) hB (by omega) hb hw hc
      exact ⟨this.1, this.2.1.trans hA, this.2.2⟩
    · obtain ⟨s1, a1, a2, a3⟩ := cl σ s h h0
      obtain ⟨s', b1, b2, b3, b4, b5, b6, b7, b8⟩ := cc σ s1 a2 a3
      rw [a1, b1, Option.bind_some]
      refine ⟨s', rfl, b2, fun _ => ⟨b3, fun A hB hA hC => ?_⟩⟩
      obtain ⟨s'', i1, i2, i3⟩ := pc_layF (f := f) (b := b) (w := w) (c := c) hC hB (by omega) hb
      unfold fX5_perform
      rw [b4, if_neg (show ¬ (2 : Int32) = 1 by decide), if_pos (show (2 : Int32) = 2 from rfl), b5, b6, b7, b8, i1, Option.bind_some]
      exact ⟨s'', rfl, i2, i3⟩
    · obtain ⟨t', e1, e2⟩ := d τ t A h hB hA hM
      rw [md τ t h, e1, Option.bind_some]
      exact ⟨t', rfl, e2.1, (fun x => by cases x), fun _ => e2.2⟩
  have badly : ∀ pos, pos ≤ L → (∀ σ s1, pv_at T L σ s1 q1 → s1.1 17 0 = nI m → ∃ s', fX5_passLayer s1 = some (0, s') ∧ pv_at T L σ s' pos) → (∀ τ t A, pv_atm T L τ t q → pv_B A → A 0 = m → pv_M A t 1 → ∃ t', fX8_layerItem t = some t' ∧ pv_bad T L τ t' pos) → ∃ ok pos m' F, pt_IT T L m q ok pos m' F := by
    intro pos hp c d
    refine pt_bad hp (fun σ s h h0 => ?_) (fun τ t A h hB hA hM => ?_)
    · obtain ⟨s1, a1, a2, a3⟩ := cl σ s h h0
      obtain ⟨s', b1, b2⟩ := c σ s1 a2 a3
      rw [a1, b1, Option.bind_some]
      exact ⟨s', rfl, b2⟩
    · obtain ⟨t', e1, e2⟩ := d τ t A h hB hA hM
      rw [md τ t h, e1, Option.bind_some]
      exact ⟨t', rfl, e2.2.2.1.I, e2.2.2.2, e2.2.1.1⟩
  have C := fun (σ s : js_S) (h : pv_at T L σ s q1) (h0 : s.1 17 0 = nI m) => pc_layerI (m := m) hL hT h l1 hm h0 u2 u3 u4 u5
  have D := fun (τ t : js_S) (A : Nat → Nat) (h : pv_atm T L τ t q) (hB : pv_B A) (hM : pv_M A t 1) => pm_layerItem hL hT h hq hB hM u1 u2 u3 u4 u5
  by_cases x1 : pt_num T L q1 m
  · by_cases x2 : pt_num T L q2 8
    · by_cases x3 : pt_num T L q3 16
      · by_cases x4 : pt_is T L q4 3
        · by_cases x5 : pt_num T L q5 10
          · exact good (pt_cv T L q1) (pt_cv T L q2) (pt_cv T L q3) (pt_cv T L q5) (pt_nx T L q5) x1.2 x2.2 x3.2 x5.2 l6 (by omega) (fun σ s1 h h0 => (C σ s1 h h0).2.2.2.2.2 x1 x2 x3 x4 x5) (fun τ t A h hB hA hM => (D τ t A h hB hM).2.2.2.2.2 (by rw [hA]; exact x1) x2 x3 x4 x5)
          · exact badly q5 l5 (fun σ s1 h h0 => (C σ s1 h h0).2.2.2.2.1 x1 x2 x3 x4 x5) (fun τ t A h hB hA hM => (D τ t A h hB hM).2.2.2.2.1 (by rw [hA]; exact x1) x2 x3 x4 x5)
        · exact good (pt_cv T L q1) (pt_cv T L q2) (pt_cv T L q3) 0 q4 x1.2 x2.2 x3.2 (by decide) l4 (by omega) (fun σ s1 h h0 => (C σ s1 h h0).2.2.2.1 x1 x2 x3 x4) (fun τ t A h hB hA hM => (D τ t A h hB hM).2.2.2.1 (by rw [hA]; exact x1) x2 x3 x4)
      · exact badly q3 l3 (fun σ s1 h h0 => (C σ s1 h h0).2.2.1 x1 x2 x3) (fun τ t A h hB hA hM => (D τ t A h hB hM).2.2.1 (by rw [hA]; exact x1) x2 x3)
    · exact badly q2 l2 (fun σ s1 h h0 => (C σ s1 h h0).2.1 x1 x2) (fun τ t A h hB hA hM => (D τ t A h hB hM).2.1 (by rw [hA]; exact x1) x2)
  · exact badly q1 l1 (fun σ s1 h h0 => (C σ s1 h h0).1 x1) (fun τ t A h hB hA hM => (D τ t A h hB hM).1 (by rw [hA]; exact x1))
end PM
