/-! PURE: the tape's items, the class -/
def pv_E17 (σ σ' : js_S) : Prop := (∀ k, k ≠ 15 → k ≠ 17 → σ'.1 k = σ.1 k) ∧ σ'.1 15 0 = σ.1 15 0 ∧ σ'.2 = σ.2
theorem pv_E17.rf (σ : js_S) : pv_E17 σ σ := ⟨fun _ _ _ => rfl, rfl, rfl⟩
theorem pv_E17.tr {a b c : js_S} (h : pv_E17 a b) (g : pv_E17 b c) : pv_E17 a c := ⟨fun k h1 h2 => (g.1 k h1 h2).trans (h.1 k h1 h2), g.2.1.trans h.2.1, g.2.2.trans h.2.2⟩
theorem pv_E17.put (σ : js_S) {i : Nat} {v : Int32} : pv_E17 σ (js_sI σ 17 i v) := ⟨fun k _ h => pv_sI_ne h, by rw [pv_sI_ne (by decide)], rfl⟩
theorem pv_E15.w {σ σ' : js_S} (e : pv_E15 σ σ') : pv_E17 σ σ' := ⟨fun k h _ => e.1 k h, e.2⟩
theorem pv_E17.tb {T : Nat → Nat} {L : Nat} {σ σ' : js_S} (e : pv_E17 σ σ') (h : pv_tb T L σ) : pv_tb T L σ' := ⟨by rw [e.2.1]; exact h.1, by rw [e.1 16 (by decide) (by decide)]; exact h.2⟩
theorem pv_E17.E {σ σ' : js_S} (e : pv_E17 σ σ') : pv_EC σ σ' := ⟨fun k _ _ _ _ h _ h7 => by
  by_cases e17 : k = 17
  · exact absurd e17 (by assumption)
  · exact e.1 k h e17, e.2⟩
theorem pv_tk.put {T : Nat → Nat} {L q : Nat} {σ : js_S} {i : Nat} {v : Int32} (h : pv_tk T L σ q) : pv_tk T L (js_sI σ 17 i v) q := by
  unfold pv_tk
  rw [pv_sI_ne (show (15 : Nat) ≠ 17 by decide)]
  exact h
/-- the class stands at q in T, so far only its tape and text have changed -/
def pv_at (T : Nat → Nat) (L : Nat) (σ s : js_S) (q : Nat) : Prop := pv_tb T L s ∧ pv_tk T L s q ∧ pv_E17 σ s
section PI
variable {T : Nat → Nat} {L m q : Nat} {σ : js_S}
theorem pv_at.put {s : js_S} {i : Nat} {v : Int32} (h : pv_at T L σ s q) : pv_at T L σ (js_sI s 17 i v) q := ⟨(pv_E17.put s).tb h.1, h.2.1.put, h.2.2.tr (pv_E17.put s)⟩
/-- a number read and kept in the text's place j -/
theorem pc_numS (hL : L ≤ 120) (hT : ∀ i, T i < 256) {s : js_S} (h : pv_at T L σ s q) (hq : q ≤ L) {hi j : Nat} {y : Int32} (hy : y = nI hi) (hh : hi ≤ 16) :
    (pt_num T L q hi → ∃ s', fX4_passNumber y s = some (nI (pt_cv T L q), s') ∧ pv_at T L σ (js_sI s' 17 j (nI (pt_cv T L q))) (pt_nx T L q) ∧ (js_sI s' 17 j (nI (pt_cv T L q))).1 17 j = nI (pt_cv T L q) ∧ ∀ i, i ≠ j → (js_sI s' 17 j (nI (pt_cv T L q))).1 17 i = s.1 17 i) ∧
    (¬ pt_num T L q hi → fX4_passNumber y s = some (-1, s)) := by
  subst hy
  have key := pc_num hL hT h.1 h.2.1 hq hh
  refine ⟨fun x => ?_, key.2⟩
  obtain ⟨s', e1, e2, e3⟩ := key.1 x
  have h' : pv_at T L σ s' (pt_nx T L q) := ⟨e2.tb h.1, e3, h.2.2.tr e2.w⟩
  exact ⟨s', e1, h'.put, by rw [pv_sI_at, if_pos rfl], fun i hi => by rw [pv_sI_at, if_neg hi, e2.1 17 (by decide)]⟩
/-- what an item does: 0 wrong at pos, else right, pos next -/
theorem pc_damp (hL : L ≤ 120) (hT : ∀ i, T i < 256) {s : js_S} (h : pv_at T L σ s q) (hq : q ≤ L) :
    (pt_num T L q 10 → ∃ s', fX5_passDamp s = some (1, s') ∧ pv_at T L σ s' (pt_nx T L q) ∧ s'.1 17 0 = s.1 17 0 ∧ s'.1 17 1 = 3 ∧ s'.1 17 8 = nI (pt_cv T L q)) ∧
    (¬ pt_num T L q 10 → ∃ s', fX5_passDamp s = some (0, s') ∧ pv_at T L σ s' q) := by
  have h1 := h.put (i := 1) (v := (3 : Int32))
  have key := pc_numS (j := 8) hL hT h1 hq (show (10 : Int32) = nI 10 from rfl) (by decide)
  unfold fX5_passDamp
  refine ⟨fun x => ?_, fun x => ?_⟩
  · obtain ⟨s', e1, e2, e3, e4⟩ := key.1 x
    have hc := pt_cm hq x.1
    rw [e1, Option.bind_some]
    dsimp only
    rw [e3, if_neg (nI_pos (by omega))]
    exact ⟨_, rfl, e2, by rw [e4 0 (by decide), pv_sI_at, if_neg (by decide)], by rw [e4 1 (by decide), pv_sI_at, if_pos rfl], e3⟩
  · rw [key.2 x, Option.bind_some]
    dsimp only
    rw [pv_sI_at, if_pos rfl, if_pos (show (-1 : Int32) < 0 by decide)]
    exact ⟨_, rfl, h1.put⟩
theorem pc_saying (hL : L ≤ 120) (hT : ∀ i, T i < 256) {s : js_S} (h : pv_at T L σ s q) (hq : q ≤ L) (hm : m ≤ 6) (h0 : s.1 17 0 = nI m) :
    (¬ pt_num T L q m → ∃ s', fX5_passSaying s = some (0, s') ∧ pv_at T L σ s' q) ∧
    (pt_num T L q m → ¬ pt_num T L (pt_nx T L q) 16 → ∃ s', fX5_passSaying s = some (0, s') ∧ pv_at T L σ s' (pt_nx T L q)) ∧
    (pt_num T L q m → pt_num T L (pt_nx T L q) 16 → ¬ pt_is T L (pt_nx T L (pt_nx T L q)) 1 → ∃ s', fX5_passSaying s = some (1, s') ∧ pv_at T L σ s' (pt_nx T L (pt_nx T L q)) ∧ s'.1 17 0 = nI m ∧ s'.1 17 1 = 1 ∧ s'.1 17 3 = nI (pt_cv T L q) ∧ s'.1 17 5 = nI (pt_cv T L (pt_nx T L q)) ∧ s'.1 17 6 = nI 5) ∧
    (pt_num T L q m → pt_num T L (pt_nx T L q) 16 → pt_is T L (pt_nx T L (pt_nx T L q)) 1 → ¬ pt_num T L (pt_nx T L (pt_nx T L (pt_nx T L q))) 10 → ∃ s', fX5_passSaying s = some (0, s') ∧ pv_at T L σ s' (pt_nx T L (pt_nx T L (pt_nx T L q)))) ∧
    (pt_num T L q m → pt_num T L (pt_nx T L q) 16 → pt_is T L (pt_nx T L (pt_nx T L q)) 1 → pt_num T L (pt_nx T L (pt_nx T L (pt_nx T L q))) 10 → ∃ s', fX5_passSaying s = some (1, s') ∧ pv_at T L σ s' (pt_nx T L (pt_nx T L (pt_nx T L (pt_nx T L q)))) ∧ s'.1 17 0 = nI m ∧ s'.1 17 1 = 1 ∧ s'.1 17 3 = nI (pt_cv T L q) ∧ s'.1 17 5 = nI (pt_cv T L (pt_nx T L q)) ∧ s'.1 17 6 = nI (pt_cv T L (pt_nx T L (pt_nx T L (pt_nx T L q))))) := by
  have h1 := h.put (i := 1) (v := (1 : Int32))
  have z0 : (js_sI s 17 1 (1 : Int32)).1 17 0 = nI m := by rw [pv_sI_at, if_neg (by decide), h0]
  have q1 := pt_nx_le (T := T) hq
  have q2 := pt_nx_le (T := T) q1
  have q3 := pt_nx_le (T := T) q2
  have k1 := pc_numS (j := 3) hL hT h1 hq z0 (by omega)
  unfold fX5_passSaying
  by_cases x1 : pt_num T L q m
  · obtain ⟨s1, e1, e2, e3, e4⟩ := k1.1 x1
    have c1 := pt_cm hq x1.1
    rw [e1, Option.bind_some]
    simp only [e3]
    rw [if_pos (nI_pos' (show pt_cv T L q < 2 ^ 31 by omega))]
    have k2 := pc_numS (j := 5) hL hT e2 q1 (show (16 : Int32) = nI 16 from rfl) (by decide)
    by_cases x2 : pt_num T L (pt_nx T L q) 16
    · obtain ⟨s2, f1, f2, f3, f4⟩ := k2.1 x2
      have c2 := pt_cm q1 x2.1
      rw [f1, Option.bind_some]
      simp only [f3]
      rw [if_pos (nI_pos' (show pt_cv T L (pt_nx T L q) < 2 ^ 31 by omega))]
      have kp := pc_pass hL hT f2.1 (k := 1) (by decide) f2.2.1 q2
      by_cases x3 : pt_is T L (pt_nx T L (pt_nx T L q)) 1
      · obtain ⟨s3, g1, g2, g3⟩ := kp.1 x3
        have h3 : pv_at T L σ s3 (pt_nx T L (pt_nx T L (pt_nx T L q))) := ⟨g2.tb f2.1, g3, f2.2.2.tr g2.w⟩
        rw [g1, Option.bind_some]
        have k4 := pc_numS (j := 6) hL hT h3 q3 (show (10 : Int32) = nI 10 from rfl) (by decide)
        refine ⟨fun y => absurd x1 y, fun _ y => absurd x2 y, fun _ _ y => absurd x3 y, fun _ _ _ y => ?_, fun _ _ _ y => ?_⟩
        · dsimp only
          rw [if_neg (show ¬ (1 : Int32) = 0 by decide), k4.2 y, Option.bind_some]
          dsimp only
          rw [pv_sI_at, if_pos rfl, if_pos (show (-1 : Int32) < 0 by decide)]
          exact ⟨_, rfl, h3.put⟩
        · obtain ⟨s4, l1, l2, l3, l4⟩ := k4.1 y
          have c4 := pt_cm q3 y.1
          dsimp only
          rw [if_neg (show ¬ (1 : Int32) = 0 by decide), l1, Option.bind_some]
          simp only [l3]
          rw [if_neg (nI_pos (by omega))]
          refine ⟨_, rfl, l2, ?_, ?_, ?_, ?_, l3⟩
          · rw [l4 0 (by decide), g2.1 17 (by decide), f4 0 (by decide), e4 0 (by decide)]; exact z0
          · rw [l4 1 (by decide), g2.1 17 (by decide), f4 1 (by decide), e4 1 (by decide), pv_sI_at, if_pos rfl]
          · rw [l4 3 (by decide), g2.1 17 (by decide), f4 3 (by decide)]; exact e3
          · rw [l4 5 (by decide), g2.1 17 (by decide)]; exact f3
      · rw [kp.2 x3, Option.bind_some]
        refine ⟨fun y => absurd x1 y, fun _ y => absurd x2 y, fun _ _ _ => ?_, fun _ _ y => absurd y x3, fun _ _ y => absurd y x3⟩
        dsimp only
        rw [if_pos rfl, pv_sI_at, if_pos rfl, if_neg (show ¬ (5 : Int32) < 0 by decide)]
        refine ⟨_, rfl, f2.put, ?_, ?_, ?_, ?_, ?_⟩
        · rw [pv_sI_at, if_neg (by decide), f4 0 (by decide), e4 0 (by decide)]; exact z0
        · rw [pv_sI_at, if_neg (by decide), f4 1 (by decide), e4 1 (by decide), pv_sI_at, if_pos rfl]
        · rw [pv_sI_at, if_neg (by decide), f4 3 (by decide)]; exact e3
        · rw [pv_sI_at, if_neg (by decide)]; exact f3
        · rw [pv_sI_at, if_pos rfl]; rfl
    · rw [k2.2 x2, Option.bind_some]
      refine ⟨fun y => absurd x1 y, fun _ _ => ?_, fun _ y => absurd y x2, fun _ y => absurd y x2, fun _ y => absurd y x2⟩
      dsimp only
      rw [pv_sI_at, if_pos rfl, if_neg (show ¬ (0 : Int32) ≤ (-1) by decide)]
      exact ⟨_, rfl, e2.put⟩
  · rw [k1.2 x1, Option.bind_some]
    refine ⟨fun _ => ?_, fun y => absurd y x1, fun y => absurd y x1, fun y => absurd y x1, fun y => absurd y x1⟩
    dsimp only
    rw [pv_sI_at, if_pos rfl, if_neg (show ¬ (0 : Int32) ≤ (-1) by decide)]
    exact ⟨_, rfl, h1.put⟩
theorem pc_layerI (hL : L ≤ 120) (hT : ∀ i, T i < 256) {s : js_S} (h : pv_at T L σ s q) (hq : q ≤ L) (hm : m ≤ 6) (h0 : s.1 17 0 = nI m) {q1 q2 q3 q4 : Nat} (u1 : pt_nx T L q = q1) (u2 : pt_nx T L q1 = q2) (u3 : pt_nx T L q2 = q3) (u4 : pt_nx T L q3 = q4) :
    (¬ pt_num T L q m → ∃ s', fX5_passLayer s = some (0, s') ∧ pv_at T L σ s' q) ∧
    (pt_num T L q m → ¬ pt_num T L q1 8 → ∃ s', fX5_passLayer s = some (0, s') ∧ pv_at T L σ s' q1) ∧
    (pt_num T L q m → pt_num T L q1 8 → ¬ pt_num T L q2 16 → ∃ s', fX5_passLayer s = some (0, s') ∧ pv_at T L σ s' q2) ∧
    (pt_num T L q m → pt_num T L q1 8 → pt_num T L q2 16 → ¬ pt_is T L q3 3 → ∃ s', fX5_passLayer s = some (1, s') ∧ pv_at T L σ s' q3 ∧ s'.1 17 0 = nI m ∧ s'.1 17 1 = 2 ∧ s'.1 17 3 = nI (pt_cv T L q) ∧ s'.1 17 4 = nI (pt_cv T L q1) ∧ s'.1 17 5 = nI (pt_cv T L q2) ∧ s'.1 17 7 = nI 0) ∧
    (pt_num T L q m → pt_num T L q1 8 → pt_num T L q2 16 → pt_is T L q3 3 → ¬ pt_num T L q4 10 → ∃ s', fX5_passLayer s = some (0, s') ∧ pv_at T L σ s' q4) ∧
    (pt_num T L q m → pt_num T L q1 8 → pt_num T L q2 16 → pt_is T L q3 3 → pt_num T L q4 10 → ∃ s', fX5_passLayer s = some (1, s') ∧ pv_at T L σ s' (pt_nx T L q4) ∧ s'.1 17 0 = nI m ∧ s'.1 17 1 = 2 ∧ s'.1 17 3 = nI (pt_cv T L q) ∧ s'.1 17 4 = nI (pt_cv T L q1) ∧ s'.1 17 5 = nI (pt_cv T L q2) ∧ s'.1 17 7 = nI (pt_cv T L q4)) := by
  have h1 := h.put (i := 1) (v := (2 : Int32))
  have z0 : (js_sI s 17 1 (2 : Int32)).1 17 0 = nI m := by rw [pv_sI_at, if_neg (by decide), h0]
  have l1 : q1 ≤ L := by rw [← u1]; exact pt_nx_le hq
  have l2 : q2 ≤ L := by rw [← u2]; exact pt_nx_le l1
  have l3 : q3 ≤ L := by rw [← u3]; exact pt_nx_le l2
  have l4 : q4 ≤ L := by rw [← u4]; exact pt_nx_le l3
  have k1 := pc_numS (j := 3) hL hT h1 hq z0 (by omega)
  rw [u1] at k1
  unfold fX5_passLayer
  by_cases x1 : pt_num T L q m
  · obtain ⟨s1, e1, e2, e3, e4⟩ := k1.1 x1
    have c1 := pt_cm hq x1.1
    rw [e1, Option.bind_some]
    simp only [e3]
    rw [if_pos (nI_pos' (show pt_cv T L q < 2 ^ 31 by omega))]
    have k2 := pc_numS (j := 4) hL hT e2 l1 (show (8 : Int32) = nI 8 from rfl) (by decide)
    rw [u2] at k2
    by_cases x2 : pt_num T L q1 8
    · obtain ⟨s2, f1, f2, f3, f4⟩ := k2.1 x2
      have c2 := pt_cm l1 x2.1
      rw [f1, Option.bind_some]
      simp only [f3]
      rw [if_pos (nI_pos' (show pt_cv T L q1 < 2 ^ 31 by omega))]
      have k3 := pc_numS (j := 5) hL hT f2 l2 (show (16 : Int32) = nI 16 from rfl) (by decide)
      rw [u3] at k3
      by_cases x3 : pt_num T L q2 16
      · obtain ⟨s3, g1, g2, g3, g4⟩ := k3.1 x3
        have c3 := pt_cm l2 x3.1
        rw [g1, Option.bind_some]
        simp only [g3]
        rw [if_pos (nI_pos' (show pt_cv T L q2 < 2 ^ 31 by omega))]
        have kp := pc_pass hL hT g2.1 (k := 3) (by decide) g2.2.1 l3
        by_cases x4 : pt_is T L q3 3
        · obtain ⟨s4, i1, i2, i3⟩ := kp.1 x4
          have h4 : pv_at T L σ s4 q4 := ⟨i2.tb g2.1, by rw [← u4]; exact i3, g2.2.2.tr i2.w⟩
          rw [i1, Option.bind_some]
          have k5 := pc_numS (j := 7) hL hT h4 l4 (show (10 : Int32) = nI 10 from rfl) (by decide)
          refine ⟨fun y => absurd x1 y, fun _ y => absurd x2 y, fun _ _ y => absurd x3 y, fun _ _ _ y => absurd x4 y, fun _ _ _ _ y => ?_, fun _ _ _ _ y => ?_⟩
          · dsimp only
            rw [if_neg (show ¬ (1 : Int32) = 0 by decide), k5.2 y, Option.bind_some]
            dsimp only
            rw [pv_sI_at, if_pos rfl, if_pos (show (-1 : Int32) < 0 by decide)]
            exact ⟨_, rfl, h4.put⟩
          · obtain ⟨s5, j1, j2, j3, j4⟩ := k5.1 y
            have c5 := pt_cm l4 y.1
            dsimp only
            rw [if_neg (show ¬ (1 : Int32) = 0 by decide), j1, Option.bind_some]
            simp only [j3]
            rw [if_neg (nI_pos (by omega))]
            refine ⟨_, rfl, j2, ?_, ?_, ?_, ?_, ?_, j3⟩
            · rw [j4 0 (by decide), i2.1 17 (by decide), g4 0 (by decide), f4 0 (by decide), e4 0 (by decide)]; exact z0
            · rw [j4 1 (by decide), i2.1 17 (by decide), g4 1 (by decide), f4 1 (by decide), e4 1 (by decide), pv_sI_at, if_pos rfl]
            · rw [j4 3 (by decide), i2.1 17 (by decide), g4 3 (by decide), f4 3 (by decide)]; exact e3
            · rw [j4 4 (by decide), i2.1 17 (by decide), g4 4 (by decide)]; exact f3
            · rw [j4 5 (by decide), i2.1 17 (by decide)]; exact g3
        · rw [kp.2 x4, Option.bind_some]
          refine ⟨fun y => absurd x1 y, fun _ y => absurd x2 y, fun _ _ y => absurd x3 y, fun _ _ _ _ => ?_, fun _ _ _ y => absurd y x4, fun _ _ _ y => absurd y x4⟩
          dsimp only
          rw [if_pos rfl, pv_sI_at, if_pos rfl, if_neg (show ¬ (0 : Int32) < 0 by decide)]
          refine ⟨_, rfl, g2.put, ?_, ?_, ?_, ?_, ?_, ?_⟩
          · rw [pv_sI_at, if_neg (by decide), g4 0 (by decide), f4 0 (by decide), e4 0 (by decide)]; exact z0
          · rw [pv_sI_at, if_neg (by decide), g4 1 (by decide), f4 1 (by decide), e4 1 (by decide), pv_sI_at, if_pos rfl]
          · rw [pv_sI_at, if_neg (by decide), g4 3 (by decide), f4 3 (by decide)]; exact e3
          · rw [pv_sI_at, if_neg (by decide), g4 4 (by decide)]; exact f3
          · rw [pv_sI_at, if_neg (by decide)]; exact g3
          · rw [pv_sI_at, if_pos rfl]; rfl
      · rw [k3.2 x3, Option.bind_some]
        refine ⟨fun y => absurd x1 y, fun _ y => absurd x2 y, fun _ _ _ => ?_, fun _ _ y => absurd y x3, fun _ _ y => absurd y x3, fun _ _ y => absurd y x3⟩
        dsimp only
        rw [pv_sI_at, if_pos rfl, if_neg (show ¬ (0 : Int32) ≤ (-1) by decide)]
        exact ⟨_, rfl, f2.put⟩
    · rw [k2.2 x2, Option.bind_some]
      refine ⟨fun y => absurd x1 y, fun _ _ => ?_, fun _ y => absurd y x2, fun _ y => absurd y x2, fun _ y => absurd y x2, fun _ y => absurd y x2⟩
      dsimp only
      rw [pv_sI_at, if_pos rfl, if_neg (show ¬ (0 : Int32) ≤ (-1) by decide)]
      exact ⟨_, rfl, e2.put⟩
  · rw [k1.2 x1, Option.bind_some]
    refine ⟨fun _ => ?_, fun y => absurd y x1, fun y => absurd y x1, fun y => absurd y x1, fun y => absurd y x1, fun y => absurd y x1⟩
    dsimp only
    rw [pv_sI_at, if_pos rfl, if_neg (show ¬ (0 : Int32) ≤ (-1) by decide)]
    exact ⟨_, rfl, h1.put⟩
end PI
