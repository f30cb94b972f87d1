/-! PURE: writes, in step on both sides -/
def pv_bd (k v : Nat) : Prop := (k = 0 → v ≤ 6) ∧ (k = 1 → v ≤ 20000) ∧ (k = 2 → v ≤ 9) ∧ (3 ≤ k ∧ k < 9 → v ≤ 5) ∧ (9 ≤ k ∧ k < 57 → v ≤ 6) ∧ (57 ≤ k ∧ k < 345 → v ≤ 15) ∧ (345 ≤ k ∧ k < 633 → v ≤ 9)
theorem pv_B.put {A : Nat → Nat} (hB : pv_B A) {k v : Nat} (h : pv_bd k v) : pv_B (pv_up1 A k v) := by
  obtain ⟨a0, a1, a2, a3, a4, a5, a6⟩ := hB
  obtain ⟨b0, b1, b2, b3, b4, b5, b6⟩ := h
  unfold pv_B pv_up1
  refine ⟨?_, ?_, ?_, fun j hj => ?_, fun j hj => ?_, fun j hj => ?_, fun j hj => ?_⟩
  · split
    · exact b0 (by omega)
    · exact a0
  · split
    · exact b1 (by omega)
    · exact a1
  · split
    · exact b2 (by omega)
    · exact a2
  · split
    · exact b3 (by omega)
    · exact a3 j hj
  · split
    · exact b4 (by omega)
    · exact a4 j hj
  · split
    · exact b5 (by omega)
    · exact a5 j hj
  · split
    · exact b6 (by omega)
    · exact a6 j hj
section PW
variable {A : Nat → Nat} {σ τ : js_S}
theorem pv_C.putmany (hC : pv_C A σ 1) {v : Nat} : pv_C (pv_up1 A (0) v) (js_sI σ 1 2 (nI v)) 1 := by
  obtain ⟨a0, a1, a2, a3, a4, a5, a6⟩ := hC
  unfold pv_C pv_up1
  refine ⟨?_, ?_, ?_, fun j hj => ?_, fun j hj => ?_, fun j hj => ?_, fun j hj => ?_⟩
  · show (js_sI σ 1 2 (nI v)).1 1 0 = _
    rw [pv_sI_at]
    by_cases e : 0 = 2
    · rw [if_pos e, if_pos (by omega)]
    · rw [if_neg e, if_neg (by omega)]; exact a0
  · show (js_sI σ 1 2 (nI v)).1 1 1 = _
    rw [pv_sI_at]
    by_cases e : 1 = 2
    · rw [if_pos e, if_pos (by omega)]
    · rw [if_neg e, if_neg (by omega)]; exact a1
  · show (js_sI σ 1 2 (nI v)).1 1 2 = _
    rw [pv_sI_at]
    by_cases e : 2 = 2
    · rw [if_pos e, if_pos (by omega)]
    · rw [if_neg e, if_neg (by omega)]; exact a2
  · show (js_sI σ 1 2 (nI v)).1 2 j = _
    rw [pv_sI_ne (by decide), if_neg (by omega)]; exact a3 j hj
  · show (js_sI σ 1 2 (nI v)).1 3 j = _
    rw [pv_sI_ne (by decide), if_neg (by omega)]; exact a4 j hj
  · show (js_sI σ 1 2 (nI v)).1 4 j = _
    rw [pv_sI_ne (by decide), if_neg (by omega)]; exact a5 j hj
  · show (js_sI σ 1 2 (nI v)).1 5 j = _
    rw [pv_sI_ne (by decide), if_neg (by omega)]; exact a6 j hj
theorem pv_C.putday (hC : pv_C A σ 1) {v : Nat} : pv_C (pv_up1 A (1) v) (js_sI σ 1 0 (nI v)) 1 := by
  obtain ⟨a0, a1, a2, a3, a4, a5, a6⟩ := hC
  unfold pv_C pv_up1
  refine ⟨?_, ?_, ?_, fun j hj => ?_, fun j hj => ?_, fun j hj => ?_, fun j hj => ?_⟩
  · show (js_sI σ 1 0 (nI v)).1 1 0 = _
    rw [pv_sI_at]
    by_cases e : 0 = 0
    · rw [if_pos e, if_pos (by omega)]
    · rw [if_neg e, if_neg (by omega)]; exact a0
  · show (js_sI σ 1 0 (nI v)).1 1 1 = _
    rw [pv_sI_at]
    by_cases e : 1 = 0
    · rw [if_pos e, if_pos (by omega)]
    · rw [if_neg e, if_neg (by omega)]; exact a1
  · show (js_sI σ 1 0 (nI v)).1 1 2 = _
    rw [pv_sI_at]
    by_cases e : 2 = 0
    · rw [if_pos e, if_pos (by omega)]
    · rw [if_neg e, if_neg (by omega)]; exact a2
  · show (js_sI σ 1 0 (nI v)).1 2 j = _
    rw [pv_sI_ne (by decide), if_neg (by omega)]; exact a3 j hj
  · show (js_sI σ 1 0 (nI v)).1 3 j = _
    rw [pv_sI_ne (by decide), if_neg (by omega)]; exact a4 j hj
  · show (js_sI σ 1 0 (nI v)).1 4 j = _
    rw [pv_sI_ne (by decide), if_neg (by omega)]; exact a5 j hj
  · show (js_sI σ 1 0 (nI v)).1 5 j = _
    rw [pv_sI_ne (by decide), if_neg (by omega)]; exact a6 j hj
theorem pv_C.putdamp (hC : pv_C A σ 1) {v : Nat} : pv_C (pv_up1 A (2) v) (js_sI σ 1 1 (nI v)) 1 := by
  obtain ⟨a0, a1, a2, a3, a4, a5, a6⟩ := hC
  unfold pv_C pv_up1
  refine ⟨?_, ?_, ?_, fun j hj => ?_, fun j hj => ?_, fun j hj => ?_, fun j hj => ?_⟩
  · show (js_sI σ 1 1 (nI v)).1 1 0 = _
    rw [pv_sI_at]
    by_cases e : 0 = 1
    · rw [if_pos e, if_pos (by omega)]
    · rw [if_neg e, if_neg (by omega)]; exact a0
  · show (js_sI σ 1 1 (nI v)).1 1 1 = _
    rw [pv_sI_at]
    by_cases e : 1 = 1
    · rw [if_pos e, if_pos (by omega)]
    · rw [if_neg e, if_neg (by omega)]; exact a1
  · show (js_sI σ 1 1 (nI v)).1 1 2 = _
    rw [pv_sI_at]
    by_cases e : 2 = 1
    · rw [if_pos e, if_pos (by omega)]
    · rw [if_neg e, if_neg (by omega)]; exact a2
  · show (js_sI σ 1 1 (nI v)).1 2 j = _
    rw [pv_sI_ne (by decide), if_neg (by omega)]; exact a3 j hj
  · show (js_sI σ 1 1 (nI v)).1 3 j = _
    rw [pv_sI_ne (by decide), if_neg (by omega)]; exact a4 j hj
  · show (js_sI σ 1 1 (nI v)).1 4 j = _
    rw [pv_sI_ne (by decide), if_neg (by omega)]; exact a5 j hj
  · show (js_sI σ 1 1 (nI v)).1 5 j = _
    rw [pv_sI_ne (by decide), if_neg (by omega)]; exact a6 j hj
theorem pv_C.puthg (hC : pv_C A σ 1) {p v : Nat} (hp : p < 48) : pv_C (pv_up1 A (9 + p) v) (js_sI σ 3 p (nI v)) 1 := by
  obtain ⟨a0, a1, a2, a3, a4, a5, a6⟩ := hC
  unfold pv_C pv_up1
  refine ⟨?_, ?_, ?_, fun j hj => ?_, fun j hj => ?_, fun j hj => ?_, fun j hj => ?_⟩
  · show (js_sI σ 3 p (nI v)).1 1 0 = _
    rw [pv_sI_ne (by decide), if_neg (by omega)]; exact a0
  · show (js_sI σ 3 p (nI v)).1 1 1 = _
    rw [pv_sI_ne (by decide), if_neg (by omega)]; exact a1
  · show (js_sI σ 3 p (nI v)).1 1 2 = _
    rw [pv_sI_ne (by decide), if_neg (by omega)]; exact a2
  · show (js_sI σ 3 p (nI v)).1 2 j = _
    rw [pv_sI_ne (by decide), if_neg (by omega)]; exact a3 j hj
  · show (js_sI σ 3 p (nI v)).1 3 j = _
    rw [pv_sI_at]
    by_cases e : j = p
    · rw [if_pos e, if_pos (by omega)]
    · rw [if_neg e, if_neg (by omega)]; exact a4 j hj
  · show (js_sI σ 3 p (nI v)).1 4 j = _
    rw [pv_sI_ne (by decide), if_neg (by omega)]; exact a5 j hj
  · show (js_sI σ 3 p (nI v)).1 5 j = _
    rw [pv_sI_ne (by decide), if_neg (by omega)]; exact a6 j hj
theorem pv_C.putwd (hC : pv_C A σ 1) {p v : Nat} (hp : p < 288) : pv_C (pv_up1 A (57 + p) v) (js_sI σ 4 p (nI v)) 1 := by
  obtain ⟨a0, a1, a2, a3, a4, a5, a6⟩ := hC
  unfold pv_C pv_up1
  refine ⟨?_, ?_, ?_, fun j hj => ?_, fun j hj => ?_, fun j hj => ?_, fun j hj => ?_⟩
  · show (js_sI σ 4 p (nI v)).1 1 0 = _
    rw [pv_sI_ne (by decide), if_neg (by omega)]; exact a0
  · show (js_sI σ 4 p (nI v)).1 1 1 = _
    rw [pv_sI_ne (by decide), if_neg (by omega)]; exact a1
  · show (js_sI σ 4 p (nI v)).1 1 2 = _
    rw [pv_sI_ne (by decide), if_neg (by omega)]; exact a2
  · show (js_sI σ 4 p (nI v)).1 2 j = _
    rw [pv_sI_ne (by decide), if_neg (by omega)]; exact a3 j hj
  · show (js_sI σ 4 p (nI v)).1 3 j = _
    rw [pv_sI_ne (by decide), if_neg (by omega)]; exact a4 j hj
  · show (js_sI σ 4 p (nI v)).1 4 j = _
    rw [pv_sI_at]
    by_cases e : j = p
    · rw [if_pos e, if_pos (by omega)]
    · rw [if_neg e, if_neg (by omega)]; exact a5 j hj
  · show (js_sI σ 4 p (nI v)).1 5 j = _
    rw [pv_sI_ne (by decide), if_neg (by omega)]; exact a6 j hj
theorem pv_C.putck (hC : pv_C A σ 1) {p v : Nat} (hp : p < 288) : pv_C (pv_up1 A (345 + p) v) (js_sI σ 5 p (nI v)) 1 := by
  obtain ⟨a0, a1, a2, a3, a4, a5, a6⟩ := hC
  unfold pv_C pv_up1
  refine ⟨?_, ?_, ?_, fun j hj => ?_, fun j hj => ?_, fun j hj => ?_, fun j hj => ?_⟩
  · show (js_sI σ 5 p (nI v)).1 1 0 = _
    rw [pv_sI_ne (by decide), if_neg (by omega)]; exact a0
  · show (js_sI σ 5 p (nI v)).1 1 1 = _
    rw [pv_sI_ne (by decide), if_neg (by omega)]; exact a1
  · show (js_sI σ 5 p (nI v)).1 1 2 = _
    rw [pv_sI_ne (by decide), if_neg (by omega)]; exact a2
  · show (js_sI σ 5 p (nI v)).1 2 j = _
    rw [pv_sI_ne (by decide), if_neg (by omega)]; exact a3 j hj
  · show (js_sI σ 5 p (nI v)).1 3 j = _
    rw [pv_sI_ne (by decide), if_neg (by omega)]; exact a4 j hj
  · show (js_sI σ 5 p (nI v)).1 4 j = _
    rw [pv_sI_ne (by decide), if_neg (by omega)]; exact a5 j hj
  · show (js_sI σ 5 p (nI v)).1 5 j = _
    rw [pv_sI_at]
    by_cases e : j = p
    · rw [if_pos e, if_pos (by omega)]
    · rw [if_neg e, if_neg (by omega)]; exact a6 j hj
/-- nothing changed but the stack and scratch -/
def pv_OC (σ σ' : js_S) : Prop := (∀ k, 5 < k ∨ k = 0 → k ≠ 11 → k ≠ 12 → k ≠ 13 → k ≠ 14 → k ≠ 15 → k ≠ 17 → k ≠ 23 → σ'.1 k = σ.1 k) ∧ σ'.1 15 0 = σ.1 15 0 ∧ σ'.2 = σ.2
def pv_OM (τ τ' : js_S) : Prop := (∀ k, k ≠ 0 → k ≠ 1 → k ≠ 3 → k ≠ 4 → k ≠ 6 → τ'.1 k = τ.1 k) ∧ τ'.1 0 5 = τ.1 0 5 ∧ τ'.1 0 9 = τ.1 0 9 ∧ τ'.2 10 = τ.2 10
theorem pv_OC.rf (σ : js_S) : pv_OC σ σ := ⟨fun _ _ _ _ _ _ _ _ _ => rfl, rfl, rfl⟩
theorem pv_OM.rf (τ : js_S) : pv_OM τ τ := ⟨fun _ _ _ _ _ _ => rfl, rfl, rfl, rfl⟩
theorem pv_OC.tr {a b c : js_S} (h : pv_OC a b) (g : pv_OC b c) : pv_OC a c := ⟨fun k h0 h1 h2 h3 h4 h5 h6 h7 => (g.1 k h0 h1 h2 h3 h4 h5 h6 h7).trans (h.1 k h0 h1 h2 h3 h4 h5 h6 h7), g.2.1.trans h.2.1, g.2.2.trans h.2.2⟩
theorem pv_OM.tr {a b c : js_S} (h : pv_OM a b) (g : pv_OM b c) : pv_OM a c := ⟨fun k h0 h1 h2 h3 h4 => (g.1 k h0 h1 h2 h3 h4).trans (h.1 k h0 h1 h2 h3 h4), g.2.1.trans h.2.1, g.2.2.1.trans h.2.2.1, g.2.2.2.trans h.2.2.2⟩
theorem pv_EC.O {a b : js_S} (h : pv_EC a b) : pv_OC a b := ⟨fun k _ h1 h2 h3 h4 h5 h6 h7 => h.1 k h1 h2 h3 h4 h5 h6 h7, h.2⟩
theorem pv_EM.O {a b : js_S} (h : pv_EM a b) : pv_OM a b := ⟨fun k h1 _ h2 h3 h4 => h.1 k h1 h2 h3 h4, h.2⟩
theorem pv_OC.put (σ : js_S) {k i : Nat} {v : Int32} (hk : 1 ≤ k ∧ k ≤ 5) : pv_OC σ (js_sI σ k i v) := ⟨fun q hq _ _ _ _ _ _ _ => pv_sI_ne (by omega), by rw [pv_sI_ne (by omega)], rfl⟩
theorem pv_OM.put (τ : js_S) {i : Nat} {v : Int32} : pv_OM τ (js_sI τ 1 i v) := ⟨fun q _ h1 _ _ _ => pv_sI_ne h1, by rw [pv_sI_ne (by decide)], by rw [pv_sI_ne (by decide)], rfl⟩
theorem pv_T.O {σ' τ' : js_S} (h : pv_T σ τ) (ec : pv_OC σ σ') (em : pv_OM τ τ') : pv_T σ' τ' := by
  unfold pv_T
  rw [ec.1 0 (by decide) (by decide) (by decide) (by decide) (by decide) (by decide) (by decide) (by decide), ec.1 22 (by decide) (by decide) (by decide) (by decide) (by decide) (by decide) (by decide) (by decide), ec.1 16 (by decide) (by decide) (by decide) (by decide) (by decide) (by decide) (by decide) (by decide), ec.1 19 (by decide) (by decide) (by decide) (by decide) (by decide) (by decide) (by decide) (by decide), ec.1 20 (by decide) (by decide) (by decide) (by decide) (by decide) (by decide) (by decide) (by decide), ec.2.1, ec.2.2,
    em.2.1, em.2.2.1, em.2.2.2, em.1 5 (by decide) (by decide) (by decide) (by decide) (by decide), em.1 7 (by decide) (by decide) (by decide) (by decide) (by decide), em.1 8 (by decide) (by decide) (by decide) (by decide) (by decide), em.1 9 (by decide) (by decide) (by decide) (by decide) (by decide)]
  exact h
theorem pv_R.step {σ' τ' : js_S} (h : pv_R σ τ) (ec : pv_OC σ σ') (em : pv_OM τ τ') (hA : ∃ A, pv_B A ∧ A 1 ≤ 9999 ∧ pv_C A σ' 1 ∧ pv_M A τ' 1) : pv_R σ' τ' := by
  obtain ⟨-, ⟨A', c1, c2, c3, c4⟩, h3⟩ := h
  have e : ∀ k, 6 ≤ k → k ≤ 10 → σ'.1 k = σ.1 k := fun k h1 h2 => ec.1 k (by omega) (by omega) (by omega) (by omega) (by omega) (by omega) (by omega) (by omega)
  exact ⟨hA, ⟨A', c1, c2, c3.keep (e 6 (by decide) (by decide)) (e 7 (by decide) (by decide)) (e 8 (by decide) (by decide)) (e 9 (by decide) (by decide)) (e 10 (by decide) (by decide)), c4.keep (em.1 2 (by decide) (by decide) (by decide) (by decide) (by decide))⟩, h3.O ec em⟩
theorem pv_up1_ne {k v j : Nat} (h : j ≠ k) : pv_up1 A k v j = A j := if_neg h
theorem pv_up1_at {k v : Nat} : pv_up1 A k v k = v := if_pos rfl
/-! a new flue -/
def ps_z (m : Nat) (A : Nat → Nat) (i : Nat) : Nat → Nat := pv_up1 A (9 + (8 * m + i)) 0
def ps_zf (A : Nat → Nat) (m d : Nat) : Nat → Nat := pu_fold (ps_z m) A 0 d
theorem ps_zf_s (m d : Nat) : ps_zf A m (d + 1) = pv_up1 (ps_zf A m d) (9 + (8 * m + d)) 0 := by
  unfold ps_zf
  rw [pu_fold_end, Nat.zero_add]
  rfl
theorem ps_zf_B (hB : pv_B A) (m : Nat) : ∀ d, pv_B (ps_zf A m d)
  | 0 => hB
  | d + 1 => by
    rw [ps_zf_s]
    refine (ps_zf_B hB m d).put ?_
    unfold pv_bd
    omega
theorem ps_zf_lo (m : Nat) {j : Nat} (hj : j < 9) : ∀ d, ps_zf A m d j = A j
  | 0 => rfl
  | d + 1 => by rw [ps_zf_s, pv_up1_ne (by omega), ps_zf_lo m hj d]
def ps_add (A : Nat → Nat) (kind : Nat) : Nat → Nat := pv_up1 (ps_zf (pv_up1 A (3 + A 0) kind) (A 0) 8) 0 (A 0 + 1)
theorem ps_add_B (hB : pv_B A) {k : Nat} (hk : k ≤ 5) (h6 : A 0 < 6) : pv_B (ps_add A k) := by
  refine (ps_zf_B (hB.put ?_) (A 0) 8).put ?_
  · unfold pv_bd; omega
  · unfold pv_bd; omega
theorem ps_add_1 (k : Nat) (hm : A 0 ≤ 6) : ps_add A k 1 = A 1 := by
  unfold ps_add
  rw [pv_up1_ne (by decide), ps_zf_lo _ (by decide), pv_up1_ne (by omega)]
theorem pc_addFlue (hC : pv_C A σ 1) (hB : pv_B A) {k : Nat} (h6 : A 0 < 6) : ∃ σ', fX3_addFlue (nI k) σ = some (nI (A 0), σ') ∧ pv_OC σ σ' ∧ pv_C (ps_add A k) σ' 1 := by
  unfold fX3_addFlue
  rw [hC.many, if_pos (show nI (A 0) < (6 : Int32) from nI_lt h6 (by decide)), pu_gd h6 (by decide), pu_cl (by omega)]
  have key := pu_loopI (fun n s i => fX3_addFlue_L23 n i s) (fun s i => js_sI s 3 (8 * A 0 + i) 0) (fun s => some (nI (A 0), js_sI s 1 2 (nI (A 0 + 1)))) (fun s i => pv_C (ps_zf (pv_up1 A (3 + A 0) k) (A 0) i) s 1 ∧ pv_OC σ s) 8 (by decide) ?_ ?_ (js_sI σ 2 (A 0) (nI k)) ⟨hC.putkd (by omega), pv_OC.put σ (by decide)⟩
  · refine ⟨_, key.1, key.2.2.tr (pv_OC.put _ (by decide)), ?_⟩
    exact key.2.1.putmany
  · intro n s i hi ⟨h1, h2⟩
    have hm : s.1 1 2 = nI (A 0) := by rw [h1.many, ps_zf_lo _ (by decide), pv_up1_ne (by omega)]
    refine ⟨?_, ?_, h2.tr (pv_OC.put s (by decide))⟩
    · show fX3_addFlue_L23 (n + 1) (nI i) s = _
      rw [fX3_addFlue_L23, if_neg (show ¬ (8 : Int32) ≤ nI i from nI_ge hi (by decide)), hm, pu_pl, pu_gd (by omega) (by decide), pu_cl (by omega), nI_1]
    · rw [ps_zf_s]
      exact h1.puthg (v := 0) (by omega)
  · intro n s ⟨h1, h2⟩
    have hm : s.1 1 2 = nI (A 0) := by rw [h1.many, ps_zf_lo _ (by decide), pv_up1_ne (by omega)]
    show fX3_addFlue_L23 (n + 1) (nI 8) s = _
    rw [fX3_addFlue_L23, if_pos (show (8 : Int32) ≤ nI 8 from nI_le (Nat.le_refl 8) (by decide)), hm, nI_1, pv_sI_at, if_pos rfl, nI_pred]
theorem pm_adds (hM : pv_M A τ 1) (hB : pv_B A) {k : Nat} (h6 : A 0 < 6) : ∃ τ', fX8_adds (nI k) τ = some (nI (A 0), τ') ∧ pv_OM τ τ' ∧ pv_M (ps_add A k) τ' 1 := by
  unfold fX8_adds
  rw [pm_g0, pm_s0 hM, fa_lit 3, nI_add, pu_gd (by omega) (by decide), pu_cl (by omega)]
  have key := pu_loopI (fun n s i => fX8_adds_L18 (nI (A 0)) n i s) (fun s i => js_sI s 1 (9 + (8 * A 0 + i)) 0) (fun s => some (nI (A 0), js_sI s 1 0 (nI (A 0 + 1)))) (fun s i => pv_M (ps_zf (pv_up1 A (3 + A 0) k) (A 0) i) s 1 ∧ pv_OM τ s) 8 (by decide) ?_ ?_ (js_sI τ 1 (3 + A 0) (nI k)) ⟨hM.put, pv_OM.put τ⟩
  · exact ⟨_, key.1, key.2.2.tr (pv_OM.put _), key.2.1.put⟩
  · intro n s i hi ⟨h1, h2⟩
    refine ⟨?_, ?_, h2.tr (pv_OM.put s)⟩
    · show fX8_adds_L18 (nI (A 0)) (n + 1) (nI i) s = _
      rw [fX8_adds_L18, if_neg (show ¬ (8 : Int32) ≤ nI i from nI_ge hi (by decide)), pm_pl, fa_lit 9, nI_add, pu_gd (by omega) (by decide), pu_cl (by omega), nI_1]
    · rw [ps_zf_s]
      exact h1.put (v := 0)
  · intro n s ⟨h1, h2⟩
    have hm : s.1 1 (Int32.toNatClampNeg (0 : Int32)) = nI (A 0) := by rw [pm_s0 h1, ps_zf_lo _ (by decide), pv_up1_ne (by omega)]
    show fX8_adds_L18 (nI (A 0)) (n + 1) (nI 8) s = _
    rw [fX8_adds_L18, if_pos (show (8 : Int32) ≤ nI 8 from nI_le (Nat.le_refl 8) (by decide)), pm_g0, pm_g0, hm, nI_1]
    rfl
theorem pg_flue (h : pv_R σ τ) (a : Int32) : pv_G (fX7_flue a σ) (fX8_flue a τ) := by
  have h0 := h
  obtain ⟨⟨A, hB, hd, hC, hM⟩, -, -⟩ := h0
  have h6 := hB.many
  unfold fX7_flue fX8_flue
  rw [pu_C_isKind, pu_M_isKind]
  by_cases h1 : pu_in a 6
  · rw [if_pos h1, pu_10, pu_10, pm_g0, pm_s0 hM, hC.many]
    obtain ⟨k, hk, rfl⟩ := pu_in_of h1 (by omega)
    by_cases h2 : A 0 < 6
    · rw [if_pos (show nI (A 0) < (6 : Int32) from nI_lt h2 (by decide)), if_neg (show ¬ nI (A 0) = (6 : Int32) from fun e => by have := (nI_eq (b := 6) (by omega) (by decide)).mp e; omega)]
      obtain ⟨σ', e1, e2, e3⟩ := pc_addFlue (k := k) hC hB h2
      obtain ⟨τ', d1, d2, d3⟩ := pm_adds (k := k) hM hB h2
      rw [e1, d1]
      exact ⟨_, _, _, rfl, rfl, h.step e2 d2 ⟨_, ps_add_B hB (by omega) h2, by rw [ps_add_1 _ h6]; exact hd, e3, d3⟩⟩
    · have h7 : A 0 = 6 := by omega
      rw [h7, if_neg (show ¬ nI 6 < (6 : Int32) by decide), if_pos (show nI 6 = (6 : Int32) from rfl), pv_found1, pv_finds1]
      exact pv_G.found h 1
  · rw [if_neg h1, pu_00, pu_00, pv_found0, pv_finds0]
    exact pv_G.found h 0
end PW
