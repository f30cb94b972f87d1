/-! PURE: stronger frames for the tape's items -/
def pv_O5 (σ σ' : js_S) : Prop := (∀ k, 5 < k ∨ k = 0 → σ'.1 k = σ.1 k) ∧ σ'.2 = σ.2
theorem pv_O5.rf (σ : js_S) : pv_O5 σ σ := ⟨fun _ _ => rfl, rfl⟩
theorem pv_O5.tr {a b c : js_S} (h : pv_O5 a b) (g : pv_O5 b c) : pv_O5 a c := ⟨fun k h1 => (g.1 k h1).trans (h.1 k h1), g.2.trans h.2⟩
theorem pv_O5.put (σ : js_S) {k i : Nat} {v : Int32} (hk : 1 ≤ k ∧ k ≤ 5) : pv_O5 σ (js_sI σ k i v) := ⟨fun q hq => pv_sI_ne (by omega), rfl⟩
section PX
variable {A : Nat → Nat} {σ τ : js_S}
theorem pc_lay5 (hC : pv_C A σ 1) (hB : pv_B A) {f b w c : Nat} (hf : f < A 0) (hb : b < 8) (hh : A (9 + (8 * f + b)) < pv_hold (A (3 + f)) b) : ∃ σ', fX3_lay (nI f) (nI b) (nI w) (nI c) σ = some σ' ∧ pv_O5 σ σ' ∧ pv_C (ps_lay A f b w c) σ' 1 := by
  have h6 := hB.many
  have hk := hB.kd (f := f) (by omega)
  have ht := pv_hold_tab (A (3 + f)) (by omega) b hb
  unfold fX3_lay
  rw [pc_hasFlue1 hC hB hf, Option.bind_some, pu_10, pc_isBend1 hb, pu_10, pc_height hC hB hf hb, Option.bind_some, if_neg (show ¬ (6 : Int32) ≤ nI (A (9 + (8 * f + b))) from nI_ge (b := 6) (by omega) (by decide)), pc_kindOf hC hB hf, Option.bind_some, ht.1, if_pos (nI_lt hh (by omega)), pu_pl, fa_lit 6, pk_mul, nI_add, Nat.mul_comm (8 * f + b) 6, pu_gd (by omega) (by decide), pu_gd (by omega) (by decide), pu_gd (by omega) (by decide), pu_cl (by omega), pu_cl (by omega), nI_1]
  refine ⟨_, rfl, ((pv_O5.put σ (by decide)).tr (pv_O5.put _ (by decide))).tr (pv_O5.put _ (by decide)), ?_⟩
  exact ((hC.putwd (by omega)).putck (by omega)).puthg (by omega)
theorem pc_speak5 (hC : pv_C A σ 1) (hB : pv_B A) {f w v : Nat} (hf : f < A 0) (hw : w < 16) (hv : v < 10) : ∃ σ', fX3_speak (nI f) (nI w) (nI v) σ = some (ps_at A f w v, σ') ∧ pv_O5 σ σ' ∧ pv_C (ps_say A f w v) σ' 1 := by
  have h6 := hB.many
  unfold fX3_speak ps_say
  rw [pc_landing hC hB hf hw hv, Option.bind_some]
  rcases ps_at_in hB (show f < 6 by omega) hw hv with e | ⟨q, hq, e, hh⟩
  · rw [e, if_pos rfl, if_pos rfl]
    exact ⟨σ, rfl, pv_O5.rf σ, hC⟩
  · have hk := hB.kd (f := f) (by omega)
    have ht := pv_hold_tab (A (3 + f)) (by omega) q hq
    rw [e, if_neg (pu_m1 (by omega)), if_neg (pu_m1 (by omega)), pu_cl (by omega)]
    obtain ⟨σ', h1, h2, h3⟩ := pc_lay5 (w := w) (c := 0) hC hB hf hq hh
    rw [show (0 : Int32) = nI 0 from rfl, h1]
    exact ⟨σ', rfl, h2, h3⟩
theorem pc_addFlue5 (hC : pv_C A σ 1) (hB : pv_B A) {k : Nat} (h6 : A 0 < 6) : ∃ σ', fX3_addFlue (nI k) σ = some (nI (A 0), σ') ∧ pv_O5 σ σ' ∧ pv_C (ps_add A k) σ' 1 := by
  unfold fX3_addFlue
  rw [hC.many, if_pos (show nI (A 0) < (6 : Int32) from nI_lt h6 (by decide)), pu_gd h6 (by decide), pu_cl (by omega)]
  have key := pu_loopI (fun n s i => fX3_addFlue_L23 n i s) (fun s i => js_sI s 3 (8 * A 0 + i) 0) (fun s => some (nI (A 0), js_sI s 1 2 (nI (A 0 + 1)))) (fun s i => pv_C (ps_zf (pv_up1 A (3 + A 0) k) (A 0) i) s 1 ∧ pv_O5 σ s) 8 (by decide) ?_ ?_ (js_sI σ 2 (A 0) (nI k)) ⟨hC.putkd (by omega), pv_O5.put σ (by decide)⟩
  · refine ⟨_, key.1, key.2.2.tr (pv_O5.put _ (by decide)), ?_⟩
    exact key.2.1.putmany
  · intro n s i hi ⟨h1, h2⟩
    have hm : s.1 1 2 = nI (A 0) := by rw [h1.many, ps_zf_lo _ (by decide), pv_up1_ne (by omega)]
    refine ⟨?_, ?_, h2.tr (pv_O5.put s (by decide))⟩
    · show fX3_addFlue_L23 (n + 1) (nI i) s = _
      rw [fX3_addFlue_L23, if_neg (show ¬ (8 : Int32) ≤ nI i from nI_ge hi (by decide)), hm, pu_pl, pu_gd (by omega) (by decide), pu_cl (by omega), nI_1]
    · rw [ps_zf_s]
      exact h1.puthg (v := 0) (by omega)
  · intro n s ⟨h1, h2⟩
    have hm : s.1 1 2 = nI (A 0) := by rw [h1.many, ps_zf_lo _ (by decide), pv_up1_ne (by omega)]
    show fX3_addFlue_L23 (n + 1) (nI 8) s = _
    rw [fX3_addFlue_L23, if_pos (show (8 : Int32) ≤ nI 8 from nI_le (Nat.le_refl 8) (by decide)), hm, nI_1, pv_sI_at, if_pos rfl, nI_pred]
theorem pm_adds1 (hM : pv_M A τ 1) (hB : pv_B A) {k : Nat} (h6 : A 0 < 6) : ∃ τ', fX8_adds (nI k) τ = some (nI (A 0), τ') ∧ pv_O1 τ τ' ∧ pv_M (ps_add A k) τ' 1 := by
  unfold fX8_adds
  rw [pm_g0, pm_s0 hM, fa_lit 3, nI_add, pu_gd (by omega) (by decide), pu_cl (by omega)]
  have key := pu_loopI (fun n s i => fX8_adds_L18 (nI (A 0)) n i s) (fun s i => js_sI s 1 (9 + (8 * A 0 + i)) 0) (fun s => some (nI (A 0), js_sI s 1 0 (nI (A 0 + 1)))) (fun s i => pv_M (ps_zf (pv_up1 A (3 + A 0) k) (A 0) i) s 1 ∧ pv_O1 τ s) 8 (by decide) ?_ ?_ (js_sI τ 1 (3 + A 0) (nI k)) ⟨hM.put, pv_O1.put τ⟩
  · exact ⟨_, key.1, key.2.2.tr (pv_O1.put _), key.2.1.put⟩
  · intro n s i hi ⟨h1, h2⟩
    refine ⟨?_, ?_, h2.tr (pv_O1.put s)⟩
    · show fX8_adds_L18 (nI (A 0)) (n + 1) (nI i) s = _
      rw [fX8_adds_L18, if_neg (show ¬ (8 : Int32) ≤ nI i from nI_ge hi (by decide)), pm_pl, fa_lit 9, nI_add, pu_gd (by omega) (by decide), pu_cl (by omega), nI_1]
    · rw [ps_zf_s]
      exact h1.put (v := 0)
  · intro n s ⟨h1, h2⟩
    have hm : s.1 1 (Int32.toNatClampNeg (0 : Int32)) = nI (A 0) := by rw [pm_s0 h1, ps_zf_lo _ (by decide), pv_up1_ne (by omega)]
    show fX8_adds_L18 (nI (A 0)) (n + 1) (nI 8) s = _
    rw [fX8_adds_L18, if_pos (show (8 : Int32) ≤ nI 8 from nI_le (Nat.le_refl 8) (by decide)), pm_g0, pm_g0, hm, nI_1]
    rfl
/-- full or not: the class's lay -/
theorem pc_layF (hC : pv_C A σ 1) (hB : pv_B A) {f b w c : Nat} (hf : f < A 0) (hb : b < 8) : ∃ σ', fX3_lay (nI f) (nI b) (nI w) (nI c) σ = some σ' ∧ pv_O5 σ σ' ∧ pv_C (if A (9 + (8 * f + b)) < pv_hold (A (3 + f)) b then ps_lay A f b w c else A) σ' 1 := by
  by_cases hh : A (9 + (8 * f + b)) < pv_hold (A (3 + f)) b
  · rw [if_pos hh]
    exact pc_lay5 hC hB hf hb hh
  · have h6 := hB.many
    have hk := hB.kd (f := f) (by omega)
    have hg := hB.hg (p := 8 * f + b) (by omega)
    have ht := pv_hold_tab (A (3 + f)) (by omega) b hb
    rw [if_neg hh]
    refine ⟨σ, ?_, pv_O5.rf σ, hC⟩
    unfold fX3_lay
    rw [pc_hasFlue1 hC hB hf, Option.bind_some, pu_10, pc_isBend1 hb, pu_10, pc_height hC hB hf hb, Option.bind_some]
    split
    · rfl
    · rw [pc_kindOf hC hB hf, Option.bind_some, ht.1, if_neg (nI_nlt (by omega) (by omega))]
end PX
