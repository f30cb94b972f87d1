/-! PURE: damp, flues, anything else -/
section PM2
variable {T : Nat → Nat} {L m q : Nat} {σ τ s t : js_S}
theorem pt_damp (hL : L ≤ 120) (hT : ∀ i, T i < 256) (hq : q ≤ L) (hm : m ≤ 6) (x : pt_is T L q 4) : ∃ ok pos m' F, pt_IT T L m q ok pos m' F := by
  have hlt := pt_ty_lt (T := T) (L := L) (q := q) (by rw [x.1]; decide)
  obtain ⟨q1, u1⟩ : ∃ p, pt_nx T L q = p := ⟨_, rfl⟩
  have g1 : q < q1 := by rw [← u1]; exact pt_nx_gt hlt
  have l1 : q1 ≤ L := by rw [← u1]; exact pt_nx_le hq
  have g2 : q1 ≤ pt_nx T L q1 := pt_nx_ge l1
  have l2 : pt_nx T L q1 ≤ L := pt_nx_le l1
  have n0 : ¬ pt_is T L q 0 := fun y => by have := pt_uniq (by decide) (by decide) x y; omega
  have n2 : ¬ pt_is T L q 2 := fun y => by have := pt_uniq (by decide) (by decide) x y; omega
  have cl : ∀ σ s, pv_at T L σ s q → s.1 17 0 = nI m → ∃ s1, fX5_passItem s = ((fX5_passDamp s1).bind fun r8 => js_gd (js_b01 r8.1) (some (r8.1, r8.2))) ∧ pv_at T L σ s1 q1 ∧ s1.1 17 0 = nI m := fun σ s h h0 => by
    obtain ⟨s1, e1, e2, e3⟩ := pc_passY hL hT h hq (by decide) x
    rw [u1] at e2
    refine ⟨s1, ?_, e2, by rw [e3]; exact h0⟩
    unfold fX5_passItem
    rw [pc_passN hL hT h hq (by decide) n0, Option.bind_some]
    dsimp only
    rw [if_pos (show (0 : Int32) = 0 from rfl), pc_passN hL hT h hq (by decide) n2, Option.bind_some]
    dsimp only
    rw [if_pos (show (0 : Int32) = 0 from rfl), e1, Option.bind_some]
    dsimp only
    rw [if_neg (show ¬ (1 : Int32) = 0 by decide)]
  have md : ∀ τ t, pv_atm T L τ t q → fX8_item t = ((fX8_must (1 : Int32) t).bind fun r5 => (fX8_number (0 : Int32) (9 : Int32) r5).bind fun r6 => (if (r6.1 0 13) = 0 then js_gd (js_ix (2 : Int32) 633) (some (js_sI r6 1 (Int32.toNatClampNeg (2 : Int32)) (r6.1 0 12))) else js_gd (js_ix (2 : Int32) 633) (js_gd (js_ix (2 : Int32) 633) (some (js_sI r6 1 (Int32.toNatClampNeg (2 : Int32)) (r6.1 1 (Int32.toNatClampNeg (2 : Int32)))))))) := fun τ t h => by
    unfold fX8_item
    rw [pm_kindN hL hT h hq (by decide) x, Option.bind_some, pm_word hL hT h.1 hq h.2.1, Option.bind_some, if_pos (show (-1 : Int32) < 0 by decide), if_neg (fun y => n0 ((pm_isWord hL (by decide) hq pt_consts.1).mp y).2), if_neg (fun y => n2 ((pm_isWord hL (by decide) hq pt_consts.2.2.1).mp y).2), if_pos ((pm_isWord hL (by decide) hq pt_consts.2.2.2.2.1).mpr ⟨h.2.2.2, x⟩)]
  by_cases x1 : pt_num T L q1 10
  · have b1 := x1.2
    refine ⟨true, pt_nx T L q1, m, fun A => pv_up1 A 2 (pt_cv T L q1), l2, fun _ => ⟨by omega, hm, fun A hB hA => ⟨hB.put (by unfold pv_bd; omega), (pv_up1_ne (by decide)).trans hA, pv_up1_ne (by decide)⟩⟩, fun σ s h h0 => ?_, fun τ t A h hB hA hM => ?_⟩
    · obtain ⟨s1, a1, a2, a3⟩ := cl σ s h h0
      obtain ⟨s', b1, b2, b3, b4, b5⟩ := (pc_damp hL hT a2 l1).1 x1
      rw [a1, b1, Option.bind_some]
      refine ⟨s', rfl, b2, fun _ => ⟨b3.trans a3, fun A hB hA hC => ?_⟩⟩
      unfold fX5_perform
      rw [b4, if_neg (show ¬ (3 : Int32) = 1 by decide), if_neg (show ¬ (3 : Int32) = 2 by decide), if_pos (show (3 : Int32) = 3 from rfl), b5]
      exact ⟨_, rfl, pv_O5.put s' (by decide), hC.putdamp⟩
    · obtain ⟨t1, e1, e2⟩ := pm_mustS hL hT h hq
      rw [u1] at e2
      obtain ⟨t2, f1, f2, f3⟩ := (pm_numS (hi := 10) (y := (9 : Int32)) hL hT e2 l1 (by decide) rfl).1 x1
      rw [md τ t h, e1, Option.bind_some, f1, Option.bind_some, if_pos f2.2.2.2, f3]
      have M2 : pv_M A t2 1 := hM.keep (by rw [f2.2.2.1.1 1 (by decide), h.2.2.1.1 1 (by decide)])
      have o := pv_O1.put (i := 2) (v := nI (pt_cv T L q1)) t2
      exact ⟨js_sI t2 1 2 (nI (pt_cv T L q1)), rfl, f2.2.2.1.I.tr o.I, (fun x => by cases x), fun _ => ⟨by rw [o.1 0 (by decide)]; exact f2.2.2.2, f2.2.1.O1 o, M2.put⟩⟩
  · refine pt_bad l1 (fun σ s h h0 => ?_) (fun τ t A h hB hA hM => ?_)
    · obtain ⟨s1, a1, a2, a3⟩ := cl σ s h h0
      obtain ⟨s', b1, b2⟩ := (pc_damp hL hT a2 l1).2 x1
      rw [a1, b1, Option.bind_some]
      exact ⟨s', rfl, b2⟩
    · obtain ⟨t1, e1, e2⟩ := pm_mustS hL hT h hq
      rw [u1] at e2
      obtain ⟨t2, f1, f2⟩ := (pm_numS (hi := 10) (y := (9 : Int32)) hL hT e2 l1 (by decide) rfl).2 x1
      rw [md τ t h, e1, Option.bind_some, f1, Option.bind_some, f2.2.2.2, if_neg (show ¬ (1 : Int32) = 0 by decide)]
      have o := pv_O1.put (i := 2) (v := t2.1 1 2) t2
      exact ⟨js_sI t2 1 2 (t2.1 1 2), rfl, f2.2.2.1.I.tr o.I, by rw [o.1 0 (by decide)]; exact f2.2.2.2, by rw [o.1 0 (by decide)]; exact f2.2.1.1⟩
theorem pt_name {k : Nat} (hk : k < 6) : fX1_name (nI k) = pt_kn k ∧ pt_kn k < 11 := by
  rcases (show k = 0 ∨ k = 1 ∨ k = 2 ∨ k = 3 ∨ k = 4 ∨ k = 5 by omega) with rfl | rfl | rfl | rfl | rfl | rfl <;> exact ⟨rfl, by decide⟩
theorem pc_L47 (hL : L ≤ 120) (hT : ∀ i, T i < 256) (h : pv_at T L σ s q) (hq : q ≤ L) (hm : m < 6) (h0 : s.1 17 0 = nI m) : ∀ d v n, v + d = 6 → d < n →
    ((∀ u, v ≤ u → u < 6 → ¬ pt_is T L q (pt_kn u)) → fX5_passItem_L47 n (nI v) s = some (0, s)) ∧ (∀ k, v ≤ k → k < 6 → pt_is T L q (pt_kn k) → (∀ u, v ≤ u → u < k → ¬ pt_is T L q (pt_kn u)) → ∃ s', fX5_passItem_L47 n (nI v) s = some (1, s') ∧ pv_at T L σ s' (pt_nx T L q) ∧ s'.1 17 0 = nI (m + 1) ∧ s'.1 17 1 = 0 ∧ s'.1 17 2 = nI k)
  | 0, v, n, hv, hn => by
    obtain ⟨n, rfl⟩ : ∃ m, n = m + 1 := ⟨n - 1, by omega⟩
    have : v = 6 := by omega
    subst this
    rw [fX5_passItem_L47, if_pos (show (6 : Int32) ≤ nI 6 by decide)]
    exact ⟨fun _ => rfl, fun k h1 h2 => by omega⟩
  | d + 1, v, n, hv, hn => by
    obtain ⟨n, rfl⟩ : ∃ m, n = m + 1 := ⟨n - 1, by omega⟩
    have ih := pc_L47 hL hT h hq hm h0 d (v + 1) n (by omega) (by omega)
    have hk := pt_name (k := v) (by omega)
    rw [fX5_passItem_L47, if_neg (show ¬ (6 : Int32) ≤ nI v from nI_ge (b := 6) (by omega) (by decide)), h0, if_neg (show ¬ (6 : Int32) ≤ nI m from nI_ge (b := 6) (by omega) (by decide)), hk.1, nI_1]
    by_cases x : pt_is T L q (pt_kn v)
    · refine ⟨fun y => absurd x (y v (Nat.le_refl _) (by omega)), fun k h1 h2 xk hu => ?_⟩
      have : k = v := by
        by_cases e : k = v
        · exact e
        · exact absurd x (hu v (Nat.le_refl _) (by omega))
      subst this
      obtain ⟨s1, e1, e2, e3⟩ := pc_passY hL hT h hq hk.2 x
      rw [e1, Option.bind_some]
      dsimp only
      rw [if_neg (show ¬ (1 : Int32) = 0 by decide)]
      unfold fX5_passFlue
      refine ⟨_, rfl, (e2.put.put).put, ?_, ?_, ?_⟩
      · rw [pv_sI_at, if_pos rfl, pv_sI_at, if_neg (by decide), pv_sI_at, if_neg (by decide), e3, h0, nI_1]
      · rw [pv_sI_at, if_neg (by decide), pv_sI_at, if_neg (by decide), pv_sI_at, if_pos rfl]
      · rw [pv_sI_at, if_neg (by decide), pv_sI_at, if_pos rfl]
    · rw [pc_passN hL hT h hq hk.2 x, Option.bind_some]
      dsimp only
      rw [if_pos (show (0 : Int32) = 0 from rfl)]
      refine ⟨fun y => ih.1 fun u h1 h2 => y u (by omega) h2, fun k h1 h2 xk hu => ?_⟩
      have : k ≠ v := fun e => x (by rw [← e]; exact xk)
      exact ih.2 k (by omega) h2 xk fun u h1 h2 => hu u (by omega) h2
theorem pc_itemL47 (hL : L ≤ 120) (hT : ∀ i, T i < 256) (h : pv_at T L σ s q) (hq : q ≤ L) (n0 : ¬ pt_is T L q 0) (n2 : ¬ pt_is T L q 2) (n4 : ¬ pt_is T L q 4) : fX5_passItem s = fX5_passItem_L47 js_FU (0 : Int32) s := by
  unfold fX5_passItem
  rw [pc_passN hL hT h hq (by decide) n0, Option.bind_some]
  dsimp only
  rw [if_pos (show (0 : Int32) = 0 from rfl), pc_passN hL hT h hq (by decide) n2, Option.bind_some]
  dsimp only
  rw [if_pos (show (0 : Int32) = 0 from rfl), pc_passN hL hT h hq (by decide) n4, Option.bind_some]
  dsimp only
  rw [if_pos (show (0 : Int32) = 0 from rfl)]
theorem pt_flue (hL : L ≤ 120) (hT : ∀ i, T i < 256) (hq : q ≤ L) (hm : m ≤ 6) {k : Nat} (hk : k < 6) (x : pt_is T L q (pt_kn k)) : ∃ ok pos m' F, pt_IT T L m q ok pos m' F := by
  have hlt := pt_ty_lt (T := T) (L := L) (q := q) (by rw [x.1]; decide)
  have hkn : pt_kn k < 11 ∧ 5 ≤ pt_kn k := by unfold pt_kn; split <;> omega
  have nn : ∀ j, j < 5 → ¬ pt_is T L q j := fun j hj y => by have := pt_uniq hkn.1 (by omega) x y; omega
  have nu : ∀ u, u < k → ¬ pt_is T L q (pt_kn u) := fun u hu y => by
    have hun : pt_kn u < 11 := by unfold pt_kn; split <;> omega
    have := pt_uniq hkn.1 hun x y
    unfold pt_kn at this
    split at this <;> split at this <;> omega
  have md : ∀ τ t, pv_atm T L τ t q → fX8_item t = ((fX8_flueItem (nI k) t).bind fun r9 => some r9) := fun τ t h => by
    unfold fX8_item
    rw [(pm_kindHere hL hT h hq).1 k hk x nu, Option.bind_some, pm_word hL hT h.1 hq h.2.1, Option.bind_some, if_neg (nI_pos (by omega))]
  by_cases h6 : m < 6
  · refine ⟨true, pt_nx T L q, m + 1, fun A => ps_add A k, pt_nx_le hq, fun _ => ⟨pt_nx_gt hlt, by omega, fun A hB hA => ⟨ps_add_B hB (by omega) (by omega), ?_, ?_⟩⟩, fun σ s h h0 => ?_, fun τ t A h hB hA hM => ?_⟩
    · show ps_add A k 0 = m + 1
      unfold ps_add
      rw [pv_up1_at, hA]
    · exact ps_add_1 k (by omega)
    · rw [pc_itemL47 hL hT h hq (nn 0 (by decide)) (nn 2 (by decide)) (nn 4 (by decide))]
      obtain ⟨s', b1, b2, b3, b4, b5⟩ := (pc_L47 hL hT h hq h6 h0 6 0 js_FU (by decide) (by decide)).2 k (by omega) hk x (fun u _ hu => nu u hu)
      have b1' : fX5_passItem_L47 js_FU (0 : Int32) s = some (1, s') := b1
      rw [b1']
      refine ⟨s', rfl, b2, fun _ => ⟨b3, fun A hB hA hC => ?_⟩⟩
      obtain ⟨s'', i1, i2, i3⟩ := pc_addFlue5 (k := k) hC hB (by omega)
      unfold fX5_perform
      rw [b4, if_neg (show ¬ (0 : Int32) = 1 by decide), if_neg (show ¬ (0 : Int32) = 2 by decide), if_neg (show ¬ (0 : Int32) = 3 by decide), b5, i1, Option.bind_some]
      exact ⟨s'', rfl, i2, i3⟩
    · obtain ⟨t1, e1, e2⟩ := pm_mustS hL hT h hq
      have M1 : pv_M A t1 1 := hM.keep (by rw [e2.2.2.1.1 1 (by decide), h.2.2.1.1 1 (by decide)])
      obtain ⟨t2, f1, f2, f3⟩ := pm_adds1 (k := k) M1 hB (by omega)
      rw [md τ t h]
      unfold fX8_flueItem
      rw [pm_g0, pm_s0 hM, hA, if_neg (show ¬ (6 : Int32) ≤ nI m from nI_ge (b := 6) (by omega) (by decide)), e1, Option.bind_some, if_pos e2.2.2.2, f1, Option.bind_some, Option.bind_some]
      exact ⟨t2, rfl, e2.2.2.1.I.tr f2.I, (fun x => by cases x), fun _ => ⟨by rw [f2.1 0 (by decide)]; exact e2.2.2.2, e2.2.1.O1 f2, f3⟩⟩
  · have : m = 6 := by omega
    subst this
    refine pt_bad hq (fun σ s h h0 => ?_) (fun τ t A h hB hA hM => ?_)
    · rw [pc_itemL47 hL hT h hq (nn 0 (by decide)) (nn 2 (by decide)) (nn 4 (by decide))]
      refine ⟨s, ?_, h⟩
      rw [show js_FU = (js_FU - 1) + 1 from rfl, fX5_passItem_L47, if_neg (show ¬ (6 : Int32) ≤ 0 by decide), h0, if_pos (show (6 : Int32) ≤ nI 6 by decide)]
    · rw [md τ t h]
      unfold fX8_flueItem
      have o := pv_E0b.put (i := 13) (v := (1 : Int32)) t (by decide)
      have e13 : (js_sI t 0 13 (1 : Int32)).1 0 13 = 1 := by rw [pv_sI_at, if_pos rfl]
      rw [pm_g0, pm_s0 hM, hA, if_pos (show (6 : Int32) ≤ nI 6 by decide), pm_must0, Option.bind_some, e13, if_neg (show ¬ (1 : Int32) = 0 by decide), Option.bind_some]
      exact ⟨_, rfl, (h.2.2.1.tr o).I, e13, by rw [pv_sI_at, if_neg (by decide)]; exact h.2.1.1⟩
theorem pt_none (hL : L ≤ 120) (hT : ∀ i, T i < 256) (hq : q ≤ L) (hm : m ≤ 6) (n0 : ¬ pt_is T L q 0) (n2 : ¬ pt_is T L q 2) (n4 : ¬ pt_is T L q 4) (nk : ∀ k, k < 6 → ¬ pt_is T L q (pt_kn k)) : ∃ ok pos m' F, pt_IT T L m q ok pos m' F := by
  refine pt_bad hq (fun σ s h h0 => ?_) (fun τ t A h hB hA hM => ?_)
  · rw [pc_itemL47 hL hT h hq n0 n2 n4]
    by_cases h6 : m < 6
    · exact ⟨s, (pc_L47 hL hT h hq h6 h0 6 0 js_FU (by decide) (by decide)).1 (fun u _ hu => nk u hu), h⟩
    · have : m = 6 := by omega
      subst this
      refine ⟨s, ?_, h⟩
      rw [show js_FU = (js_FU - 1) + 1 from rfl, fX5_passItem_L47, if_neg (show ¬ (6 : Int32) ≤ 0 by decide), h0, if_pos (show (6 : Int32) ≤ nI 6 by decide)]
  · have o := pv_E0b.put (i := 13) (v := (1 : Int32)) t (by decide)
    have bd : pv_bad T L τ (js_sI t 0 13 (1 : Int32)) q := ⟨o.tb h.1, ⟨by rw [pv_sI_at, if_neg (by decide)]; exact h.2.1.1, by rw [pv_sI_at, if_neg (by decide)]; exact h.2.1.2⟩, h.2.2.1.tr o, by rw [pv_sI_at, if_pos rfl]⟩
    have o2 := pv_O1.put (i := 2) (v := (js_sI t 0 13 (1 : Int32)).1 1 2) (js_sI t 0 13 (1 : Int32))
    unfold fX8_item
    rw [(pm_kindHere hL hT h hq).2 nk, Option.bind_some, pm_word hL hT h.1 hq h.2.1, Option.bind_some, if_pos (show (-1 : Int32) < 0 by decide), if_neg (fun y => n0 ((pm_isWord hL (by decide) hq pt_consts.1).mp y).2), if_neg (fun y => n2 ((pm_isWord hL (by decide) hq pt_consts.2.2.1).mp y).2), if_neg (fun y => n4 ((pm_isWord hL (by decide) hq pt_consts.2.2.2.2.1).mp y).2), pm_must0, Option.bind_some, pm_numW bd, Option.bind_some, bd.2.2.2, if_neg (show ¬ (1 : Int32) = 0 by decide)]
    exact ⟨js_sI (js_sI t 0 13 (1 : Int32)) 1 2 ((js_sI t 0 13 (1 : Int32)).1 1 2), rfl, bd.2.2.1.I.tr o2.I, by rw [o2.1 0 (by decide)]; exact bd.2.2.2, by rw [o2.1 0 (by decide)]; exact bd.2.1.1⟩
theorem pt_item (hL : L ≤ 120) (hT : ∀ i, T i < 256) (hq : q ≤ L) (hm : m ≤ 6) : ∃ ok pos m' F, pt_IT T L m q ok pos m' F := by
  by_cases n0 : pt_is T L q 0
  · exact pt_say hL hT hq hm n0
  · by_cases n2 : pt_is T L q 2
    · exact pt_lay hL hT hq hm n2
    · by_cases n4 : pt_is T L q 4
      · exact pt_damp hL hT hq hm n4
      · by_cases nk : ∃ k, k < 6 ∧ pt_is T L q (pt_kn k)
        · obtain ⟨k, hk, x⟩ := nk
          exact pt_flue hL hT hq hm hk x
        · exact pt_none hL hT hq hm n0 n2 n4 fun k hk y => nk ⟨k, hk, y⟩
end PM2
