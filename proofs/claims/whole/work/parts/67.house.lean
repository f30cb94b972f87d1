/-! PURE: house -/
def pv_W (σ s : js_S) : Prop := (∀ k, 5 < k ∨ k = 0 → k ≠ 15 → k ≠ 17 → s.1 k = σ.1 k) ∧ s.1 15 0 = σ.1 15 0 ∧ s.2 = σ.2
theorem pv_W.tr {a b c : js_S} (h : pv_W a b) (g : pv_W b c) : pv_W a c := ⟨fun k h0 h1 h2 => (g.1 k h0 h1 h2).trans (h.1 k h0 h1 h2), g.2.1.trans h.2.1, g.2.2.trans h.2.2⟩
theorem pv_E17.W {a b : js_S} (h : pv_E17 a b) : pv_W a b := ⟨fun k _ h1 h2 => h.1 k h1 h2, h.2⟩
theorem pv_O5.W {a b : js_S} (h : pv_O5 a b) : pv_W a b := ⟨fun k h0 _ _ => h.1 k h0, by rw [h.1 15 (by decide)], h.2⟩
theorem pv_at.O5 {T : Nat → Nat} {L q : Nat} {σ s s' : js_S} (h : pv_at T L σ s q) (o : pv_O5 s s') : pv_at T L s' s' q := by
  refine ⟨⟨?_, ?_⟩, ?_, pv_E17.rf s'⟩
  · rw [o.1 15 (by decide)]; exact h.1.1
  · rw [o.1 16 (by decide)]; exact h.1.2
  · unfold pv_tk
    rw [o.1 15 (by decide)]
    exact h.2.1
theorem pv_E17.C {A : Nat → Nat} {σ σ' : js_S} (e : pv_E17 σ σ') (h : pv_C A σ 1) : pv_C A σ' 1 :=
  h.keep (e.1 1 (by decide) (by decide)) (e.1 2 (by decide) (by decide)) (e.1 3 (by decide) (by decide)) (e.1 4 (by decide) (by decide)) (e.1 5 (by decide) (by decide))
section PRun
variable {T : Nat → Nat} {L : Nat} {σ τ : js_S}
theorem pc_stepS (hL : L ≤ 120) (hT : ∀ i, T i < 256) {s : js_S} {q : Nat} (h : pv_at T L σ s q) (hq : q ≤ L) : ∃ s1, fX4_step s = some s1 ∧ pv_at T L σ s1 (pt_nx T L q) ∧ pv_E15 s s1 := by
  obtain ⟨s1, e1, e2, e3⟩ := pc_step hL hT h.1 (pt_to_le (T := T) hq).2 h.2.1.2.2.1
  exact ⟨s1, e1, ⟨e2.tb h.1, e3, h.2.2.tr e2.w⟩, e2⟩
theorem pt_ty3 {q : Nat} : pt_ty T L q = 3 ↔ q < L ∧ T q = 59 := by
  unfold pt_ty
  by_cases e : L ≤ q
  · rw [if_pos e]
    exact ⟨(fun x => by cases x), fun x => by omega⟩
  · rw [if_neg e]
    by_cases z : T q = 59
    · have z1 : ¬ pt_let (T q) = true := fun x => by have := of_decide_eq_true x; omega
      have z2 : ¬ pt_dig (T q) = true := fun x => by have := of_decide_eq_true x; omega
      rw [if_neg z1, if_neg z2, if_pos z]
      exact ⟨fun _ => ⟨by omega, z⟩, fun _ => rfl⟩
    · rw [if_neg z]
      refine ⟨fun x => ?_, fun x => absurd x.2 z⟩
      split at x
      · cases x
      · split at x <;> cases x
theorem pt_ty0 {q : Nat} : pt_ty T L q = 0 ↔ L ≤ q := by
  refine ⟨fun x => ?_, fun x => by unfold pt_ty; rw [if_pos x]⟩
  by_cases e : L ≤ q
  · exact e
  · unfold pt_ty at x
    rw [if_neg e] at x
    split at x
    · cases x
    · split at x
      · cases x
      · split at x <;> cases x
theorem pg_run (hL : L ≤ 120) (hT : ∀ i, T i < 256) (K : Int32 → js_S → Option (Int32 × js_S)) : ∀ d q m v n N, q ≤ L → L ≤ q + d → m ≤ 6 → v + (L - q) ≤ 121 → v ≤ 120 → d < n → d < N → ∃ (ok : Bool) (r : Int32) (pos v' : Nat) (G : (Nat → Nat) → Nat → Nat), pos ≤ L ∧ (ok = true → r = nI v' ∧ v' < 1000 ∧ ∀ A, pv_B A → A 0 = m → pv_B (G A) ∧ G A 1 = A 1) ∧ (ok = false → r = (-1 : Int32) - nI pos) ∧
    (∀ s, pv_at T L s s q → s.1 17 0 = nI m → ∃ s', fX5_goThrough_L15 (0 : Int32) n (nI v) s = some (r, s') ∧ pv_E17 s s') ∧
    (ok = true → ∀ s A, pv_at T L s s q → s.1 17 0 = nI m → pv_B A → A 0 = m → pv_C A s 1 → ∃ s', fX5_goThrough_L15 (1 : Int32) n (nI v) s = some (r, s') ∧ pv_W s s' ∧ pv_C (G A) s' 1) ∧
    (∀ t A, pv_atm T L t t q → pv_B A → A 0 = m → pv_M A t 1 → ∃ t' w, ((fX8_item t).bind fun r3 => fX8_house_L24 K N (nI v) r3) = K w t' ∧ pv_EI t t' ∧ t'.1 0 10 = nI pos ∧ (ok = true → t'.1 0 13 = 0 ∧ L ≤ pos ∧ w = r ∧ pv_M (G A) t' 1) ∧ (ok = false → t'.1 0 13 = 0 → pos < L)) := by
  intro d
  induction d with
  | zero =>
    intro q m v n N hq hd hm hv hv2 hn hN
    obtain ⟨n, rfl⟩ : ∃ k, n = k + 1 := ⟨n - 1, by omega⟩
    obtain ⟨N, rfl⟩ : ∃ k, N = k + 1 := ⟨N - 1, by omega⟩
    obtain ⟨ok, pos, m', F, i1, i2, i3, i4⟩ := pt_item (q := q) (m := m) hL hT hq hm
    cases ok with
    | true => have := (i2 rfl).1; omega
    | false =>
      refine ⟨false, (-1 : Int32) - nI pos, pos, 0, fun A => A, i1, (fun x => by cases x), fun _ => rfl, fun s h h0 => ?_, (fun x => by cases x), fun t A h hB hA hM => ?_⟩
      · obtain ⟨s', e1, e2, -⟩ := i3 s s h h0
        rw [fX5_goThrough_L15, if_neg (show ¬ (120 : Int32) < nI v from nI_nlt (a := 120) (by omega) (by decide)), e1, Option.bind_some]
        dsimp only
        rw [if_pos (show (if false = true then (1 : Int32) else 0) = 0 from rfl), e2.2.1.2.1]
        exact ⟨s', rfl, e2.2.2⟩
      · obtain ⟨t', e1, e2, e3, -⟩ := i4 t t A h hB hA hM
        obtain ⟨e4, e5⟩ := e3 rfl
        rw [e1, Option.bind_some, fX8_house_L24, e4, if_neg (show ¬ (1 : Int32) = 0 by decide)]
        exact ⟨t', _, rfl, e2, e5, (fun x => by cases x), fun _ x => by rw [e4] at x; exact absurd x (by decide)⟩
  | succ d ih =>
    intro q m v n N hq hd hm hv hv2 hn hN
    obtain ⟨n, rfl⟩ : ∃ k, n = k + 1 := ⟨n - 1, by omega⟩
    obtain ⟨N, rfl⟩ : ∃ k, N = k + 1 := ⟨N - 1, by omega⟩
    obtain ⟨ok, pos, m', F, i1, i2, i3, i4⟩ := pt_item (q := q) (m := m) hL hT hq hm
    have hv3 : ¬ (120 : Int32) < nI v := nI_nlt (a := 120) (by omega) (by decide)
    cases ok with
    | false =>
      refine ⟨false, (-1 : Int32) - nI pos, pos, 0, fun A => A, i1, (fun x => by cases x), fun _ => rfl, fun s h h0 => ?_, (fun x => by cases x), fun t A h hB hA hM => ?_⟩
      · obtain ⟨s', e1, e2, -⟩ := i3 s s h h0
        rw [fX5_goThrough_L15, if_neg hv3, e1, Option.bind_some]
        dsimp only
        rw [if_pos (show (if false = true then (1 : Int32) else 0) = 0 from rfl), e2.2.1.2.1]
        exact ⟨s', rfl, e2.2.2⟩
      · obtain ⟨t', e1, e2, e3, -⟩ := i4 t t A h hB hA hM
        obtain ⟨e4, e5⟩ := e3 rfl
        rw [e1, Option.bind_some, fX8_house_L24, e4, if_neg (show ¬ (1 : Int32) = 0 by decide)]
        exact ⟨t', _, rfl, e2, e5, (fun x => by cases x), fun _ x => by rw [e4] at x; exact absurd x (by decide)⟩
    | true =>
      obtain ⟨j1, j2, j3⟩ := i2 rfl
      have hty := pt_ty_le (T := T) (L := L) pos
      have hone : ¬ (if true = true then (1 : Int32) else 0) = 0 := by decide
      have z0 : (nI (pt_ty T L pos) = (0 : Int32)) ↔ pt_ty T L pos = 0 := nI_eq (b := 0) (by omega) (by decide)
      have z3 : (nI (pt_ty T L pos) = (3 : Int32)) ↔ pt_ty T L pos = 3 := nI_eq (b := 3) (by omega) (by decide)
      have mt : ∀ t A, pv_atm T L t t q → pv_B A → A 0 = m → pv_M A t 1 → ∃ t', fX8_item t = some t' ∧ pv_EI t t' ∧ t'.1 0 13 = 0 ∧ pv_tkm T L t' pos ∧ pv_M (F A) t' 1 ∧ pv_tbm T L t' := fun t A h hB hA hM => by
        obtain ⟨t', e1, e2, -, e3⟩ := i4 t t A h hB hA hM
        obtain ⟨e4, e5, e6⟩ := e3 rfl
        exact ⟨t', e1, e2, e4, e5, e6, by rw [e2.2.1 9 (by decide)]; exact h.1.1, by rw [e2.1 7 (by decide) (by decide)]; exact h.1.2⟩
      by_cases c0 : pt_ty T L pos = 0
      · have hp := pt_ty0.mp c0
        refine ⟨true, nI v, pos, v, F, i1, fun _ => ⟨rfl, by omega, fun A hB hA => ⟨(j3 A hB hA).1, (j3 A hB hA).2.2⟩⟩, (fun x => by cases x), fun s h h0 => ?_, fun _ s A h h0 hB hA hC => ?_, fun t A h hB hA hM => ?_⟩
        · obtain ⟨s', e1, e2, -⟩ := i3 s s h h0
          rw [fX5_goThrough_L15, if_neg hv3, e1, Option.bind_some]
          dsimp only
          rw [if_neg hone, if_pos (show (0 : Int32) = 0 from rfl), e2.2.1.1, if_pos (z0.mpr c0)]
          exact ⟨s', rfl, e2.2.2⟩
        · obtain ⟨s', e1, e2, e3⟩ := i3 s s h h0
          obtain ⟨e4, e5⟩ := e3 rfl
          obtain ⟨s'', f1, f2, f3⟩ := e5 A hB hA (e2.2.2.C hC)
          have f4 := e2.O5 f2
          rw [fX5_goThrough_L15, if_neg hv3, e1, Option.bind_some]
          dsimp only
          rw [if_neg hone, if_neg (show ¬ (1 : Int32) = 0 by decide), f1, Option.bind_some, f4.2.1.1, if_pos (z0.mpr c0)]
          exact ⟨s'', rfl, e2.2.2.W.tr f2.W, f3⟩
        · obtain ⟨t', e1, e2, e3, e4, e5, e6⟩ := mt t A h hB hA hM
          rw [e1, Option.bind_some, fX8_house_L24, if_pos e3, e4.1, pm_atE e6 hp (by omega), Option.bind_some, if_neg (show ¬ (-1 : Int32) = 59 by decide)]
          exact ⟨t', _, rfl, e2, e4.1, fun _ => ⟨e3, hp, rfl, e5⟩, fun x => by cases x⟩
      · by_cases c3 : pt_ty T L pos = 3
        · obtain ⟨hp, h59⟩ := pt_ty3.mp c3
          have gx := pt_nx_gt (T := T) hp
          have lx := pt_nx_le (T := T) i1
          obtain ⟨ok2, r, p2, v', G, k1, k2, k3, k4, k5, k6⟩ := ih (pt_nx T L pos) m' (v + 1) n N lx (by omega) j2 (by omega) (by omega) (by omega) (by omega)
          refine ⟨ok2, r, p2, v', fun A => G (F A), k1, fun x => ⟨(k2 x).1, (k2 x).2.1, fun A hB hA => ?_⟩, k3, fun s h h0 => ?_, fun x s A h h0 hB hA hC => ?_, fun t A h hB hA hM => ?_⟩
          · obtain ⟨a1, a2, a3⟩ := j3 A hB hA
            obtain ⟨b1, b2⟩ := (k2 x).2.2 (F A) a1 a2
            exact ⟨b1, b2.trans a3⟩
          · obtain ⟨s', e1, e2, e3⟩ := i3 s s h h0
            obtain ⟨e4, -⟩ := e3 rfl
            obtain ⟨s2, f1, f2, f3⟩ := pc_stepS hL hT e2 i1
            obtain ⟨s3, g1, g2⟩ := k4 s2 ⟨f2.1, f2.2.1, pv_E17.rf s2⟩ (by rw [f3.1 17 (by decide)]; exact e4)
            rw [fX5_goThrough_L15, if_neg hv3, e1, Option.bind_some]
            dsimp only
            rw [if_neg hone, if_pos (show (0 : Int32) = 0 from rfl), e2.2.1.1, if_neg (fun y => c0 (z0.mp y)), if_pos (z3.mpr c3), f1, Option.bind_some, nI_1, g1]
            exact ⟨s3, rfl, f2.2.2.tr g2⟩
          · obtain ⟨s', e1, e2, e3⟩ := i3 s s h h0
            obtain ⟨e4, e5⟩ := e3 rfl
            obtain ⟨s'', l1, l2, l3⟩ := e5 A hB hA (e2.2.2.C hC)
            have l4 := e2.O5 l2
            obtain ⟨s2, f1, f2, f3⟩ := pc_stepS hL hT l4 i1
            obtain ⟨a1, a2, a3⟩ := j3 A hB hA
            obtain ⟨s3, g1, g2, g3⟩ := k5 x s2 (F A) ⟨f2.1, f2.2.1, pv_E17.rf s2⟩ (by rw [f3.1 17 (by decide), l2.1 17 (by decide)]; exact e4) a1 a2 (f3.w.C l3)
            rw [fX5_goThrough_L15, if_neg hv3, e1, Option.bind_some]
            dsimp only
            rw [if_neg hone, if_neg (show ¬ (1 : Int32) = 0 by decide), l1, Option.bind_some, l4.2.1.1, if_neg (fun y => c0 (z0.mp y)), if_pos (z3.mpr c3), f1, Option.bind_some, nI_1, g1]
            exact ⟨s3, rfl, ((e2.2.2.W.tr l2.W).tr f3.w.W).tr g2, g3⟩
          · obtain ⟨t', e1, e2, e3, e4, e5, e6⟩ := mt t A h hB hA hM
            obtain ⟨a1, a2, a3⟩ := j3 A hB hA
            obtain ⟨t2, f1, f2⟩ := pm_mustS (τ := t') hL hT ⟨e6, e4, pv_E0b.rf t', e3⟩ i1
            obtain ⟨t3, w, g1, g2, g3⟩ := k6 t2 (F A) ⟨f2.1, f2.2.1, pv_E0b.rf t2, f2.2.2.2⟩ a1 a2 (e5.keep (f2.2.2.1.1 1 (by decide)))
            have e59 : nI (T pos) = (59 : Int32) := by rw [h59]; rfl
            rw [e1, Option.bind_some, fX8_house_L24, if_pos e3, e4.1, pm_at e6 hL hp, Option.bind_some, if_pos e59, f1, Option.bind_some, nI_1, g1]
            exact ⟨t3, w, rfl, (e2.tr f2.2.2.1.I).tr g2, g3⟩
        · have hp : pos < L := by
            by_cases e : L ≤ pos
            · exact absurd (pt_ty0.mpr e) c0
            · omega
          refine ⟨false, (-1 : Int32) - nI pos, pos, 0, fun A => A, i1, (fun x => by cases x), fun _ => rfl, fun s h h0 => ?_, (fun x => by cases x), fun t A h hB hA hM => ?_⟩
          · obtain ⟨s', e1, e2, -⟩ := i3 s s h h0
            rw [fX5_goThrough_L15, if_neg hv3, e1, Option.bind_some]
            dsimp only
            rw [if_neg hone, if_pos (show (0 : Int32) = 0 from rfl), e2.2.1.1, if_neg (fun y => c0 (z0.mp y)), if_neg (fun y => c3 (z3.mp y)), e2.2.1.2.1]
            exact ⟨s', rfl, e2.2.2⟩
          · obtain ⟨t', e1, e2, e3, e4, e5, e6⟩ := mt t A h hB hA hM
            have ht := hT pos
            have e59 : ¬ nI (T pos) = (59 : Int32) := fun y => c3 (pt_ty3.mpr ⟨hp, (nI_eq (b := 59) (by omega) (by decide)).mp y⟩)
            rw [e1, Option.bind_some, fX8_house_L24, if_pos e3, e4.1, pm_at e6 hL hp, Option.bind_some, if_neg e59]
            exact ⟨t', _, rfl, e2, e4.1, (fun x => by cases x), fun _ _ => hp⟩
theorem pv_W.O {a b : js_S} (h : pv_W a b) : pv_OC a b := ⟨fun k h0 _ _ _ _ h5 h6 _ => h.1 k h0 h5 h6, h.2⟩
theorem pm_saves (τ : js_S) : ∃ s1, fX8_saves τ = some s1 ∧ pv_cp τ s1 3 1 := pv_cpL (fun n i s => fX8_saves_L2 n i s) _ 3 1 (by decide) (fun n s i hi => by
    show fX8_saves_L2 (n + 1) (nI i) s = _
    rw [fX8_saves_L2, if_neg (show ¬ (633 : Int32) ≤ nI i from nI_ge hi (by decide)), pu_gd hi (by decide), pu_gd hi (by decide), pu_cl (by omega), nI_1]) (fun n s => rfl) τ
theorem pm_puts (τ : js_S) : ∃ s1, fX8_putsBack τ = some s1 ∧ pv_cp τ s1 1 3 := pv_cpL (fun n i s => fX8_putsBack_L2 n i s) _ 1 3 (by decide) (fun n s i hi => by
    show fX8_putsBack_L2 (n + 1) (nI i) s = _
    rw [fX8_putsBack_L2, if_neg (show ¬ (633 : Int32) ≤ nI i from nI_ge hi (by decide)), pu_gd hi (by decide), pu_gd hi (by decide), pu_cl (by omega), nI_1]) (fun n s => rfl) τ
theorem pv_cp.O3 {a b : js_S} {c : Nat} (h : pv_cp a b 3 c) : pv_OM a b := ⟨fun k _ _ h3 _ _ => h.1 k h3, by rw [h.1 0 (by decide)], by rw [h.1 0 (by decide)], by rw [h.2.1]⟩
theorem pv_EI.O {a b : js_S} (h : pv_EI a b) : pv_OM a b := ⟨fun k h0 h1 _ _ _ => h.1 k h0 h1, h.2.1 5 (by decide), h.2.1 9 (by decide), by rw [h.2.2]⟩
theorem pv_E0b.O {a b : js_S} (h : pv_E0b a b) : pv_OM a b := h.I.O
theorem pv_R.wiped (h : pv_R σ τ) : pv_R (js_sI σ 15 0 (0 : Int32)) (js_sI τ 0 9 (0 : Int32)) := by
  obtain ⟨r, a, b, e1, e2, e3⟩ := pg_wipe h
  unfold fX7_wipe at e1
  unfold fX8_wipe at e2
  have x1 := (Prod.mk.inj (Option.some.inj e1)).2
  have x2 := (Prod.mk.inj (Option.some.inj e2)).2
  rw [x1, x2]
  exact e3
/-- the class goes to its first token -/
theorem pc_begin (hL : L ≤ 120) (hT : ∀ i, T i < 256) (hb : pv_tb T L σ) {m : Nat} (hm : σ.1 1 2 = nI m) (p3 : Int32) : ∃ s, fX5_goThrough p3 σ = fX5_goThrough_L15 p3 js_FU (1 : Int32) s ∧ pv_at T L s s (pt_sk T L 0) ∧ pv_E17 σ s ∧ s.1 17 0 = nI m := by
  have E1 := (pv_E17.put (i := 0) (v := nI m) σ).tr (pv_E15.put (i := 3) (v := (0 : Int32)) (js_sI σ 17 0 (nI m)) (by decide)).w
  obtain ⟨s, e1, e2, e3⟩ := pc_step (σ := js_sI (js_sI σ 17 0 (nI m)) 15 3 (0 : Int32)) hL hT (E1.tb hb) (p := 0) (by omega) (by rw [pv_sI_at, if_pos rfl]; rfl)
  unfold fX5_goThrough fX4_begin
  rw [hm, e1, Option.bind_some, Option.bind_some]
  refine ⟨s, rfl, ⟨e2.tb (E1.tb hb), e3, pv_E17.rf s⟩, E1.tr e2.w, ?_⟩
  rw [e2.1 17 (by decide), pv_sI_ne (by decide), pv_sI_at, if_pos rfl]
theorem pg_house (h : pv_R σ τ) : pv_G (fX7_house σ) (fX8_house τ) := by
  have h0 := h
  obtain ⟨⟨A, hB, hd, hC, hM⟩, -, -, -, -, ⟨L, hL, t1, t2⟩, ⟨T, hT, hTT⟩, -⟩ := h0
  have h6 := hB.many
  have hb : pv_tb T L σ := ⟨t1, fun i hi => (hTT i hi).1⟩
  have hq0 : pt_sk T L 0 ≤ L := (pt_sk_le (by omega)).2
  obtain ⟨a1, p1, p2⟩ := pm_saves τ
  have E1 : pv_E0b a1 (js_sI (js_sI a1 0 13 (0 : Int32)) 0 11 (0 : Int32)) := (pv_E0b.put a1 (by decide)).tr (pv_E0b.put _ (by decide))
  have hb1 : pv_tbm T L a1 := ⟨by rw [p2.1 0 (by decide)]; exact t2, by rw [p2.1 7 (by decide)]; exact fun i hi => (hTT i hi).2⟩
  obtain ⟨a2, p3, p4, p5⟩ := pm_token (τ := js_sI (js_sI a1 0 13 (0 : Int32)) 0 11 (0 : Int32)) hL hT (E1.tb hb1) (p := 0) (by omega) (by rw [pv_sI_at, if_pos rfl]; rfl)
  have E2 : pv_E0b a1 a2 := E1.tr p4.b
  have w2 : a2.1 0 13 = 0 := by rw [p4.2.1 13 (by decide) (by decide), pv_sI_at, if_neg (by decide), pv_sI_at, if_pos rfl]
  have M2 : pv_M A a2 1 := (hM.keep (p2.1 1 (by decide))).keep (E2.1 1 (by decide))
  have M3 : pv_M A a2 3 := (pv_M.cp p2 hM).keep (E2.1 3 (by decide))
  unfold fX8_house
  rw [p1, Option.bind_some, p3, Option.bind_some]
  generalize hK : (fun (w7 : Int32) (s8 : js_S) => (if (s8.1 0 13) = 0 then (if (s8.1 0 9) ≤ (s8.1 0 10) then (if ((js_sI s8 0 13 (0 : Int32)).1 0 13) = 0 then (if ((js_sI (js_sI s8 0 13 (0 : Int32)) 0 9 (0 : Int32)).1 0 13) = 0 then some (w7, (js_sI (js_sI s8 0 13 (0 : Int32)) 0 9 (0 : Int32))) else some (((-1 : Int32) - ((js_sI (js_sI s8 0 13 (0 : Int32)) 0 9 (0 : Int32)).1 0 10)), (js_sI (js_sI s8 0 13 (0 : Int32)) 0 9 (0 : Int32)))) else (fX8_putsBack (js_sI s8 0 13 (0 : Int32))).bind fun r10 => (if ((js_sI r10 0 9 (0 : Int32)).1 0 13) = 0 then some (w7, (js_sI r10 0 9 (0 : Int32))) else some (((-1 : Int32) - ((js_sI r10 0 9 (0 : Int32)).1 0 10)), (js_sI r10 0 9 (0 : Int32))))) else (if ((js_sI s8 0 13 (1 : Int32)).1 0 13) = 0 then (if ((js_sI (js_sI s8 0 13 (1 : Int32)) 0 9 (0 : Int32)).1 0 13) = 0 then some (w7, (js_sI (js_sI s8 0 13 (1 : Int32)) 0 9 (0 : Int32))) else some (((-1 : Int32) - ((js_sI (js_sI s8 0 13 (1 : Int32)) 0 9 (0 : Int32)).1 0 10)), (js_sI (js_sI s8 0 13 (1 : Int32)) 0 9 (0 : Int32)))) else (fX8_putsBack (js_sI s8 0 13 (1 : Int32))).bind fun r11 => (if ((js_sI r11 0 9 (0 : Int32)).1 0 13) = 0 then some (w7, (js_sI r11 0 9 (0 : Int32))) else some (((-1 : Int32) - ((js_sI r11 0 9 (0 : Int32)).1 0 10)), (js_sI r11 0 9 (0 : Int32)))))) else (if ((js_sI s8 0 13 (1 : Int32)).1 0 13) = 0 then (if ((js_sI (js_sI s8 0 13 (1 : Int32)) 0 9 (0 : Int32)).1 0 13) = 0 then some (w7, (js_sI (js_sI s8 0 13 (1 : Int32)) 0 9 (0 : Int32))) else some (((-1 : Int32) - ((js_sI (js_sI s8 0 13 (1 : Int32)) 0 9 (0 : Int32)).1 0 10)), (js_sI (js_sI s8 0 13 (1 : Int32)) 0 9 (0 : Int32)))) else (fX8_putsBack (js_sI s8 0 13 (1 : Int32))).bind fun r9 => (if ((js_sI r9 0 9 (0 : Int32)).1 0 13) = 0 then some (w7, (js_sI r9 0 9 (0 : Int32))) else some (((-1 : Int32) - ((js_sI r9 0 9 (0 : Int32)).1 0 10)), (js_sI r9 0 9 (0 : Int32))))))) = K
  have KG : ∀ w s8, s8.1 0 13 = 0 → s8.1 0 9 = nI L → ∀ pos, pos < 1000 → L ≤ pos → s8.1 0 10 = nI pos → K w s8 = some (w, js_sI (js_sI s8 0 13 (0 : Int32)) 0 9 (0 : Int32)) := fun w s8 e1 e2 pos hp1 hp2 e3 => by
    have z1 : (js_sI s8 0 13 (0 : Int32)).1 0 13 = 0 := by rw [pv_sI_at, if_pos rfl]
    have z2 : (js_sI (js_sI s8 0 13 (0 : Int32)) 0 9 (0 : Int32)).1 0 13 = 0 := by rw [pv_sI_at, if_neg (by decide), pv_sI_at, if_pos rfl]
    rw [← hK]
    dsimp only
    rw [if_pos e1, e2, e3, if_pos (nI_le hp2 (by omega)), if_pos z1, if_pos z2]
  have KB : ∀ w s8 pos, pos < 1000 → s8.1 0 9 = nI L → (s8.1 0 13 = 0 → pos < L) → s8.1 0 10 = nI pos → ∃ s9, fX8_putsBack (js_sI s8 0 13 (1 : Int32)) = some s9 ∧ pv_cp (js_sI s8 0 13 (1 : Int32)) s9 1 3 ∧ K w s8 = some ((-1 : Int32) - nI pos, js_sI s9 0 9 (0 : Int32)) := fun w s8 pos hp e1 e2 e3 => by
    obtain ⟨s9, f1, f2⟩ := pm_puts (js_sI s8 0 13 (1 : Int32))
    have z1 : ¬ (js_sI s8 0 13 (1 : Int32)).1 0 13 = 0 := by rw [pv_sI_at, if_pos rfl]; decide
    have z2 : ¬ (js_sI s9 0 9 (0 : Int32)).1 0 13 = 0 := by rw [pv_sI_at, if_neg (by decide), f2.1 0 (by decide)]; exact z1
    have z3 : (js_sI s9 0 9 (0 : Int32)).1 0 10 = nI pos := by rw [pv_sI_at, if_neg (by decide), f2.1 0 (by decide), pv_sI_at, if_neg (by decide)]; exact e3
    refine ⟨s9, f1, f2, ?_⟩
    rw [← hK]
    dsimp only
    by_cases c : s8.1 0 13 = 0
    · rw [if_pos c, e1, e3, if_neg (nI_ge (e2 c) (by omega)), if_neg z1, f1, Option.bind_some, if_neg z2, z3]
    · rw [if_neg c, if_neg z1, f1, Option.bind_some, if_neg z2, z3]
  obtain ⟨ok, r, pos, v', G, g1, g2, g3, g4, g5, g6⟩ := pg_run (T := T) hL hT K L (pt_sk T L 0) (A 0) 1 js_FU js_FU hq0 (by omega) h6 (by omega) (by decide) (by unfold js_FU; omega) (by unfold js_FU; omega)
  obtain ⟨s1, b1, b2, b3, b4⟩ := pc_begin hL hT hb hC.many (0 : Int32)
  obtain ⟨s2, c1, c2⟩ := g4 s1 b2 b4
  have c1' : fX5_goThrough_L15 (0 : Int32) js_FU (1 : Int32) s1 = some (r, s2) := c1
  obtain ⟨t3, w, d1, d2, d3, d4, d5⟩ := g6 a2 A ⟨E2.tb hb1, p5, pv_E0b.rf a2, w2⟩ hB rfl M2
  have d1' : ((fX8_item a2).bind fun r3 => fX8_house_L24 K js_FU (1 : Int32) r3) = K w t3 := d1
  have hb3 : t3.1 0 9 = nI L := by rw [d2.2.1 9 (by decide)]; exact (E2.tb hb1).1
  have O3 : pv_OM τ t3 := (p2.O3.tr E2.O).tr d2.O
  have e12 := b3.tr c2
  unfold fX7_house
  rw [b1, c1', Option.bind_some, d1']
  dsimp only
  cases ok with
  | false =>
    have hr := g3 rfl
    have hneg : r < 0 := by
      rw [hr, fa_lt, Int32.toInt_sub, nI_toInt (by omega)]
      have z1 : ((-1 : Int32)).toInt = -1 := rfl
      have z0 : ((0 : Int32)).toInt = 0 := rfl
      rw [z1, z0, Int.bmod_eq_of_le (by omega) (by omega)]
      omega
    obtain ⟨s9, f1, f2, f3⟩ := KB w t3 pos (by omega) hb3 (d5 rfl) d3
    rw [if_pos hneg, f3, hr]
    have o := pv_E0b.put (i := 13) (v := (1 : Int32)) t3 (by decide)
    have M9 : pv_M A s9 1 := pv_M.cp f2 ((M3.keep (d2.1 3 (by decide) (by decide))).keep (o.1 3 (by decide)))
    have R := h.step e12.W.O ((O3.tr o.O).tr f2.O1) ⟨A, hB, hd, e12.C hC, M9⟩
    exact ⟨_, _, _, rfl, rfl, R.wiped⟩
  | true =>
    obtain ⟨hr, hv', hG⟩ := g2 rfl
    obtain ⟨e1, e2, e3, e4⟩ := d4 rfl
    have C2 := e12.C hC
    obtain ⟨s3, i1, i2, i3, i4⟩ := pc_begin hL hT (e12.tb hb) C2.many (1 : Int32)
    obtain ⟨s4, j1, j2, j3⟩ := g5 rfl s3 A i2 i4 hB rfl (i3.C C2)
    have j1' : fX5_goThrough_L15 (1 : Int32) js_FU (1 : Int32) s3 = some (r, s4) := j1
    have hpos : ¬ r < 0 := by rw [hr]; exact nI_pos (by omega)
    rw [if_neg hpos, i1, j1', Option.bind_some, KG w t3 e1 hb3 pos (by omega) e2 d3, e3]
    have o := pv_E0b.put (i := 13) (v := (0 : Int32)) t3 (by decide)
    obtain ⟨hGB, hG1⟩ := hG A hB rfl
    have R := h.step ((e12.W.tr i3.W).tr j2).O (O3.tr o.O) ⟨G A, hGB, by rw [hG1]; exact hd, j3, e4.keep (o.1 1 (by decide))⟩
    exact ⟨_, _, _, rfl, rfl, R.wiped⟩
end PRun
