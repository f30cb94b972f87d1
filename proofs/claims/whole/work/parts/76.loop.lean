/-! THE LAW: loop and beginning -/
section BP
variable {X : bl_T} {pc k : Nat} {st : List Value} {σ τ : js_S}
theorem bl_next (C : bl_C X) (kk : bl_I X 18 (k + 6) [] σ τ) : bl_I X 1619 k [] σ τ := by
  obtain ⟨p, l, e, s, m, below, meth, c, b, L, xs, dC, dI, cI, cL, aC, aM, Q⟩ := X
  intro H locs ls hP hPo hS hl
  refine lv_iinc (v := nI (k + 6)) (lv' := [(3, .int (nI (k + 6))), (0, .ref b), (1, .ref (aC 0)), (2, .ref (aM 0))]) C.1.1 C.1.2.1 dL_law_1619 hl (k := 3) rfl (nI_add k 6) (by decide) rfl (fun ls hl => ?_)
  refine lv_goto (tgt := 18) C.1.1 C.1.2.1 dL_law_1622 (by decide) ?_
  exact kk H locs ls hP hPo hS (lv_sub hl [1, 2, 3, 0] rfl)
theorem bl_head (C : bl_C X) (hk : k ≤ 3072) (kin : k + 6 ≤ bl_L X → bl_I X 33 k [.int (bl_xs X k 0 &&& 63)] σ τ) (kout : bl_I X 1625 k [] σ τ) : bl_I X 18 k [] σ τ := by
  obtain ⟨p, l, e, s, m, below, meth, c, b, L, xs, dC, dI, cI, cL, aC, aM, Q⟩ := X
  obtain ⟨C0, -, -, -, -, -, hL⟩ := C
  intro H locs ls hP hPo hS hl
  have hbA : ¬ bl_A s b := Nat.not_le.mpr C0.2.2.2.2.2.2.2.1
  refine lv_iload_n C0.1 C0.2.1 dL_law_18 rfl (lv_at hl 3 rfl) ?_
  refine lv_aload_n C0.1 C0.2.1 dL_law_19 rfl (lv_at hl 0 rfl) ?_
  refine va_slen C0.1 C0.2.1 C0.2.2.2.2.2.2.1 C0.2.2.2.2.2.2.2.1 hbA hS dL_law_20 ?_
  refine lv_bipush (v := 6) C0.1 C0.2.1 dL_law_21 (by decide) ?_
  refine lv_isub C0.1 C0.2.1 dL_law_23 ?_
  have e1 : (nI L - (6 : Int32)).toInt = (L : Int) - 6 := pk_sub_toInt (a := L) (b := 6) (by omega) (by decide)
  have e2 : (nI k).toInt = (k : Int) := nI_toInt (by omega)
  refine lv_icmp_gt (tgt := 1625) C0.1 C0.2.1 dL_law_24 (by decide) (fun _ => kout H locs ls hP hPo hS hl) (fun hc => ?_)
  have hc : ¬ nI L - (6 : Int32) < nI k := hc
  rw [fa_lt, e1, e2] at hc
  have hin : k + 6 ≤ L := by omega
  refine lv_aload_n C0.1 C0.2.1 dL_law_27 rfl (lv_at hl 0 rfl) ?_
  refine lv_iload_n C0.1 C0.2.1 dL_law_28 rfl (lv_at hl 3 rfl) ?_
  refine va_sld C0.1 C0.2.1 C0.2.2.2.2.2.2.1 C0.2.2.2.2.2.2.2.1 hbA hS (vp_in_nI (show k < L by omega) (by omega)) dL_law_29 ?_
  refine lv_bipush (v := 63) C0.1 C0.2.1 dL_law_30 (by decide) ?_
  refine lv_iand C0.1 C0.2.1 dL_law_32 ?_
  exact kin hin H locs ls hP hPo hS hl
theorem bl_loop (C : bl_C X) (hL : bl_L X ≤ 3072) (hend : ∀ k σ τ, bl_I X 1625 k [] σ τ) : ∀ (n k : Nat) (σ τ : js_S), k ≤ bl_L X → bl_L X < n + k → pv_R σ τ → bl_I X 18 k [] σ τ
  | 0, k, σ, τ, hk, hn, _ => absurd hn (by omega)
  | n + 1, k, σ, τ, hk, hn, h => bl_head C (by omega) (fun hin => bl_switch C hin h (fun σ2 τ2 h2 => bl_next C (bl_loop C hL hend n (k + 6) σ2 τ2 hin (by omega) h2)) _) (hend k σ τ)
end BP
theorem bl_end {p : Program} {l : Launch} {e : Env} {s : State} {m : MethodId} {below : List Frame} {meth : Method} {c : Code} {b L : Nat} {xs : Nat → Int32} {dC : Nat → ClassId} {dI : Nat → Nat → Nat} {cI cL : ClassId} {aC aM : Nat → Nat} (C0 : lw_At p s m meth c b L xs) (k : Nat) (σ τ : js_S) : bl_I (p, l, e, s, m, below, meth, c, b, L, xs, dC, dI, cI, cL, aC, aM, lw_Z below #[Value.ref b] s) 1625 k [] σ τ := by
  intro H locs ls hP hPo hS hl
  refine lv_iconst (v := 1) C0.1 C0.2.1 dL_law_1625 (by decide) ?_
  refine va_forget (fun q hq => hS.2.2 q hq) ?_
  exact lw_ret C0.1 C0.2.1 C0.2.2.1 C0.2.2.2.2.2.2.2.2.1 dL_law_1626
theorem bl_left {A : Nat → Prop} {D : va_G} {w1 w2 : va_W} {H : Heap} (hP : va_P D vwCl (w1 ++ w2) H) (hD : va_D A (w1 ++ w2)) : va_P D vwCl w1 H ∧ va_D A w1 := by
  have key : ∀ (k : Nat) (q : Nat × va_E), w1[k]? = some q → (w1 ++ w2)[k]? = some q := fun k q hk => by rw [List.getElem?_append_left (List.getElem?_eq_some_iff.mp hk).1]; exact hk
  exact ⟨fun k q hk => hP k q (key k q hk), fun i j x y hi hj e => hD.1 i j x y (key i x hi) (key j y hj) e, fun k q hk => hD.2 k q (key k q hk)⟩
theorem bl_rightk {w1 w2 : va_W} (k : Nat) (q : Nat × va_E) (hk : w2[k]? = some q) : (w1 ++ w2)[w1.length + k]? = some q := by
  rw [List.getElem?_append_right (Nat.le_add_right _ _), Nat.add_sub_cancel_left]
  exact hk
theorem bl_right {A : Nat → Prop} {D : va_G} {w1 w2 : va_W} {H : Heap} (hP : va_P D vwCl (w1 ++ w2) H) (hD : va_D A (w1 ++ w2)) : va_P D vwCl w2 H ∧ va_D A w2 :=
  ⟨fun k q hk => hP _ q (bl_rightk k q hk), fun i j x y hi hj e => by have := hD.1 _ _ x y (bl_rightk i x hi) (bl_rightk j y hj) e; omega, fun k q hk => hD.2 _ q (bl_rightk k q hk)⟩
theorem bl_wlk {G : js_G} {sh : List js_Shp} {σ : js_S} {k : Nat} (hk : k < sh.length) : ∃ x : va_E, (js_wl G sh σ)[k]? = some (js_ad G k, x) := ⟨_, js_wl_at σ (List.getElem?_eq_getElem hk)⟩
theorem bl_inj {G : js_G} {sh : List js_Shp} {σ : js_S} {A : Nat → Prop} (h : va_D A (js_wl G sh σ)) : js_inj G sh ∧ ∀ q, js_A G sh q → A q := by
  refine ⟨fun i j hi hj e => ?_, fun q ⟨k, hk, e⟩ => ?_⟩
  · obtain ⟨x, hx⟩ := bl_wlk (G := G) (σ := σ) hi
    obtain ⟨y, hy⟩ := bl_wlk (G := G) (σ := σ) hj
    exact h.1 i j _ _ hx hy e
  · obtain ⟨x, hx⟩ := bl_wlk (G := G) (σ := σ) hk
    rw [e]
    exact h.2 k _ hx
theorem bl_dis {G1 G2 : js_G} {sh1 sh2 : List js_Shp} {σ τ : js_S} {A : Nat → Prop} (h : va_D A (js_wl G1 sh1 σ ++ js_wl G2 sh2 τ)) (q : Nat) (h1 : js_A G1 sh1 q) (h2 : js_A G2 sh2 q) : False := by
  obtain ⟨i, hi, e1⟩ := h1
  obtain ⟨j, hj, e2⟩ := h2
  obtain ⟨x, hx⟩ := bl_wlk (G := G1) (σ := σ) hi
  obtain ⟨y, hy⟩ := bl_wlk (G := G2) (σ := τ) hj
  have hl := (List.getElem?_eq_some_iff.mp hx).1
  have := h.1 i ((js_wl G1 sh1 σ).length + j) _ _ (by rw [List.getElem?_append_left hl]; exact hx) (bl_rightk j _ hy) (e1.symm.trans e2)
  omega
/-- the law's call of a constructor -/
theorem bl_ctor {p : Program} {l : Launch} {e : Env} {s : State} {m : MethodId} {below : List Frame} {meth : Method} {c : Code} {H : Heap} {locs : List Loc} {cells slots : Nat} {Q : State → Prop} {b L : Nat} {xs : Nat → Int32} {D : va_G} {cI cL : ClassId} {mk : js_M} {nw : List Cond} {ws : va_W} {pc idx ci q mc ms : Nat} {fs : List Value} {out : Nat → (Nat → Nat) → va_W} {ls : Array Slot} {lv : List (Nat × Value)} {rest : List Value}
    (C0 : lw_At p s m meth c b L xs) (hK : va_K D vwCl [(cI, .int), (cL, .long)] s) (hnw : ∀ w ∈ nw, w.onTables = true ∧ va_Nw w s ∧ ∀ U : State, s.WarmedH U.vm → va_Nw w U) (h : bi_St D (bl_A s) (ws ++ [(q, .inr (ci, fs))]) s.heap H locs) (hl : lv_has ls 4 lv) (hM : bi_Con l D cI cL mk mc ms nw ci fs out) (hd : decode code pc = .ok (.invokespecial idx, 3)) (hlk : Cond.methodLink RL idx (js_y mk) ∈ js_good) (hcm : js_Cm mk 0) (hci : Cond.instanceMethod (js_y mk) ∈ js_good) (hr : js_r mk = none) (hy : (js_y mk).name = "<init>")
    (hfit : (Nat.ble (js_fr mk + 1) 12 && Nat.ble (8 + (js_n mk + 11) + js_lo mk) 438 && Nat.ble (cells + mc) 36 && Nat.ble (slots + ms) 4598 && Nat.ble (rest.map fun v => v.category).sum 8) = true)
    (k : ∀ (u : Nat → Nat) (H1 : Heap) (locs1 : List Loc), bi_St D (bl_A s) (ws ++ out q u) s.heap H1 locs1 → W p l e room_1 s m #[Value.ref b] below meth c H1 locs1 (cells + mc) (slots + ms) Q (F0 m (pc + 3) ls rest)) : W p l e room_1 s m #[Value.ref b] below meth c H locs cells slots Q (F0 m pc ls (.ref q :: rest)) := by
  rw [Bool.and_eq_true, Bool.and_eq_true, Bool.and_eq_true, Bool.and_eq_true] at hfit
  obtain ⟨⟨⟨⟨g1, g2⟩, g3⟩, g4⟩, g5⟩ := hfit
  have hts := bl_good C0.2.2.2.2.2.1
  have hPc : va_P D vwCl [(q, .inr (ci, fs))] H := h.1.sub [ws.length] (by simp)
  exact bi_after (a := #[.ref q]) (fun _ h => h) h (va_runI (As := []) (rest := rest) (n := 0) (own := RL) (cc := code) (nL := 4) (Ts := js_good) ⟨C0.1, C0.2.1, C0.2.2.2.1, C0.2.2.2.2.1, hts⟩ (hM q H.size) (cwI 0 hts (js_goodIn hcm) (bi_ws hr) rfl rfl (hts _ hcm.1) (hts _ hlk) (hts _ hci) hy hcm.2.2 ⟨Nat.le_of_ble_eq_true g1, Nat.le_of_ble_eq_true g2⟩) ⟨bi_blind, fun U hU hW => ⟨rfl, by rw [hU], by rw [hU]; exact hPc, va_K.moved hW.alike hK, fun w hw => ⟨(hnw w hw).1, (hnw w hw).2.2 U hW⟩⟩⟩ rfl rfl hl.1 rfl (lv_room (Nat.le_of_ble_eq_true g5)) hd ⟨Nat.le_of_ble_eq_true g3, Nat.le_of_ble_eq_true g4⟩) k
theorem bl_nw {s : State} {args : Array Value} (hts : ∀ w ∈ lw_tbl, w.before args s = true) : ∀ w ∈ bl_nest, w.onTables = true ∧ va_Nw w s ∧ ∀ U : State, s.WarmedH U.vm → va_Nw w U := by
  intro w hw
  have h0 := bl_nests2 w hw
  have h1 : va_Nw w s := va_Nw.of h0.2 (hts w h0.1)
  refine ⟨h0.2, h1, fun U hW => ?_⟩
  simp only [bl_nest, List.mem_cons, List.not_mem_nil, or_false] at hw
  rcases hw with rfl | rfl | rfl | rfl | rfl | rfl <;> exact va_Nw.warmM hW h1
theorem tl_9 : Cond.methodLink RL 9 yX7_init ∈ js_good := List.mem_filter.mpr ⟨List.mem_append_right _ (List.mem_of_getElem? (i := 19) (by decide +kernel)), by decide +kernel⟩
theorem tl_12 : Cond.methodLink RL 12 yX8_init ∈ js_good := List.mem_filter.mpr ⟨List.mem_append_right _ (List.mem_of_getElem? (i := 793) (by decide +kernel)), by decide +kernel⟩
/-- from the entry, for every script of at most 3072 ints, the law comes to its end with true -/
theorem whole_start {p : Program} {e : Env} {s : State} {m : MethodId} {below : List Frame} {meth : Method} {c : Code} (l : Launch) (hflags : l.flags = flags0) {b L : Nat} {xs : Nat → Int32} (hL : L ≤ 3072) (C0 : lw_At p s m meth c b L xs) : W p l e room_1 s m #[Value.ref b] below meth c s.heap [] 0 0 (lw_Z below #[Value.ref b] s) (entryFrame m ([Value.ref b] : List Value).toArray 4) := by
  obtain ⟨hx, hb, hr, hml, hown, hts, hX, hbl, hlocks, hgv⟩ := id C0
  have htg := bl_good hts
  obtain ⟨dC, dI, cI, cL, hK⟩ := bl_K htg
  obtain ⟨up, hst⟩ := bl_stat0 hts hgv l dC dI cI cL
  have hn : ∀ w ∈ js_nest, va_Nw w s := fun w hw => va_Nw.of (bl_nests w hw).2 (hts w (bl_nests w hw).1)
  have hA : ∀ q : Nat, s.heap.size ≤ q → bl_A s q := fun _ h => h
  have hl := lv_entry ([.ref b]) (n := 4) (Nat.le_of_ble_eq_true rfl)
  rw [lg_entry_eq]
  generalize (lg_sl ([.ref b]) ++ List.replicate (4 - (lg_sl ([.ref b])).length) Slot.unset).toArray = ls at hl ⊢
  have hl : lv_has ls 4 [(0, .ref b)] := hl
  have h0 : bi_St (dC, dI) (bl_A s) [] s.heap s.heap [] := ⟨fun k q h => by simp at h, ⟨fun i j p q h => by simp at h, fun k q h => by simp at h⟩, va_S.rf⟩
  refine bi_new (own := RL) hx hb hown htg hK hA h0 dL_law_0 bn_L_7 rfl rfl (fun q1 H h1 => ?_)
  refine lv_dup hx hb dL_law_3 rfl ?_
  refine bl_ctor (mk := mX7_init) C0 hK (bl_nw hts) h1 hl (bc_X7 l (dC, dI) cI cL up) dL_law_4 tl_9 bm_X7_init bv_X7_init rfl rfl rfl (fun u1 H locs h2 => ?_)
  refine lv_astore_n (lv' := [(1, .ref q1), (0, .ref b)]) hx hb dL_law_7 rfl hl (by decide) rfl (fun ls hl => ?_)
  refine bi_new (own := RL) hx hb hown htg hK hA h2 dL_law_8 bn_L_10 rfl rfl (fun q2 H h3 => ?_)
  refine lv_dup hx hb dL_law_11 rfl ?_
  refine bl_ctor (mk := mX8_init) C0 hK (fun w hw => by cases hw) h3 hl (bc_X8 l (dC, dI) cI cL up) dL_law_12 tl_12 bm_X8_init bv_X8_init rfl rfl rfl (fun u2 H locs h4 => ?_)
  refine lv_astore_n (lv' := [(2, .ref q2), (1, .ref q1), (0, .ref b)]) hx hb dL_law_15 rfl hl (by decide) rfl (fun ls hl => ?_)
  refine lv_iconst (v := 0) hx hb dL_law_16 (by decide) ?_
  refine lv_istore_n (lv' := [(3, .int 0), (2, .ref q2), (1, .ref q1), (0, .ref b)]) hx hb dL_law_17 rfl hl (by decide) rfl (fun ls hl => ?_)
  obtain ⟨hP, hD, hS⟩ := h4
  have hP : va_P (dC, dI) vwCl (js_wl (l, dC, dI, cI, cL, bl_ad (bl_b q1 u1) up) shC js_S0 ++ js_wl (l, dC, dI, cI, cL, bl_ad (bl_b q2 u2) up) shM js_S0) H := hP
  have hD : va_D (bl_A s) (js_wl (l, dC, dI, cI, cL, bl_ad (bl_b q1 u1) up) shC js_S0 ++ js_wl (l, dC, dI, cI, cL, bl_ad (bl_b q2 u2) up) shM js_S0) := hD
  obtain ⟨hP1, hD1⟩ := bl_left hP hD
  obtain ⟨hP2, hD2⟩ := bl_right hP hD
  obtain ⟨i1, a1⟩ := bl_inj hD1
  obtain ⟨i2, a2⟩ := bl_inj hD2
  have C : bl_C (p, l, e, s, m, below, meth, c, b, L, xs, dC, dI, cI, cL, bl_ad (bl_b q1 u1) up, bl_ad (bl_b q2 u2) up, lw_Z below #[Value.ref b] s) := ⟨C0, hK, hn, ⟨i1, bl_stat _ hst, a1⟩, ⟨i2, bl_stat _ hst, a2⟩, fun q z1 z2 => bl_dis hD q z1 z2, hL⟩
  exact bl_loop C hL (fun k σ τ => bl_end C0 k σ τ) (L + 1) 0 js_S0 js_S0 (Nat.zero_le _) (by show L < L + 1 + 0; omega) pv_R0 H locs ls hP1 hP2 hS (lv_sub hl [3, 2, 1, 0] rfl)
