/-! THE LAW: what the tables and the start give -/
def bl_A (s : State) : Nat → Prop := fun q => s.heap.size ≤ q
def bl_nest : List Cond := [.methodLinkNest RX7 9 yX3_init RX7, .methodLinkNest RX7 25 yX0_init RX7, .methodLinkNest RX7 32 yX6_init RX7, .methodLinkNest RX7 39 yX4_init RX7, .methodLinkNest RX7 46 yX5_init RX7, .methodLinkNest RX7 53 yX2_init RX7]
def bl_q0 : String × Nat × String × Nat := ("", 0, "", 0)
def bl_tm (i : Nat) : Term := Term.string (js_strs.getD i bl_q0).1 (js_strs.getD i bl_q0).2.1
theorem bl_strs : ∀ q ∈ js_strs, Cond.stringRef q.1 q.2.1 q.2.2.1 ∈ lw_tbl ∧ q.2.2.2 < 11 ∧ js_strs.getD q.2.2.2 bl_q0 = q := by decide +kernel
theorem bl_nests : ∀ w ∈ js_nest, w ∈ lw_tbl ∧ w.onTables = true := by decide +kernel
theorem bl_nests2 : ∀ w ∈ bl_nest, w ∈ lw_tbl ∧ w.onTables = true := by decide +kernel
theorem bl_n0 : ∀ i : Nat, i < 11 → js_len.getD i 0 < 2 ^ 31 := by decide +kernel
theorem bl_n1 : ∀ i : Nat, i < 11 → Cond.exactly (bl_tm i) "java/lang/String" ∈ flatC (Jvm.Cond.and given_1 narrow_1) := by decide +kernel
theorem bl_n2 : ∀ i : Nat, i < 11 → Cond.eq (.field (bl_tm i) "java/lang/String" "coder" "B") (.int 0) ∈ flatC (Jvm.Cond.and given_1 narrow_1) := by decide +kernel
theorem bl_n3 : ∀ i : Nat, i < 11 → Cond.arrayOf (.field (bl_tm i) "java/lang/String" "value" "[B") .byte ∈ flatC (Jvm.Cond.and given_1 narrow_1) := by decide +kernel
theorem bl_n4 : ∀ i : Nat, i < 11 → Cond.eq (.length (.field (bl_tm i) "java/lang/String" "value" "[B")) (.int (Int32.ofNat (js_len.getD i 0))) ∈ flatC (Jvm.Cond.and given_1 narrow_1) := by decide +kernel
theorem bl_n5 : ∀ i : Nat, i < 11 → ∀ j : Nat, j < js_len.getD i 0 → Cond.eq (.elem (.field (bl_tm i) "java/lang/String" "value" "[B") (.int (Int32.ofNat j))) (.int ((js_byt.getD i []).getD j 0)) ∈ flatC (Jvm.Cond.and given_1 narrow_1) := by decide +kernel
theorem bl_n6 : ∀ i : Nat, i < 11 → ∀ j : Nat, j < 11 → i ≠ j → Cond.not (Cond.eq (bl_tm i) (bl_tm j)) ∈ flatC (Jvm.Cond.and given_1 narrow_1) ∨ Cond.not (Cond.eq (bl_tm j) (bl_tm i)) ∈ flatC (Jvm.Cond.and given_1 narrow_1) := by decide +kernel
theorem bl_n7 : ∀ j : Nat, j < 6 → Cond.eq (.elem (.static "SootTalk$Kinds" "ABOVE" "[I") (.int (Int32.ofNat j))) (.int (js_abv.getD j 0)) ∈ flatC (Jvm.Cond.and given_1 narrow_1) := by decide +kernel
theorem bl_n8 : Cond.arrayOf (.static "SootTalk$Kinds" "ABOVE" "[I") .int ∈ flatC (Jvm.Cond.and given_1 narrow_1) ∧ Cond.eq (.length (.static "SootTalk$Kinds" "ABOVE" "[I")) (.int (Int32.ofNat 6)) ∈ flatC (Jvm.Cond.and given_1 narrow_1) ∧ Cond.eq (.static "java/lang/String" "COMPACT_STRINGS" "Z") (.int 1) ∈ flatC (Jvm.Cond.and given_1 narrow_1) ∧ Cond.isRef (.static "jdk/internal/util/Preconditions" "SIOOBE_FORMATTER" "Ljava/util/function/BiFunction;") ∈ flatC (Jvm.Cond.and given_1 narrow_1) := by decide +kernel
theorem bl_t0 : ∀ w ∈ [Cond.laysStatic "SootTalk$Kinds" "ABOVE" "[I", .initialized "SootTalk$Kinds", .laysStatic "java/lang/String" "COMPACT_STRINGS" "Z", .initialized "java/lang/String", .laysStatic "jdk/internal/util/Preconditions" "SIOOBE_FORMATTER" "Ljava/util/function/BiFunction;", .initialized "jdk/internal/util/Preconditions"], w ∈ lw_tbl := by decide +kernel
theorem bl_t1 : ∀ w ∈ [Cond.arrayClass .int, .arrayClass .long, .instantiable RX0 3, .instantiable RX2 3, .instantiable RX3 7, .instantiable RX4 6, .instantiable RX5 9, .instantiable RX6 3, .instantiable RX7 10, .instantiable RX8 18], w ∈ js_good := by decide +kernel
theorem bl_good {s : State} {args : Array Value} (hts : ∀ w ∈ lw_tbl, w.before args s = true) : ∀ w ∈ js_good, w.before args s = true := fun w hw => hts w (List.mem_filter.mp hw).1
theorem bl_arr {s : State} {args : Array Value} {ty : FieldType} (h : (Cond.arrayClass ty).before args s = true) (hr : ∀ cA, s.vm.findClass ("[" ++ ty.toString) = some cA → va_RA s cA ty) : ∃ cA, ArrOfT s cA ty ∧ va_RA s cA ty := by
  obtain ⟨cA, kA, comp, h1, h2, h3⟩ := Cond.arrayClass_spec (args := args) (first := s) (o := none) (s := s) (idx := []) (type := ty) h
  exact ⟨cA, fun n z => ⟨fun k h => (by cases h), kA, h2, comp, h3⟩, hr cA h1⟩
theorem bl_K {s : State} {args : Array Value} (hts : ∀ w ∈ js_good, w.before args s = true) : ∃ (dC : Nat → ClassId) (dI : Nat → Nat → Nat) (cI cL : ClassId), va_K (dC, dI) vwCl [(cI, .int), (cL, .long)] s := by
  obtain ⟨c0, i0, k0⟩ := u_known (C := RX0) (T := TX0) (N := 3) (n := 3) hts iX0 (hts _ (bl_t1 _ (List.mem_of_getElem? (i := 2) rfl)))
  obtain ⟨c1, i1, k1⟩ := u_known (C := RX2) (T := TX2) (N := 3) (n := 3) hts iX2 (hts _ (bl_t1 _ (List.mem_of_getElem? (i := 3) rfl)))
  obtain ⟨c2, i2, k2⟩ := u_known (C := RX3) (T := TX3) (N := 7) (n := 7) hts iX3 (hts _ (bl_t1 _ (List.mem_of_getElem? (i := 4) rfl)))
  obtain ⟨c3, i3, k3⟩ := u_known (C := RX4) (T := TX4) (N := 6) (n := 6) hts iX4 (hts _ (bl_t1 _ (List.mem_of_getElem? (i := 5) rfl)))
  obtain ⟨c4, i4, k4⟩ := u_known (C := RX5) (T := TX5) (N := 9) (n := 9) hts iX5 (hts _ (bl_t1 _ (List.mem_of_getElem? (i := 6) rfl)))
  obtain ⟨c5, i5, k5⟩ := u_known (C := RX6) (T := TX6) (N := 3) (n := 3) hts iX6 (hts _ (bl_t1 _ (List.mem_of_getElem? (i := 7) rfl)))
  obtain ⟨c6, i6, k6⟩ := u_known (C := RX7) (T := TX7) (N := 10) (n := 10) hts iX7 (hts _ (bl_t1 _ (List.mem_of_getElem? (i := 8) rfl)))
  obtain ⟨c7, i7, k7⟩ := u_known (C := RX8) (T := TX8) (N := 18) (n := 18) hts iX8 (hts _ (bl_t1 _ (List.mem_of_getElem? (i := 9) rfl)))
  obtain ⟨cI, a1, a2⟩ := bl_arr (hts _ (bl_t1 _ (List.mem_of_getElem? (i := 0) rfl))) (fun cA h => h)
  obtain ⟨cL, b1, b2⟩ := bl_arr (hts _ (bl_t1 _ (List.mem_of_getElem? (i := 1) rfl))) (fun cA h => h)
  refine ⟨fun k => [c0, c1, c2, c3, c4, c5, c6, c7].getD k c0, fun k => [i0, i1, i2, i3, i4, i5, i6, i7].getD k i0, cI, cL, fun k q hq => ?_, fun k q hq => ?_⟩
  · match k, hq with
    | 0, hq => cases hq; exact k0
    | 1, hq => cases hq; exact k1
    | 2, hq => cases hq; exact k2
    | 3, hq => cases hq; exact k3
    | 4, hq => cases hq; exact k4
    | 5, hq => cases hq; exact k5
    | 6, hq => cases hq; exact k6
    | 7, hq => cases hq; exact k7
    | k + 8, hq => simp [vwCl] at hq
  · match k, hq with
    | 0, hq => cases hq; exact ⟨a1, a2⟩
    | 1, hq => cases hq; exact ⟨b1, b2⟩
    | k + 2, hq => simp at hq
theorem bl_stat0 {s : State} {args : Array Value} (hts : ∀ w ∈ lw_tbl, w.before args s = true) (hgv : (Jvm.Cond.and given_1 narrow_1).before args s = true) (l : Launch) (dC : Nat → ClassId) (dI : Nat → Nat → Nat) (cI cL : ClassId) : ∃ up : Nat → Nat, js_Stat (l, dC, dI, cI, cL, up) (bl_A s) s s.heap := by
  have hs := flat_of_before _ hgv
  have hA : ∀ a : Nat, a < s.heap.size → ¬ bl_A s a := fun a h q => Nat.not_le.mpr h q
  obtain ⟨t, ht, hT⟩ := va_Tof (args := args) (s := s) (tm := .static "SootTalk$Kinds" "ABOVE" "[I") (ty := .int) (N := 6) (f := fun j => .int (js_abv.getD j 0)) (A := bl_A s) (by decide) (hs _ bl_n8.1) (va_eqt (hs _ bl_n8.2.1)) (fun j hj => va_eqt (hs _ (bl_n7 j hj))) hA
  have hZ := va_Zof (hts _ (bl_t0 _ (List.mem_of_getElem? (i := 0) rfl))) (hts _ (bl_t0 _ (List.mem_of_getElem? (i := 1) rfl))) ht hA
  have hZ2 := va_Zof (hts _ (bl_t0 _ (List.mem_of_getElem? (i := 2) rfl))) (hts _ (bl_t0 _ (List.mem_of_getElem? (i := 3) rfl))) (va_eqt (hs _ bl_n8.2.2.1)) hA
  have hZ3 := va_Zqof (hts _ (bl_t0 _ (List.mem_of_getElem? (i := 4) rfl))) (hts _ (bl_t0 _ (List.mem_of_getElem? (i := 5) rfl))) (hs _ bl_n8.2.2.2) hA
  obtain ⟨adK, adV, hS, hR⟩ := vk_Sof (args := args) (s := s) (N := 11) (tm := bl_tm) (len := js_len) (byt := js_byt) (A := bl_A s) bl_n0 (fun i hi => hs _ (bl_n1 i hi)) (fun i hi => hs _ (bl_n2 i hi)) (fun i hi => hs _ (bl_n3 i hi)) (fun i hi => hs _ (bl_n4 i hi)) (fun i hi j hj => hs _ (bl_n5 i hi j hj)) (fun i j hi hj hij => (bl_n6 i hi j hj hij).imp (hs _) (hs _)) hA
  obtain ⟨t3, hZ4⟩ : ∃ t3 : Nat, va_Z "jdk/internal/util/Preconditions" "SIOOBE_FORMATTER" "Ljava/util/function/BiFunction;" .null (bl_A s) s s.heap ∨ va_Z "jdk/internal/util/Preconditions" "SIOOBE_FORMATTER" "Ljava/util/function/BiFunction;" (.ref t3) (bl_A s) s s.heap := by
    rcases hZ3 with h | ⟨t3, h⟩
    · exact ⟨0, Or.inl h⟩
    · exact ⟨t3, Or.inr h⟩
  have e1 : ∀ i : Nat, i < 11 → (if 1000 + i < 1100 then adK (1000 + i - 1000) else if 1000 + i < 2000 then adV (1000 + i - 1100) else if 1000 + i = 2000 then t else t3) = adK i := by
    intro i hi
    rw [if_pos (show 1000 + i < 1100 by omega), show 1000 + i - 1000 = i by omega]
  have e2 : ∀ i : Nat, i < 11 → (if 1100 + i < 1100 then adK (1100 + i - 1000) else if 1100 + i < 2000 then adV (1100 + i - 1100) else if 1100 + i = 2000 then t else t3) = adV i := by
    intro i hi
    rw [if_neg (show ¬ 1100 + i < 1100 by omega), if_pos (show 1100 + i < 2000 by omega), show 1100 + i - 1100 = i by omega]
  refine ⟨fun k => if k < 1100 then adK (k - 1000) else if k < 2000 then adV (k - 1100) else if k = 2000 then t else t3, hZ, hT, ⟨fun i hi => ?_, fun i j hi hj e => ?_⟩, fun q hq => ?_, hZ2, hZ4⟩
  · have h := hS.1 i hi
    show va_O "java/lang/String" (if 1000 + i < 1100 then adK (1000 + i - 1000) else if 1000 + i < 2000 then adV (1000 + i - 1100) else if 1000 + i = 2000 then t else t3) _ _ _ ∧ va_OF "java/lang/String" "coder" "B" (.int 0) (if 1000 + i < 1100 then adK (1000 + i - 1000) else if 1000 + i < 2000 then adV (1000 + i - 1100) else if 1000 + i = 2000 then t else t3) _ _ _ ∧ va_OF "java/lang/String" "value" "[B" (.ref (if 1100 + i < 1100 then adK (1100 + i - 1000) else if 1100 + i < 2000 then adV (1100 + i - 1100) else if 1100 + i = 2000 then t else t3)) (if 1000 + i < 1100 then adK (1000 + i - 1000) else if 1000 + i < 2000 then adV (1000 + i - 1100) else if 1000 + i = 2000 then t else t3) _ _ _ ∧ va_T .byte (if 1100 + i < 1100 then adK (1100 + i - 1000) else if 1100 + i < 2000 then adV (1100 + i - 1100) else if 1100 + i = 2000 then t else t3) _ _ _ _ _
    rw [e1 i hi, e2 i hi]
    exact h
  · have e3 := (e1 i hi).symm.trans (Eq.trans e (e1 j hj))
    exact hS.2 i j hi hj e3
  · obtain ⟨h1, h2, h3⟩ := bl_strs q hq
    have h4 := hR q.2.2.2 h2
    unfold bl_tm at h4
    rw [h3] at h4
    refine vk_R.of (hts _ h1) ?_
    show _ = some (Value.ref (if 1000 + q.2.2.2 < 1100 then adK (1000 + q.2.2.2 - 1000) else if 1000 + q.2.2.2 < 2000 then adV (1000 + q.2.2.2 - 1100) else if 1000 + q.2.2.2 = 2000 then t else t3))
    rw [e1 _ h2]
    exact h4
/-- the addresses of a side: its cells, then what stands still -/
def bl_ad (base up : Nat → Nat) : Nat → Nat := fun k => if k < 1000 then base k else up k
theorem bl_stat {l : Launch} {dC : Nat → ClassId} {dI : Nat → Nat → Nat} {cI cL : ClassId} {up : Nat → Nat} (base : Nat → Nat) {A : Nat → Prop} {s : State} {H : Heap} (h : js_Stat (l, dC, dI, cI, cL, up) A s H) : js_Stat (l, dC, dI, cI, cL, bl_ad base up) A s H := by
  obtain ⟨h1, h2, h3, h4, h5, h6⟩ := h
  have e : ∀ k, 1000 ≤ k → js_ad (l, dC, dI, cI, cL, bl_ad base up) k = up k := fun k hk => if_neg (Nat.not_lt.mpr hk)
  have e1 : (fun i => js_ad (l, dC, dI, cI, cL, bl_ad base up) (1000 + i)) = fun i => up (1000 + i) := funext fun i => e _ (Nat.le_add_right _ _)
  have e2 : (fun i => js_ad (l, dC, dI, cI, cL, bl_ad base up) (1100 + i)) = fun i => up (1100 + i) := funext fun i => e _ (Nat.le_trans (by decide) (Nat.le_add_right 1100 i))
  unfold js_Stat
  rw [e 2000 (by decide), e1, e2, e 2001 (by decide)]
  exact ⟨h1, h2, h3, fun q hq => by rw [e _ (Nat.le_add_right _ _)]; exact h4 q hq, h5, h6⟩
theorem js_Stat.narrow {G : js_G} {A B : Nat → Prop} {s : State} {H : Heap} (h : js_Stat G A s H) (hAB : ∀ q, B q → A q) : js_Stat G B s H := by
  obtain ⟨h1, h2, h3, h4, h5, h6⟩ := h
  exact ⟨h1.narrow hAB, h2.narrow hAB, h3.narrow hAB, h4, h5.narrow hAB, h6.imp (fun h => h.narrow hAB) (fun h => h.narrow hAB)⟩
