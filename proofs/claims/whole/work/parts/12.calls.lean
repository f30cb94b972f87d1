/-! calls -/
def js_Cm (mj : js_M) (n : Nat) : Prop := Cond.initialized (js_y mj).cls ∈ js_good ∧ Cond.code (js_y mj) (js_c mj) (js_n mj) (js_r mj) ∈ js_good ∧ ((js_y mj).cls ≠ "java/lang/invoke/MethodHandle" ∧ (js_y mj).cls ≠ "java/lang/invoke/VarHandle" ∧ (parseMethodDescriptor (js_y mj).desc).map (fun d => d.parameters.length) = some n)
def js_Cv (mj : js_M) : Prop := Cond.instanceMethod (js_y mj) ∈ js_good ∧ Cond.selects (js_y mj).cls (js_y mj) (js_y mj) ∈ js_good
def js_fit (mi mj : js_M) : Bool := Nat.ble (js_fr mj + 1) (js_fr mi) && Nat.ble (8 + (js_n mj + 11) + js_lo mj) (js_lo mi)
theorem js_fit_of {mi mj : js_M} (h : js_fit mi mj = true) : (js_rm mj).frames + 1 ≤ (js_rm mi).frames ∧ 8 + (js_n mj + 11) + (js_rm mj).locals ≤ (js_rm mi).locals := by
  unfold js_fit at h
  rw [Bool.and_eq_true] at h
  exact ⟨Nat.le_of_ble_eq_true h.1, Nat.le_of_ble_eq_true h.2⟩
theorem js_goodIn {mj : js_M} {n : Nat} (h : js_Cm mj n) : GoodIn js_good (js_ws mj) := by
  intro w hw
  have h1 : w ∈ js_good := by
    rcases List.mem_cons.mp hw with rfl | hw
    · exact h.2.1
    · exact hw
  exact ⟨h1, good_of_word (List.mem_filter.mp h1).2⟩
theorem js_blind {G : js_G} {sh : List js_Shp} {as : List Value} {σ : js_S} : FrameBlind (va_Pc (as.map (js_tv G)) (fun U => va_P (js_D G) vwCl (js_wl G sh σ) U.heap ∧ js_Env G sh U)) :=
  fun a U g mk q => ⟨q.1, q.2.1, js_Env.same (u := U) (U := U.calling g mk a) rfl rfl q.2.2⟩
theorem js_tl (G : js_G) (x : Option Value) (rest : List Value) : (x.toList ++ rest).map (js_tv G) = (x.map (js_tv G)).toList ++ rest.map (js_tv G) := by cases x <;> rfl
section JC
variable {G : js_G} {sh : List js_Shp} {mi mj : js_M} {α β : Type} {emb : α → Option Value × js_S} {embC : β → Option Value × js_S} {pc : Nat} {lv : List (Option Value)} {σ : js_S} {oc : Option β} {f : β → Option α} {stk : List Value} {idx n : Nat}
theorem js_after {p : Program} {e : Env} {R : Room} {s : State} {m : MethodId} {args a : Array Value} {below : List Frame} {meth : Method} {c : Code} {H : Heap} {locs : List Loc} {ls : Array Slot} {st0 rest : List Value} {ρ : Option Value × js_S} {Q : State → Prop}
    (hrun : va_Run p G.1 e R s m args below meth c H locs 0 0 0 0 (F0 m pc ls st0) rest (js_Q G sh ρ a) (js_A G sh)) (hS : va_S (js_A G sh) s.heap H locs)
    (kk : ∀ (H1 : Heap) (locs1 : List Loc), va_P (js_D G) vwCl (js_wl G sh ρ.2) H1 → va_S (js_A G sh) s.heap H1 locs1 → W p G.1 e R s m args below meth c H1 locs1 0 0 Q (F0 m (pc + 3) ls ((ρ.1.map (js_tv G)).toList ++ rest))) : W p G.1 e R s m args below meth c H locs 0 0 Q (F0 m pc ls st0) := by
  intro T hT X
  obtain ⟨v, st₀, t, T', L, h0, X', hL, e1, e2, ⟨⟨hv, hp⟩, hz, hk⟩, stp⟩ := hrun T hT X
  cases hv
  rw [h0] at hz hk
  obtain ⟨t2, a1, b1⟩ := kk T'.heap (locs ++ L) (by rw [e1]; exact hp) ⟨Nat.le_trans hS.1 (by rw [e1]; exact hz), fun q h1 h2 => by rw [e1, hk q (Nat.lt_of_lt_of_le h1 hS.1) h2]; exact hS.2.1 q h1 h2, fun q hq => by
      rcases List.mem_append.mp hq with h | h
      · exact hS.2.2 q h
      · exact hL q h⟩ T' rfl X'
  exact ⟨t2, stp t2 a1, b1⟩
theorem js_callV {ci b : Nat} {fs : List (Option Nat)} {T : u_T} {N : Nat} (as rest : List Value) (hd : decode (js_c mi) pc = .ok (.invokevirtual idx, 3)) (hlk : Cond.methodLink (js_y mi).cls idx (js_y mj) ∈ js_good) (hcm : js_Cm mj n) (hcv : js_Cv mj) (hR : js_fit mi mj = true) (hn : as.length = n)
    (hb : sh[b]? = some (.inr (.inr (ci, fs)))) (hci : vwCl[ci]? = some ((js_y mj).cls, T, N)) (hst : stk = as.reverse ++ .ref b :: rest) (hroom : Nat.ble (rest.map fun v => v.category).sum 8 = true)
    (hM : ∀ r, oc = some r → js_Con G sh mj (.ref b :: as) σ (embC r)) (k : ∀ r, js_J G sh mi emb (pc + 3) lv ((embC r).1.toList ++ rest) (embC r).2 (f r)) : js_J G sh mi emb pc lv stk σ (oc.bind f) := by
  intro r hr p e s m args below meth c H locs ls C hl hP hS
  cases hoc : oc with
  | none => rw [hoc] at hr; cases hr
  | some q =>
    rw [hoc] at hr
    have hr : f q = some r := hr
    have hM := hM q hoc
    have hE := C.2.2.2.2.2.2.2
    have hts := C.2.2.2.2.1
    subst hst
    refine js_after (rest := rest.map (js_tv G)) (va_runV (As := as.map (js_tv G)) (rest := rest.map (js_tv G)) (C := (js_y mj).cls) (n := n) ⟨C.1, C.2.1, C.2.2.1, C.2.2.2.1, hts⟩ hM ⟨callB_of n hts (js_goodIn hcm) rfl rfl rfl (hts _ hcm.1) (hts _ hlk) hcm.2.2 (js_fit_of hR), hts _ hcv.1, hts _ hcv.2⟩ ⟨js_blind, va_recv hE.1 hP hci (js_wl_at σ hb), fun U hU hW => ⟨rfl, by rw [hU]; exact hP, hE.call hS hU hW⟩⟩ rfl (by rw [List.length_map]; exact hn) hl.1 ?_ (lv_room (by rw [js_tv_sum]; exact Nat.le_of_ble_eq_true hroom)) hd ⟨Nat.le_refl _, Nat.le_refl _⟩) hS fun H1 locs1 hP1 hS1 => ?_
    · show List.map (js_tv G) (as.reverse ++ .ref b :: rest) = _
      rw [List.map_append, List.map_reverse]
      rfl
    · have hk := k q r hr p e s m args below meth c H1 locs1 ls C hl hP1 hS1
      rw [js_tl] at hk
      exact hk
theorem js_callS (as rest : List Value) (hd : decode (js_c mi) pc = .ok (.invokestatic idx, 3)) (hlk : Cond.methodLink (js_y mi).cls idx (js_y mj) ∈ js_good) (hcm : js_Cm mj n) (hcs : Cond.static (js_y mj) ∈ js_good) (hR : js_fit mi mj = true) (hn : as.length = n)
    (hst : stk = as.reverse ++ rest) (hroom : Nat.ble (rest.map fun v => v.category).sum 8 = true)
    (hM : ∀ r, oc = some r → js_Con G sh mj as σ (embC r)) (k : ∀ r, js_J G sh mi emb (pc + 3) lv ((embC r).1.toList ++ rest) (embC r).2 (f r)) : js_J G sh mi emb pc lv stk σ (oc.bind f) := by
  intro r hr p e s m args below meth c H locs ls C hl hP hS
  cases hoc : oc with
  | none => rw [hoc] at hr; cases hr
  | some q =>
    rw [hoc] at hr
    have hr : f q = some r := hr
    have hM := hM q hoc
    have hE := C.2.2.2.2.2.2.2
    have hts := C.2.2.2.2.1
    subst hst
    refine js_after (rest := rest.map (js_tv G)) (va_runS (As := as.map (js_tv G)) (rest := rest.map (js_tv G)) (n := n) ⟨C.1, C.2.1, C.2.2.1, C.2.2.2.1, hts⟩ hM ⟨callB_of n hts (js_goodIn hcm) rfl rfl rfl (hts _ hcm.1) (hts _ hlk) hcm.2.2 (js_fit_of hR), hts _ hcs⟩ ⟨js_blind, fun U hU hW => ⟨rfl, by rw [hU]; exact hP, hE.call hS hU hW⟩⟩ rfl (by rw [List.length_map]; exact hn) hl.1 ?_ (lv_room (by rw [js_tv_sum]; exact Nat.le_of_ble_eq_true hroom)) hd ⟨Nat.le_refl _, Nat.le_refl _⟩) hS fun H1 locs1 hP1 hS1 => ?_
    · show List.map (js_tv G) (as.reverse ++ rest) = _
      rw [List.map_append, List.map_reverse]
    · have hk := k q r hr p e s m args below meth c H1 locs1 ls C hl hP1 hS1
      rw [js_tl] at hk
      exact hk
theorem js_callN (as rest : List Value) {host : String} (hd : decode (js_c mi) pc = .ok (.invokestatic idx, 3)) (hlk : Cond.methodLinkNest (js_y mi).cls idx (js_y mj) host ∈ js_nest) (hcm : js_Cm mj n) (hcs : Cond.static (js_y mj) ∈ js_good) (hR : js_fit mi mj = true) (hn : as.length = n)
    (hst : stk = as.reverse ++ rest) (hroom : Nat.ble (rest.map fun v => v.category).sum 8 = true)
    (hM : ∀ r, oc = some r → js_Con G sh mj as σ (embC r)) (k : ∀ r, js_J G sh mi emb (pc + 3) lv ((embC r).1.toList ++ rest) (embC r).2 (f r)) : js_J G sh mi emb pc lv stk σ (oc.bind f) := by
  intro r hr p e s m args below meth c H locs ls C hl hP hS
  cases hoc : oc with
  | none => rw [hoc] at hr; cases hr
  | some q =>
    rw [hoc] at hr
    have hr : f q = some r := hr
    have hM := hM q hoc
    have hE := C.2.2.2.2.2.2.2
    have hts := C.2.2.2.2.1
    subst hst
    refine js_after (rest := rest.map (js_tv G)) (va_runSN (As := as.map (js_tv G)) (rest := rest.map (js_tv G)) (n := n) ⟨C.1, C.2.1, C.2.2.1, C.2.2.2.1, hts⟩ hM ⟨va_cnB n hts (js_goodIn hcm) rfl rfl rfl (hE.2.1 _ hlk) (hts _ hcm.1) hcm.2.2 (js_fit_of hR), hts _ hcs, trivial⟩ ⟨js_blind, fun U hU hW => ⟨rfl, by rw [hU]; exact hP, hE.call hS hU hW⟩⟩ rfl (by rw [List.length_map]; exact hn) hl.1 ?_ (lv_room (by rw [js_tv_sum]; exact Nat.le_of_ble_eq_true hroom)) hd ⟨Nat.le_refl _, Nat.le_refl _⟩) hS fun H1 locs1 hP1 hS1 => ?_
    · show List.map (js_tv G) (as.reverse ++ rest) = _
      rw [List.map_append, List.map_reverse]
    · have hk := k q r hr p e s m args below meth c H1 locs1 ls C hl hP1 hS1
      rw [js_tl] at hk
      exact hk
/-- a call of a method of a String constant -/
theorem js_callT {i : Nat} (as rest : List Value) (hd : decode (js_c mi) pc = .ok (.invokevirtual idx, 3)) (hlk : Cond.methodLink (js_y mi).cls idx (js_y mj) ∈ js_good) (hcm : js_Cm mj n) (hcv : js_Cv mj) (hcl : (js_y mj).cls = "java/lang/String") (hR : js_fit mi mj = true) (hn : as.length = n)
    (hi : i < 11) (hst : stk = as.reverse ++ .ref (1000 + i) :: rest) (hroom : Nat.ble (rest.map fun v => v.category).sum 8 = true)
    (hM : ∀ r, oc = some r → js_Con G sh mj (.ref (1000 + i) :: as) σ (embC r)) (k : ∀ r, js_J G sh mi emb (pc + 3) lv ((embC r).1.toList ++ rest) (embC r).2 (f r)) : js_J G sh mi emb pc lv stk σ (oc.bind f) := by
  intro r hr p e s m args below meth c H locs ls C hl hP hS
  cases hoc : oc with
  | none => rw [hoc] at hr; cases hr
  | some q =>
    rw [hoc] at hr
    have hr : f q = some r := hr
    have hM := hM q hoc
    have hE := C.2.2.2.2.2.2.2
    have hts := C.2.2.2.2.1
    subst hst
    refine js_after (rest := rest.map (js_tv G)) (va_runV (As := as.map (js_tv G)) (rest := rest.map (js_tv G)) (C := (js_y mj).cls) (n := n) ⟨C.1, C.2.1, C.2.2.1, C.2.2.2.1, hts⟩ hM ⟨callB_of n hts (js_goodIn hcm) rfl rfl rfl (hts _ hcm.1) (hts _ hlk) hcm.2.2 (js_fit_of hR), hts _ hcv.1, hts _ hcv.2⟩ ⟨js_blind, by rw [hcl]; have hv := vk_recv (i := i) hE.2.2.2.2.2.1 hi hS; exact hv, fun U hU hW => ⟨rfl, by rw [hU]; exact hP, hE.call hS hU hW⟩⟩ rfl (by rw [List.length_map]; exact hn) hl.1 ?_ (lv_room (by rw [js_tv_sum]; exact Nat.le_of_ble_eq_true hroom)) hd ⟨Nat.le_refl _, Nat.le_refl _⟩) hS fun H1 locs1 hP1 hS1 => ?_
    · show List.map (js_tv G) (as.reverse ++ .ref (1000 + i) :: rest) = _
      rw [List.map_append, List.map_reverse]
      rfl
    · have hk := k q r hr p e s m args below meth c H1 locs1 ls C hl hP1 hS1
      rw [js_tl] at hk
      exact hk
end JC
section JM
variable {G : js_G} {sh : List js_Shp} {mi : js_M} {α : Type} {emb : α → Option Value × js_S} {pc : Nat} {lv : List (Option Value)} {st : List Value} {σ : js_S} {o o1 o2 : Option α}
def js_Mm (y : MethodName) (cd : ByteArray) : Prop := Cond.static y ∈ js_good ∧ Cond.initialized "java/lang/Math" ∈ js_good ∧ Cond.code y cd 2 (some .int) ∈ js_good
theorem js_max {idx : Nat} {x y : Int32} (hd : decode (js_c mi) pc = .ok (.invokestatic idx, 3)) (hlk : Cond.methodLink (js_y mi).cls idx Lib.Math.max.name ∈ js_good) (hm : js_Mm Lib.Math.max.name Lib.Math.max.code) (hR : Nat.ble 1 (js_fr mi) = true) (hR2 : Nat.ble ((st.map fun v => v.category).sum + 13) (js_lo mi) = true)
    (k : js_J G sh mi emb (pc + 3) lv (.int (if x < y then y else x) :: st) σ o) : js_J G sh mi emb pc lv (.int y :: .int x :: st) σ o :=
  fun r hr p e s m args below meth c H locs ls C hl hP hS => va_mmax C.1 C.2.1 (C.2.2.1.trans hl.1.symm) C.2.2.2.1 (C.2.2.2.2.1 _ hlk) (C.2.2.2.2.1 _ hm.1) (C.2.2.2.2.1 _ hm.2.1) (C.2.2.2.2.1 _ hm.2.2) (Nat.le_of_ble_eq_true hR) (by rw [js_tv_sum]; exact Nat.le_of_ble_eq_true hR2) (Nat.le_refl _) (Nat.le_refl _) hd (k r hr p e s m args below meth c H locs ls C hl hP hS)
theorem js_min {idx : Nat} {x y : Int32} (hd : decode (js_c mi) pc = .ok (.invokestatic idx, 3)) (hlk : Cond.methodLink (js_y mi).cls idx Lib.Math.min.name ∈ js_good) (hm : js_Mm Lib.Math.min.name Lib.Math.min.code) (hR : Nat.ble 1 (js_fr mi) = true) (hR2 : Nat.ble ((st.map fun v => v.category).sum + 13) (js_lo mi) = true)
    (k : js_J G sh mi emb (pc + 3) lv (.int (if y < x then y else x) :: st) σ o) : js_J G sh mi emb pc lv (.int y :: .int x :: st) σ o :=
  fun r hr p e s m args below meth c H locs ls C hl hP hS => va_mmin C.1 C.2.1 (C.2.2.1.trans hl.1.symm) C.2.2.2.1 (C.2.2.2.2.1 _ hlk) (C.2.2.2.2.1 _ hm.1) (C.2.2.2.2.1 _ hm.2.1) (C.2.2.2.2.1 _ hm.2.2) (Nat.le_of_ble_eq_true hR) (by rw [js_tv_sum]; exact Nat.le_of_ble_eq_true hR2) (Nat.le_refl _) (Nat.le_refl _) hd (k r hr p e s m args below meth c H locs ls C hl hP hS)
/-! rows copied -/
def js_Ac (own : String) (idx : Nat) : Prop := Cond.methodLink own idx arraycopyName ∈ js_good ∧ Cond.native arraycopyName ∈ js_good ∧ Cond.static arraycopyName ∈ js_good ∧ Cond.initialized "java/lang/System" ∈ js_good
def js_cpI (σ : js_S) (a b sp dp n : Nat) : js_S := (fun q => if q = b then va_cpy (σ.1 a) (σ.1 b) sp dp n else σ.1 q, σ.2)
def js_cpL (σ : js_S) (a b sp dp n : Nat) : js_S := (σ.1, fun q => if q = b then va_cpy (σ.2 a) (σ.2 b) sp dp n else σ.2 q)
def js_cpok (sp dp n : Int32) (n0 n1 : Nat) : Bool := decide (0 ≤ sp.toInt ∧ 0 ≤ dp.toInt ∧ 0 ≤ n.toInt ∧ sp.toNatClampNeg + n.toNatClampNeg ≤ n0 ∧ dp.toNatClampNeg + n.toNatClampNeg ≤ n1)
theorem js_nneg {x : Int32} (h : 0 ≤ x.toInt) : ¬ x < 0 := by
  intro q
  have := Int32.lt_iff_toInt_lt.mp q
  simp at this
  omega
theorem js_copyI {idx a b n0 n1 : Nat} {sp dp n : Int32} (hd : decode (js_c mi) pc = .ok (.invokestatic idx, 3)) (hac : js_Ac (js_y mi).cls idx) (ha : sh[a]? = some (.inl n0)) (hb : sh[b]? = some (.inl n1)) (hR : Nat.ble 1 (js_fr mi) = true) (hR2 : Nat.ble ((st.map fun v => v.category).sum + (nativeFrameWords "java/lang/System" "arraycopy" 5 + 11)) (js_lo mi) = true)
    (k : js_J G sh mi emb (pc + 3) lv st (js_cpI σ a b sp.toNatClampNeg dp.toNatClampNeg n.toNatClampNeg) o) : js_J G sh mi emb pc lv (.int n :: .int dp :: .ref b :: .int sp :: .ref a :: st) σ (js_gd (js_cpok sp dp n n0 n1) o) := by
  intro r hr p e s m args below meth c H locs ls C hl hP hS
  obtain ⟨hi, hr⟩ := js_gd_of hr
  have hi : 0 ≤ sp.toInt ∧ 0 ≤ dp.toInt ∧ 0 ≤ n.toInt ∧ sp.toNatClampNeg + n.toNatClampNeg ≤ n0 ∧ dp.toNatClampNeg + n.toNatClampNeg ≤ n1 := by simpa [js_cpok] using hi
  have hts := C.2.2.2.2.1
  refine va_copyi C.1 C.2.1 (C.2.2.1.trans hl.1.symm) C.2.2.2.1 (hts _ hac.1) (hts _ hac.2.1) (hts _ hac.2.2.1) (hts _ hac.2.2.2) C.2.2.2.2.2.2.2.1 hP (js_wl_D C.2.2.2.2.2.2.2.2.2.1 σ) hS a b 0 0 (js_wl_at σ ha) (js_wl_at σ hb) rfl rfl rfl (js_nneg hi.1) (js_nneg hi.2.1) (js_nneg hi.2.2.1) hi.2.2.2.1 hi.2.2.2.2 (fun _ _ => rfl) (Nat.le_of_ble_eq_true hR) (by rw [js_tv_sum]; exact Nat.le_of_ble_eq_true hR2) hd fun H1 locs1 hP1 _ hS1 => ?_
  rw [js_wl_set (σ := σ) (τ := js_cpI σ a b sp.toNatClampNeg dp.toNatClampNeg n.toNatClampNeg) hb (fun q hq => ⟨by simp [js_cpI, hq], rfl⟩)] at hP1
  · exact k r hr p e s m args below meth c H1 locs1 ls C hl hP1 hS1
  · simp [js_cell, js_cpI]
theorem js_copyL {idx a b n0 n1 : Nat} {sp dp n : Int32} (hd : decode (js_c mi) pc = .ok (.invokestatic idx, 3)) (hac : js_Ac (js_y mi).cls idx) (ha : sh[a]? = some (.inr (.inl n0))) (hb : sh[b]? = some (.inr (.inl n1))) (hR : Nat.ble 1 (js_fr mi) = true) (hR2 : Nat.ble ((st.map fun v => v.category).sum + (nativeFrameWords "java/lang/System" "arraycopy" 5 + 11)) (js_lo mi) = true)
    (k : js_J G sh mi emb (pc + 3) lv st (js_cpL σ a b sp.toNatClampNeg dp.toNatClampNeg n.toNatClampNeg) o) : js_J G sh mi emb pc lv (.int n :: .int dp :: .ref b :: .int sp :: .ref a :: st) σ (js_gd (js_cpok sp dp n n0 n1) o) := by
  intro r hr p e s m args below meth c H locs ls C hl hP hS
  obtain ⟨hi, hr⟩ := js_gd_of hr
  have hi : 0 ≤ sp.toInt ∧ 0 ≤ dp.toInt ∧ 0 ≤ n.toInt ∧ sp.toNatClampNeg + n.toNatClampNeg ≤ n0 ∧ dp.toNatClampNeg + n.toNatClampNeg ≤ n1 := by simpa [js_cpok] using hi
  have hts := C.2.2.2.2.1
  refine va_copyl C.1 C.2.1 (C.2.2.1.trans hl.1.symm) C.2.2.2.1 (hts _ hac.1) (hts _ hac.2.1) (hts _ hac.2.2.1) (hts _ hac.2.2.2) C.2.2.2.2.2.2.2.1 hP (js_wl_D C.2.2.2.2.2.2.2.2.2.1 σ) hS a b 1 1 (js_wl_at σ ha) (js_wl_at σ hb) rfl rfl rfl (js_nneg hi.1) (js_nneg hi.2.1) (js_nneg hi.2.2.1) hi.2.2.2.1 hi.2.2.2.2 (fun _ _ => rfl) (Nat.le_of_ble_eq_true hR) (by rw [js_tv_sum]; exact Nat.le_of_ble_eq_true hR2) hd fun H1 locs1 hP1 _ hS1 => ?_
  rw [js_wl_set (σ := σ) (τ := js_cpL σ a b sp.toNatClampNeg dp.toNatClampNeg n.toNatClampNeg) hb (fun q hq => ⟨rfl, by simp [js_cpL, hq]⟩)] at hP1
  · exact k r hr p e s m args below meth c H1 locs1 ls C hl hP1 hS1
  · simp [js_cell, js_cpL]
/-! the table of the kinds -/
theorem js_above {idx : Nat} (hd : decode (js_c mi) pc = .ok (.getstatic idx, 3)) (hw : Cond.fieldLink (js_y mi).cls idx "SootTalk$Kinds" "ABOVE" "[I" ∈ js_good) (k : js_J G sh mi emb (pc + 3) lv (.ref 2000 :: st) σ o) : js_J G sh mi emb pc lv st σ o :=
  fun r hr p e s m args below meth c H locs ls C hl hP hS => va_gets C.1 C.2.1 C.2.2.2.2.2.2.2.2.2.2.1 hS C.2.2.2.1 (C.2.2.2.2.1 _ hw) (fun _ h => h) hd (k r hr p e s m args below meth c H locs ls C hl hP hS)
theorem js_abvld {i : Int32} (hd : decode (js_c mi) pc = .ok (.iaload, 1)) (k : js_J G sh mi emb (pc + 1) lv (.int (js_abv.getD i.toNatClampNeg 0) :: st) σ o) : js_J G sh mi emb pc lv (.int i :: .ref 2000 :: st) σ (js_gd (js_ix i 6) o) := by
  intro r hr p e s m args below meth c H locs ls C hl hP hS
  obtain ⟨hi, hr⟩ := js_gd_of hr
  exact va_ti C.1 C.2.1 C.2.2.2.2.2.2.2.2.2.2.2.1 hS (js_ix_in hi) rfl hd (k r hr p e s m args below meth c H locs ls C hl hP hS)
theorem js_abvlen (hd : decode (js_c mi) pc = .ok (.arraylength, 1)) (k : js_J G sh mi emb (pc + 1) lv (.int 6 :: st) σ o) : js_J G sh mi emb pc lv (.ref 2000 :: st) σ o :=
  fun r hr p e s m args below meth c H locs ls C hl hP hS => va_tlen C.1 C.2.1 C.2.2.2.2.2.2.2.2.2.2.2.1 hS rfl hd (k r hr p e s m args below meth c H locs ls C hl hP hS)
/-! switches: by cases, then the case -/
theorem js_split {P : Prop} {hP : Decidable P} (kt : P → js_J G sh mi emb pc lv st σ o1) (kf : ¬ P → js_J G sh mi emb pc lv st σ o2) : js_J G sh mi emb pc lv st σ (@ite (Option α) P hP o1 o2) := by
  by_cases h : P
  · rw [if_pos h]; exact kt h
  · rw [if_neg h]; exact kf h
theorem js_tabI {x : Int32} (z : Int32) {dflt lo hi off : Int} {offs : Array Int} {len : Nat} (tgt : Nat) (hd : decode (js_c mi) pc = .ok (.tableswitch dflt lo hi offs, len)) (hx : x = z) (h : (decide (¬ z.toInt < lo) && decide (¬ hi < z.toInt) && decide (offs[(z.toInt - lo).toNat]? = some off) && decide ((pc : Int) + off = (tgt : Int))) = true) (k : js_J G sh mi emb tgt lv st σ o) : js_J G sh mi emb pc lv (.int x :: st) σ o := by
  subst hx
  simp only [Bool.and_eq_true, decide_eq_true_eq] at h
  exact fun r hr p e s m args below meth c H locs ls C hl hP hS => lv_tableIn C.1 C.2.1 hd h.1.1.1 h.1.1.2 h.1.2 h.2 (k r hr p e s m args below meth c H locs ls C hl hP hS)
theorem js_tabO {x : Int32} {dflt lo hi : Int} {offs : Array Int} {len : Nat} (tgt : Nat) (hd : decode (js_c mi) pc = .ok (.tableswitch dflt lo hi offs, len)) (hx : x.toInt < lo ∨ hi < x.toInt) (ht : (pc : Int) + dflt = (tgt : Int)) (k : js_J G sh mi emb tgt lv st σ o) : js_J G sh mi emb pc lv (.int x :: st) σ o :=
  fun r hr p e s m args below meth c H locs ls C hl hP hS => lv_tableOut C.1 C.2.1 hd hx ht (k r hr p e s m args below meth c H locs ls C hl hP hS)
theorem js_lcmp {x y : Int64} (hd : decode (js_c mi) pc = .ok (.lcmp, 1)) (k : js_J G sh mi emb (pc + 1) lv (.int (lg_cmp x y) :: st) σ o) : js_J G sh mi emb pc lv (.long y :: .long x :: st) σ o :=
  fun r hr p e s m args below meth c H locs ls C hl hP hS => W.lcmp C.1 C.2.1 hd (k r hr p e s m args below meth c H locs ls C hl hP hS)
end JM
