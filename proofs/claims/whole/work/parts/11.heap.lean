/-! fields, rows, calls, ends -/
theorem js_in_of {i : Int32} {n : Nat} (h : 0 ≤ i.toInt ∧ i.toInt < n) : vp_in i n := vp_in_iff.mpr h
/-- an index within, as a number that is looked at -/
def js_ix (i : Int32) (n : Nat) : Bool := decide (0 ≤ i.toInt ∧ i.toInt < (n : Int))
theorem js_ix_in {i : Int32} {n : Nat} (h : js_ix i n = true) : vp_in i n := vp_in_iff.mpr (by simpa [js_ix] using h)
/-- go on only if it is so -/
def js_gd {α : Type} (b : Bool) (o : Option α) : Option α := if b then o else none
theorem js_gd_of {α : Type} {b : Bool} {o : Option α} {r : α} (h : js_gd b o = some r) : b = true ∧ o = some r := by
  unfold js_gd at h
  split at h
  · exact ⟨by assumption, h⟩
  · cases h
/-- a field, by the class's constant: its class's number and its own -/
def js_Fl (own : String) (idx ci k : Nat) : Prop := ∃ (C : String) (T : u_T) (N : Nat), vwCl[ci]? = some (C, T, N) ∧ k < N ∧ (∀ w ∈ u_ws C T N, w ∈ js_good) ∧ Cond.fieldLink own idx (T k).1 (T k).2.1 (T k).2.2.1 ∈ js_good
def js_Fp (own : String) (idx ci k : Nat) (ty : FieldType) : Prop := ∃ (C : String) (T : u_T) (N : Nat) (ty0 : Nat → FieldType), vwCl[ci]? = some (C, T, N) ∧ k < N ∧ (∀ w ∈ u_ws C T N, w ∈ js_good) ∧ Cond.fieldLink own idx (T k).1 (T k).2.1 (T k).2.2.1 ∈ js_good ∧
  (∀ k, k < N → parseFieldDescriptor (T k).2.2.1 = some (ty0 k)) ∧ (∀ a, a < N → ∀ b, b < N → a ≠ b → (T a).2.1 ≠ (T b).2.1) ∧ (T k).2.2.2 = false ∧ parseFieldDescriptor (T k).2.2.1 = some ty
section JH
variable {G : js_G} {sh : List js_Shp} {mi : js_M} {α : Type} {emb : α → Option Value × js_S} {pc : Nat} {lv : List (Option Value)} {st : List Value} {σ : js_S} {o : Option α}
theorem js_getI {idx ci k b : Nat} {fs : List (Option Nat)} (hd : decode (js_c mi) pc = .ok (.getfield idx, 3)) (hf : js_Fl (js_y mi).cls idx ci k) (hb : sh[b]? = some (.inr (.inr (ci, fs)))) (hk : fs[k]? = some none) (kk : js_J G sh mi emb (pc + 3) lv (.int (σ.1 b k) :: st) σ o) : js_J G sh mi emb pc lv (.ref b :: st) σ o := by
  intro r hr p e s m args below meth c H locs ls C hl hP hS
  obtain ⟨Cn, T, N, h1, h2, h3, h4⟩ := hf
  refine va_get C.1 C.2.1 C.2.2.2.2.1 h3 C.2.2.2.1 C.2.2.2.2.2.2.2.1 hP b (js_wl_at σ hb) h1 k h2 (C.2.2.2.2.1 _ h4) (fun x h => h) (v := .int (σ.1 b k)) ?_ hd (kk r hr p e s m args below meth c H locs ls C hl hP hS)
  show (js_fv G σ b 0 fs)[k]? = _
  rw [js_fv_at, hk, Nat.zero_add]
  rfl
theorem js_getR {idx ci k b j : Nat} {fs : List (Option Nat)} (hd : decode (js_c mi) pc = .ok (.getfield idx, 3)) (hf : js_Fl (js_y mi).cls idx ci k) (hb : sh[b]? = some (.inr (.inr (ci, fs)))) (hk : fs[k]? = some (some j)) (kk : js_J G sh mi emb (pc + 3) lv (.ref j :: st) σ o) : js_J G sh mi emb pc lv (.ref b :: st) σ o := by
  intro r hr p e s m args below meth c H locs ls C hl hP hS
  obtain ⟨Cn, T, N, h1, h2, h3, h4⟩ := hf
  refine va_get C.1 C.2.1 C.2.2.2.2.1 h3 C.2.2.2.1 C.2.2.2.2.2.2.2.1 hP b (js_wl_at σ hb) h1 k h2 (C.2.2.2.2.1 _ h4) (fun x h => h) (v := .ref (js_ad G j)) ?_ hd (kk r hr p e s m args below meth c H locs ls C hl hP hS)
  show (js_fv G σ b 0 fs)[k]? = _
  rw [js_fv_at, hk]
  rfl
theorem js_sI_off {k i : Nat} {v : Int32} (a : Nat) (h : a ≠ k) : (js_sI σ k i v).1 a = σ.1 a ∧ (js_sI σ k i v).2 a = σ.2 a := ⟨by simp [js_sI, h], rfl⟩
theorem js_sL_off {k i : Nat} {v : Int64} (a : Nat) (h : a ≠ k) : (js_sL σ k i v).1 a = σ.1 a ∧ (js_sL σ k i v).2 a = σ.2 a := ⟨rfl, by simp [js_sL, h]⟩
theorem js_putI {idx ci k b : Nat} {fs : List (Option Nat)} {ty : FieldType} {x : Int32} (hd : decode (js_c mi) pc = .ok (.putfield idx, 3)) (hf : js_Fp (js_y mi).cls idx ci k ty) (hb : sh[b]? = some (.inr (.inr (ci, fs)))) (hk : fs[k]? = some none) (hn : narrow ty (.int x) = .int x) (hfit : fits ty (.int x) = true)
    (kk : js_J G sh mi emb (pc + 3) lv st (js_sI σ b k x) o) : js_J G sh mi emb pc lv (.int x :: .ref b :: st) σ o := by
  intro r hr p e s m args below meth c H locs ls C hl hP hS
  obtain ⟨Cn, T, N, ty0, h1, h2, h3, h4, h5, h6, h7, h8⟩ := hf
  have hlen : k < fs.length := (List.getElem?_eq_some_iff.mp hk).1
  refine va_put C.1 C.2.1 C.2.2.2.2.1 h3 ty0 h5 h6 C.2.2.2.1 C.2.2.2.2.2.2.2.1 hP (js_wl_D C.2.2.2.2.2.2.2.2.2.1 σ) hS b (js_wl_at σ hb) h1 k h2 (C.2.2.2.2.1 _ h4) (fun x h => h) h7 h8 hn hfit (by rw [js_fv_len]; exact hlen) hd fun H1 locs1 hP1 _ hS1 => ?_
  rw [js_wl_set (τ := js_sI σ b k x) hb js_sI_off] at hP1
  · exact kk r hr p e s m args below meth c H1 locs1 ls C hl hP1 hS1
  · simp only [js_cell]
    congr 2
    apply List.ext_getElem?
    intro j
    rw [js_fv_at, List.getElem?_set, js_fv_at, js_fv_len, Nat.zero_add]
    by_cases hj : k = j
    · subst hj
      rw [if_pos rfl, if_pos hlen, hk]
      simp [js_sI, upd, js_tv]
    · rw [if_neg hj]
      have hj2 : ¬ j = k := fun q => hj q.symm
      cases hfj : fs[j]? with
      | none => rfl
      | some q => cases q <;> simp [js_sI, upd, hj2]
theorem js_iald {b n : Nat} {i : Int32} (hd : decode (js_c mi) pc = .ok (.iaload, 1)) (hb : sh[b]? = some (.inl n)) (kk : js_J G sh mi emb (pc + 1) lv (.int (σ.1 b i.toNatClampNeg) :: st) σ o) : js_J G sh mi emb pc lv (.int i :: .ref b :: st) σ (js_gd (js_ix i n) o) := by
  intro r hr p e s m args below meth c H locs ls C hl hP hS
  obtain ⟨hi, hr⟩ := js_gd_of hr
  exact va_iald C.1 C.2.1 C.2.2.2.2.2.2.2.1 hP b 0 (js_wl_at σ hb) rfl (js_ix_in hi) hd (kk r hr p e s m args below meth c H locs ls C hl hP hS)
theorem js_lald {b n : Nat} {i : Int32} (hd : decode (js_c mi) pc = .ok (.laload, 1)) (hb : sh[b]? = some (.inr (.inl n))) (kk : js_J G sh mi emb (pc + 1) lv (.long (σ.2 b i.toNatClampNeg) :: st) σ o) : js_J G sh mi emb pc lv (.int i :: .ref b :: st) σ (js_gd (js_ix i n) o) := by
  intro r hr p e s m args below meth c H locs ls C hl hP hS
  obtain ⟨hi, hr⟩ := js_gd_of hr
  exact va_lald C.1 C.2.1 C.2.2.2.2.2.2.2.1 hP b 1 (js_wl_at σ hb) rfl (js_ix_in hi) hd (kk r hr p e s m args below meth c H locs ls C hl hP hS)
theorem js_iast {b n : Nat} {i x : Int32} (hd : decode (js_c mi) pc = .ok (.iastore, 1)) (hb : sh[b]? = some (.inl n)) (kk : js_J G sh mi emb (pc + 1) lv st (js_sI σ b i.toNatClampNeg x) o) : js_J G sh mi emb pc lv (.int x :: .int i :: .ref b :: st) σ (js_gd (js_ix i n) o) := by
  intro r hr p e s m args below meth c H locs ls C hl hP hS
  obtain ⟨hi, hr⟩ := js_gd_of hr
  refine va_iast C.1 C.2.1 C.2.2.2.2.2.2.2.1 hP (js_wl_D C.2.2.2.2.2.2.2.2.2.1 σ) hS b 0 (js_wl_at σ hb) rfl (js_ix_in hi) hd fun H1 locs1 hP1 _ hS1 => ?_
  rw [js_wl_set (τ := js_sI σ b i.toNatClampNeg x) hb js_sI_off] at hP1
  · exact kk r hr p e s m args below meth c H1 locs1 ls C hl hP1 hS1
  · simp [js_cell, js_sI]
theorem js_last {b n : Nat} {i : Int32} {x : Int64} (hd : decode (js_c mi) pc = .ok (.lastore, 1)) (hb : sh[b]? = some (.inr (.inl n))) (kk : js_J G sh mi emb (pc + 1) lv st (js_sL σ b i.toNatClampNeg x) o) : js_J G sh mi emb pc lv (.long x :: .int i :: .ref b :: st) σ (js_gd (js_ix i n) o) := by
  intro r hr p e s m args below meth c H locs ls C hl hP hS
  obtain ⟨hi, hr⟩ := js_gd_of hr
  refine va_last C.1 C.2.1 C.2.2.2.2.2.2.2.1 hP (js_wl_D C.2.2.2.2.2.2.2.2.2.1 σ) hS b 1 (js_wl_at σ hb) rfl (js_ix_in hi) hd fun H1 locs1 hP1 _ hS1 => ?_
  rw [js_wl_set (τ := js_sL σ b i.toNatClampNeg x) hb js_sL_off] at hP1
  · exact kk r hr p e s m args below meth c H1 locs1 ls C hl hP1 hS1
  · simp [js_cell, js_sL]
theorem js_alen {b n : Nat} {v : Int32} (hd : decode (js_c mi) pc = .ok (.arraylength, 1)) (hb : sh[b]? = some (.inl n)) (hv : Int32.ofNat n = v) (kk : js_J G sh mi emb (pc + 1) lv (.int v :: st) σ o) : js_J G sh mi emb pc lv (.ref b :: st) σ o :=
  fun r hr p e s m args below meth c H locs ls C hl hP hS => va_alen C.1 C.2.1 C.2.2.2.2.2.2.2.1 hP b 0 (js_wl_at σ hb) (ty := .int) rfl hv hd (kk r hr p e s m args below meth c H locs ls C hl hP hS)
/-! ends -/
theorem js_iret {v : Int32} {r : α} (hd : decode (js_c mi) pc = .ok (.ireturn, 1)) (hr : js_r mi = some .int) (he : emb r = (some (.int v), σ)) : js_J G sh mi emb pc lv [.int v] σ (some r) := by
  intro r2 hr2 p e s m args below meth c H locs ls C hl hP hS
  cases hr2
  refine W.iret C.1 C.2.1 (by rw [C.2.2.2.2.2.1, hr]) (fun t ht hW => ?_) hS.2.2 hd C.2.2.2.2.2.2.1
  rw [he]
  exact ⟨⟨rfl, by rw [ht]; exact hP⟩, hS.F ht⟩
theorem js_zret {v : Int32} {r : α} (hd : decode (js_c mi) pc = .ok (.ireturn, 1)) (hr : js_r mi = some .boolean) (hn : narrow .boolean (.int v) = .int v) (he : emb r = (some (.int v), σ)) : js_J G sh mi emb pc lv [.int v] σ (some r) := by
  intro r2 hr2 p e s m args below meth c H locs ls C hl hP hS
  cases hr2
  refine W.zret C.1 C.2.1 (ty := .boolean) (by rw [C.2.2.2.2.2.1, hr]) hn (fun t ht hW => ?_) hS.2.2 hd C.2.2.2.2.2.2.1
  rw [he]
  exact ⟨⟨rfl, by rw [ht]; exact hP⟩, hS.F ht⟩
theorem js_cret {v : Int32} {r : α} (hd : decode (js_c mi) pc = .ok (.ireturn, 1)) (ty : FieldType) (hr : js_r mi = some ty) (hn : narrow ty (.int v) = .int v) (he : emb r = (some (.int v), σ)) : js_J G sh mi emb pc lv [.int v] σ (some r) := by
  intro r2 hr2 p e s m args below meth c H locs ls C hl hP hS
  cases hr2
  refine W.zret C.1 C.2.1 (ty := ty) (by rw [C.2.2.2.2.2.1, hr]) hn (fun t ht hW => ?_) hS.2.2 hd C.2.2.2.2.2.2.1
  rw [he]
  exact ⟨⟨rfl, by rw [ht]; exact hP⟩, hS.F ht⟩
theorem js_lret {v : Int64} {r : α} (hd : decode (js_c mi) pc = .ok (.lreturn, 1)) (hr : js_r mi = some .long) (he : emb r = (some (.long v), σ)) : js_J G sh mi emb pc lv [.long v] σ (some r) := by
  intro r2 hr2 p e s m args below meth c H locs ls C hl hP hS
  cases hr2
  refine W.lret C.1 C.2.1 (by rw [C.2.2.2.2.2.1, hr]) (fun t ht hW => ?_) hS.2.2 hd C.2.2.2.2.2.2.1
  rw [he]
  exact ⟨⟨rfl, by rw [ht]; exact hP⟩, hS.F ht⟩
theorem js_vret {r : α} (hd : decode (js_c mi) pc = .ok (.return_, 1)) (hr : js_r mi = none) (he : emb r = (none, σ)) : js_J G sh mi emb pc lv [] σ (some r) := by
  intro r2 hr2 p e s m args below meth c H locs ls C hl hP hS
  cases hr2
  refine W.vret C.1 C.2.1 (by rw [C.2.2.2.2.2.1, hr]) (fun t ht hW => ?_) hS.2.2 hd C.2.2.2.2.2.2.1
  rw [he]
  exact ⟨⟨rfl, by rw [ht]; exact hP⟩, hS.F ht⟩
theorem js_aret {v : Nat} {r : α} (hd : decode (js_c mi) pc = .ok (.areturn, 1)) {rt : FieldType} (hr : js_r mi = some rt) (hrt : (∃ n, rt = .object n) ∨ ∃ t, rt = .array t) (he : emb r = (some (.ref v), σ)) : js_J G sh mi emb pc lv [.ref v] σ (some r) := by
  intro r2 hr2 p e s m args below meth c H locs ls C hl hP hS
  cases hr2
  refine W.aret C.1 C.2.1 (by rw [C.2.2.2.2.2.1, hr]) hrt (Or.inr ⟨_, rfl⟩) (fun t ht hW => ?_) hS.2.2 hd C.2.2.2.2.2.2.1
  rw [he]
  exact ⟨⟨rfl, by rw [ht]; exact hP⟩, hS.F ht⟩
end JH
