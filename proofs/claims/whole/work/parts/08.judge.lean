/-! THE JUDGEMENT js_J: the bytecode from a frame on does what a function says. Values name cells by their number in a shape; the heap is told by a state of ints and longs. -/
abbrev js_S : Type := (Nat → Nat → Int32) × (Nat → Nat → Int64)
/-- an int row of a length, a long row of a length, or an object: number of its class, and for each field none (an int) or the cell that it names -/
abbrev js_Shp : Type := Nat ⊕ (Nat ⊕ (Nat × List (Option Nat)))
abbrev js_G : Type := Launch × (Nat → ClassId) × (Nat → Nat → Nat) × ClassId × ClassId × (Nat → Nat)
/-- a method: name, code, locals, what it returns, frames and locals below it -/
abbrev js_M : Type := MethodName × ByteArray × Nat × Option FieldType × Nat × Nat
def js_D (G : js_G) : va_G := (G.2.1, G.2.2.1)
def js_cI (G : js_G) : ClassId := G.2.2.2.1
def js_cL (G : js_G) : ClassId := G.2.2.2.2.1
def js_ad (G : js_G) : Nat → Nat := G.2.2.2.2.2
def js_y (m : js_M) : MethodName := m.1
def js_c (m : js_M) : ByteArray := m.2.1
def js_n (m : js_M) : Nat := m.2.2.1
def js_r (m : js_M) : Option FieldType := m.2.2.2.1
def js_fr (m : js_M) : Nat := m.2.2.2.2.1
def js_lo (m : js_M) : Nat := m.2.2.2.2.2
def js_good : List Cond := lw_tbl.filter goodWord
def js_ws (m : js_M) : List Cond := .code (js_y m) (js_c m) (js_n m) (js_r m) :: js_good
def js_rm (m : js_M) : Room := { frames := js_fr m, cells := 0, slots := 0, locals := js_lo m }
def js_tv (G : js_G) (v : Value) : Value := match v with
  | .ref k => .ref (js_ad G k)
  | w => w
theorem js_tv_cat (G : js_G) (v : Value) : (js_tv G v).category = v.category := by cases v <;> rfl
theorem js_tv_sum (G : js_G) : ∀ st : List Value, (((st.map (js_tv G)).map fun v => v.category).sum) = (st.map fun v => v.category).sum
  | [] => rfl
  | v :: r => by simp only [List.map_cons, List.sum_cons, js_tv_cat, js_tv_sum G r]
def js_lv (G : js_G) : Nat → List (Option Value) → List (Nat × Value)
  | _, [] => []
  | i, none :: r => js_lv G (i + 1) r
  | i, some v :: r => (i, js_tv G v) :: js_lv G (i + 1) r
theorem js_lv_in {G : js_G} : ∀ (lv : List (Option Value)) (i k : Nat) (v : Value), lv[k]? = some (some v) → (i + k, js_tv G v) ∈ js_lv G i lv
  | [], i, k, v, h => by simp at h
  | none :: r, i, 0, v, h => by simp at h
  | some w :: r, i, 0, v, h => by
    have h2 : w = v := by simpa using h
    subst h2
    exact List.mem_cons_self
  | none :: r, i, k + 1, v, h => by
    have h2 := js_lv_in (G := G) r (i + 1) k v (by simpa using h)
    rw [show i + (k + 1) = i + 1 + k by omega]
    exact h2
  | some w :: r, i, k + 1, v, h => by
    have h2 := js_lv_in (G := G) r (i + 1) k v (by simpa using h)
    rw [show i + (k + 1) = i + 1 + k by omega]
    exact List.mem_cons_of_mem _ h2
theorem js_lv_of {G : js_G} : ∀ (lv : List (Option Value)) (i : Nat) (q : Nat × Value), q ∈ js_lv G i lv → ∃ k v, lv[k]? = some (some v) ∧ q = (i + k, js_tv G v)
  | [], i, q, h => by cases h
  | none :: r, i, q, h => by
    obtain ⟨k, v, h1, h2⟩ := js_lv_of r (i + 1) q h
    exact ⟨k + 1, v, by simpa using h1, by rw [h2, show i + 1 + k = i + (k + 1) by omega]⟩
  | some w :: r, i, q, h => by
    rcases List.mem_cons.mp h with h | h
    · exact ⟨0, w, rfl, by rw [h]; rfl⟩
    · obtain ⟨k, v, h1, h2⟩ := js_lv_of r (i + 1) q h
      exact ⟨k + 1, v, by simpa using h1, by rw [h2, show i + 1 + k = i + (k + 1) by omega]⟩
theorem js_lv_sub {G : js_G} {ls : Array Slot} {n : Nat} {l : List (Nat × Value)} {lv : List (Option Value)} (h : lv_has ls n l) (hs : ∀ (k : Nat) (v : Value), lv[k]? = some (some v) → (k, js_tv G v) ∈ l) : lv_has ls n (js_lv G 0 lv) := by
  refine ⟨h.1, h.2.1, fun q hq => ?_⟩
  obtain ⟨k, v, h1, h2⟩ := js_lv_of lv 0 q hq
  rw [h2, Nat.zero_add]
  exact h.2.2 _ (hs k v h1)
theorem js_lv_at {G : js_G} {ls : Array Slot} {n i : Nat} {lv : List (Option Value)} {v : Value} (h : lv_has ls n (js_lv G 0 lv)) (hv : lv[i]? = some (some v)) : ls[i]? = some (.val (js_tv G v)) := by
  have h1 := h.2.2 _ (js_lv_in lv 0 i v hv)
  rw [Nat.zero_add] at h1
  exact h1
/-- no long stands just below the place -/
def js_ok (lv : List (Option Value)) : Nat → Bool
  | 0 => true
  | i + 1 => match lv[i]? with
    | some (some v) => v.category == 1
    | _ => true
theorem js_lv_set1 {G : js_G} {i : Nat} {x : Value} {lv lv' : List (Option Value)} (ho : js_ok lv i = true) (hl : lv.set i (some x) = lv') (k : Nat) (v : Value) (h : lv'[k]? = some (some v)) : (k, js_tv G v) ∈ (i, js_tv G x) :: (js_lv G 0 lv).filter (fun q => !(q.1 == i) && !(q.1 + 1 == i && q.2.category == 2)) := by
  subst hl
  rw [List.getElem?_set] at h
  by_cases hk : i = k
  · subst hk
    by_cases hlt : i < lv.length
    · simp only [if_true, hlt] at h
      have := Option.some.inj (Option.some.inj h)
      subst this
      exact List.mem_cons_self
    · simp only [if_true, hlt, if_false] at h
      cases h
  · rw [if_neg hk] at h
    refine List.mem_cons_of_mem _ (List.mem_filter.mpr ⟨by have := js_lv_in (G := G) lv 0 k v h; rwa [Nat.zero_add] at this, ?_⟩)
    by_cases hk2 : k + 1 = i
    · subst hk2
      have h3 : (v.category == 1) = true := by
        have h4 := ho
        simp only [js_ok, h] at h4
        exact h4
      have h5 : v.category = 1 := by simpa using h3
      simp [js_tv_cat, h5]
    · have h6 : ¬ k = i := fun q => hk q.symm
      simp [h6, hk2]
theorem js_lv_set2 {G : js_G} {i : Nat} {x : Value} {lv lv' : List (Option Value)} (ho : js_ok lv i = true) (hl : (lv.set i (some x)).set (i + 1) none = lv') (k : Nat) (v : Value) (h : lv'[k]? = some (some v)) : (k, js_tv G v) ∈ (i, js_tv G x) :: (js_lv G 0 lv).filter (fun q => !(q.1 == i) && (!(q.1 == i + 1) && !(q.1 + 1 == i && q.2.category == 2))) := by
  subst hl
  rw [List.getElem?_set] at h
  by_cases hk1 : i + 1 = k
  · subst hk1
    simp only [if_true] at h
    split at h <;> simp at h
  · rw [if_neg hk1] at h
    have h1 := js_lv_set1 (G := G) ho rfl k v h
    rcases List.mem_cons.mp h1 with h2 | h2
    · rw [h2]; exact List.mem_cons_self
    · obtain ⟨h3, h4⟩ := List.mem_filter.mp h2
      refine List.mem_cons_of_mem _ (List.mem_filter.mpr ⟨h3, ?_⟩)
      simp only [Bool.and_eq_true] at h4 ⊢
      have h6 : ¬ k = i + 1 := fun q => hk1 q.symm
      exact ⟨h4.1, by simp [h6], h4.2⟩
/-- the locals at the entry, by place -/
def js_args : List Value → List (Option Value)
  | [] => []
  | v :: vs => if v.category = 2 then some v :: none :: js_args vs else some v :: js_args vs
theorem js_args_in {G : js_G} : ∀ (as : List Value) (i k n : Nat) (v : Value), (js_args as ++ List.replicate n none)[k]? = some (some v) → (i + k, js_tv G v) ∈ lv_args i (as.map (js_tv G))
  | [], i, k, n, v, h => by
    simp only [js_args, List.nil_append] at h
    have := List.eq_of_mem_replicate (List.mem_of_getElem? h)
    cases this
  | w :: vs, i, k, n, v, h => by
    simp only [List.map_cons, lv_args, js_tv_cat]
    by_cases hc : w.category = 2
    · simp only [js_args, hc, if_true] at h ⊢
      match k, h with
      | 0, h =>
        have h2 : w = v := by simpa using h
        subst h2
        exact List.mem_cons_self
      | 1, h => simp at h
      | k + 2, h =>
        have h2 := js_args_in (G := G) vs (i + 2) k n v (by simpa using h)
        rw [show i + (k + 2) = i + 2 + k by omega]
        exact List.mem_cons_of_mem _ h2
    · simp only [js_args, hc, if_false] at h ⊢
      match k, h with
      | 0, h =>
        have h2 : w = v := by simpa using h
        subst h2
        exact List.mem_cons_self
      | k + 1, h =>
        have h2 := js_args_in (G := G) vs (i + 1) k n v (by simpa using h)
        rw [show i + (k + 1) = i + 1 + k by omega]
        exact List.mem_cons_of_mem _ h2
/-! the world of a state -/
def js_fv (G : js_G) (σ : js_S) (k : Nat) : Nat → List (Option Nat) → List Value
  | _, [] => []
  | i, none :: r => .int (σ.1 k i) :: js_fv G σ k (i + 1) r
  | i, some j :: r => .ref (js_ad G j) :: js_fv G σ k (i + 1) r
def js_cell (G : js_G) (σ : js_S) (k : Nat) (x : js_Shp) : va_E := match x with
  | .inl n => .inl (js_cI G, n, .inl (σ.1 k))
  | .inr (.inl n) => .inl (js_cL G, n, .inr (.inl (σ.2 k)))
  | .inr (.inr o) => .inr (o.1, js_fv G σ k 0 o.2)
def js_wF (G : js_G) (σ : js_S) : Nat → List js_Shp → va_W
  | _, [] => []
  | k, x :: r => (js_ad G k, js_cell G σ k x) :: js_wF G σ (k + 1) r
def js_wl (G : js_G) (sh : List js_Shp) (σ : js_S) : va_W := js_wF G σ 0 sh
theorem js_wF_at {G : js_G} {σ : js_S} : ∀ (sh : List js_Shp) (i k : Nat), (js_wF G σ i sh)[k]? = sh[k]?.map (fun x => (js_ad G (i + k), js_cell G σ (i + k) x))
  | [], i, k => by simp [js_wF]
  | x :: r, i, 0 => by simp [js_wF]
  | x :: r, i, k + 1 => by
    simp only [js_wF, List.getElem?_cons_succ]
    rw [js_wF_at r (i + 1) k, show i + 1 + k = i + (k + 1) by omega]
theorem js_wl_at {G : js_G} {sh : List js_Shp} (σ : js_S) {k : Nat} {x : js_Shp} (h : sh[k]? = some x) : (js_wl G sh σ)[k]? = some (js_ad G k, js_cell G σ k x) := by
  unfold js_wl
  rw [js_wF_at, h, Nat.zero_add]
  rfl
theorem js_fv_at {G : js_G} {σ : js_S} {k : Nat} : ∀ (fs : List (Option Nat)) (i j : Nat), (js_fv G σ k i fs)[j]? = fs[j]?.map (fun x => match x with | none => .int (σ.1 k (i + j)) | some q => .ref (js_ad G q))
  | [], i, j => by simp [js_fv]
  | none :: r, i, 0 => by simp [js_fv]
  | some q :: r, i, 0 => by simp [js_fv]
  | none :: r, i, j + 1 => by
    simp only [js_fv, List.getElem?_cons_succ]
    rw [js_fv_at r (i + 1) j, show i + 1 + j = i + (j + 1) by omega]
  | some q :: r, i, j + 1 => by
    simp only [js_fv, List.getElem?_cons_succ]
    rw [js_fv_at r (i + 1) j, show i + 1 + j = i + (j + 1) by omega]
theorem js_fv_len {G : js_G} {σ : js_S} {k : Nat} : ∀ (fs : List (Option Nat)) (i : Nat), (js_fv G σ k i fs).length = fs.length
  | [], i => rfl
  | none :: r, i => by simp [js_fv, js_fv_len r]
  | some q :: r, i => by simp [js_fv, js_fv_len r]
def js_sI (σ : js_S) (k i : Nat) (v : Int32) : js_S := (fun a => if a = k then upd (σ.1 k) i v else σ.1 a, σ.2)
def js_sL (σ : js_S) (k i : Nat) (v : Int64) : js_S := (σ.1, fun a => if a = k then vp_updL (σ.2 k) i v else σ.2 a)
theorem js_cell_of {G : js_G} {σ τ : js_S} {k : Nat} (h1 : τ.1 k = σ.1 k) (h2 : τ.2 k = σ.2 k) (x : js_Shp) : js_cell G τ k x = js_cell G σ k x := by
  match x with
  | .inl n => simp only [js_cell, h1]
  | .inr (.inl n) => simp only [js_cell, h2]
  | .inr (.inr o) =>
    simp only [js_cell]
    congr 2
    apply List.ext_getElem?
    intro j
    rw [js_fv_at, js_fv_at, h1]
theorem js_wl_set {G : js_G} {sh : List js_Shp} {σ τ : js_S} {k : Nat} {x : js_Shp} {E : va_E} (hx : sh[k]? = some x) (h : ∀ a, a ≠ k → τ.1 a = σ.1 a ∧ τ.2 a = σ.2 a) (hE : js_cell G τ k x = E) : (js_wl G sh σ).set k (js_ad G k, E) = js_wl G sh τ := by
  apply List.ext_getElem?
  intro j
  unfold js_wl
  rw [List.getElem?_set, js_wF_at, js_wF_at, Nat.zero_add]
  by_cases hj : k = j
  · subst hj
    have hlt : k < (js_wF G σ 0 sh).length := by
      have := js_wl_at (G := G) σ hx
      exact (List.getElem?_eq_some_iff.mp this).1
    rw [if_pos rfl, if_pos hlt, hx, ← hE]
    rfl
  · rw [if_neg hj]
    cases hs : sh[j]? with
    | none => rfl
    | some y =>
      obtain ⟨e1, e2⟩ := h j (fun q => hj q.symm)
      simp only [Option.map_some, js_cell_of e1 e2]
def js_A (G : js_G) (sh : List js_Shp) : Nat → Prop := fun q => ∃ k, k < sh.length ∧ q = js_ad G k
def js_inj (G : js_G) (sh : List js_Shp) : Prop := ∀ i j, i < sh.length → j < sh.length → js_ad G i = js_ad G j → i = j
theorem js_wl_D {G : js_G} {sh : List js_Shp} (h : js_inj G sh) (σ : js_S) : va_D (js_A G sh) (js_wl G sh σ) := by
  have key : ∀ (k : Nat) (q : Nat × va_E), (js_wl G sh σ)[k]? = some q → k < sh.length ∧ q.1 = js_ad G k := by
    intro k q hk
    unfold js_wl at hk
    rw [js_wF_at] at hk
    cases hs : sh[k]? with
    | none => rw [hs] at hk; cases hk
    | some x =>
      rw [hs, Option.map_some] at hk
      have := Option.some.inj hk
      subst this
      exact ⟨(List.getElem?_eq_some_iff.mp hs).1, by simp⟩
  refine ⟨fun i j p q hi hj e => ?_, fun k q hk => ?_⟩
  · obtain ⟨a1, a2⟩ := key i p hi
    obtain ⟨b1, b2⟩ := key j q hj
    exact h i j a1 b1 (by rw [← a2, ← b2]; exact e)
  · obtain ⟨a1, a2⟩ := key k q hk
    exact ⟨k, a1, a2⟩
