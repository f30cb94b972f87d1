/-! PURE: the state as numbers, the relation of class and reference -/
/-- the reference's row s, its places as numbers -/
def pv_M (A : Nat → Nat) (τ : js_S) (c : Nat) : Prop := ∀ k, k < 633 → τ.1 c k = nI (A k)
/-- the class's stack (o: its object, o + 1 .. o + 4 its rows) shows the same numbers -/
def pv_C (A : Nat → Nat) (σ : js_S) (o : Nat) : Prop := σ.1 o 0 = nI (A 1) ∧ σ.1 o 1 = nI (A 2) ∧ σ.1 o 2 = nI (A 0) ∧ (∀ f, f < 6 → σ.1 (o + 1) f = nI (A (3 + f))) ∧ (∀ p, p < 48 → σ.1 (o + 2) p = nI (A (9 + p))) ∧ (∀ i, i < 288 → σ.1 (o + 3) i = nI (A (57 + i))) ∧ (∀ i, i < 288 → σ.1 (o + 4) i = nI (A (345 + i)))
def pv_B (A : Nat → Nat) : Prop := A 0 ≤ 6 ∧ A 1 ≤ 20000 ∧ A 2 ≤ 9 ∧ (∀ f, f < 6 → A (3 + f) ≤ 5) ∧ (∀ p, p < 48 → A (9 + p) ≤ 6) ∧ (∀ i, i < 288 → A (57 + i) ≤ 15) ∧ (∀ i, i < 288 → A (345 + i) ≤ 9)
theorem pv_C.day {A : Nat → Nat} {σ : js_S} (h : pv_C A σ 1) : σ.1 1 0 = nI (A 1) := h.1
theorem pv_C.damp {A : Nat → Nat} {σ : js_S} (h : pv_C A σ 1) : σ.1 1 1 = nI (A 2) := h.2.1
theorem pv_C.many {A : Nat → Nat} {σ : js_S} (h : pv_C A σ 1) : σ.1 1 2 = nI (A 0) := h.2.2.1
theorem pv_C.kd {A : Nat → Nat} {σ : js_S} (h : pv_C A σ 1) {f : Nat} (hf : f < 6) : σ.1 2 f = nI (A (3 + f)) := h.2.2.2.1 f hf
theorem pv_C.hg {A : Nat → Nat} {σ : js_S} (h : pv_C A σ 1) {p : Nat} (hp : p < 48) : σ.1 3 p = nI (A (9 + p)) := h.2.2.2.2.1 p hp
theorem pv_C.wd {A : Nat → Nat} {σ : js_S} (h : pv_C A σ 1) {i : Nat} (hi : i < 288) : σ.1 4 i = nI (A (57 + i)) := h.2.2.2.2.2.1 i hi
theorem pv_C.ck {A : Nat → Nat} {σ : js_S} (h : pv_C A σ 1) {i : Nat} (hi : i < 288) : σ.1 5 i = nI (A (345 + i)) := h.2.2.2.2.2.2 i hi
theorem pv_B.many {A : Nat → Nat} (h : pv_B A) : A 0 ≤ 6 := h.1
theorem pv_B.day {A : Nat → Nat} (h : pv_B A) : A 1 ≤ 20000 := h.2.1
theorem pv_B.damp {A : Nat → Nat} (h : pv_B A) : A 2 ≤ 9 := h.2.2.1
theorem pv_B.kd {A : Nat → Nat} (h : pv_B A) {f : Nat} (hf : f < 6) : A (3 + f) ≤ 5 := h.2.2.2.1 f hf
theorem pv_B.hg {A : Nat → Nat} (h : pv_B A) {p : Nat} (hp : p < 48) : A (9 + p) ≤ 6 := h.2.2.2.2.1 p hp
theorem pv_B.wd {A : Nat → Nat} (h : pv_B A) {i : Nat} (hi : i < 288) : A (57 + i) ≤ 15 := h.2.2.2.2.2.1 i hi
theorem pv_B.ck {A : Nat → Nat} (h : pv_B A) {i : Nat} (hi : i < 288) : A (345 + i) ≤ 9 := h.2.2.2.2.2.2 i hi
/-- what else is held: image, findings, tape, sheets -/
def pv_T (σ τ : js_S) : Prop := σ.1 0 2 = τ.1 0 5 ∧ (σ.1 0 2 = 0 ∨ σ.1 0 2 = 1) ∧ (∀ k, k < 7 → σ.1 22 k = τ.1 5 k) ∧ (∃ n, n ≤ 120 ∧ σ.1 15 0 = nI n ∧ τ.1 0 9 = nI n) ∧ (∃ T : Nat → Nat, (∀ i, T i < 256) ∧ ∀ i, i < 120 → σ.1 16 i = nI (T i) ∧ τ.1 7 i = nI (T i)) ∧
  (∃ B N : Nat → Nat, (∀ s, s < 4 → N s ≤ 40 ∧ (B s = 0 ∨ B s = 8 ∨ B s = 16 ∨ B s = 64)) ∧ ∀ s, s < 4 → σ.1 19 s = nI (B s) ∧ τ.1 8 s = nI (B s) ∧ σ.1 20 s = nI (N s) ∧ τ.1 9 s = nI (N s)) ∧ (∀ i, i < 160 → σ.2 21 i = τ.2 10 i)
def pv_R (σ τ : js_S) : Prop := (∃ A, pv_B A ∧ A 1 ≤ 9999 ∧ pv_C A σ 1 ∧ pv_M A τ 1) ∧ (∃ A, pv_B A ∧ A 1 ≤ 9999 ∧ pv_C A σ 6 ∧ pv_M A τ 2) ∧ pv_T σ τ
/-- both answer the same, and stay related -/
def pv_G (a b : Option (Int32 × js_S)) : Prop := ∃ r σ τ, a = some (r, σ) ∧ b = some (r, τ) ∧ pv_R σ τ
/-- the class's scratch may change, what is held not -/
def pv_EC (σ σ' : js_S) : Prop := (∀ k, k ≠ 11 → k ≠ 12 → k ≠ 13 → k ≠ 14 → k ≠ 15 → k ≠ 17 → k ≠ 23 → σ'.1 k = σ.1 k) ∧ σ'.1 15 0 = σ.1 15 0 ∧ σ'.2 = σ.2
def pv_EM (τ τ' : js_S) : Prop := (∀ k, k ≠ 0 → k ≠ 3 → k ≠ 4 → k ≠ 6 → τ'.1 k = τ.1 k) ∧ τ'.1 0 5 = τ.1 0 5 ∧ τ'.1 0 9 = τ.1 0 9 ∧ τ'.2 10 = τ.2 10
theorem pv_EC.rf (σ : js_S) : pv_EC σ σ := ⟨fun _ _ _ _ _ _ _ _ => rfl, rfl, rfl⟩
theorem pv_EM.rf (τ : js_S) : pv_EM τ τ := ⟨fun _ _ _ _ _ => rfl, rfl, rfl, rfl⟩
theorem pv_EC.tr {a b c : js_S} (h : pv_EC a b) (g : pv_EC b c) : pv_EC a c := ⟨fun k h1 h2 h3 h4 h5 h6 h7 => (g.1 k h1 h2 h3 h4 h5 h6 h7).trans (h.1 k h1 h2 h3 h4 h5 h6 h7), g.2.1.trans h.2.1, g.2.2.trans h.2.2⟩
theorem pv_EM.tr {a b c : js_S} (h : pv_EM a b) (g : pv_EM b c) : pv_EM a c := ⟨fun k h1 h2 h3 h4 => (g.1 k h1 h2 h3 h4).trans (h.1 k h1 h2 h3 h4), g.2.1.trans h.2.1, g.2.2.1.trans h.2.2.1, g.2.2.2.trans h.2.2.2⟩
theorem pv_C.keep {A : Nat → Nat} {σ σ' : js_S} {o : Nat} (h : pv_C A σ o) (h0 : σ'.1 o = σ.1 o) (h1 : σ'.1 (o + 1) = σ.1 (o + 1)) (h2 : σ'.1 (o + 2) = σ.1 (o + 2)) (h3 : σ'.1 (o + 3) = σ.1 (o + 3)) (h4 : σ'.1 (o + 4) = σ.1 (o + 4)) : pv_C A σ' o := by
  unfold pv_C
  rw [h0, h1, h2, h3, h4]
  exact h
theorem pv_M.keep {A : Nat → Nat} {τ τ' : js_S} {c : Nat} (h : pv_M A τ c) (h0 : τ'.1 c = τ.1 c) : pv_M A τ' c := by
  unfold pv_M
  rw [h0]
  exact h
theorem pv_EC.C {A : Nat → Nat} {σ σ' : js_S} (e : pv_EC σ σ') (h : pv_C A σ 1) : pv_C A σ' 1 :=
  h.keep (e.1 1 (by decide) (by decide) (by decide) (by decide) (by decide) (by decide) (by decide)) (e.1 2 (by decide) (by decide) (by decide) (by decide) (by decide) (by decide) (by decide)) (e.1 3 (by decide) (by decide) (by decide) (by decide) (by decide) (by decide) (by decide)) (e.1 4 (by decide) (by decide) (by decide) (by decide) (by decide) (by decide) (by decide)) (e.1 5 (by decide) (by decide) (by decide) (by decide) (by decide) (by decide) (by decide))
theorem pv_EM.M {A : Nat → Nat} {τ τ' : js_S} (e : pv_EM τ τ') (h : pv_M A τ 1) : pv_M A τ' 1 := h.keep (e.1 1 (by decide) (by decide) (by decide) (by decide))
theorem pv_T.keep {σ τ σ' τ' : js_S} (h : pv_T σ τ) (ec : pv_EC σ σ') (em : pv_EM τ τ') : pv_T σ' τ' := by
  unfold pv_T
  rw [ec.1 0 (by decide) (by decide) (by decide) (by decide) (by decide) (by decide) (by decide), ec.1 22 (by decide) (by decide) (by decide) (by decide) (by decide) (by decide) (by decide), ec.1 16 (by decide) (by decide) (by decide) (by decide) (by decide) (by decide) (by decide), ec.1 19 (by decide) (by decide) (by decide) (by decide) (by decide) (by decide) (by decide), ec.1 20 (by decide) (by decide) (by decide) (by decide) (by decide) (by decide) (by decide), ec.2.1, ec.2.2,
    em.2.1, em.2.2.1, em.2.2.2, em.1 5 (by decide) (by decide) (by decide) (by decide), em.1 7 (by decide) (by decide) (by decide) (by decide), em.1 8 (by decide) (by decide) (by decide) (by decide), em.1 9 (by decide) (by decide) (by decide) (by decide)]
  exact h
theorem pv_R.keep {σ τ σ' τ' : js_S} (h : pv_R σ τ) (ec : pv_EC σ σ') (em : pv_EM τ τ') : pv_R σ' τ' := by
  obtain ⟨⟨A, b1, b2, b3, b4⟩, ⟨A', c1, c2, c3, c4⟩, h3⟩ := h
  refine ⟨⟨A, b1, b2, ec.C b3, em.M b4⟩, ⟨A', c1, c2, ?_, c4.keep (em.1 2 (by decide) (by decide) (by decide) (by decide))⟩, h3.keep ec em⟩
  exact c3.keep (ec.1 6 (by decide) (by decide) (by decide) (by decide) (by decide) (by decide) (by decide)) (ec.1 7 (by decide) (by decide) (by decide) (by decide) (by decide) (by decide) (by decide)) (ec.1 8 (by decide) (by decide) (by decide) (by decide) (by decide) (by decide) (by decide)) (ec.1 9 (by decide) (by decide) (by decide) (by decide) (by decide) (by decide) (by decide)) (ec.1 10 (by decide) (by decide) (by decide) (by decide) (by decide) (by decide) (by decide))
/-- same answer, scratch alone changed -/
theorem pv_G.of {σ τ σ' τ' : js_S} {r : Int32} (h : pv_R σ τ) (ec : pv_EC σ σ') (em : pv_EM τ τ') : pv_G (some (r, σ')) (some (r, τ')) := ⟨r, σ', τ', rfl, rfl, h.keep ec em⟩
theorem pv_G.same {σ τ : js_S} {r : Int32} (h : pv_R σ τ) : pv_G (some (r, σ)) (some (r, τ)) := ⟨r, σ, τ, rfl, rfl, h⟩
/-! findings -/
def pv_fC (σ : js_S) (j : Nat) : js_S := js_sI σ 22 j (σ.1 22 j + 1)
def pv_fM (τ : js_S) (j : Nat) : js_S := js_sI τ 5 j (τ.1 5 j + 1)
theorem pv_found0 (σ : js_S) : fX7_found (-1000000001 : Int32) σ = some ((-1000000001 : Int32), pv_fC σ 0) := rfl
theorem pv_found1 (σ : js_S) : fX7_found (-1000000002 : Int32) σ = some ((-1000000002 : Int32), pv_fC σ 1) := rfl
theorem pv_found2 (σ : js_S) : fX7_found (-1000000003 : Int32) σ = some ((-1000000003 : Int32), pv_fC σ 2) := rfl
theorem pv_found3 (σ : js_S) : fX7_found (-1000000004 : Int32) σ = some ((-1000000004 : Int32), pv_fC σ 3) := rfl
theorem pv_found4 (σ : js_S) : fX7_found (-1000000005 : Int32) σ = some ((-1000000005 : Int32), pv_fC σ 4) := rfl
theorem pv_found5 (σ : js_S) : fX7_found (-1000000006 : Int32) σ = some ((-1000000006 : Int32), pv_fC σ 5) := rfl
theorem pv_found6 (σ : js_S) : fX7_found (-1000000007 : Int32) σ = some ((-1000000007 : Int32), pv_fC σ 6) := rfl
theorem pv_finds0 (σ : js_S) : fX8_finds (-1000000001 : Int32) σ = some ((-1000000001 : Int32), pv_fM σ 0) := rfl
theorem pv_finds1 (σ : js_S) : fX8_finds (-1000000002 : Int32) σ = some ((-1000000002 : Int32), pv_fM σ 1) := rfl
theorem pv_finds2 (σ : js_S) : fX8_finds (-1000000003 : Int32) σ = some ((-1000000003 : Int32), pv_fM σ 2) := rfl
theorem pv_finds3 (σ : js_S) : fX8_finds (-1000000004 : Int32) σ = some ((-1000000004 : Int32), pv_fM σ 3) := rfl
theorem pv_finds4 (σ : js_S) : fX8_finds (-1000000005 : Int32) σ = some ((-1000000005 : Int32), pv_fM σ 4) := rfl
theorem pv_finds5 (σ : js_S) : fX8_finds (-1000000006 : Int32) σ = some ((-1000000006 : Int32), pv_fM σ 5) := rfl
theorem pv_finds6 (σ : js_S) : fX8_finds (-1000000007 : Int32) σ = some ((-1000000007 : Int32), pv_fM σ 6) := rfl
theorem pv_sI_ne {σ : js_S} {k i a : Nat} {v : Int32} (h : a ≠ k) : (js_sI σ k i v).1 a = σ.1 a := by simp [js_sI, h]
theorem pv_sI_at {σ : js_S} {k i j : Nat} {v : Int32} : (js_sI σ k i v).1 k j = if j = i then v else σ.1 k j := by simp [js_sI, upd]
theorem pv_sI_2 {σ : js_S} {k i : Nat} {v : Int32} : (js_sI σ k i v).2 = σ.2 := rfl
theorem pv_R.found {σ τ : js_S} (h : pv_R σ τ) (j : Nat) : pv_R (pv_fC σ j) (pv_fM τ j) := by
  obtain ⟨⟨A, b1, b2, b3, b4⟩, ⟨A', c1, c2, c3, c4⟩, h1, h2, h3, h4, h5, h6, h7⟩ := h
  refine ⟨⟨A, b1, b2, b3.keep (pv_sI_ne (by decide)) (pv_sI_ne (by decide)) (pv_sI_ne (by decide)) (pv_sI_ne (by decide)) (pv_sI_ne (by decide)), b4.keep (pv_sI_ne (by decide))⟩, ⟨A', c1, c2, c3.keep (pv_sI_ne (by decide)) (pv_sI_ne (by decide)) (pv_sI_ne (by decide)) (pv_sI_ne (by decide)) (pv_sI_ne (by decide)), c4.keep (pv_sI_ne (by decide))⟩, h1, h2, fun k hk => ?_, h4, h5, h6, h7⟩
  show (js_sI σ 22 j _).1 22 k = (js_sI τ 5 j _).1 5 k
  rw [pv_sI_at, pv_sI_at, h3 k hk]
  by_cases e : k = j
  · subst e; rw [if_pos rfl, if_pos rfl, h3 k hk]
  · rw [if_neg e, if_neg e]
theorem pv_G.found {σ τ : js_S} {c : Int32} (h : pv_R σ τ) (j : Nat) : pv_G (some (c, pv_fC σ j)) (some (c, pv_fM τ j)) := ⟨c, _, _, rfl, rfl, h.found j⟩
