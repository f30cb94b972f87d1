/-! CONSTRUCTORS: a world that grows -/
/-- a constructor's frame in the machine -/
def bi_Cx (D : va_G) (cI cL : ClassId) (mj : js_M) (nw : List Cond) (p : Program) (s : State) (m : MethodId) (args : Array Value) (meth : Method) (c : Code) : Prop :=
  p.tables.exec = Jvm.exec ∧ c.code = js_c mj ∧ c.maxLocals = js_n mj ∧ s.vm.findClass (js_y mj).cls = some m.cls ∧ (∀ w ∈ js_good, w.before args s = true) ∧ va_K D vwCl [(cI, .int), (cL, .long)] s ∧ meth.name = "<init>" ∧ (∀ w ∈ nw, va_Nw w s) ∧ meth.sig.returnType = none ∧ meth.locks = false
def bi_St (D : va_G) (A : Nat → Prop) (ws : va_W) (H0 H : Heap) (locs : List Loc) : Prop := va_P D vwCl ws H ∧ va_D A ws ∧ va_S A H0 H locs
def bi_rm (mj : js_M) (mc ms : Nat) : Room := { frames := js_fr mj, cells := mc, slots := ms, locals := js_lo mj }
/-- a constructor: given its object with the fields fs0, it makes the world 'out' -/
def bi_Con (l : Launch) (D : va_G) (cI cL : ClassId) (mj : js_M) (mc ms : Nat) (nw : List Cond) (ci : Nat) (fs0 : List Value) (out : Nat → (Nat → Nat) → va_W) : Prop :=
  ∀ (h0 sz : Nat), Met l (js_y mj) (js_ws mj) (bi_rm mj mc ms)
    (va_Pc [.ref h0] (fun U => U.heap.size = sz ∧ va_P D vwCl [(h0, .inr (ci, fs0))] U.heap ∧ va_K D vwCl [(cI, .int), (cL, .long)] U ∧ ∀ w ∈ nw, w.onTables = true ∧ va_Nw w U))
    (va_Qv (fun _ : Nat → Nat => True) (fun u t => va_P D vwCl (out h0 u) t.heap ∧ va_D (va_A [(h0, .inr (ci, fs0))] sz) (out h0 u)) (va_A [(h0, .inr (ci, fs0))] sz)) mc ms (va_A [(h0, .inr (ci, fs0))] sz)
theorem bi_blind {D : va_G} {cI cL : ClassId} {nw : List Cond} {ci h0 sz : Nat} {fs0 : List Value} : FrameBlind (va_Pc [.ref h0] (fun U => U.heap.size = sz ∧ va_P D vwCl [(h0, .inr (ci, fs0))] U.heap ∧ va_K D vwCl [(cI, .int), (cL, .long)] U ∧ ∀ w ∈ nw, w.onTables = true ∧ va_Nw w U)) :=
  fun a U g mk q => ⟨q.1, q.2.1, q.2.2.1, va_K.moved (u := U) (U := U.calling g mk a) (Vm.Alike.refl U.vm) q.2.2.2.1, fun w hw => ⟨(q.2.2.2.2 w hw).1, va_Nw.same (q.2.2.2.2 w hw).1 (u := U) (U := U.calling g mk a) rfl (q.2.2.2.2 w hw).2⟩⟩
theorem bi_con {l : Launch} {D : va_G} {cI cL : ClassId} {mj : js_M} {mc ms : Nat} {nw : List Cond} {ci : Nat} {fs0 : List Value} {out : Nat → (Nat → Nat) → va_W} (hy : plainName (js_y mj).cls = true) (hyn : (js_y mj).name = "<init>") (hn1 : js_n mj = 1) (hr : js_r mj = none)
    (k : ∀ (h0 : Nat) (A : Nat → Prop) (p : Program) (e : Env) (s : State) (m : MethodId) (args : Array Value) (below : List Frame) (meth : Method) (c : Code) (ls : Array Slot) (Q : State → Prop), bi_Cx D cI cL mj nw p s m args meth c → (∀ q, s.heap.size ≤ q → A q) → lv_has ls (js_n mj) [(0, .ref h0)] → bi_St D A [(h0, .inr (ci, fs0))] s.heap s.heap [] →
      (∀ (pc : Nat) (H : Heap) (locs : List Loc) (u : Nat → Nat), decode (js_c mj) pc = .ok (.return_, 1) → bi_St D A (out h0 u) s.heap H locs → W p l e (bi_rm mj mc ms) s m args below meth c H locs mc ms Q (F0 m pc ls [])) →
      W p l e (bi_rm mj mc ms) s m args below meth c s.heap [] 0 0 Q (F0 m 0 ls [])) : bi_Con l D cI cL mj mc ms nw ci fs0 out := by
  intro h0 sz
  refine Met.ofW (cc := js_c mj) (maxL := js_n mj) (ret := js_r mj) hy rfl ?_
  intro p e s m args below meth c s₁ B hml hv
  obtain ⟨rfl, hsz, hP, hK, hN⟩ := hv
  have hts := atoms_spec (ws := js_ws mj) B.pre
  have hown : s.vm.findClass (js_y mj).cls = some m.cls := findClass_of_methodNamed B.named
  have hin : meth.name = "<init>" := (name_of_methodNamed B.named B.method).1.trans hyn
  subst hsz
  have hD : va_D (va_A [(h0, .inr (ci, fs0))] s.heap.size) [(h0, .inr (ci, fs0))] := by
    refine ⟨fun i j x y hi hj _ => ?_, fun k q hk => va_A.in hk⟩
    have h1 := (List.getElem?_eq_some_iff.mp hi).1
    have h2 := (List.getElem?_eq_some_iff.mp hj).1
    simp at h1 h2
    omega
  have hl := lv_entry ([.ref h0]) (n := js_n mj) (by rw [hn1]; exact Nat.le_of_ble_eq_true rfl)
  rw [lg_entry_eq]
  generalize (lg_sl ([.ref h0]) ++ List.replicate (js_n mj - (lg_sl ([.ref h0])).length) Slot.unset).toArray = ls at hl ⊢
  have hl : lv_has ls (js_n mj) [(0, .ref h0)] := hl
  refine k h0 _ p e s m _ below meth c ls _ ⟨B.exec, B.bytes, hml, hown, fun w hw => hts w (List.mem_cons_of_mem _ hw), hK, hin, fun w hw => (hN w hw).2, B.returns.trans hr, B.notSynchronized⟩ (fun q h => Or.inr h) hl ⟨hP, hD, va_S.rf⟩ (fun pc H locs u hd hS => ?_)
  exact W.vret B.exec B.bytes (B.returns.trans hr) (fun t ht hW => ⟨⟨u, rfl, trivial, by rw [ht]; exact hS.1, hS.2.1⟩, hS.2.2.F ht⟩) hS.2.2.2.2 hd B.notSynchronized
section BI
variable {p : Program} {l : Launch} {e : Env} {R : Room} {s : State} {m : MethodId} {args : Array Value} {below : List Frame} {meth : Method} {c : Code} {H : Heap} {locs : List Loc} {cells slots : Nat} {Q : State → Prop}
variable {D : va_G} {cI cL : ClassId} {mj mk : js_M} {nw : List Cond} {A : Nat → Prop} {ws ws2 : va_W} {pc : Nat} {ls : Array Slot} {rest : List Value}
theorem bi_newI (C : bi_Cx D cI cL mj nw p s m args meth c) (hA : ∀ q, s.heap.size ≤ q → A q) (h : bi_St D A ws s.heap H locs) {n : Int32} (N : Nat) (hd : decode (js_c mj) pc = .ok (.newarray .int, 2)) (hn : (decide (¬ n < 0) && decide (n.toNatClampNeg = N) && Nat.ble (N * 4) 536870912) = true) (hc : Nat.ble (cells + 1) R.cells = true) (hs : Nat.ble (slots + N) R.slots = true)
    (k : ∀ (q : Nat) (H1 : Heap), bi_St D A (ws ++ [(q, .inl (cI, N, .inl (fun _ => 0)))]) s.heap H1 locs → W p l e R s m args below meth c H1 locs (cells + 1) (slots + N) Q (F0 m (pc + 2) ls (.ref q :: rest))) : W p l e R s m args below meth c H locs cells slots Q (F0 m pc ls (.int n :: rest)) := by
  rw [Bool.and_eq_true, Bool.and_eq_true, decide_eq_true_eq, decide_eq_true_eq] at hn
  have hK := C.2.2.2.2.2.1
  refine va_newa (atype := .int) (ty := .int) (a0 := (N, .inl (fun _ => 0))) C.1 C.2.1 (C.2.2.2.2.1 _ (bl_t1 _ (List.mem_of_getElem? (i := 0) rfl))) rfl hK h.1 h.2.1 h.2.2 hA (fun _ => rfl) hn.1.1 hn.1.2 (Nat.le_of_ble_eq_true hn.2) (Nat.le_of_ble_eq_true hc) (Nat.le_of_ble_eq_true hs) hd (fun q cA H1 hK1 hP1 hD1 hS1 => ?_)
  have e1 : s.vm.findClass ("[" ++ FieldType.int.toString) = some cA := (hK1.2 2 (cA, .int) rfl).2
  have e2 : s.vm.findClass ("[" ++ FieldType.int.toString) = some cI := (hK.2 0 (cI, .int) rfl).2
  have e3 : cA = cI := Option.some.inj (e1.symm.trans e2)
  subst e3
  exact k q H1 ⟨hP1, hD1, hS1⟩
theorem bi_newL (C : bi_Cx D cI cL mj nw p s m args meth c) (hA : ∀ q, s.heap.size ≤ q → A q) (h : bi_St D A ws s.heap H locs) {n : Int32} (N : Nat) (hd : decode (js_c mj) pc = .ok (.newarray .long, 2)) (hn : (decide (¬ n < 0) && decide (n.toNatClampNeg = N) && Nat.ble (N * 8) 536870912) = true) (hc : Nat.ble (cells + 1) R.cells = true) (hs : Nat.ble (slots + N) R.slots = true)
    (k : ∀ (q : Nat) (H1 : Heap), bi_St D A (ws ++ [(q, .inl (cL, N, .inr (.inl (fun _ => 0))))]) s.heap H1 locs → W p l e R s m args below meth c H1 locs (cells + 1) (slots + N) Q (F0 m (pc + 2) ls (.ref q :: rest))) : W p l e R s m args below meth c H locs cells slots Q (F0 m pc ls (.int n :: rest)) := by
  rw [Bool.and_eq_true, Bool.and_eq_true, decide_eq_true_eq, decide_eq_true_eq] at hn
  have hK := C.2.2.2.2.2.1
  refine va_newa (atype := .long) (ty := .long) (a0 := (N, .inr (.inl (fun _ => 0)))) C.1 C.2.1 (C.2.2.2.2.1 _ (bl_t1 _ (List.mem_of_getElem? (i := 1) rfl))) rfl hK h.1 h.2.1 h.2.2 hA (fun _ => rfl) hn.1.1 hn.1.2 (Nat.le_of_ble_eq_true hn.2) (Nat.le_of_ble_eq_true hc) (Nat.le_of_ble_eq_true hs) hd (fun q cA H1 hK1 hP1 hD1 hS1 => ?_)
  have e1 : s.vm.findClass ("[" ++ FieldType.long.toString) = some cA := (hK1.2 2 (cA, .long) rfl).2
  have e2 : s.vm.findClass ("[" ++ FieldType.long.toString) = some cL := (hK.2 1 (cL, .long) rfl).2
  have e3 : cA = cL := Option.some.inj (e1.symm.trans e2)
  subst e3
  exact k q H1 ⟨hP1, hD1, hS1⟩
/-- a field of the own object -/
def bi_F (own : String) (idx ci k : Nat) (ty : FieldType) (fin : Bool) : Prop := ∃ (T : u_T) (N : Nat) (ty0 : Nat → FieldType), vwCl[ci]? = some (own, T, N) ∧ k < N ∧ (∀ w ∈ u_ws own T N, w ∈ js_good) ∧ Cond.fieldLink own idx own (T k).2.1 (T k).2.2.1 ∈ js_good ∧ (∀ k, k < N → parseFieldDescriptor (T k).2.2.1 = some (ty0 k)) ∧ (∀ a, a < N → ∀ b, b < N → a ≠ b → (T a).2.1 ≠ (T b).2.1) ∧ (T k).2.2.2 = fin ∧ (T k).1 = own ∧ parseFieldDescriptor (T k).2.2.1 = some ty
theorem bi_put (C : bi_Cx D cI cL mj nw p s m args meth c) (h : bi_St D A ws s.heap H locs) {idx ci k a : Nat} {ty : FieldType} {fin : Bool} {fs : List Value} {v : Value} (hd : decode (js_c mj) pc = .ok (.putfield idx, 3)) (hF : bi_F (js_y mj).cls idx ci k ty fin) (he : ws[0]? = some (a, .inr (ci, fs))) (hn : narrow ty v = v) (hf : fits ty v = true) (hl : k < fs.length) (hw : ws.set 0 (a, .inr (ci, fs.set k v)) = ws2)
    (kk : ∀ (H1 : Heap) (locs1 : List Loc), bi_St D A ws2 s.heap H1 locs1 → W p l e R s m args below meth c H1 locs1 cells slots Q (F0 m (pc + 3) ls rest)) : W p l e R s m args below meth c H locs cells slots Q (F0 m pc ls (v :: .ref a :: rest)) := by
  obtain ⟨T, N, ty0, f1, f2, f3, f4, f5, f6, f7, f8, f9⟩ := hF
  subst hw
  cases fin with
  | false => exact va_put C.1 C.2.1 C.2.2.2.2.1 f3 ty0 f5 f6 C.2.2.2.1 C.2.2.2.2.2.1 h.1 h.2.1 h.2.2 0 he f1 k f2 (C.2.2.2.2.1 _ f4) (by rw [f8]; exact fun _ h => h) f7 f9 hn hf hl hd (fun H1 locs1 hP hD hS => kk H1 locs1 ⟨hP, hD, hS⟩)
  | true => exact va_putF C.1 C.2.1 C.2.2.2.2.1 f3 ty0 f5 f6 C.2.2.2.1 C.2.2.2.2.2.1 h.1 h.2.1 h.2.2 0 he f1 k f2 (C.2.2.2.2.1 _ f4) (by rw [f8]; exact fun _ h => h) f7 C.2.2.2.2.2.2.1 f8 f9 hn hf hl hd (fun H1 locs1 hP hD hS => kk H1 locs1 ⟨hP, hD, hS⟩)
/-- Object's own constructor -/
def bi_O (own : String) (idx : Nat) : Prop := Cond.methodLink own idx Lib.objectInit ∈ js_good ∧ Cond.instanceMethod Lib.objectInit ∈ js_good ∧ Cond.code Lib.objectInit ⟨#[0xb1]⟩ 1 none ∈ js_good
theorem bi_obj (C : bi_Cx D cI cL mj nw p s m args meth c) {idx a n : Nat} {lv : List (Nat × Value)} (hl : lv_has ls n lv) (hn : js_n mj = n) (hd : decode (js_c mj) pc = .ok (.invokespecial idx, 3)) (hO : bi_O (js_y mj).cls idx) (hR : Nat.ble 1 R.frames = true) (hR2 : Nat.ble 12 R.locals = true)
    (kk : W p l e R s m args below meth c H locs cells slots Q (F0 m (pc + 3) ls [])) : W p l e R s m args below meth c H locs cells slots Q (F0 m pc ls [.ref a]) :=
  W.objInit C.1 C.2.1 C.2.2.2.1 (C.2.2.2.2.1 _ hO.1) (C.2.2.2.2.1 _ hO.2.1) (C.2.2.2.2.1 _ hO.2.2) rfl (by rw [C.2.2.1, hn]; exact hl.1) rfl hd (Nat.le_of_ble_eq_true hR) (Nat.le_of_ble_eq_true hR2) kk
/-- a class that can be made -/
def bi_N (own : String) (idx ci N : Nat) (T : u_T) (C : String) (fs : List Value) : Prop := vwCl[ci]? = some (C, T, N) ∧ (∀ w ∈ u_ws C T N, w ∈ js_good) ∧ Cond.classLink own idx C ∈ js_good ∧ Cond.instantiable C N ∈ js_good ∧ Cond.initialized C ∈ js_good ∧ ∃ ty0 : Nat → FieldType, (∀ k, k < N → parseFieldDescriptor (T k).2.2.1 = some (ty0 k)) ∧ ∀ j, j < N → defaultValue (ty0 j) = vp_V fs j
theorem bi_new {own Cn : String} {idx ci N : Nat} {T : u_T} {fs : List Value} {cc : ByteArray} (hx : p.tables.exec = Jvm.exec) (hb : c.code = cc) (hown : s.vm.findClass own = some m.cls) (hts : ∀ w ∈ js_good, w.before args s = true) (hK : va_K D vwCl [(cI, .int), (cL, .long)] s) (hA : ∀ q, s.heap.size ≤ q → A q) (h : bi_St D A ws s.heap H locs) (hd : decode cc pc = .ok (.new idx, 3)) (hN : bi_N own idx ci N T Cn fs) (hc : Nat.ble (cells + 1) R.cells = true) (hs : Nat.ble (slots + N) R.slots = true)
    (k : ∀ (q : Nat) (H1 : Heap), bi_St D A (ws ++ [(q, .inr (ci, fs))]) s.heap H1 locs → W p l e R s m args below meth c H1 locs (cells + 1) (slots + N) Q (F0 m (pc + 3) ls (.ref q :: rest))) : W p l e R s m args below meth c H locs cells slots Q (F0 m pc ls rest) := by
  obtain ⟨n1, n2, n3, n4, n5, ty0, n6, n7⟩ := hN
  exact va_new hx hb hts n2 ty0 n6 hown (hts _ n3) (hts _ n4) (hts _ n5) hK h.1 h.2.1 h.2.2 hA n1 n7 (Nat.le_of_ble_eq_true hc) (Nat.le_of_ble_eq_true hs) hd (fun q H1 hP hD hS => k q H1 ⟨hP, hD, hS⟩)
theorem bi_last {x : Nat × va_E} : ([ws.length].map (fun i => (ws ++ [x])[i]?)) = [x].map some := by simp
theorem bi_rest {x : Nat × va_E} : ((List.range ws.length).map (fun i => (ws ++ [x])[i]?)) = ws.map some := by
  apply List.ext_getElem?
  intro i
  rw [List.getElem?_map, List.getElem?_map]
  by_cases hi : i < ws.length
  · rw [List.getElem?_range hi, Option.map_some, List.getElem?_append_left hi, List.getElem?_eq_getElem hi]
    rfl
  · rw [List.getElem?_eq_none (by simp; omega), List.getElem?_eq_none (by omega)]
    rfl
theorem bi_nd : ∀ n : Nat, va_nd (List.range n) = true := by
  have key : ∀ (n : List Nat), n.Nodup → va_nd n = true := by
    intro n
    induction n with
    | nil => intro _; rfl
    | cons a l ih =>
      intro h
      rw [List.nodup_cons] at h
      simp only [va_nd, Bool.and_eq_true, decide_eq_true_eq]
      exact ⟨h.1, ih h.2⟩
  exact fun n => key _ List.nodup_range
/-- behind a constructor's call -/
theorem bi_after {ci q mc ms : Nat} {fs : List Value} {out : Nat → (Nat → Nat) → va_W} {a : Array Value} {st0 : List Value} (hA : ∀ q, s.heap.size ≤ q → A q) (h : bi_St D A (ws ++ [(q, .inr (ci, fs))]) s.heap H locs)
    (hr : va_Run p l e R s m args below meth c H locs cells slots mc ms (F0 m pc ls st0) rest (va_Qv (fun _ : Nat → Nat => True) (fun u t => va_P D vwCl (out q u) t.heap ∧ va_D (va_A [(q, .inr (ci, fs))] H.size) (out q u)) (va_A [(q, .inr (ci, fs))] H.size) a) (va_A [(q, .inr (ci, fs))] H.size))
    (k : ∀ (u : Nat → Nat) (H1 : Heap) (locs1 : List Loc), bi_St D A (ws ++ out q u) s.heap H1 locs1 → W p l e R s m args below meth c H1 locs1 (cells + mc) (slots + ms) Q (F0 m (pc + 3) ls rest)) : W p l e R s m args below meth c H locs cells slots Q (F0 m pc ls st0) := by
  have hFc := va_free (wc := [(q, .inr (ci, fs))]) h.2.1 h.2.2 hA [ws.length] bi_last
  refine va_callv hr h.2.2 (fun q _ h => hFc q h) hFc (fun u t H1 locs1 ht hvm _ hB hz1 hk1 hS1 => ?_)
  rw [ht] at hB
  obtain ⟨hP1, hD1⟩ := va_join (wr := ws) (w1 := out q u) h.1 h.2.1 [ws.length] (List.range ws.length) bi_last bi_rest (bi_nd _) (fun i hi => by simp at hi ⊢; omega) hk1 hFc hB.1 hB.2
  exact k u H1 locs1 ⟨hP1, hD1, hS1⟩
theorem bi_ws (hr : js_r mk = none) : js_ws mk = Cond.code (js_y mk) (js_c mk) (js_n mk) none :: js_good := by
  unfold js_ws
  rw [hr]
/-- a call of a nest mate's constructor -/
theorem bi_callN {idx ci q mc ms : Nat} {fs : List Value} {out : Nat → (Nat → Nat) → va_W} {host : String} (C : bi_Cx D cI cL mj nw p s m args meth c) (hA : ∀ q, s.heap.size ≤ q → A q) (h : bi_St D A (ws ++ [(q, .inr (ci, fs))]) s.heap H locs) {lv : List (Nat × Value)} (hl : lv_has ls (js_n mj) lv) (hM : bi_Con l D cI cL mk mc ms [] ci fs out) (hd : decode (js_c mj) pc = .ok (.invokespecial idx, 3)) (hlk : Cond.methodLinkNest (js_y mj).cls idx (js_y mk) host ∈ nw) (hcm : js_Cm mk 0) (hci : Cond.instanceMethod (js_y mk) ∈ js_good) (hr : js_r mk = none) (hy : (js_y mk).name = "<init>")
    (hfit : (Nat.ble (js_fr mk + 1) R.frames && Nat.ble (8 + (js_n mk + 11) + js_lo mk) R.locals && Nat.ble (cells + mc) R.cells && Nat.ble (slots + ms) R.slots && Nat.ble (rest.map fun v => v.category).sum 8) = true)
    (k : ∀ (u : Nat → Nat) (H1 : Heap) (locs1 : List Loc), bi_St D A (ws ++ out q u) s.heap H1 locs1 → W p l e R s m args below meth c H1 locs1 (cells + mc) (slots + ms) Q (F0 m (pc + 3) ls rest)) : W p l e R s m args below meth c H locs cells slots Q (F0 m pc ls (.ref q :: rest)) := by
  rw [Bool.and_eq_true, Bool.and_eq_true, Bool.and_eq_true, Bool.and_eq_true] at hfit
  obtain ⟨⟨⟨⟨g1, g2⟩, g3⟩, g4⟩, g5⟩ := hfit
  have hts := C.2.2.2.2.1
  have hq : (ws ++ [(q, .inr (ci, fs))])[ws.length]? = some (q, (.inr (ci, fs) : va_E)) := by simp
  have hPc : va_P D vwCl [(q, .inr (ci, fs))] H := h.1.sub [ws.length] (by simp)
  refine bi_after (a := #[.ref q]) hA h (va_runIN (As := []) (rest := rest) (n := 0) ⟨C.1, C.2.1, C.2.2.1, C.2.2.2.1, hts⟩ (hM q H.size) ⟨va_cnB 0 hts (js_goodIn hcm) (bi_ws hr) rfl rfl (C.2.2.2.2.2.2.2.1 _ hlk) (hts _ hcm.1) hcm.2.2 ⟨Nat.le_of_ble_eq_true g1, Nat.le_of_ble_eq_true g2⟩, hy, hts _ hci⟩ ⟨bi_blind, fun U hU hW => ⟨rfl, by rw [hU], by rw [hU]; exact hPc, va_K.moved hW.alike C.2.2.2.2.2.1, fun w hw => by cases hw⟩⟩ rfl rfl hl.1 rfl (lv_room (Nat.le_of_ble_eq_true g5)) hd ⟨Nat.le_of_ble_eq_true g3, Nat.le_of_ble_eq_true g4⟩) k
end BI
