/-! what stays of the start: tables, statics, String constants -/
def js_nest : List Cond := [.methodLinkNest RX3 44 yX7_isBend RX7, .methodLinkNest RX3 102 yX7_hasBit RX7, .methodLinkNest RX6 28 yX7_hasBit RX7, .methodLinkNest RX6 49 yX7_isBend RX7]
/-- String constants: class, entry, text, number -/
def js_strs : List (String × Nat × String × Nat) := [(RX5, 64, "say", 0), (RX5, 96, "voice", 1), (RX5, 73, "layer", 2), (RX5, 97, "cake", 3), (RX5, 78, "damp", 4), (RX1, 24, "crooked", 5), (RX1, 26, "wide", 6), (RX1, 28, "shut", 7), (RX1, 30, "queens", 8), (RX1, 32, "jackdaw", 9), (RX1, 34, "flue", 10)]
def js_len : List Nat := [3, 5, 5, 4, 4, 7, 4, 4, 6, 7, 4]
def js_byt : List (List Int32) := [[115, 97, 121], [118, 111, 105, 99, 101], [108, 97, 121, 101, 114], [99, 97, 107, 101], [100, 97, 109, 112], [99, 114, 111, 111, 107, 101, 100], [119, 105, 100, 101], [115, 104, 117, 116], [113, 117, 101, 101, 110, 115], [106, 97, 99, 107, 100, 97, 119], [102, 108, 117, 101]]
def js_abv : List Int32 := [-1, 0, 0, 0, 1, 2]
def js_Stat (G : js_G) (A : Nat → Prop) (U : State) (H : Heap) : Prop :=
  va_Z "SootTalk$Kinds" "ABOVE" "[I" (.ref (js_ad G 2000)) A U H ∧ va_T .int (js_ad G 2000) 6 (fun j => .int (js_abv.getD j 0)) A U H ∧
  vk_S 11 js_len js_byt (fun i => js_ad G (1000 + i)) (fun i => js_ad G (1100 + i)) A U H ∧ (∀ q ∈ js_strs, vk_R q.1 q.2.1 q.2.2.1 (js_ad G (1000 + q.2.2.2)) U) ∧
  va_Z "java/lang/String" "COMPACT_STRINGS" "Z" (.int 1) A U H ∧ (va_Z "jdk/internal/util/Preconditions" "SIOOBE_FORMATTER" "Ljava/util/function/BiFunction;" .null A U H ∨ va_Z "jdk/internal/util/Preconditions" "SIOOBE_FORMATTER" "Ljava/util/function/BiFunction;" (.ref (js_ad G 2001)) A U H)
def js_Env (G : js_G) (sh : List js_Shp) (U : State) : Prop :=
  va_K (js_D G) vwCl [(js_cI G, .int), (js_cL G, .long)] U ∧ (∀ w ∈ js_nest, va_Nw w U) ∧ js_inj G sh ∧ js_Stat G (js_A G sh) U U.heap
theorem js_nest_warm {s U : State} (hW : s.WarmedH U.vm) (h : ∀ w ∈ js_nest, va_Nw w s) : ∀ w ∈ js_nest, va_Nw w U := by
  intro w hw
  have h1 := h w hw
  simp only [js_nest, List.mem_cons, List.not_mem_nil, or_false] at hw
  rcases hw with rfl | rfl | rfl | rfl <;> exact va_Nw.warmM hW h1
theorem js_Stat.moved {G : js_G} {A : Nat → Prop} {s U : State} {H H1 : Heap} (hW : s.WarmedH U.vm) (hq : ∀ a : Nat, a < H.size → ¬ A a → H1[a]? = H[a]?) (h : js_Stat G A s H) : js_Stat G A U H1 := by
  obtain ⟨h1, h2, h3, h4, h5, h6⟩ := h
  have ha := hW.alike
  exact ⟨(va_Z.moved ha h1).kept hq, (va_T.moved ha h2).kept hq, (vk_S.moved ha h3).kept hq, fun q hq => (h4 q hq).warm hW, (va_Z.moved ha h5).kept hq, h6.imp (fun h => (va_Z.moved ha h).kept hq) (fun h => (va_Z.moved ha h).kept hq)⟩
theorem js_Env.call {G : js_G} {sh : List js_Shp} {s U : State} {H : Heap} {locs : List Loc} (h : js_Env G sh s) (hS : va_S (js_A G sh) s.heap H locs) (hU : U.heap = H) (hW : s.WarmedH U.vm) : js_Env G sh U := by
  obtain ⟨h1, h2, h3, h4⟩ := h
  refine ⟨va_K.moved hW.alike h1, js_nest_warm hW h2, h3, ?_⟩
  rw [hU]
  exact h4.moved hW hS.2.1
theorem js_Env.same {G : js_G} {sh : List js_Shp} {u U : State} (hv : U.vm = u.vm) (hh : U.heap = u.heap) (h : js_Env G sh u) : js_Env G sh U := by
  obtain ⟨h1, h2, h3, h4, h5, h6, h7, h8, h9⟩ := h
  have ha : u.vm.Alike U.vm := by rw [hv]; exact Vm.Alike.refl _
  refine ⟨va_K.moved ha h1, fun w hw => ?_, h3, ?_⟩
  · have h1 := h2 w hw
    simp only [js_nest, List.mem_cons, List.not_mem_nil, or_false] at hw
    rcases hw with rfl | rfl | rfl | rfl <;> exact va_Nw.same rfl hv.symm h1
  · rw [hh]
    exact ⟨va_Z.moved ha h4, va_T.moved ha h5, vk_S.moved ha h6, fun q hq => (h7 q hq).same hv, va_Z.moved ha h8, h9.imp (va_Z.moved ha) (va_Z.moved ha)⟩
/-- a method's frame in the machine -/
def js_Cx (G : js_G) (sh : List js_Shp) (mi : js_M) (p : Program) (s : State) (m : MethodId) (args : Array Value) (meth : Method) (c : Code) : Prop :=
  p.tables.exec = Jvm.exec ∧ c.code = js_c mi ∧ c.maxLocals = js_n mi ∧ s.vm.findClass (js_y mi).cls = some m.cls ∧ (∀ w ∈ js_good, w.before args s = true) ∧ meth.sig.returnType = js_r mi ∧ meth.locks = false ∧ js_Env G sh s
/-- how a method ends: its answer, the state behind it -/
def js_Q (G : js_G) (sh : List js_Shp) (ρ : Option Value × js_S) : Array Value → State → Outcome → State → Prop := fun _ st oc t =>
  (oc = .returned (ρ.1.map (js_tv G)) ∧ va_P (js_D G) vwCl (js_wl G sh ρ.2) t.heap) ∧ va_F (js_A G sh) st t
/-- from the frame on, the bytecode does what o says -/
def js_J (G : js_G) (sh : List js_Shp) (mi : js_M) {α : Type} (emb : α → Option Value × js_S) (pc : Nat) (lv : List (Option Value)) (st : List Value) (σ : js_S) (o : Option α) : Prop :=
  ∀ r, o = some r → ∀ (p : Program) (e : Env) (s : State) (m : MethodId) (args : Array Value) (below : List Frame) (meth : Method) (c : Code) (H : Heap) (locs : List Loc) (ls : Array Slot),
    js_Cx G sh mi p s m args meth c → lv_has ls (js_n mi) (js_lv G 0 lv) → va_P (js_D G) vwCl (js_wl G sh σ) H → va_S (js_A G sh) s.heap H locs →
    W p G.1 e (js_rm mi) s m args below meth c H locs 0 0 (MQ below (js_Q G sh (emb r)) args s 0 0 (js_A G sh)) (F0 m pc ls (st.map (js_tv G)))
def js_Con (G : js_G) (sh : List js_Shp) (mi : js_M) (as : List Value) (σ : js_S) (ρ : Option Value × js_S) : Prop :=
  Met G.1 (js_y mi) (js_ws mi) (js_rm mi) (va_Pc (as.map (js_tv G)) (fun U => va_P (js_D G) vwCl (js_wl G sh σ) U.heap ∧ js_Env G sh U)) (js_Q G sh ρ) 0 0 (js_A G sh)
theorem js_con {G : js_G} {sh : List js_Shp} {mi : js_M} {α : Type} {emb : α → Option Value × js_S} {lv : List (Option Value)} {as : List Value} {σ : js_S} {o : Option α} (n : Nat) (hy : plainName (js_y mi).cls = true) (hlv : js_args as ++ List.replicate n none = lv) (hlen : (lg_sl (as.map (js_tv G))).length ≤ js_n mi)
    (J : js_J G sh mi emb 0 lv [] σ o) (r : α) (ho : o = some r) : js_Con G sh mi as σ (emb r) := by
  refine Met.ofW (cc := js_c mi) (maxL := js_n mi) (ret := js_r mi) hy rfl ?_
  intro p e s m args below meth c s₁ B hml hv
  obtain ⟨rfl, hP, hE⟩ := hv
  have hts := atoms_spec (ws := js_ws mi) B.pre
  have hown : s.vm.findClass (js_y mi).cls = some m.cls := findClass_of_methodNamed B.named
  have hl := lv_entry (as.map (js_tv G)) (n := js_n mi) hlen
  rw [lg_entry_eq]
  generalize (lg_sl (as.map (js_tv G)) ++ List.replicate (js_n mi - (lg_sl (as.map (js_tv G))).length) Slot.unset).toArray = ls at hl ⊢
  refine J r ho p e s m _ below meth c s.heap [] ls ⟨B.exec, B.bytes, hml, hown, fun w hw => hts w (List.mem_cons_of_mem _ hw), B.returns, B.notSynchronized, hE⟩ (js_lv_sub hl fun k v h => ?_) hP va_S.rf
  rw [← hlv] at h
  have h2 := js_args_in (G := G) as 0 k n v h
  rwa [Nat.zero_add] at h2
section JR
variable {G : js_G} {sh : List js_Shp} {mi : js_M} {α : Type} {emb : α → Option Value × js_S} {pc : Nat} {lv : List (Option Value)} {st : List Value} {σ : js_S} {o : Option α}
theorem js_none : js_J G sh mi emb pc lv st σ none := fun r h => by cases h
theorem js_iconst {n : Int} {v : Int32} (hd : decode (js_c mi) pc = .ok (.iconst n, 1)) (hv : Int32.ofInt n = v) (k : js_J G sh mi emb (pc + 1) lv (.int v :: st) σ o) : js_J G sh mi emb pc lv st σ o :=
  fun r hr p e s m args below meth c H locs ls C hl hP hS => lv_iconst C.1 C.2.1 hd hv (k r hr p e s m args below meth c H locs ls C hl hP hS)
theorem js_bipush {n : Int} {v : Int32} (hd : decode (js_c mi) pc = .ok (.bipush n, 2)) (hv : (Int8.ofInt n).toInt32 = v) (k : js_J G sh mi emb (pc + 2) lv (.int v :: st) σ o) : js_J G sh mi emb pc lv st σ o :=
  fun r hr p e s m args below meth c H locs ls C hl hP hS => lv_bipush C.1 C.2.1 hd hv (k r hr p e s m args below meth c H locs ls C hl hP hS)
theorem js_sipush {n : Int} {v : Int32} (hd : decode (js_c mi) pc = .ok (.sipush n, 3)) (hv : (Int16.ofInt n).toInt32 = v) (k : js_J G sh mi emb (pc + 3) lv (.int v :: st) σ o) : js_J G sh mi emb pc lv st σ o :=
  fun r hr p e s m args below meth c H locs ls C hl hP hS => lv_sipush C.1 C.2.1 hd hv (k r hr p e s m args below meth c H locs ls C hl hP hS)
theorem js_lconst {n : Fin 2} {v : Int64} (hd : decode (js_c mi) pc = .ok (.lconst n, 1)) (hv : Int64.ofNat (n : Nat) = v) (k : js_J G sh mi emb (pc + 1) lv (.long v :: st) σ o) : js_J G sh mi emb pc lv st σ o :=
  fun r hr p e s m args below meth c H locs ls C hl hP hS => lv_lconst C.1 C.2.1 hd hv (k r hr p e s m args below meth c H locs ls C hl hP hS)
theorem js_ldc {i : Nat} {v : Int32} (hd : decode (js_c mi) pc = .ok (.ldc i, 2)) (hw : Cond.constant (js_y mi).cls i v ∈ js_good) (k : js_J G sh mi emb (pc + 2) lv (.int v :: st) σ o) : js_J G sh mi emb pc lv st σ o :=
  fun r hr p e s m args below meth c H locs ls C hl hP hS => lv_ldc C.1 C.2.1 C.2.2.2.1 (C.2.2.2.2.1 _ hw) hd (k r hr p e s m args below meth c H locs ls C hl hP hS)
theorem js_ldcw {i : Nat} {v : Int32} (hd : decode (js_c mi) pc = .ok (.ldc_w i, 3)) (hw : Cond.constant (js_y mi).cls i v ∈ js_good) (k : js_J G sh mi emb (pc + 3) lv (.int v :: st) σ o) : js_J G sh mi emb pc lv st σ o :=
  fun r hr p e s m args below meth c H locs ls C hl hP hS => lv_ldcw C.1 C.2.1 C.2.2.2.1 (C.2.2.2.2.1 _ hw) hd (k r hr p e s m args below meth c H locs ls C hl hP hS)
theorem js_ldc2 {i : Nat} {v : Int64} (hd : decode (js_c mi) pc = .ok (.ldc2_w i, 3)) (hw : Cond.constantLong (js_y mi).cls i v ∈ js_good) (k : js_J G sh mi emb (pc + 3) lv (.long v :: st) σ o) : js_J G sh mi emb pc lv st σ o :=
  fun r hr p e s m args below meth c H locs ls C hl hP hS => lv_ldc2 C.1 C.2.1 C.2.2.2.1 (C.2.2.2.2.1 _ hw) hd (k r hr p e s m args below meth c H locs ls C hl hP hS)
theorem js_iload_n {q : Fin 4} {i : Nat} {x : Int32} (hd : decode (js_c mi) pc = .ok (.iload_n q, 1)) (hi : (q : Nat) = i) (hl0 : lv[i]? = some (some (.int x))) (k : js_J G sh mi emb (pc + 1) lv (.int x :: st) σ o) : js_J G sh mi emb pc lv st σ o :=
  fun r hr p e s m args below meth c H locs ls C hl hP hS => lv_iload_n C.1 C.2.1 hd hi (js_lv_at hl hl0) (k r hr p e s m args below meth c H locs ls C hl hP hS)
theorem js_iload {i : Nat} {x : Int32} (hd : decode (js_c mi) pc = .ok (.iload i, 2)) (hl0 : lv[i]? = some (some (.int x))) (k : js_J G sh mi emb (pc + 2) lv (.int x :: st) σ o) : js_J G sh mi emb pc lv st σ o :=
  fun r hr p e s m args below meth c H locs ls C hl hP hS => lv_iload C.1 C.2.1 hd (js_lv_at hl hl0) (k r hr p e s m args below meth c H locs ls C hl hP hS)
theorem js_lload_n {q : Fin 4} {i : Nat} {x : Int64} (hd : decode (js_c mi) pc = .ok (.lload_n q, 1)) (hi : (q : Nat) = i) (hl0 : lv[i]? = some (some (.long x))) (k : js_J G sh mi emb (pc + 1) lv (.long x :: st) σ o) : js_J G sh mi emb pc lv st σ o :=
  fun r hr p e s m args below meth c H locs ls C hl hP hS => lv_lload_n C.1 C.2.1 hd hi (js_lv_at hl hl0) (k r hr p e s m args below meth c H locs ls C hl hP hS)
theorem js_lload {i : Nat} {x : Int64} (hd : decode (js_c mi) pc = .ok (.lload i, 2)) (hl0 : lv[i]? = some (some (.long x))) (k : js_J G sh mi emb (pc + 2) lv (.long x :: st) σ o) : js_J G sh mi emb pc lv st σ o :=
  fun r hr p e s m args below meth c H locs ls C hl hP hS => lv_lload C.1 C.2.1 hd (js_lv_at hl hl0) (k r hr p e s m args below meth c H locs ls C hl hP hS)
theorem js_aload_n {q : Fin 4} {i : Nat} {x : Nat} (hd : decode (js_c mi) pc = .ok (.aload_n q, 1)) (hi : (q : Nat) = i) (hl0 : lv[i]? = some (some (.ref x))) (k : js_J G sh mi emb (pc + 1) lv (.ref x :: st) σ o) : js_J G sh mi emb pc lv st σ o :=
  fun r hr p e s m args below meth c H locs ls C hl hP hS => lv_aload_n C.1 C.2.1 hd hi (js_lv_at hl hl0) (k r hr p e s m args below meth c H locs ls C hl hP hS)
theorem js_istore_n {q : Fin 4} {i : Nat} {x : Int32} {lv' : List (Option Value)} (hd : decode (js_c mi) pc = .ok (.istore_n q, 1)) (hi : (q : Nat) = i) (hn : Nat.ble (i + 1) (js_n mi) = true) (ho : js_ok lv i = true) (hl' : lv.set i (some (.int x)) = lv') (k : js_J G sh mi emb (pc + 1) lv' st σ o) : js_J G sh mi emb pc lv (.int x :: st) σ o :=
  fun r hr p e s m args below meth c H locs ls C hl hP hS => lv_istore_n C.1 C.2.1 hd hi hl (Nat.le_of_ble_eq_true hn) rfl fun ls' hl2 => k r hr p e s m args below meth c H locs ls' C (js_lv_sub hl2 (js_lv_set1 (x := .int x) ho hl')) hP hS
theorem js_istore {i : Nat} {x : Int32} {lv' : List (Option Value)} (hd : decode (js_c mi) pc = .ok (.istore i, 2)) (hn : Nat.ble (i + 1) (js_n mi) = true) (ho : js_ok lv i = true) (hl' : lv.set i (some (.int x)) = lv') (k : js_J G sh mi emb (pc + 2) lv' st σ o) : js_J G sh mi emb pc lv (.int x :: st) σ o :=
  fun r hr p e s m args below meth c H locs ls C hl hP hS => lv_istore C.1 C.2.1 hd hl (Nat.le_of_ble_eq_true hn) rfl fun ls' hl2 => k r hr p e s m args below meth c H locs ls' C (js_lv_sub hl2 (js_lv_set1 (x := .int x) ho hl')) hP hS
theorem js_lstore_n {q : Fin 4} {i : Nat} {x : Int64} {lv' : List (Option Value)} (hd : decode (js_c mi) pc = .ok (.lstore_n q, 1)) (hi : (q : Nat) = i) (hn : Nat.ble (i + 2) (js_n mi) = true) (ho : js_ok lv i = true) (hl' : (lv.set i (some (.long x))).set (i + 1) none = lv') (k : js_J G sh mi emb (pc + 1) lv' st σ o) : js_J G sh mi emb pc lv (.long x :: st) σ o :=
  fun r hr p e s m args below meth c H locs ls C hl hP hS => lv_lstore_n C.1 C.2.1 hd hi hl (Nat.le_of_ble_eq_true hn) rfl fun ls' hl2 => k r hr p e s m args below meth c H locs ls' C (js_lv_sub hl2 (js_lv_set2 (x := .long x) ho hl')) hP hS
theorem js_lstore {i : Nat} {x : Int64} {lv' : List (Option Value)} (hd : decode (js_c mi) pc = .ok (.lstore i, 2)) (hn : Nat.ble (i + 2) (js_n mi) = true) (ho : js_ok lv i = true) (hl' : (lv.set i (some (.long x))).set (i + 1) none = lv') (k : js_J G sh mi emb (pc + 2) lv' st σ o) : js_J G sh mi emb pc lv (.long x :: st) σ o :=
  fun r hr p e s m args below meth c H locs ls C hl hP hS => lv_lstore C.1 C.2.1 hd hl (Nat.le_of_ble_eq_true hn) rfl fun ls' hl2 => k r hr p e s m args below meth c H locs ls' C (js_lv_sub hl2 (js_lv_set2 (x := .long x) ho hl')) hP hS
theorem js_iinc {i : Nat} {n : Int} {x v : Int32} {lv' : List (Option Value)} (hd : decode (js_c mi) pc = .ok (.iinc i n, 3)) (hl0 : lv[i]? = some (some (.int x))) (hv : x + Int32.ofInt n = v) (hn : Nat.ble (i + 1) (js_n mi) = true) (ho : js_ok lv i = true) (hl' : lv.set i (some (.int v)) = lv') (k : js_J G sh mi emb (pc + 3) lv' st σ o) : js_J G sh mi emb pc lv st σ o :=
  fun r hr p e s m args below meth c H locs ls C hl hP hS => by
    obtain ⟨q, hq⟩ := List.getElem?_of_mem (js_lv_in (G := G) lv 0 i _ hl0)
    rw [Nat.zero_add] at hq
    exact lv_iinc C.1 C.2.1 hd hl hq hv (Nat.le_of_ble_eq_true hn) rfl fun ls' hl2 => k r hr p e s m args below meth c H locs ls' C (js_lv_sub hl2 (js_lv_set1 (x := .int v) ho hl')) hP hS
end JR
