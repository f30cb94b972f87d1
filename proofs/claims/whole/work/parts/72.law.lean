/-! THE LAW: its frame, its calls. The first rows are the skeleton's. -/
def R_law : String := "SootTalkLaw"
def lw_P (b : Addr) (xs : List Int32) (args : Array Value) (s : State) : Prop := args = #[.ref b] ∧ s.IntsAt b xs ∧ xs.length ≤ 3072 ∧ (Jvm.Cond.and given_1 narrow_1).before args s = true
def lw_Q (_ : Array Value) (s : State) (o : Outcome) (t : State) : Prop := o = .returned (some (.int 1)) ∧ Framed s o t [] 36 4598
def lw_Z (below : List Frame) (a : Array Value) (s : State) : State → Prop := fun t => ∃ o, t.status = .running ∧ Ended t below o ∧ lw_Q a s o t
/-- the law's own end, with 1 on the stack, nothing written that was there before, its room as the claim has it -/
theorem lw_ret {p : Program} {l : Launch} {e : Env} {s : State} {m : MethodId} {below : List Frame} {meth : Method} {c : Code} {b : Nat} (hx : p.tables.exec = Jvm.exec) (hb : c.code = code) (hr : meth.sig.returnType = ret) (hlocks : meth.locks = false) {pc : Nat} {H : Heap} {ls : Array Slot} (hdg : decode code pc = .ok (.ireturn, 1)) : W p l e room_1 s m #[Value.ref b] below meth c H [] 36 4598 (lw_Z below #[Value.ref b] s) (F0 m pc ls [.int 1]) := by
  intro T hT X
  obtain ⟨fs, hret, hrun, hended, hW, hframe⟩ := X.leave (v := some (.int 1)) (hlocks := hlocks) (fun h => by rw [hr] at h; cases h)
  have hmeth' : T.vm.method? m = some meth := X.method'
  refine ⟨T.setFrames fs, ?_, .returned (some (.int 1)), hrun, hended, rfl, ⟨_, rfl⟩, hW, hframe⟩
  jvm_step X.here [X.here.top, hx, hb, hdg, hmeth', hr, ret, narrow_b1]
  (try refine ⟨rfl, ?_⟩); (try refine ⟨rfl, ?_⟩)
  first | (intro acts; rw [hret _ acts rfl rfl rfl]) | rw [hret _ _ rfl rfl rfl]
  exact Steps.refl _
/-- what holds at the law's entry: the machine, the code, the tables' words (any of lw_tbl by 'hts w (by decide +kernel)'), the script of L ints xs at the cell b, what the Statement gives of the start (any of its parts by flat_of_before) -/
def lw_At (p : Program) (s : State) (m : MethodId) (meth : Method) (c : Code) (b L : Nat) (xs : Nat → Int32) : Prop :=
  p.tables.exec = Jvm.exec ∧ c.code = code ∧ meth.sig.returnType = ret ∧ c.maxLocals = 4 ∧ s.vm.findClass R_law = some m.cls ∧ (∀ w ∈ lw_tbl, w.before #[Value.ref b] s = true) ∧ va_X b L xs s s.heap ∧ b < s.heap.size ∧ meth.locks = false ∧ (Jvm.Cond.and given_1 narrow_1).before #[Value.ref b] s = true
section BL
variable {p : Program} {l : Launch} {e : Env} {s : State} {m : MethodId} {below : List Frame} {meth : Method} {c : Code} {H : Heap} {locs : List Loc} {Q : State → Prop} {b L : Nat} {xs : Nat → Int32} {dC : Nat → ClassId} {dI : Nat → Nat → Nat} {cI cL : ClassId} {ad : Nat → Nat} {sh : List js_Shp} {mj : js_M} {σ : js_S} {ρ : Option Value × js_S} {wo : va_W} {ls : Array Slot} {pc idx n ci N : Nat} {T : u_T} {fs : List (Option Nat)} {lv : List (Nat × Value)}
/-- a call of one side: its state goes on, the other side's cells stay -/
theorem bl_call (as rest : List Value) (C0 : lw_At p s m meth c b L xs) (hK : va_K (dC, dI) vwCl [(cI, .int), (cL, .long)] s) (hn : ∀ w ∈ js_nest, va_Nw w s) (hi : js_inj (l, dC, dI, cI, cL, ad) sh) (hst : js_Stat (l, dC, dI, cI, cL, ad) (bl_A s) s s.heap) (hin : ∀ q, js_A (l, dC, dI, cI, cL, ad) sh q → bl_A s q) (hdis : ∀ (k : Nat) (q : Nat × va_E), wo[k]? = some q → ¬ js_A (l, dC, dI, cI, cL, ad) sh q.1)
    (hP : va_P (dC, dI) vwCl (js_wl (l, dC, dI, cI, cL, ad) sh σ) H) (hPo : va_P (dC, dI) vwCl wo H) (hS : va_S (bl_A s) s.heap H locs) (hl : lv_has ls 4 lv)
    (hd : decode code pc = .ok (.invokevirtual idx, 3)) (hlk : Cond.methodLink RL idx (js_y mj) ∈ js_good) (hcm : js_Cm mj n) (hcv : js_Cv mj) (hR : (Nat.ble (js_fr mj + 1) 12 && Nat.ble (8 + (js_n mj + 11) + js_lo mj) 438) = true) (hlen : as.length = n) (hb0 : sh[0]? = some (.inr (.inr (ci, fs)))) (hci : vwCl[ci]? = some ((js_y mj).cls, T, N)) (hroom : Nat.ble (rest.map fun v => v.category).sum 8 = true)
    (has : as.map (js_tv (l, dC, dI, cI, cL, ad)) = as) (hM : js_Con (l, dC, dI, cI, cL, ad) sh mj (.ref 0 :: as) σ ρ)
    (k : ∀ (H1 : Heap) (locs1 : List Loc), va_P (dC, dI) vwCl (js_wl (l, dC, dI, cI, cL, ad) sh ρ.2) H1 → va_P (dC, dI) vwCl wo H1 → va_S (bl_A s) s.heap H1 locs1 → W p l e room_1 s m #[Value.ref b] below meth c H1 locs1 36 4598 Q (F0 m (pc + 3) ls ((ρ.1.map (js_tv (l, dC, dI, cI, cL, ad))).toList ++ rest))) :
    W p l e room_1 s m #[Value.ref b] below meth c H locs 36 4598 Q (F0 m pc ls (as.reverse ++ .ref (ad 0) :: rest)) := by
  have hts := bl_good C0.2.2.2.2.2.1
  rw [Bool.and_eq_true] at hR
  have hrun : va_Run p l e room_1 s m #[Value.ref b] below meth c H locs 36 4598 0 0 (F0 m pc ls (as.reverse ++ .ref (ad 0) :: rest)) rest (js_Q (l, dC, dI, cI, cL, ad) sh ρ (Value.ref (ad 0) :: as).toArray) (js_A (l, dC, dI, cI, cL, ad) sh) :=
    va_runV (As := as) (rest := rest) (b := ad 0) (C := (js_y mj).cls) (n := n) (own := RL) (cc := code) (nL := 4) (Ts := js_good) ⟨C0.1, C0.2.1, C0.2.2.2.1, C0.2.2.2.2.1, hts⟩ hM ⟨callB_of n hts (js_goodIn hcm) rfl rfl rfl (hts _ hcm.1) (hts _ hlk) hcm.2.2 ⟨Nat.le_of_ble_eq_true hR.1, Nat.le_of_ble_eq_true hR.2⟩, hts _ hcv.1, hts _ hcv.2⟩
      ⟨js_blind, va_recv hK hP hci (js_wl_at σ hb0), fun U hU hW => ⟨by rw [List.map_cons, has]; rfl, by rw [hU]; exact hP, va_K.moved hW.alike hK, js_nest_warm hW hn, hi, by rw [hU]; exact (hst.moved hW hS.2.1).narrow hin⟩⟩ rfl hlen hl.1 rfl (lv_room (Nat.le_of_ble_eq_true hroom)) hd ⟨Nat.le_refl _, Nat.le_refl _⟩
  intro T hT X
  obtain ⟨v, st₀, t, T', L', h0, X', hL, e1, e2, ⟨⟨hv, hp⟩, hz, hk⟩, stp⟩ := hrun T hT X
  cases hv
  rw [h0] at hz hk
  obtain ⟨t2, a1, b1⟩ := k T'.heap (locs ++ L') (by rw [e1]; exact hp) (hPo.kept fun k q hq => by rw [e1]; exact hk q.1 ((hPo k q hq).lt) (hdis k q hq)) ⟨Nat.le_trans hS.1 (by rw [e1]; exact hz), fun q h1 h2 => by rw [e1, hk q (Nat.lt_of_lt_of_le h1 hS.1) (fun z => h2 (hin q z))]; exact hS.2.1 q h1 h2, fun q hq => by
      rcases List.mem_append.mp hq with h | h
      · exact hS.2.2 q h
      · exact hin _ (hL q h)⟩ T' rfl X'
  exact ⟨t2, stp t2 a1, b1⟩
end BL
/-- all that stays while the law runs: machine, frame, script, classes, the addresses of both sides -/
abbrev bl_T : Type := Program × Launch × Env × State × MethodId × List Frame × Method × Code × Nat × Nat × (Nat → Int32) × (Nat → ClassId) × (Nat → Nat → Nat) × ClassId × ClassId × (Nat → Nat) × (Nat → Nat) × (State → Prop)
def bl_gC : bl_T → js_G
  | (_, l, _, _, _, _, _, _, _, _, _, dC, dI, cI, cL, aC, _, _) => (l, dC, dI, cI, cL, aC)
def bl_gM : bl_T → js_G
  | (_, l, _, _, _, _, _, _, _, _, _, dC, dI, cI, cL, _, aM, _) => (l, dC, dI, cI, cL, aM)
def bl_L : bl_T → Nat
  | (_, _, _, _, _, _, _, _, _, L, _, _, _, _, _, _, _, _) => L
def bl_xs : bl_T → Nat → Nat → Int32
  | (_, _, _, _, _, _, _, _, _, _, xs, _, _, _, _, _, _, _), k, j => xs (nI (k + j)).toNatClampNeg
/-- the law's loop stands at pc, its i is k, both sides hold the states σ and τ -/
def bl_I : bl_T → Nat → Nat → List Value → js_S → js_S → Prop
  | (p, l, e, s, m, below, meth, c, b, _, _, dC, dI, cI, cL, aC, aM, Q), pc, k, st, σ, τ => ∀ (H : Heap) (locs : List Loc) (ls : Array Slot), va_P (dC, dI) vwCl (js_wl (l, dC, dI, cI, cL, aC) shC σ) H → va_P (dC, dI) vwCl (js_wl (l, dC, dI, cI, cL, aM) shM τ) H → va_S (bl_A s) s.heap H locs → lv_has ls 4 [(0, .ref b), (1, .ref (aC 0)), (2, .ref (aM 0)), (3, .int (nI k))] → W p l e room_1 s m #[Value.ref b] below meth c H locs 36 4598 Q (F0 m pc ls st)
def bl_C : bl_T → Prop
  | (p, l, _, s, m, _, meth, c, b, L, xs, dC, dI, cI, cL, aC, aM, _) => lw_At p s m meth c b L xs ∧ va_K (dC, dI) vwCl [(cI, .int), (cL, .long)] s ∧ (∀ w ∈ js_nest, va_Nw w s) ∧ (js_inj (l, dC, dI, cI, cL, aC) shC ∧ js_Stat (l, dC, dI, cI, cL, aC) (bl_A s) s s.heap ∧ ∀ q, js_A (l, dC, dI, cI, cL, aC) shC q → bl_A s q) ∧ (js_inj (l, dC, dI, cI, cL, aM) shM ∧ js_Stat (l, dC, dI, cI, cL, aM) (bl_A s) s s.heap ∧ ∀ q, js_A (l, dC, dI, cI, cL, aM) shM q → bl_A s q) ∧ (∀ q, js_A (l, dC, dI, cI, cL, aC) shC q → ¬ js_A (l, dC, dI, cI, cL, aM) shM q) ∧ L ≤ 3072
theorem bl_wA {G : js_G} {sh : List js_Shp} {σ : js_S} (k : Nat) (q : Nat × va_E) (h : (js_wl G sh σ)[k]? = some q) : js_A G sh q.1 := by
  unfold js_wl at h
  rw [js_wF_at] at h
  cases hs : sh[k]? with
  | none => rw [hs] at h; cases h
  | some x =>
    rw [hs, Option.map_some] at h
    have := Option.some.inj h
    subst this
    exact ⟨k, (List.getElem?_eq_some_iff.mp hs).1, by simp⟩
section BR
variable {X : bl_T} {pc k n idx : Nat} {st rest stk : List Value} {σ τ σ' τ' : js_S} {mj : js_M} {v : Value}
theorem bl_callC (C : bl_C X) (as rest : List Value) (hd : decode code pc = .ok (.invokevirtual idx, 3)) (hlk : Cond.methodLink RL idx (js_y mj) ∈ js_good) (hcm : js_Cm mj n) (hcv : js_Cv mj) (hR : (Nat.ble (js_fr mj + 1) 12 && Nat.ble (8 + (js_n mj + 11) + js_lo mj) 438) = true) (hlen : as.length = n) (hy : (js_y mj).cls = RX7) (hroom : Nat.ble (rest.map fun v => v.category).sum 8 = true) (has : as.map (js_tv (bl_gC X)) = as) (hM : js_Con (bl_gC X) shC mj (.ref 0 :: as) σ (some v, σ')) (hv : js_tv (bl_gC X) v = v) (hst : stk = as.reverse ++ .ref (js_ad (bl_gC X) 0) :: rest)
    (kk : bl_I X (pc + 3) k (v :: rest) σ' τ) : bl_I X pc k stk σ τ := by
  subst hst
  obtain ⟨p, l, e, s, m, below, meth, c, b, L, xs, dC, dI, cI, cL, aC, aM, Q⟩ := X
  obtain ⟨C0, hK, hn, ⟨c1, c2, c3⟩, -, hx, -⟩ := C
  intro H locs ls hP hPo hS hl
  refine bl_call (ad := aC) (ci := 6) (T := TX7) (N := 10) as rest C0 hK hn c1 c2 c3 (fun i q hq z => hx _ z (bl_wA i q hq)) hP hPo hS hl hd hlk hcm hcv hR hlen rfl (by rw [hy]; rfl) hroom has hM (fun H1 locs1 hP1 hPo1 hS1 => ?_)
  have h := kk H1 locs1 ls hP1 hPo1 hS1 hl
  have hv : js_tv (l, dC, dI, cI, cL, aC) v = v := hv
  rw [Option.map_some, hv]
  exact h
theorem bl_callM (C : bl_C X) (as rest : List Value) (hd : decode code pc = .ok (.invokevirtual idx, 3)) (hlk : Cond.methodLink RL idx (js_y mj) ∈ js_good) (hcm : js_Cm mj n) (hcv : js_Cv mj) (hR : (Nat.ble (js_fr mj + 1) 12 && Nat.ble (8 + (js_n mj + 11) + js_lo mj) 438) = true) (hlen : as.length = n) (hy : (js_y mj).cls = RX8) (hroom : Nat.ble (rest.map fun v => v.category).sum 8 = true) (has : as.map (js_tv (bl_gM X)) = as) (hM : js_Con (bl_gM X) shM mj (.ref 0 :: as) τ (some v, τ')) (hv : js_tv (bl_gM X) v = v) (hst : stk = as.reverse ++ .ref (js_ad (bl_gM X) 0) :: rest)
    (kk : bl_I X (pc + 3) k (v :: rest) σ τ') : bl_I X pc k stk σ τ := by
  subst hst
  obtain ⟨p, l, e, s, m, below, meth, c, b, L, xs, dC, dI, cI, cL, aC, aM, Q⟩ := X
  obtain ⟨C0, hK, hn, -, ⟨c1, c2, c3⟩, hx, -⟩ := C
  intro H locs ls hPo hP hS hl
  refine bl_call (ad := aM) (ci := 7) (T := TX8) (N := 18) as rest C0 hK hn c1 c2 c3 (fun i q hq z => hx _ (bl_wA i q hq) z) hP hPo hS hl hd hlk hcm hcv hR hlen rfl (by rw [hy]; rfl) hroom has hM (fun H1 locs1 hP1 hPo1 hS1 => ?_)
  have h := kk H1 locs1 ls hPo1 hP1 hS1 hl
  have hv : js_tv (l, dC, dI, cI, cL, aM) v = v := hv
  rw [Option.map_some, hv]
  exact h
theorem bl_ldC (C : bl_C X) (d : decode code pc = .ok (.aload_n 1, 1)) (kk : bl_I X (pc + 1) k (.ref (js_ad (bl_gC X) 0) :: st) σ τ) : bl_I X pc k st σ τ := by
  obtain ⟨p, l, e, s, m, below, meth, c, b, L, xs, dC, dI, cI, cL, aC, aM, Q⟩ := X
  intro H locs ls hP hPo hS hl
  exact lv_aload_n C.1.1 C.1.2.1 d rfl (lv_at hl 1 rfl) (kk H locs ls hP hPo hS hl)
theorem bl_ldM (C : bl_C X) (d : decode code pc = .ok (.aload_n 2, 1)) (kk : bl_I X (pc + 1) k (.ref (js_ad (bl_gM X) 0) :: st) σ τ) : bl_I X pc k st σ τ := by
  obtain ⟨p, l, e, s, m, below, meth, c, b, L, xs, dC, dI, cI, cL, aC, aM, Q⟩ := X
  intro H locs ls hP hPo hS hl
  exact lv_aload_n C.1.1 C.1.2.1 d rfl (lv_at hl 2 rfl) (kk H locs ls hP hPo hS hl)
/-- script[i + j] -/
theorem bl_arg (C : bl_C X) (hk : k + 6 ≤ bl_L X) {z : Int} (j : Nat) (d0 : decode code pc = .ok (.aload_n 0, 1)) (d1 : decode code (pc + 1) = .ok (.iload_n 3, 1)) (d2 : decode code (pc + 1 + 1) = .ok (.iconst z, 1)) (hz : Int32.ofInt z = nI j) (hj : j < 6) (d3 : decode code (pc + 1 + 1 + 1) = .ok (.iadd, 1)) (d4 : decode code (pc + 1 + 1 + 1 + 1) = .ok (.iaload, 1))
    (kk : bl_I X (pc + 1 + 1 + 1 + 1 + 1) k (.int (bl_xs X k j) :: st) σ τ) : bl_I X pc k st σ τ := by
  obtain ⟨p, l, e, s, m, below, meth, c, b, L, xs, dC, dI, cI, cL, aC, aM, Q⟩ := X
  obtain ⟨C0, -, -, -, -, -, hL⟩ := C
  have hk : k + 6 ≤ L := hk
  intro H locs ls hP hPo hS hl
  refine lv_aload_n C0.1 C0.2.1 d0 rfl (lv_at hl 0 rfl) ?_
  refine lv_iload_n C0.1 C0.2.1 d1 rfl (lv_at hl 3 rfl) ?_
  refine lv_iconst C0.1 C0.2.1 d2 hz ?_
  refine lv_iadd C0.1 C0.2.1 d3 ?_
  rw [show nI k + nI j = nI (k + j) from nI_add k j]
  exact va_sld C0.1 C0.2.1 C0.2.2.2.2.2.2.1 C0.2.2.2.2.2.2.2.1 (Nat.not_le.mpr C0.2.2.2.2.2.2.2.1) hS (vp_in_nI (show k + j < L by omega) (by omega)) d4 (kk H locs ls hP hPo hS hl)
theorem bl_same (C : bl_C X) {r : Int32} {off : Int} (d : decode code pc = .ok (.if_icmp .eq off, 3)) (ht : (pc : Int) + off = ((1619 : Nat) : Int)) (kk : bl_I X 1619 k [] σ τ) : bl_I X pc k [.int r, .int r] σ τ := by
  obtain ⟨p, l, e, s, m, below, meth, c, b, L, xs, dC, dI, cI, cL, aC, aM, Q⟩ := X
  intro H locs ls hP hPo hS hl
  exact lv_icmp_eq C.1.1 C.1.2.1 d ht (fun _ => kk H locs ls hP hPo hS hl) (fun h => absurd rfl h)
theorem bl_cmp0 (r : Int64) : lg_cmp r r = 0 := (lg_cmp_eq r r).mpr rfl
theorem bl_sameL (C : bl_C X) {r : Int64} {off : Int} (d : decode code pc = .ok (.lcmp, 1)) (d1 : decode code (pc + 1) = .ok (.ifCond .eq off, 3)) (ht : ((pc + 1 : Nat) : Int) + off = ((1619 : Nat) : Int)) (kk : bl_I X 1619 k [] σ τ) : bl_I X pc k [.long r, .long r] σ τ := by
  obtain ⟨p, l, e, s, m, below, meth, c, b, L, xs, dC, dI, cI, cL, aC, aM, Q⟩ := X
  intro H locs ls hP hPo hS hl
  refine W.lcmp C.1.1 C.1.2.1 d ?_
  rw [bl_cmp0]
  exact lv_if_eq C.1.1 C.1.2.1 d1 ht (fun _ => kk H locs ls hP hPo hS hl) (fun h => absurd rfl h)
/-- ((long) a << 32) | (b & 0xFFFFFFFFL), where a stands on the stack and b is script[i + 4] -/
def bl_lg (a b : Int32) : Int64 := (a.toInt64 <<< ((32 : Int32).toInt64 &&& 63)) ||| (b.toInt64 &&& 4294967295)
theorem bl_i2l (C : bl_C X) {x : Int32} (d : decode code pc = .ok (.i2l, 1)) (kk : bl_I X (pc + 1) k (.long x.toInt64 :: st) σ τ) : bl_I X pc k (.int x :: st) σ τ := by
  obtain ⟨p, l, e, s, m, below, meth, c, b, L, xs, dC, dI, cI, cL, aC, aM, Q⟩ := X
  intro H locs ls hP hPo hS hl
  exact lv_i2l C.1.1 C.1.2.1 d rfl (kk H locs ls hP hPo hS hl)
theorem bl_shl (C : bl_C X) {x : Int64} (d : decode code pc = .ok (.bipush 32, 2)) (d1 : decode code (pc + 2) = .ok (.lshl, 1)) (kk : bl_I X (pc + 2 + 1) k (.long (x <<< ((32 : Int32).toInt64 &&& 63)) :: st) σ τ) : bl_I X pc k (.long x :: st) σ τ := by
  obtain ⟨p, l, e, s, m, below, meth, c, b, L, xs, dC, dI, cI, cL, aC, aM, Q⟩ := X
  intro H locs ls hP hPo hS hl
  refine lv_bipush (v := 32) C.1.1 C.1.2.1 d (by decide) ?_
  exact lv_lshl C.1.1 C.1.2.1 d1 rfl (kk H locs ls hP hPo hS hl)
theorem bl_low (C : bl_C X) {x y : Int64} (d : decode code pc = .ok (.ldc2_w 138, 3)) (hw : Cond.constantLong RL 138 4294967295 ∈ js_good) (d1 : decode code (pc + 3) = .ok (.land, 1)) (d2 : decode code (pc + 3 + 1) = .ok (.lor, 1)) (kk : bl_I X (pc + 3 + 1 + 1) k (.long (x ||| (y &&& 4294967295)) :: st) σ τ) : bl_I X pc k (.long y :: .long x :: st) σ τ := by
  obtain ⟨p, l, e, s, m, below, meth, c, b, L, xs, dC, dI, cI, cL, aC, aM, Q⟩ := X
  intro H locs ls hP hPo hS hl
  refine lv_ldc2 (own := RL) C.1.1 C.1.2.1 C.1.2.2.2.2.1 (bl_good C.1.2.2.2.2.2.1 _ hw) d ?_
  refine lv_land C.1.1 C.1.2.1 d1 ?_
  exact lv_lor C.1.1 C.1.2.1 d2 (kk H locs ls hP hPo hS hl)
end BR
