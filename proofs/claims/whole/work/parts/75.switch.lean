/-! THE LAW: switch, loop, beginning -/
section BS
variable {X : bl_T} {pc k : Nat} {st : List Value} {σ τ : js_S}
theorem bl_tabI (C : bl_C X) {x : Int32} (z : Int32) {dflt lo hi off : Int} {offs : Array Int} {len : Nat} (tgt : Nat) (hd : decode code pc = .ok (.tableswitch dflt lo hi offs, len)) (hx : x = z) (h : (decide (¬ z.toInt < lo) && decide (¬ hi < z.toInt) && decide (offs[(z.toInt - lo).toNat]? = some off) && decide ((pc : Int) + off = (tgt : Int))) = true) (kk : bl_I X tgt k st σ τ) : bl_I X pc k (.int x :: st) σ τ := by
  subst hx
  simp only [Bool.and_eq_true, decide_eq_true_eq] at h
  obtain ⟨p, l, e, s, m, below, meth, c, b, L, xs, dC, dI, cI, cL, aC, aM, Q⟩ := X
  intro H locs ls hP hPo hS hl
  exact lv_tableIn C.1.1 C.1.2.1 hd h.1.1.1 h.1.1.2 h.1.2 h.2 (kk H locs ls hP hPo hS hl)
theorem bl_tabO (C : bl_C X) {x : Int32} {dflt lo hi : Int} {offs : Array Int} {len : Nat} (tgt : Nat) (hd : decode code pc = .ok (.tableswitch dflt lo hi offs, len)) (hx : x.toInt < lo ∨ hi < x.toInt) (ht : (pc : Int) + dflt = (tgt : Int)) (kk : bl_I X tgt k st σ τ) : bl_I X pc k (.int x :: st) σ τ := by
  obtain ⟨p, l, e, s, m, below, meth, c, b, L, xs, dC, dI, cI, cL, aC, aM, Q⟩ := X
  intro H locs ls hP hPo hS hl
  exact lv_tableOut C.1.1 C.1.2.1 hd hx ht (kk H locs ls hP hPo hS hl)
set_option maxRecDepth 20000 in
theorem bl_switch (C : bl_C X) (hk : k + 6 ≤ bl_L X) (h : pv_R σ τ) (kk : ∀ σ2 τ2, pv_R σ2 τ2 → bl_I X 1619 k [] σ2 τ2) (z : Int32) : bl_I X 33 k [.int z] σ τ := by
  by_cases h0 : z = 0
  · exact bl_tabI C 0 (off := 175) 208 dL_law_33 h0 (by decide) (bl_k0 C hk h kk)
  by_cases h1 : z = 1
  · exact bl_tabI C 1 (off := 198) 231 dL_law_33 h1 (by decide) (bl_k1 C hk h kk)
  by_cases h2 : z = 2
  · exact bl_tabI C 2 (off := 231) 264 dL_law_33 h2 (by decide) (bl_k2 C hk h kk)
  by_cases h3 : z = 3
  · exact bl_tabI C 3 (off := 274) 307 dL_law_33 h3 (by decide) (bl_k3 C hk h kk)
  by_cases h4 : z = 4
  · exact bl_tabI C 4 (off := 327) 360 dL_law_33 h4 (by decide) (bl_k4 C hk h kk)
  by_cases h5 : z = 5
  · exact bl_tabI C 5 (off := 360) 393 dL_law_33 h5 (by decide) (bl_k5 C hk h kk)
  by_cases h6 : z = 6
  · exact bl_tabI C 6 (off := 393) 426 dL_law_33 h6 (by decide) (bl_k6 C hk h kk)
  by_cases h7 : z = 7
  · exact bl_tabI C 7 (off := 416) 449 dL_law_33 h7 (by decide) (bl_k7 C hk h kk)
  by_cases h8 : z = 8
  · exact bl_tabI C 8 (off := 459) 492 dL_law_33 h8 (by decide) (bl_k8 C hk h kk)
  by_cases h9 : z = 9
  · exact bl_tabI C 9 (off := 502) 535 dL_law_33 h9 (by decide) (bl_k9 C hk h kk)
  by_cases h10 : z = 10
  · exact bl_tabI C 10 (off := 555) 588 dL_law_33 h10 (by decide) (bl_k10 C hk h kk)
  by_cases h11 : z = 11
  · exact bl_tabI C 11 (off := 578) 611 dL_law_33 h11 (by decide) (bl_k11 C hk h kk)
  by_cases h12 : z = 12
  · exact bl_tabI C 12 (off := 601) 634 dL_law_33 h12 (by decide) (bl_k12 C hk h kk)
  by_cases h13 : z = 13
  · exact bl_tabI C 13 (off := 644) 677 dL_law_33 h13 (by decide) (bl_k13 C hk h kk)
  by_cases h14 : z = 14
  · exact bl_tabI C 14 (off := 687) 720 dL_law_33 h14 (by decide) (bl_k14 C hk h kk)
  by_cases h15 : z = 15
  · exact bl_tabI C 15 (off := 740) 773 dL_law_33 h15 (by decide) (bl_k15 C hk h kk)
  by_cases h16 : z = 16
  · exact bl_tabI C 16 (off := 793) 826 dL_law_33 h16 (by decide) (bl_k16 C hk h kk)
  by_cases h17 : z = 17
  · exact bl_tabI C 17 (off := 836) 869 dL_law_33 h17 (by decide) (bl_k17 C hk h kk)
  by_cases h18 : z = 18
  · exact bl_tabI C 18 (off := 879) 912 dL_law_33 h18 (by decide) (bl_k18 C hk h kk)
  by_cases h19 : z = 19
  · exact bl_tabI C 19 (off := 922) 955 dL_law_33 h19 (by decide) (bl_k19 C hk h kk)
  by_cases h20 : z = 20
  · exact bl_tabI C 20 (off := 955) 988 dL_law_33 h20 (by decide) (bl_k20 C hk h kk)
  by_cases h21 : z = 21
  · exact bl_tabI C 21 (off := 978) 1011 dL_law_33 h21 (by decide) (bl_k21 C hk h kk)
  by_cases h22 : z = 22
  · exact bl_tabI C 22 (off := 1021) 1054 dL_law_33 h22 (by decide) (bl_k22 C hk h kk)
  by_cases h23 : z = 23
  · exact bl_tabI C 23 (off := 1064) 1097 dL_law_33 h23 (by decide) (bl_k23 C hk h kk)
  by_cases h24 : z = 24
  · exact bl_tabI C 24 (off := 1107) 1140 dL_law_33 h24 (by decide) (bl_k24 C hk h kk)
  by_cases h25 : z = 25
  · exact bl_tabI C 25 (off := 1140) 1173 dL_law_33 h25 (by decide) (bl_k25 C hk h kk)
  by_cases h26 : z = 26
  · exact bl_tabI C 26 (off := 1163) 1196 dL_law_33 h26 (by decide) (bl_k26 C hk h kk)
  by_cases h27 : z = 27
  · exact bl_tabI C 27 (off := 1196) 1229 dL_law_33 h27 (by decide) (bl_k27 C h kk)
  by_cases h28 : z = 28
  · exact bl_tabI C 28 (off := 1209) 1242 dL_law_33 h28 (by decide) (bl_k28 C h kk)
  by_cases h29 : z = 29
  · exact bl_tabI C 29 (off := 1222) 1255 dL_law_33 h29 (by decide) (bl_k29 C hk h kk)
  by_cases h30 : z = 30
  · exact bl_tabI C 30 (off := 1265) 1298 dL_law_33 h30 (by decide) (bl_k30 C hk h kk)
  by_cases h31 : z = 31
  · exact bl_tabI C 31 (off := 1339) 1372 dL_law_33 h31 (by decide) (bl_k31 C hk h kk)
  by_cases h32 : z = 32
  · exact bl_tabI C 32 (off := 1402) 1435 dL_law_33 h32 (by decide) (bl_k32 C hk h kk)
  by_cases h33 : z = 33
  · exact bl_tabI C 33 (off := 1435) 1468 dL_law_33 h33 (by decide) (bl_k33 C hk h kk)
  by_cases h34 : z = 34
  · exact bl_tabI C 34 (off := 1468) 1501 dL_law_33 h34 (by decide) (bl_k34 C hk h kk)
  by_cases h35 : z = 35
  · exact bl_tabI C 35 (off := 1501) 1534 dL_law_33 h35 (by decide) (bl_k35 C h kk)
  by_cases h36 : z = 36
  · exact bl_tabI C 36 (off := 1514) 1547 dL_law_33 h36 (by decide) (bl_k36 C h kk)
  by_cases h37 : z = 37
  · exact bl_tabI C 37 (off := 1527) 1560 dL_law_33 h37 (by decide) (bl_k37 C h kk)
  by_cases h38 : z = 38
  · exact bl_tabI C 38 (off := 1540) 1573 dL_law_33 h38 (by decide) (bl_k38 C hk h kk)
  by_cases h39 : z = 39
  · exact bl_tabI C 39 (off := 1563) 1596 dL_law_33 h39 (by decide) (bl_k39 C hk h kk)
  have e0 := lv_neT h0 (k := (0 : Int32)) (a := 0) (by decide)
  have e1 := lv_neT h1 (k := (1 : Int32)) (a := 1) (by decide)
  have e2 := lv_neT h2 (k := (2 : Int32)) (a := 2) (by decide)
  have e3 := lv_neT h3 (k := (3 : Int32)) (a := 3) (by decide)
  have e4 := lv_neT h4 (k := (4 : Int32)) (a := 4) (by decide)
  have e5 := lv_neT h5 (k := (5 : Int32)) (a := 5) (by decide)
  have e6 := lv_neT h6 (k := (6 : Int32)) (a := 6) (by decide)
  have e7 := lv_neT h7 (k := (7 : Int32)) (a := 7) (by decide)
  have e8 := lv_neT h8 (k := (8 : Int32)) (a := 8) (by decide)
  have e9 := lv_neT h9 (k := (9 : Int32)) (a := 9) (by decide)
  have e10 := lv_neT h10 (k := (10 : Int32)) (a := 10) (by decide)
  have e11 := lv_neT h11 (k := (11 : Int32)) (a := 11) (by decide)
  have e12 := lv_neT h12 (k := (12 : Int32)) (a := 12) (by decide)
  have e13 := lv_neT h13 (k := (13 : Int32)) (a := 13) (by decide)
  have e14 := lv_neT h14 (k := (14 : Int32)) (a := 14) (by decide)
  have e15 := lv_neT h15 (k := (15 : Int32)) (a := 15) (by decide)
  have e16 := lv_neT h16 (k := (16 : Int32)) (a := 16) (by decide)
  have e17 := lv_neT h17 (k := (17 : Int32)) (a := 17) (by decide)
  have e18 := lv_neT h18 (k := (18 : Int32)) (a := 18) (by decide)
  have e19 := lv_neT h19 (k := (19 : Int32)) (a := 19) (by decide)
  have e20 := lv_neT h20 (k := (20 : Int32)) (a := 20) (by decide)
  have e21 := lv_neT h21 (k := (21 : Int32)) (a := 21) (by decide)
  have e22 := lv_neT h22 (k := (22 : Int32)) (a := 22) (by decide)
  have e23 := lv_neT h23 (k := (23 : Int32)) (a := 23) (by decide)
  have e24 := lv_neT h24 (k := (24 : Int32)) (a := 24) (by decide)
  have e25 := lv_neT h25 (k := (25 : Int32)) (a := 25) (by decide)
  have e26 := lv_neT h26 (k := (26 : Int32)) (a := 26) (by decide)
  have e27 := lv_neT h27 (k := (27 : Int32)) (a := 27) (by decide)
  have e28 := lv_neT h28 (k := (28 : Int32)) (a := 28) (by decide)
  have e29 := lv_neT h29 (k := (29 : Int32)) (a := 29) (by decide)
  have e30 := lv_neT h30 (k := (30 : Int32)) (a := 30) (by decide)
  have e31 := lv_neT h31 (k := (31 : Int32)) (a := 31) (by decide)
  have e32 := lv_neT h32 (k := (32 : Int32)) (a := 32) (by decide)
  have e33 := lv_neT h33 (k := (33 : Int32)) (a := 33) (by decide)
  have e34 := lv_neT h34 (k := (34 : Int32)) (a := 34) (by decide)
  have e35 := lv_neT h35 (k := (35 : Int32)) (a := 35) (by decide)
  have e36 := lv_neT h36 (k := (36 : Int32)) (a := 36) (by decide)
  have e37 := lv_neT h37 (k := (37 : Int32)) (a := 37) (by decide)
  have e38 := lv_neT h38 (k := (38 : Int32)) (a := 38) (by decide)
  have e39 := lv_neT h39 (k := (39 : Int32)) (a := 39) (by decide)
  exact bl_tabO C 1619 dL_law_33 (by omega) rfl (kk σ τ h)
end BS
