def fX8_in (a0 : Int64) (a2 : Int64) (a4 : Int64) : Int32 := (if (lg_cmp a0 a2) < 0 then (0 : Int32) else (if 0 < (lg_cmp a0 a4) then (0 : Int32) else (1 : Int32)))
set_option maxRecDepth 10000 in
theorem jX8_in (G : js_G) (a0 : Int64) (a2 : Int64) (a4 : Int64) (σ : js_S) : js_J G shM mX8_in (js_eI σ) 0 [some (.long a0), none, some (.long a2), none, some (.long a4), none] [] σ (some (fX8_in a0 a2 a4)) := by
  unfold fX8_in
  refine js_lload_n dX8_in_0 rfl rfl ?_
  refine js_lload_n dX8_in_1 rfl rfl ?_
  refine js_lcmp dX8_in_2 ?_
  refine js_pi ?_
  refine js_if_lt 17 dX8_in_3 rfl ?_ ?_
  · refine js_iconst dX8_in_17 ki_0 ?_
    exact js_zret dX8_in_18 rfl nb_0.1 rfl
  · refine js_lload_n dX8_in_6 rfl rfl ?_
    refine js_lload dX8_in_7 rfl ?_
    refine js_lcmp dX8_in_9 ?_
    refine js_pi ?_
    refine js_if_gt 17 dX8_in_10 rfl ?_ ?_
    · refine js_iconst dX8_in_17 ki_0 ?_
      exact js_zret dX8_in_18 rfl nb_0.1 rfl
    · refine js_iconst dX8_in_13 ki_1 ?_
      refine js_goto 18 dX8_in_14 rfl ?_
      exact js_zret dX8_in_18 rfl nb_1.1 rfl

theorem qX8_in (G : js_G) (a0 : Int64) (a2 : Int64) (a4 : Int64) (σ : js_S) : js_Con G shM mX8_in [(.long a0), (.long a2), (.long a4)] σ (some (.int (fX8_in a0 a2 a4)), σ) := js_con (mi := mX8_in) (emb := (js_eI σ)) 0 pn_X8 rfl (Nat.le_of_ble_eq_true rfl) (jX8_in G a0 a2 a4 σ) _ rfl
theorem zX8_in (a0 : Int64) (a2 : Int64) (a4 : Int64) : fX8_in a0 a2 a4 = 0 ∨ fX8_in a0 a2 a4 = 1 := by
  unfold fX8_in
  repeat' split
  all_goals first | exact Or.inl rfl | exact Or.inr rfl
def fX8_isKind (a0 : Int32) : Int32 := (fX8_in (Int32.toInt64 a0) (0 : Int64) (5 : Int64))
set_option maxRecDepth 10000 in
theorem jX8_isKind (G : js_G) (a0 : Int32) (σ : js_S) : js_J G shM mX8_isKind (js_eI σ) 0 [some (.int a0)] [] σ (some (fX8_isKind a0)) := by
  unfold fX8_isKind
  refine js_iload_n dX8_isKind_0 rfl rfl ?_
  refine js_i2l dX8_isKind_1 ?_
  refine js_lconst dX8_isKind_2 kl_0 ?_
  refine js_ldc2 dX8_isKind_3 tw_859 ?_
  refine js_callS_P (mj := mX8_in) [(.long (Int32.toInt64 a0)), (.long (0 : Int64)), (.long (5 : Int64))] [] dX8_isKind_6 tw_860 cm_X8_in tw_861 rfl rfl rfl rfl (qX8_in G (Int32.toInt64 a0) (0 : Int64) (5 : Int64) σ) ?_
  exact js_zret dX8_isKind_9 rfl (js_nb (zX8_in (Int32.toInt64 a0) (0 : Int64) (5 : Int64))) rfl

theorem qX8_isKind (G : js_G) (a0 : Int32) (σ : js_S) : js_Con G shM mX8_isKind [(.int a0)] σ (some (.int (fX8_isKind a0)), σ) := js_con (mi := mX8_isKind) (emb := (js_eI σ)) 0 pn_X8 rfl (Nat.le_of_ble_eq_true rfl) (jX8_isKind G a0 σ) _ rfl
theorem zX8_isKind (a0 : Int32) : fX8_isKind a0 = 0 ∨ fX8_isKind a0 = 1 := by
  unfold fX8_isKind
  repeat' split
  all_goals first | exact Or.inl rfl | exact Or.inr rfl | exact zX8_in _ _ _
def fX8_place (a0 : Int32) (a1 : Int32) : Int32 := (((8 : Int32) * a0) + a1)
set_option maxRecDepth 10000 in
theorem jX8_place (G : js_G) (a0 : Int32) (a1 : Int32) (σ : js_S) : js_J G shM mX8_place (js_eI σ) 0 [some (.int a0), some (.int a1)] [] σ (some (fX8_place a0 a1)) := by
  unfold fX8_place
  refine js_bipush dX8_place_0 kb_8 ?_
  refine js_iload_n dX8_place_2 rfl rfl ?_
  refine js_imul dX8_place_3 ?_
  refine js_iload_n dX8_place_4 rfl rfl ?_
  refine js_iadd dX8_place_5 ?_
  exact js_iret dX8_place_6 rfl rfl

theorem qX8_place (G : js_G) (a0 : Int32) (a1 : Int32) (σ : js_S) : js_Con G shM mX8_place [(.int a0), (.int a1)] σ (some (.int (fX8_place a0 a1)), σ) := js_con (mi := mX8_place) (emb := (js_eI σ)) 0 pn_X8 rfl (Nat.le_of_ble_eq_true rfl) (jX8_place G a0 a1 σ) _ rfl
def fX8_adds_L18 (p2 : Int32) : Nat → Int32 → js_S → Option (Int32 × js_S)
  | 0, _, _ => none
  | n + 1, v3, σ => (if (8 : Int32) ≤ v3 then js_gd (js_ix (0 : Int32) 633) (js_gd (js_ix (0 : Int32) 633) (some (p2, (js_sI σ 1 (Int32.toNatClampNeg (0 : Int32)) ((σ.1 1 (Int32.toNatClampNeg (0 : Int32))) + (1 : Int32)))))) else js_gd (js_ix ((9 : Int32) + (fX8_place p2 v3)) 633) (fX8_adds_L18 p2 n (v3 + (1 : Int32)) (js_sI σ 1 (Int32.toNatClampNeg ((9 : Int32) + (fX8_place p2 v3))) (0 : Int32))))
set_option maxRecDepth 10000 in
theorem jX8_adds_L18 (G : js_G) (p2 : Int32) : ∀ (n : Nat) (v3 : Int32) (σ : js_S), js_J G shM mX8_adds js_eW 18 [some (.ref 0), none, some (.int p2), some (.int v3)] [] σ (fX8_adds_L18 p2 n v3 σ) := by
  intro n
  induction n with
  | zero =>
    intros
    exact js_none
  | succ n ih1 =>
    intro v3 σ
    rw [fX8_adds_L18]
    refine js_iload_n dX8_adds_18 rfl rfl ?_
    refine js_bipush dX8_adds_19 kb_8 ?_
    refine js_icmp_ge 44 dX8_adds_21 rfl ?_ ?_
    · refine js_aload_n dX8_adds_44 rfl rfl ?_
      refine js_getR dX8_adds_45 fl_X8_7 rfl rfl ?_
      refine js_iconst dX8_adds_48 ki_0 ?_
      refine js_dup2 dX8_adds_49 rfl rfl ?_
      refine js_iald dX8_adds_50 rfl ?_
      refine js_iconst dX8_adds_51 ki_1 ?_
      refine js_iadd dX8_adds_52 ?_
      refine js_iast dX8_adds_53 rfl ?_
      refine js_iload_n dX8_adds_54 rfl rfl ?_
      exact js_iret dX8_adds_55 rfl rfl
    · refine js_aload_n dX8_adds_24 rfl rfl ?_
      refine js_getR dX8_adds_25 fl_X8_7 rfl rfl ?_
      refine js_bipush dX8_adds_28 kb_9 ?_
      refine js_iload_n dX8_adds_30 rfl rfl ?_
      refine js_iload_n dX8_adds_31 rfl rfl ?_
      refine js_callS_P (mj := mX8_place) [(.int p2), (.int v3)] [(.int (9 : Int32)), (.ref 1)] dX8_adds_32 tw_873 cm_X8_place tw_874 rfl rfl rfl rfl (qX8_place G p2 v3 σ) ?_
      refine js_iadd dX8_adds_35 ?_
      refine js_iconst dX8_adds_36 ki_0 ?_
      refine js_iast dX8_adds_37 rfl ?_
      refine js_iinc (v := (v3 + (1 : Int32))) (lv' := [some (.ref 0), none, some (.int p2), some (.int (v3 + (1 : Int32)))]) dX8_adds_38 rfl (kx_1 _) rfl rfl rfl ?_
      refine js_goto 18 dX8_adds_41 rfl ?_
      exact ih1 (v3 + (1 : Int32)) (js_sI σ 1 (Int32.toNatClampNeg ((9 : Int32) + (fX8_place p2 v3))) (0 : Int32))

def fX8_adds (a1 : Int32) (σ : js_S) : Option (Int32 × js_S) := js_gd (js_ix (0 : Int32) 633) (js_gd (js_ix ((3 : Int32) + (σ.1 1 (Int32.toNatClampNeg (0 : Int32)))) 633) (fX8_adds_L18 (σ.1 1 (Int32.toNatClampNeg (0 : Int32))) js_FU (0 : Int32) (js_sI σ 1 (Int32.toNatClampNeg ((3 : Int32) + (σ.1 1 (Int32.toNatClampNeg (0 : Int32))))) a1)))
set_option maxRecDepth 10000 in
theorem jX8_adds (G : js_G) (a1 : Int32) (σ : js_S) : js_J G shM mX8_adds js_eW 0 [some (.ref 0), some (.int a1), none, none] [] σ (fX8_adds a1 σ) := by
  unfold fX8_adds
  refine js_aload_n dX8_adds_0 rfl rfl ?_
  refine js_getR dX8_adds_1 fl_X8_7 rfl rfl ?_
  refine js_iconst dX8_adds_4 ki_0 ?_
  refine js_iald dX8_adds_5 rfl ?_
  refine js_istore_n (lv' := [some (.ref 0), some (.int a1), some (.int (σ.1 1 (Int32.toNatClampNeg (0 : Int32)))), none]) dX8_adds_6 rfl rfl rfl rfl ?_
  refine js_aload_n dX8_adds_7 rfl rfl ?_
  refine js_getR dX8_adds_8 fl_X8_7 rfl rfl ?_
  refine js_iconst dX8_adds_11 ki_3 ?_
  refine js_iload_n dX8_adds_12 rfl rfl ?_
  refine js_iadd dX8_adds_13 ?_
  refine js_iload_n dX8_adds_14 rfl rfl ?_
  refine js_iast dX8_adds_15 rfl ?_
  refine js_iconst dX8_adds_16 ki_0 ?_
  refine js_istore_n (lv' := [some (.ref 0), some (.int a1), some (.int (σ.1 1 (Int32.toNatClampNeg (0 : Int32)))), some (.int (0 : Int32))]) dX8_adds_17 rfl rfl rfl rfl ?_
  refine js_drop [true, false, true, true] (lv2 := [some (.ref 0), none, some (.int (σ.1 1 (Int32.toNatClampNeg (0 : Int32)))), some (.int (0 : Int32))]) rfl ?_
  exact jX8_adds_L18 G (σ.1 1 (Int32.toNatClampNeg (0 : Int32)))  _ (0 : Int32) (js_sI σ 1 (Int32.toNatClampNeg ((3 : Int32) + (σ.1 1 (Int32.toNatClampNeg (0 : Int32))))) a1)

theorem qX8_adds (G : js_G) (a1 : Int32) (σ : js_S) (r : (Int32 × js_S)) (h : fX8_adds a1 σ = some r) : js_Con G shM mX8_adds [(.ref 0), (.int a1)] σ (js_eW r) := js_con (mi := mX8_adds) 2 pn_X8 rfl (Nat.le_of_ble_eq_true rfl) (jX8_adds G a1 σ) r h
def fX8_finds (a1 : Int32) (σ : js_S) : Option (Int32 × js_S) := js_gd (js_ix ((-1000000001 : Int32) - a1) 7) (js_gd (js_ix ((-1000000001 : Int32) - a1) 7) (some (a1, (js_sI σ 5 (Int32.toNatClampNeg ((-1000000001 : Int32) - a1)) ((σ.1 5 (Int32.toNatClampNeg ((-1000000001 : Int32) - a1))) + (1 : Int32))))))
set_option maxRecDepth 10000 in
theorem jX8_finds (G : js_G) (a1 : Int32) (σ : js_S) : js_J G shM mX8_finds js_eW 0 [some (.ref 0), some (.int a1)] [] σ (fX8_finds a1 σ) := by
  unfold fX8_finds
  refine js_aload_n dX8_finds_0 rfl rfl ?_
  refine js_getR dX8_finds_1 fl_X8_22 rfl rfl ?_
  refine js_ldc dX8_finds_4 tw_863 ?_
  refine js_iload_n dX8_finds_6 rfl rfl ?_
  refine js_isub dX8_finds_7 ?_
  refine js_dup2 dX8_finds_8 rfl rfl ?_
  refine js_iald dX8_finds_9 rfl ?_
  refine js_iconst dX8_finds_10 ki_1 ?_
  refine js_iadd dX8_finds_11 ?_
  refine js_iast dX8_finds_12 rfl ?_
  refine js_iload_n dX8_finds_13 rfl rfl ?_
  exact js_iret dX8_finds_14 rfl rfl

theorem qX8_finds (G : js_G) (a1 : Int32) (σ : js_S) (r : (Int32 × js_S)) (h : fX8_finds a1 σ = some r) : js_Con G shM mX8_finds [(.ref 0), (.int a1)] σ (js_eW r) := js_con (mi := mX8_finds) 0 pn_X8 rfl (Nat.le_of_ble_eq_true rfl) (jX8_finds G a1 σ) r h
def fX8_flue (a1 : Int32) (σ : js_S) : Option (Int32 × js_S) := (if (fX8_isKind a1) = 0 then (fX8_finds (-1000000001 : Int32) σ).bind fun r3 => some (r3.1, r3.2) else js_gd (js_ix (0 : Int32) 633) ((if (σ.1 1 (Int32.toNatClampNeg (0 : Int32))) = (6 : Int32) then (fX8_finds (-1000000002 : Int32) σ).bind fun r2 => some (r2.1, r2.2) else (fX8_adds a1 σ).bind fun r1 => some (r1.1, r1.2))))
set_option maxRecDepth 10000 in
theorem jX8_flue (G : js_G) (a1 : Int32) (σ : js_S) : js_J G shM mX8_flue js_eW 0 [some (.ref 0), some (.int a1)] [] σ (fX8_flue a1 σ) := by
  unfold fX8_flue
  refine js_iload_n dX8_flue_0 rfl rfl ?_
  refine js_callS_P (mj := mX8_isKind) [(.int a1)] [] dX8_flue_1 tw_856 cm_X8_isKind tw_857 rfl rfl rfl rfl (qX8_isKind G a1 σ) ?_
  refine js_if_ne 14 dX8_flue_4 rfl ?_ ?_
  · refine js_aload_n dX8_flue_14 rfl rfl ?_
    refine js_getR dX8_flue_15 fl_X8_7 rfl rfl ?_
    refine js_iconst dX8_flue_18 ki_0 ?_
    refine js_iald dX8_flue_19 rfl ?_
    refine js_bipush dX8_flue_20 kb_6 ?_
    refine js_icmp_ne 34 dX8_flue_22 rfl ?_ ?_
    · refine js_aload_n dX8_flue_34 rfl rfl ?_
      refine js_iload_n dX8_flue_35 rfl rfl ?_
      refine js_callV_W (mj := mX8_adds) [(.int a1)] [] dX8_flue_36 tw_869 cm_X8_adds cv_X8_adds rfl rfl rfl rfl rfl rfl (fun r h => qX8_adds G a1 σ r h) (fun r1 => ?_)
      exact js_iret dX8_flue_39 rfl rfl
    · refine js_aload_n dX8_flue_25 rfl rfl ?_
      refine js_ldc dX8_flue_26 tw_868 ?_
      refine js_callV_W (mj := mX8_finds) [(.int (-1000000002 : Int32))] [] dX8_flue_28 tw_864 cm_X8_finds cv_X8_finds rfl rfl rfl rfl rfl rfl (fun r h => qX8_finds G (-1000000002 : Int32) σ r h) (fun r2 => ?_)
      refine js_goto 39 dX8_flue_31 rfl ?_
      exact js_iret dX8_flue_39 rfl rfl
  · refine js_aload_n dX8_flue_7 rfl rfl ?_
    refine js_ldc dX8_flue_8 tw_863 ?_
    refine js_callV_W (mj := mX8_finds) [(.int (-1000000001 : Int32))] [] dX8_flue_10 tw_864 cm_X8_finds cv_X8_finds rfl rfl rfl rfl rfl rfl (fun r h => qX8_finds G (-1000000001 : Int32) σ r h) (fun r3 => ?_)
    exact js_iret dX8_flue_13 rfl rfl

theorem qX8_flue (G : js_G) (a1 : Int32) (σ : js_S) (r : (Int32 × js_S)) (h : fX8_flue a1 σ = some r) : js_Con G shM mX8_flue [(.ref 0), (.int a1)] σ (js_eW r) := js_con (mi := mX8_flue) 0 pn_X8 rfl (Nat.le_of_ble_eq_true rfl) (jX8_flue G a1 σ) r h
def fX8_isFlue (a1 : Int32) (σ : js_S) : Option Int32 := js_gd (js_ix (0 : Int32) 633) (js_gd (js_b01 (fX8_in (Int32.toInt64 a1) (0 : Int64) (Int32.toInt64 ((σ.1 1 (Int32.toNatClampNeg (0 : Int32))) - (1 : Int32))))) (some (fX8_in (Int32.toInt64 a1) (0 : Int64) (Int32.toInt64 ((σ.1 1 (Int32.toNatClampNeg (0 : Int32))) - (1 : Int32))))))
set_option maxRecDepth 10000 in
theorem jX8_isFlue (G : js_G) (a1 : Int32) (σ : js_S) : js_J G shM mX8_isFlue (js_eI σ) 0 [some (.ref 0), some (.int a1)] [] σ (fX8_isFlue a1 σ) := by
  unfold fX8_isFlue
  refine js_iload_n dX8_isFlue_0 rfl rfl ?_
  refine js_i2l dX8_isFlue_1 ?_
  refine js_lconst dX8_isFlue_2 kl_0 ?_
  refine js_aload_n dX8_isFlue_3 rfl rfl ?_
  refine js_getR dX8_isFlue_4 fl_X8_7 rfl rfl ?_
  refine js_iconst dX8_isFlue_7 ki_0 ?_
  refine js_iald dX8_isFlue_8 rfl ?_
  refine js_iconst dX8_isFlue_9 ki_1 ?_
  refine js_isub dX8_isFlue_10 ?_
  refine js_i2l dX8_isFlue_11 ?_
  refine js_callS_P (mj := mX8_in) [(.long (Int32.toInt64 a1)), (.long (0 : Int64)), (.long (Int32.toInt64 ((σ.1 1 (Int32.toNatClampNeg (0 : Int32))) - (1 : Int32))))] [] dX8_isFlue_12 tw_860 cm_X8_in tw_861 rfl rfl rfl rfl (qX8_in G (Int32.toInt64 a1) (0 : Int64) (Int32.toInt64 ((σ.1 1 (Int32.toNatClampNeg (0 : Int32))) - (1 : Int32))) σ) ?_
  exact js_zrg dX8_isFlue_15 rfl rfl

theorem qX8_isFlue (G : js_G) (a1 : Int32) (σ : js_S) (r : Int32) (h : fX8_isFlue a1 σ = some r) : js_Con G shM mX8_isFlue [(.ref 0), (.int a1)] σ ((js_eI σ) r) := js_con (mi := mX8_isFlue) 0 pn_X8 rfl (Nat.le_of_ble_eq_true rfl) (jX8_isFlue G a1 σ) r h
def fX8_kindOf (a1 : Int32) (σ : js_S) : Option Int32 := js_gd (js_ix ((3 : Int32) + a1) 633) (some (σ.1 1 (Int32.toNatClampNeg ((3 : Int32) + a1))))
set_option maxRecDepth 10000 in
theorem jX8_kindOf (G : js_G) (a1 : Int32) (σ : js_S) : js_J G shM mX8_kindOf (js_eI σ) 0 [some (.ref 0), some (.int a1)] [] σ (fX8_kindOf a1 σ) := by
  unfold fX8_kindOf
  refine js_aload_n dX8_kindOf_0 rfl rfl ?_
  refine js_getR dX8_kindOf_1 fl_X8_7 rfl rfl ?_
  refine js_iconst dX8_kindOf_4 ki_3 ?_
  refine js_iload_n dX8_kindOf_5 rfl rfl ?_
  refine js_iadd dX8_kindOf_6 ?_
  refine js_iald dX8_kindOf_7 rfl ?_
  exact js_iret dX8_kindOf_8 rfl rfl

theorem qX8_kindOf (G : js_G) (a1 : Int32) (σ : js_S) (r : Int32) (h : fX8_kindOf a1 σ = some r) : js_Con G shM mX8_kindOf [(.ref 0), (.int a1)] σ ((js_eI σ) r) := js_con (mi := mX8_kindOf) 0 pn_X8 rfl (Nat.le_of_ble_eq_true rfl) (jX8_kindOf G a1 σ) r h
def fX8_cakes (a1 : Int32) (σ : js_S) : Option Int32 := js_gd (js_ix (2 : Int32) 633) ((fX8_kindOf a1 σ).bind fun r1 => (if r1 = (1 : Int32) then js_gd (js_ix (2 : Int32) 633) ((if (σ.1 1 (Int32.toNatClampNeg (2 : Int32))) ≤ (5 : Int32) then some ((σ.1 1 (Int32.toNatClampNeg (2 : Int32))) / (3 : Int32)) else some (((σ.1 1 (Int32.toNatClampNeg (2 : Int32))) / (3 : Int32)) + (1 : Int32)))) else (if r1 = (2 : Int32) then some ((σ.1 1 (Int32.toNatClampNeg (2 : Int32))) / (3 : Int32)) else (if r1 = (3 : Int32) then some ((2 : Int32) * ((σ.1 1 (Int32.toNatClampNeg (2 : Int32))) / (3 : Int32))) else (if r1 = (4 : Int32) then js_gd (js_ix (2 : Int32) 633) ((if (σ.1 1 (Int32.toNatClampNeg (2 : Int32))) ≤ (5 : Int32) then some ((σ.1 1 (Int32.toNatClampNeg (2 : Int32))) / (3 : Int32)) else some (((σ.1 1 (Int32.toNatClampNeg (2 : Int32))) / (3 : Int32)) + (1 : Int32)))) else (if r1 = (5 : Int32) then (if ((σ.1 1 (Int32.toNatClampNeg (2 : Int32))) / (3 : Int32)) ≤ 0 then some (0 : Int32) else some (((σ.1 1 (Int32.toNatClampNeg (2 : Int32))) / (3 : Int32)) - (1 : Int32))) else some ((σ.1 1 (Int32.toNatClampNeg (2 : Int32))) / (3 : Int32))))))))
set_option maxRecDepth 10000 in
theorem jX8_cakes (G : js_G) (a1 : Int32) (σ : js_S) : js_J G shM mX8_cakes (js_eI σ) 0 [some (.ref 0), some (.int a1), none] [] σ (fX8_cakes a1 σ) := by
  unfold fX8_cakes
  refine js_aload_n dX8_cakes_0 rfl rfl ?_
  refine js_getR dX8_cakes_1 fl_X8_7 rfl rfl ?_
  refine js_iconst dX8_cakes_4 ki_2 ?_
  refine js_iald dX8_cakes_5 rfl ?_
  refine js_iconst dX8_cakes_6 ki_3 ?_
  refine js_idiv dX8_cakes_7 (by decide) ?_
  refine js_istore_n (lv' := [some (.ref 0), some (.int a1), some (.int ((σ.1 1 (Int32.toNatClampNeg (2 : Int32))) / (3 : Int32)))]) dX8_cakes_8 rfl rfl rfl rfl ?_
  refine js_aload_n dX8_cakes_9 rfl rfl ?_
  refine js_iload_n dX8_cakes_10 rfl rfl ?_
  refine js_callV_I (mj := mX8_kindOf) [(.int a1)] [] dX8_cakes_11 tw_885 cm_X8_kindOf cv_X8_kindOf rfl rfl rfl rfl rfl rfl (fun r h => qX8_kindOf G a1 σ r h) (fun r1 => ?_)
  refine js_split (fun h2 => ?_) (fun h2 => ?_)
  · refine js_tabI (1 : Int32) (off := 34) 48 dX8_cakes_14 h2 (by decide) ?_
    refine js_aload_n dX8_cakes_48 rfl rfl ?_
    refine js_getR dX8_cakes_49 fl_X8_7 rfl rfl ?_
    refine js_iconst dX8_cakes_52 ki_2 ?_
    refine js_iald dX8_cakes_53 rfl ?_
    refine js_iconst dX8_cakes_54 ki_5 ?_
    refine js_icmp_le 64 dX8_cakes_55 rfl ?_ ?_
    · refine js_iload_n dX8_cakes_64 rfl rfl ?_
      exact js_iret dX8_cakes_65 rfl rfl
    · refine js_iload_n dX8_cakes_58 rfl rfl ?_
      refine js_iconst dX8_cakes_59 ki_1 ?_
      refine js_iadd dX8_cakes_60 ?_
      refine js_goto 65 dX8_cakes_61 rfl ?_
      exact js_iret dX8_cakes_65 rfl rfl
  · refine js_split (fun h3 => ?_) (fun h3 => ?_)
    · refine js_tabI (2 : Int32) (off := 68) 82 dX8_cakes_14 h3 (by decide) ?_
      refine js_iload_n dX8_cakes_82 rfl rfl ?_
      exact js_iret dX8_cakes_83 rfl rfl
    · refine js_split (fun h4 => ?_) (fun h4 => ?_)
      · refine js_tabI (3 : Int32) (off := 52) 66 dX8_cakes_14 h4 (by decide) ?_
        refine js_iconst dX8_cakes_66 ki_2 ?_
        refine js_iload_n dX8_cakes_67 rfl rfl ?_
        refine js_imul dX8_cakes_68 ?_
        exact js_iret dX8_cakes_69 rfl rfl
      · refine js_split (fun h5 => ?_) (fun h5 => ?_)
        · refine js_tabI (4 : Int32) (off := 34) 48 dX8_cakes_14 h5 (by decide) ?_
          refine js_aload_n dX8_cakes_48 rfl rfl ?_
          refine js_getR dX8_cakes_49 fl_X8_7 rfl rfl ?_
          refine js_iconst dX8_cakes_52 ki_2 ?_
          refine js_iald dX8_cakes_53 rfl ?_
          refine js_iconst dX8_cakes_54 ki_5 ?_
          refine js_icmp_le 64 dX8_cakes_55 rfl ?_ ?_
          · refine js_iload_n dX8_cakes_64 rfl rfl ?_
            exact js_iret dX8_cakes_65 rfl rfl
          · refine js_iload_n dX8_cakes_58 rfl rfl ?_
            refine js_iconst dX8_cakes_59 ki_1 ?_
            refine js_iadd dX8_cakes_60 ?_
            refine js_goto 65 dX8_cakes_61 rfl ?_
            exact js_iret dX8_cakes_65 rfl rfl
        · refine js_split (fun h6 => ?_) (fun h6 => ?_)
          · refine js_tabI (5 : Int32) (off := 56) 70 dX8_cakes_14 h6 (by decide) ?_
            refine js_iload_n dX8_cakes_70 rfl rfl ?_
            refine js_if_le 80 dX8_cakes_71 rfl ?_ ?_
            · refine js_iconst dX8_cakes_80 ki_0 ?_
              exact js_iret dX8_cakes_81 rfl rfl
            · refine js_iload_n dX8_cakes_74 rfl rfl ?_
              refine js_iconst dX8_cakes_75 ki_1 ?_
              refine js_isub dX8_cakes_76 ?_
              refine js_goto 81 dX8_cakes_77 rfl ?_
              exact js_iret dX8_cakes_81 rfl rfl
          · refine js_tabO 82 dX8_cakes_14 (by have eh2 := lv_neT h2 (k := (1 : Int32)) (a := 1) (by decide); have eh3 := lv_neT h3 (k := (2 : Int32)) (a := 2) (by decide); have eh4 := lv_neT h4 (k := (3 : Int32)) (a := 3) (by decide); have eh5 := lv_neT h5 (k := (4 : Int32)) (a := 4) (by decide); have eh6 := lv_neT h6 (k := (5 : Int32)) (a := 5) (by decide); omega) rfl ?_
            refine js_iload_n dX8_cakes_82 rfl rfl ?_
            exact js_iret dX8_cakes_83 rfl rfl

theorem qX8_cakes (G : js_G) (a1 : Int32) (σ : js_S) (r : Int32) (h : fX8_cakes a1 σ = some r) : js_Con G shM mX8_cakes [(.ref 0), (.int a1)] σ ((js_eI σ) r) := js_con (mi := mX8_cakes) 1 pn_X8 rfl (Nat.le_of_ble_eq_true rfl) (jX8_cakes G a1 σ) r h
def fX8_layers (a1 : Int32) (a2 : Int32) (σ : js_S) : Option Int32 := js_gd (js_ix ((9 : Int32) + (fX8_place a1 a2)) 633) (some (σ.1 1 (Int32.toNatClampNeg ((9 : Int32) + (fX8_place a1 a2)))))
set_option maxRecDepth 10000 in
theorem jX8_layers (G : js_G) (a1 : Int32) (a2 : Int32) (σ : js_S) : js_J G shM mX8_layers (js_eI σ) 0 [some (.ref 0), some (.int a1), some (.int a2)] [] σ (fX8_layers a1 a2 σ) := by
  unfold fX8_layers
  refine js_aload_n dX8_layers_0 rfl rfl ?_
  refine js_getR dX8_layers_1 fl_X8_7 rfl rfl ?_
  refine js_bipush dX8_layers_4 kb_9 ?_
  refine js_iload_n dX8_layers_6 rfl rfl ?_
  refine js_iload_n dX8_layers_7 rfl rfl ?_
  refine js_callS_P (mj := mX8_place) [(.int a1), (.int a2)] [(.int (9 : Int32)), (.ref 1)] dX8_layers_8 tw_873 cm_X8_place tw_874 rfl rfl rfl rfl (qX8_place G a1 a2 σ) ?_
  refine js_iadd dX8_layers_11 ?_
  refine js_iald dX8_layers_12 rfl ?_
  exact js_iret dX8_layers_13 rfl rfl

theorem qX8_layers (G : js_G) (a1 : Int32) (a2 : Int32) (σ : js_S) (r : Int32) (h : fX8_layers a1 a2 σ = some r) : js_Con G shM mX8_layers [(.ref 0), (.int a1), (.int a2)] σ ((js_eI σ) r) := js_con (mi := mX8_layers) 0 pn_X8 rfl (Nat.le_of_ble_eq_true rfl) (jX8_layers G a1 a2 σ) r h
def fX8_emptyBends_L4 (p1 : Int32) (σ : js_S) : Nat → Int32 → Int32 → Option Int32
  | 0, _, _ => none
  | n + 1, v2, v3 => (if (8 : Int32) ≤ v3 then some v2 else (fX8_layers p1 v3 σ).bind fun r1 => (if r1 = 0 then fX8_emptyBends_L4 p1 σ n (v2 ||| ((1 : Int32) <<< (v3 &&& 31))) (v3 + (1 : Int32)) else fX8_emptyBends_L4 p1 σ n (v2 ||| (0 : Int32)) (v3 + (1 : Int32))))
set_option maxRecDepth 10000 in
theorem jX8_emptyBends_L4 (G : js_G) (p1 : Int32) (σ : js_S) : ∀ (n : Nat) (v2 : Int32) (v3 : Int32), js_J G shM mX8_emptyBends (js_eI σ) 4 [some (.ref 0), some (.int p1), some (.int v2), some (.int v3)] [] σ (fX8_emptyBends_L4 p1 σ n v2 v3) := by
  intro n
  induction n with
  | zero =>
    intros
    exact js_none
  | succ n ih1 =>
    intro v2 v3
    rw [fX8_emptyBends_L4]
    refine js_iload_n dX8_emptyBends_4 rfl rfl ?_
    refine js_bipush dX8_emptyBends_5 kb_8 ?_
    refine js_icmp_ge 35 dX8_emptyBends_7 rfl ?_ ?_
    · refine js_iload_n dX8_emptyBends_35 rfl rfl ?_
      exact js_iret dX8_emptyBends_36 rfl rfl
    · refine js_iload_n dX8_emptyBends_10 rfl rfl ?_
      refine js_aload_n dX8_emptyBends_11 rfl rfl ?_
      refine js_iload_n dX8_emptyBends_12 rfl rfl ?_
      refine js_iload_n dX8_emptyBends_13 rfl rfl ?_
      refine js_callV_I (mj := mX8_layers) [(.int p1), (.int v3)] [(.int v2)] dX8_emptyBends_14 tw_893 cm_X8_layers cv_X8_layers rfl rfl rfl rfl rfl rfl (fun r h => qX8_layers G p1 v3 σ r h) (fun r1 => ?_)
      refine js_if_ne 26 dX8_emptyBends_17 rfl ?_ ?_
      · refine js_iconst dX8_emptyBends_26 ki_0 ?_
        refine js_ior dX8_emptyBends_27 ?_
        refine js_istore_n (lv' := [some (.ref 0), some (.int p1), some (.int (v2 ||| (0 : Int32))), some (.int v3)]) dX8_emptyBends_28 rfl rfl rfl rfl ?_
        refine js_iinc (v := (v3 + (1 : Int32))) (lv' := [some (.ref 0), some (.int p1), some (.int (v2 ||| (0 : Int32))), some (.int (v3 + (1 : Int32)))]) dX8_emptyBends_29 rfl (kx_1 _) rfl rfl rfl ?_
        refine js_goto 4 dX8_emptyBends_32 rfl ?_
        exact ih1 (v2 ||| (0 : Int32)) (v3 + (1 : Int32))
      · refine js_iconst dX8_emptyBends_20 ki_1 ?_
        refine js_iload_n dX8_emptyBends_21 rfl rfl ?_
        refine js_ishl dX8_emptyBends_22 ?_
        refine js_goto 27 dX8_emptyBends_23 rfl ?_
        refine js_ior dX8_emptyBends_27 ?_
        refine js_istore_n (lv' := [some (.ref 0), some (.int p1), some (.int (v2 ||| ((1 : Int32) <<< (v3 &&& 31)))), some (.int v3)]) dX8_emptyBends_28 rfl rfl rfl rfl ?_
        refine js_iinc (v := (v3 + (1 : Int32))) (lv' := [some (.ref 0), some (.int p1), some (.int (v2 ||| ((1 : Int32) <<< (v3 &&& 31)))), some (.int (v3 + (1 : Int32)))]) dX8_emptyBends_29 rfl (kx_1 _) rfl rfl rfl ?_
        refine js_goto 4 dX8_emptyBends_32 rfl ?_
        exact ih1 (v2 ||| ((1 : Int32) <<< (v3 &&& 31))) (v3 + (1 : Int32))

def fX8_emptyBends (a1 : Int32) (σ : js_S) : Option Int32 := fX8_emptyBends_L4 a1 σ js_FU (0 : Int32) (0 : Int32)
set_option maxRecDepth 10000 in
theorem jX8_emptyBends (G : js_G) (a1 : Int32) (σ : js_S) : js_J G shM mX8_emptyBends (js_eI σ) 0 [some (.ref 0), some (.int a1), none, none] [] σ (fX8_emptyBends a1 σ) := by
  unfold fX8_emptyBends
  refine js_iconst dX8_emptyBends_0 ki_0 ?_
  refine js_istore_n (lv' := [some (.ref 0), some (.int a1), some (.int (0 : Int32)), none]) dX8_emptyBends_1 rfl rfl rfl rfl ?_
  refine js_iconst dX8_emptyBends_2 ki_0 ?_
  refine js_istore_n (lv' := [some (.ref 0), some (.int a1), some (.int (0 : Int32)), some (.int (0 : Int32))]) dX8_emptyBends_3 rfl rfl rfl rfl ?_
  exact jX8_emptyBends_L4 G a1 σ  _ (0 : Int32) (0 : Int32)

theorem qX8_emptyBends (G : js_G) (a1 : Int32) (σ : js_S) (r : Int32) (h : fX8_emptyBends a1 σ = some r) : js_Con G shM mX8_emptyBends [(.ref 0), (.int a1)] σ ((js_eI σ) r) := js_con (mi := mX8_emptyBends) 2 pn_X8 rfl (Nat.le_of_ble_eq_true rfl) (jX8_emptyBends G a1 σ) r h
def fX8_spot (a0 : Int32) (a1 : Int32) (a2 : Int32) : Int32 := (((6 : Int32) * (fX8_place a0 a1)) + a2)
set_option maxRecDepth 10000 in
theorem jX8_spot (G : js_G) (a0 : Int32) (a1 : Int32) (a2 : Int32) (σ : js_S) : js_J G shM mX8_spot (js_eI σ) 0 [some (.int a0), some (.int a1), some (.int a2)] [] σ (some (fX8_spot a0 a1 a2)) := by
  unfold fX8_spot
  refine js_bipush dX8_spot_0 kb_6 ?_
  refine js_iload_n dX8_spot_2 rfl rfl ?_
  refine js_iload_n dX8_spot_3 rfl rfl ?_
  refine js_callS_P (mj := mX8_place) [(.int a0), (.int a1)] [(.int (6 : Int32))] dX8_spot_4 tw_873 cm_X8_place tw_874 rfl rfl rfl rfl (qX8_place G a0 a1 σ) ?_
  refine js_imul dX8_spot_7 ?_
  refine js_iload_n dX8_spot_8 rfl rfl ?_
  refine js_iadd dX8_spot_9 ?_
  exact js_iret dX8_spot_10 rfl rfl

theorem qX8_spot (G : js_G) (a0 : Int32) (a1 : Int32) (a2 : Int32) (σ : js_S) : js_Con G shM mX8_spot [(.int a0), (.int a1), (.int a2)] σ (some (.int (fX8_spot a0 a1 a2)), σ) := js_con (mi := mX8_spot) (emb := (js_eI σ)) 0 pn_X8 rfl (Nat.le_of_ble_eq_true rfl) (jX8_spot G a0 a1 a2 σ) _ rfl
def fX8_wordsAt_L5 (p1 : Int32) (p2 : Int32) (σ : js_S) : Nat → Int32 → Int32 → Option Int32
  | 0, _, _ => none
  | n + 1, v3, v4 => (fX8_layers p1 p2 σ).bind fun r1 => (if r1 ≤ v4 then some v3 else js_gd (js_ix ((57 : Int32) + (fX8_spot p1 p2 v4)) 633) (fX8_wordsAt_L5 p1 p2 σ n (v3 ||| ((1 : Int32) <<< ((σ.1 1 (Int32.toNatClampNeg ((57 : Int32) + (fX8_spot p1 p2 v4)))) &&& 31))) (v4 + (1 : Int32))))
set_option maxRecDepth 10000 in
theorem jX8_wordsAt_L5 (G : js_G) (p1 : Int32) (p2 : Int32) (σ : js_S) : ∀ (n : Nat) (v3 : Int32) (v4 : Int32), js_J G shM mX8_wordsAt (js_eI σ) 5 [some (.ref 0), some (.int p1), some (.int p2), some (.int v3), some (.int v4)] [] σ (fX8_wordsAt_L5 p1 p2 σ n v3 v4) := by
  intro n
  induction n with
  | zero =>
    intros
    exact js_none
  | succ n ih1 =>
    intro v3 v4
    rw [fX8_wordsAt_L5]
    refine js_iload dX8_wordsAt_5 rfl ?_
    refine js_aload_n dX8_wordsAt_7 rfl rfl ?_
    refine js_iload_n dX8_wordsAt_8 rfl rfl ?_
    refine js_iload_n dX8_wordsAt_9 rfl rfl ?_
    refine js_callV_I (mj := mX8_layers) [(.int p1), (.int p2)] [(.int v4)] dX8_wordsAt_10 tw_893 cm_X8_layers cv_X8_layers rfl rfl rfl rfl rfl rfl (fun r h => qX8_layers G p1 p2 σ r h) (fun r1 => ?_)
    refine js_icmp_ge 42 dX8_wordsAt_13 rfl ?_ ?_
    · refine js_iload_n dX8_wordsAt_42 rfl rfl ?_
      exact js_iret dX8_wordsAt_43 rfl rfl
    · refine js_iload_n dX8_wordsAt_16 rfl rfl ?_
      refine js_iconst dX8_wordsAt_17 ki_1 ?_
      refine js_aload_n dX8_wordsAt_18 rfl rfl ?_
      refine js_getR dX8_wordsAt_19 fl_X8_7 rfl rfl ?_
      refine js_bipush dX8_wordsAt_22 kb_57 ?_
      refine js_iload_n dX8_wordsAt_24 rfl rfl ?_
      refine js_iload_n dX8_wordsAt_25 rfl rfl ?_
      refine js_iload dX8_wordsAt_26 rfl ?_
      refine js_callS_P (mj := mX8_spot) [(.int p1), (.int p2), (.int v4)] [(.int (57 : Int32)), (.ref 1), (.int (1 : Int32)), (.int v3)] dX8_wordsAt_28 tw_905 cm_X8_spot tw_906 rfl rfl rfl rfl (qX8_spot G p1 p2 v4 σ) ?_
      refine js_iadd dX8_wordsAt_31 ?_
      refine js_iald dX8_wordsAt_32 rfl ?_
      refine js_ishl dX8_wordsAt_33 ?_
      refine js_ior dX8_wordsAt_34 ?_
      refine js_istore_n (lv' := [some (.ref 0), some (.int p1), some (.int p2), some (.int (v3 ||| ((1 : Int32) <<< ((σ.1 1 (Int32.toNatClampNeg ((57 : Int32) + (fX8_spot p1 p2 v4)))) &&& 31)))), some (.int v4)]) dX8_wordsAt_35 rfl rfl rfl rfl ?_
      refine js_iinc (v := (v4 + (1 : Int32))) (lv' := [some (.ref 0), some (.int p1), some (.int p2), some (.int (v3 ||| ((1 : Int32) <<< ((σ.1 1 (Int32.toNatClampNeg ((57 : Int32) + (fX8_spot p1 p2 v4)))) &&& 31)))), some (.int (v4 + (1 : Int32)))]) dX8_wordsAt_36 rfl (kx_1 _) rfl rfl rfl ?_
      refine js_goto 5 dX8_wordsAt_39 rfl ?_
      exact ih1 (v3 ||| ((1 : Int32) <<< ((σ.1 1 (Int32.toNatClampNeg ((57 : Int32) + (fX8_spot p1 p2 v4)))) &&& 31))) (v4 + (1 : Int32))

def fX8_wordsAt (a1 : Int32) (a2 : Int32) (σ : js_S) : Option Int32 := fX8_wordsAt_L5 a1 a2 σ js_FU (0 : Int32) (0 : Int32)
set_option maxRecDepth 10000 in
theorem jX8_wordsAt (G : js_G) (a1 : Int32) (a2 : Int32) (σ : js_S) : js_J G shM mX8_wordsAt (js_eI σ) 0 [some (.ref 0), some (.int a1), some (.int a2), none, none] [] σ (fX8_wordsAt a1 a2 σ) := by
  unfold fX8_wordsAt
  refine js_iconst dX8_wordsAt_0 ki_0 ?_
  refine js_istore_n (lv' := [some (.ref 0), some (.int a1), some (.int a2), some (.int (0 : Int32)), none]) dX8_wordsAt_1 rfl rfl rfl rfl ?_
  refine js_iconst dX8_wordsAt_2 ki_0 ?_
  refine js_istore (lv' := [some (.ref 0), some (.int a1), some (.int a2), some (.int (0 : Int32)), some (.int (0 : Int32))]) dX8_wordsAt_3 rfl rfl rfl ?_
  exact jX8_wordsAt_L5 G a1 a2 σ  _ (0 : Int32) (0 : Int32)

theorem qX8_wordsAt (G : js_G) (a1 : Int32) (a2 : Int32) (σ : js_S) (r : Int32) (h : fX8_wordsAt a1 a2 σ = some r) : js_Con G shM mX8_wordsAt [(.ref 0), (.int a1), (.int a2)] σ ((js_eI σ) r) := js_con (mi := mX8_wordsAt) 2 pn_X8 rfl (Nat.le_of_ble_eq_true rfl) (jX8_wordsAt G a1 a2 σ) r h
def fX8_wordsOf_L4 (p1 : Int32) (σ : js_S) : Nat → Int32 → Int32 → Option Int32
  | 0, _, _ => none
  | n + 1, v2, v3 => (if (8 : Int32) ≤ v3 then some v2 else (fX8_wordsAt p1 v3 σ).bind fun r1 => fX8_wordsOf_L4 p1 σ n (v2 ||| r1) (v3 + (1 : Int32)))
set_option maxRecDepth 10000 in
theorem jX8_wordsOf_L4 (G : js_G) (p1 : Int32) (σ : js_S) : ∀ (n : Nat) (v2 : Int32) (v3 : Int32), js_J G shM mX8_wordsOf (js_eI σ) 4 [some (.ref 0), some (.int p1), some (.int v2), some (.int v3)] [] σ (fX8_wordsOf_L4 p1 σ n v2 v3) := by
  intro n
  induction n with
  | zero =>
    intros
    exact js_none
  | succ n ih1 =>
    intro v2 v3
    rw [fX8_wordsOf_L4]
    refine js_iload_n dX8_wordsOf_4 rfl rfl ?_
    refine js_bipush dX8_wordsOf_5 kb_8 ?_
    refine js_icmp_ge 25 dX8_wordsOf_7 rfl ?_ ?_
    · refine js_iload_n dX8_wordsOf_25 rfl rfl ?_
      exact js_iret dX8_wordsOf_26 rfl rfl
    · refine js_iload_n dX8_wordsOf_10 rfl rfl ?_
      refine js_aload_n dX8_wordsOf_11 rfl rfl ?_
      refine js_iload_n dX8_wordsOf_12 rfl rfl ?_
      refine js_iload_n dX8_wordsOf_13 rfl rfl ?_
      refine js_callV_I (mj := mX8_wordsAt) [(.int p1), (.int v3)] [(.int v2)] dX8_wordsOf_14 tw_901 cm_X8_wordsAt cv_X8_wordsAt rfl rfl rfl rfl rfl rfl (fun r h => qX8_wordsAt G p1 v3 σ r h) (fun r1 => ?_)
      refine js_ior dX8_wordsOf_17 ?_
      refine js_istore_n (lv' := [some (.ref 0), some (.int p1), some (.int (v2 ||| r1)), some (.int v3)]) dX8_wordsOf_18 rfl rfl rfl rfl ?_
      refine js_iinc (v := (v3 + (1 : Int32))) (lv' := [some (.ref 0), some (.int p1), some (.int (v2 ||| r1)), some (.int (v3 + (1 : Int32)))]) dX8_wordsOf_19 rfl (kx_1 _) rfl rfl rfl ?_
      refine js_goto 4 dX8_wordsOf_22 rfl ?_
      exact ih1 (v2 ||| r1) (v3 + (1 : Int32))

def fX8_wordsOf (a1 : Int32) (σ : js_S) : Option Int32 := fX8_wordsOf_L4 a1 σ js_FU (0 : Int32) (0 : Int32)
set_option maxRecDepth 10000 in
theorem jX8_wordsOf (G : js_G) (a1 : Int32) (σ : js_S) : js_J G shM mX8_wordsOf (js_eI σ) 0 [some (.ref 0), some (.int a1), none, none] [] σ (fX8_wordsOf a1 σ) := by
  unfold fX8_wordsOf
  refine js_iconst dX8_wordsOf_0 ki_0 ?_
  refine js_istore_n (lv' := [some (.ref 0), some (.int a1), some (.int (0 : Int32)), none]) dX8_wordsOf_1 rfl rfl rfl rfl ?_
  refine js_iconst dX8_wordsOf_2 ki_0 ?_
  refine js_istore_n (lv' := [some (.ref 0), some (.int a1), some (.int (0 : Int32)), some (.int (0 : Int32))]) dX8_wordsOf_3 rfl rfl rfl rfl ?_
  exact jX8_wordsOf_L4 G a1 σ  _ (0 : Int32) (0 : Int32)

theorem qX8_wordsOf (G : js_G) (a1 : Int32) (σ : js_S) (r : Int32) (h : fX8_wordsOf a1 σ = some r) : js_Con G shM mX8_wordsOf [(.ref 0), (.int a1)] σ ((js_eI σ) r) := js_con (mi := mX8_wordsOf) 2 pn_X8 rfl (Nat.le_of_ble_eq_true rfl) (jX8_wordsOf G a1 σ) r h
def fX8_layersOf_L4 (p1 : Int32) (σ : js_S) : Nat → Int32 → Int32 → Option Int32
  | 0, _, _ => none
  | n + 1, v2, v3 => (if (8 : Int32) ≤ v3 then some v2 else (fX8_layers p1 v3 σ).bind fun r1 => fX8_layersOf_L4 p1 σ n (v2 + r1) (v3 + (1 : Int32)))
set_option maxRecDepth 10000 in
theorem jX8_layersOf_L4 (G : js_G) (p1 : Int32) (σ : js_S) : ∀ (n : Nat) (v2 : Int32) (v3 : Int32), js_J G shM mX8_layersOf (js_eI σ) 4 [some (.ref 0), some (.int p1), some (.int v2), some (.int v3)] [] σ (fX8_layersOf_L4 p1 σ n v2 v3) := by
  intro n
  induction n with
  | zero =>
    intros
    exact js_none
  | succ n ih1 =>
    intro v2 v3
    rw [fX8_layersOf_L4]
    refine js_iload_n dX8_layersOf_4 rfl rfl ?_
    refine js_bipush dX8_layersOf_5 kb_8 ?_
    refine js_icmp_ge 25 dX8_layersOf_7 rfl ?_ ?_
    · refine js_iload_n dX8_layersOf_25 rfl rfl ?_
      exact js_iret dX8_layersOf_26 rfl rfl
    · refine js_iload_n dX8_layersOf_10 rfl rfl ?_
      refine js_aload_n dX8_layersOf_11 rfl rfl ?_
      refine js_iload_n dX8_layersOf_12 rfl rfl ?_
      refine js_iload_n dX8_layersOf_13 rfl rfl ?_
      refine js_callV_I (mj := mX8_layers) [(.int p1), (.int v3)] [(.int v2)] dX8_layersOf_14 tw_893 cm_X8_layers cv_X8_layers rfl rfl rfl rfl rfl rfl (fun r h => qX8_layers G p1 v3 σ r h) (fun r1 => ?_)
      refine js_iadd dX8_layersOf_17 ?_
      refine js_istore_n (lv' := [some (.ref 0), some (.int p1), some (.int (v2 + r1)), some (.int v3)]) dX8_layersOf_18 rfl rfl rfl rfl ?_
      refine js_iinc (v := (v3 + (1 : Int32))) (lv' := [some (.ref 0), some (.int p1), some (.int (v2 + r1)), some (.int (v3 + (1 : Int32)))]) dX8_layersOf_19 rfl (kx_1 _) rfl rfl rfl ?_
      refine js_goto 4 dX8_layersOf_22 rfl ?_
      exact ih1 (v2 + r1) (v3 + (1 : Int32))

def fX8_layersOf (a1 : Int32) (σ : js_S) : Option Int32 := fX8_layersOf_L4 a1 σ js_FU (0 : Int32) (0 : Int32)
set_option maxRecDepth 10000 in
theorem jX8_layersOf (G : js_G) (a1 : Int32) (σ : js_S) : js_J G shM mX8_layersOf (js_eI σ) 0 [some (.ref 0), some (.int a1), none, none] [] σ (fX8_layersOf a1 σ) := by
  unfold fX8_layersOf
  refine js_iconst dX8_layersOf_0 ki_0 ?_
  refine js_istore_n (lv' := [some (.ref 0), some (.int a1), some (.int (0 : Int32)), none]) dX8_layersOf_1 rfl rfl rfl rfl ?_
  refine js_iconst dX8_layersOf_2 ki_0 ?_
  refine js_istore_n (lv' := [some (.ref 0), some (.int a1), some (.int (0 : Int32)), some (.int (0 : Int32))]) dX8_layersOf_3 rfl rfl rfl rfl ?_
  exact jX8_layersOf_L4 G a1 σ  _ (0 : Int32) (0 : Int32)

theorem qX8_layersOf (G : js_G) (a1 : Int32) (σ : js_S) (r : Int32) (h : fX8_layersOf a1 σ = some r) : js_Con G shM mX8_layersOf [(.ref 0), (.int a1)] σ ((js_eI σ) r) := js_con (mi := mX8_layersOf) 2 pn_X8 rfl (Nat.le_of_ble_eq_true rfl) (jX8_layersOf G a1 σ) r h
def fX8_of (a1 : Int32) (a2 : Int32) (σ : js_S) : Option (Int32 × js_S) := (fX8_isFlue a1 σ).bind fun r1 => (if r1 = 0 then (fX8_finds (-1000000001 : Int32) σ).bind fun r2 => some (r2.1, r2.2) else (if (fX8_in (Int32.toInt64 a2) (0 : Int64) (4 : Int64)) = 0 then (fX8_finds (-1000000001 : Int32) σ).bind fun r12 => some (r12.1, r12.2) else (if a2 = (0 : Int32) then (fX8_kindOf a1 σ).bind fun r11 => some (r11, σ) else (if a2 = (1 : Int32) then (fX8_layersOf a1 σ).bind fun r10 => some (r10, σ) else (if a2 = (2 : Int32) then (fX8_wordsOf a1 σ).bind fun r9 => some (r9, σ) else (if a2 = (3 : Int32) then (fX8_emptyBends a1 σ).bind fun r8 => some (r8, σ) else (fX8_cakes a1 σ).bind fun r3 => some (r3, σ)))))))
set_option maxRecDepth 10000 in
theorem jX8_of (G : js_G) (a1 : Int32) (a2 : Int32) (σ : js_S) : js_J G shM mX8_of js_eW 0 [some (.ref 0), some (.int a1), some (.int a2)] [] σ (fX8_of a1 a2 σ) := by
  unfold fX8_of
  refine js_aload_n dX8_of_0 rfl rfl ?_
  refine js_iload_n dX8_of_1 rfl rfl ?_
  refine js_callV_I (mj := mX8_isFlue) [(.int a1)] [] dX8_of_2 tw_880 cm_X8_isFlue cv_X8_isFlue rfl rfl rfl rfl rfl rfl (fun r h => qX8_isFlue G a1 σ r h) (fun r1 => ?_)
  refine js_if_eq 20 dX8_of_5 rfl ?_ ?_
  · refine js_aload_n dX8_of_20 rfl rfl ?_
    refine js_ldc dX8_of_21 tw_863 ?_
    refine js_callV_W (mj := mX8_finds) [(.int (-1000000001 : Int32))] [] dX8_of_23 tw_864 cm_X8_finds cv_X8_finds rfl rfl rfl rfl rfl rfl (fun r h => qX8_finds G (-1000000001 : Int32) σ r h) (fun r2 => ?_)
    exact js_iret dX8_of_26 rfl rfl
  · refine js_iload_n dX8_of_8 rfl rfl ?_
    refine js_i2l dX8_of_9 ?_
    refine js_lconst dX8_of_10 kl_0 ?_
    refine js_ldc2 dX8_of_11 tw_884 ?_
    refine js_callS_P (mj := mX8_in) [(.long (Int32.toInt64 a2)), (.long (0 : Int64)), (.long (4 : Int64))] [] dX8_of_14 tw_860 cm_X8_in tw_861 rfl rfl rfl rfl (qX8_in G (Int32.toInt64 a2) (0 : Int64) (4 : Int64) σ) ?_
    refine js_if_ne 27 dX8_of_17 rfl ?_ ?_
    · refine js_iload_n dX8_of_27 rfl rfl ?_
      refine js_split (fun h4 => ?_) (fun h4 => ?_)
      · refine js_tabI (0 : Int32) (off := 32) 60 dX8_of_28 h4 (by decide) ?_
        refine js_aload_n dX8_of_60 rfl rfl ?_
        refine js_iload_n dX8_of_61 rfl rfl ?_
        refine js_callV_I (mj := mX8_kindOf) [(.int a1)] [] dX8_of_62 tw_885 cm_X8_kindOf cv_X8_kindOf rfl rfl rfl rfl rfl rfl (fun r h => qX8_kindOf G a1 σ r h) (fun r11 => ?_)
        exact js_iret dX8_of_65 rfl rfl
      · refine js_split (fun h5 => ?_) (fun h5 => ?_)
        · refine js_tabI (1 : Int32) (off := 38) 66 dX8_of_28 h5 (by decide) ?_
          refine js_aload_n dX8_of_66 rfl rfl ?_
          refine js_iload_n dX8_of_67 rfl rfl ?_
          refine js_callV_I (mj := mX8_layersOf) [(.int a1)] [] dX8_of_68 tw_889 cm_X8_layersOf cv_X8_layersOf rfl rfl rfl rfl rfl rfl (fun r h => qX8_layersOf G a1 σ r h) (fun r10 => ?_)
          exact js_iret dX8_of_71 rfl rfl
        · refine js_split (fun h6 => ?_) (fun h6 => ?_)
          · refine js_tabI (2 : Int32) (off := 44) 72 dX8_of_28 h6 (by decide) ?_
            refine js_aload_n dX8_of_72 rfl rfl ?_
            refine js_iload_n dX8_of_73 rfl rfl ?_
            refine js_callV_I (mj := mX8_wordsOf) [(.int a1)] [] dX8_of_74 tw_897 cm_X8_wordsOf cv_X8_wordsOf rfl rfl rfl rfl rfl rfl (fun r h => qX8_wordsOf G a1 σ r h) (fun r9 => ?_)
            exact js_iret dX8_of_77 rfl rfl
          · refine js_split (fun h7 => ?_) (fun h7 => ?_)
            · refine js_tabI (3 : Int32) (off := 50) 78 dX8_of_28 h7 (by decide) ?_
              refine js_aload_n dX8_of_78 rfl rfl ?_
              refine js_iload_n dX8_of_79 rfl rfl ?_
              refine js_callV_I (mj := mX8_emptyBends) [(.int a1)] [] dX8_of_80 tw_908 cm_X8_emptyBends cv_X8_emptyBends rfl rfl rfl rfl rfl rfl (fun r h => qX8_emptyBends G a1 σ r h) (fun r8 => ?_)
              exact js_iret dX8_of_83 rfl rfl
            · refine js_tabO 84 dX8_of_28 (by have eh4 := lv_neT h4 (k := (0 : Int32)) (a := 0) (by decide); have eh5 := lv_neT h5 (k := (1 : Int32)) (a := 1) (by decide); have eh6 := lv_neT h6 (k := (2 : Int32)) (a := 2) (by decide); have eh7 := lv_neT h7 (k := (3 : Int32)) (a := 3) (by decide); omega) rfl ?_
              refine js_aload_n dX8_of_84 rfl rfl ?_
              refine js_iload_n dX8_of_85 rfl rfl ?_
              refine js_callV_I (mj := mX8_cakes) [(.int a1)] [] dX8_of_86 tw_912 cm_X8_cakes cv_X8_cakes rfl rfl rfl rfl rfl rfl (fun r h => qX8_cakes G a1 σ r h) (fun r3 => ?_)
              exact js_iret dX8_of_89 rfl rfl
    · refine js_aload_n dX8_of_20 rfl rfl ?_
      refine js_ldc dX8_of_21 tw_863 ?_
      refine js_callV_W (mj := mX8_finds) [(.int (-1000000001 : Int32))] [] dX8_of_23 tw_864 cm_X8_finds cv_X8_finds rfl rfl rfl rfl rfl rfl (fun r h => qX8_finds G (-1000000001 : Int32) σ r h) (fun r12 => ?_)
      exact js_iret dX8_of_26 rfl rfl

theorem qX8_of (G : js_G) (a1 : Int32) (a2 : Int32) (σ : js_S) (r : (Int32 × js_S)) (h : fX8_of a1 a2 σ = some r) : js_Con G shM mX8_of [(.ref 0), (.int a1), (.int a2)] σ (js_eW r) := js_con (mi := mX8_of) 0 pn_X8 rfl (Nat.le_of_ble_eq_true rfl) (jX8_of G a1 a2 σ) r h
def fX8_isBend (a0 : Int32) : Int32 := (fX8_in (Int32.toInt64 a0) (0 : Int64) (7 : Int64))
set_option maxRecDepth 10000 in
theorem jX8_isBend (G : js_G) (a0 : Int32) (σ : js_S) : js_J G shM mX8_isBend (js_eI σ) 0 [some (.int a0)] [] σ (some (fX8_isBend a0)) := by
  unfold fX8_isBend
  refine js_iload_n dX8_isBend_0 rfl rfl ?_
  refine js_i2l dX8_isBend_1 ?_
  refine js_lconst dX8_isBend_2 kl_0 ?_
  refine js_ldc2 dX8_isBend_3 tw_923 ?_
  refine js_callS_P (mj := mX8_in) [(.long (Int32.toInt64 a0)), (.long (0 : Int64)), (.long (7 : Int64))] [] dX8_isBend_6 tw_860 cm_X8_in tw_861 rfl rfl rfl rfl (qX8_in G (Int32.toInt64 a0) (0 : Int64) (7 : Int64) σ) ?_
  exact js_zret dX8_isBend_9 rfl (js_nb (zX8_in (Int32.toInt64 a0) (0 : Int64) (7 : Int64))) rfl

theorem qX8_isBend (G : js_G) (a0 : Int32) (σ : js_S) : js_Con G shM mX8_isBend [(.int a0)] σ (some (.int (fX8_isBend a0)), σ) := js_con (mi := mX8_isBend) (emb := (js_eI σ)) 0 pn_X8 rfl (Nat.le_of_ble_eq_true rfl) (jX8_isBend G a0 σ) _ rfl
theorem zX8_isBend (a0 : Int32) : fX8_isBend a0 = 0 ∨ fX8_isBend a0 = 1 := by
  unfold fX8_isBend
  repeat' split
  all_goals first | exact Or.inl rfl | exact Or.inr rfl | exact zX8_in _ _ _
def fX8_holds (a1 : Int32) (a2 : Int32) (σ : js_S) : Option Int32 := (fX8_kindOf a1 σ).bind fun r1 => (if r1 = (1 : Int32) then (if (a2 - a2 / (2 : Int32) * (2 : Int32)) = (1 : Int32) then some (4 : Int32) else some (6 : Int32)) else (if r1 = (2 : Int32) then some (3 : Int32) else (if r1 = (3 : Int32) then some (6 : Int32) else (if r1 = (4 : Int32) then (if (a2 - a2 / (2 : Int32) * (2 : Int32)) = (1 : Int32) then some (5 : Int32) else some (6 : Int32)) else (if r1 = (5 : Int32) then (if a2 = (7 : Int32) then some (5 : Int32) else some (3 : Int32)) else some (6 : Int32))))))
set_option maxRecDepth 10000 in
theorem jX8_holds (G : js_G) (a1 : Int32) (a2 : Int32) (σ : js_S) : js_J G shM mX8_holds (js_eI σ) 0 [some (.ref 0), some (.int a1), some (.int a2)] [] σ (fX8_holds a1 a2 σ) := by
  unfold fX8_holds
  refine js_aload_n dX8_holds_0 rfl rfl ?_
  refine js_iload_n dX8_holds_1 rfl rfl ?_
  refine js_callV_I (mj := mX8_kindOf) [(.int a1)] [] dX8_holds_2 tw_885 cm_X8_kindOf cv_X8_kindOf rfl rfl rfl rfl rfl rfl (fun r h => qX8_kindOf G a1 σ r h) (fun r1 => ?_)
  refine js_split (fun h2 => ?_) (fun h2 => ?_)
  · refine js_tabI (1 : Int32) (off := 35) 40 dX8_holds_5 h2 (by decide) ?_
    refine js_iload_n dX8_holds_40 rfl rfl ?_
    refine js_iconst dX8_holds_41 ki_2 ?_
    refine js_irem dX8_holds_42 (by decide) ?_
    refine js_iconst dX8_holds_43 ki_1 ?_
    refine js_icmp_ne 51 dX8_holds_44 rfl ?_ ?_
    · refine js_bipush dX8_holds_51 kb_6 ?_
      exact js_iret dX8_holds_53 rfl rfl
    · refine js_iconst dX8_holds_47 ki_4 ?_
      refine js_goto 53 dX8_holds_48 rfl ?_
      exact js_iret dX8_holds_53 rfl rfl
  · refine js_split (fun h3 => ?_) (fun h3 => ?_)
    · refine js_tabI (2 : Int32) (off := 49) 54 dX8_holds_5 h3 (by decide) ?_
      refine js_iconst dX8_holds_54 ki_3 ?_
      exact js_iret dX8_holds_55 rfl rfl
    · refine js_split (fun h4 => ?_) (fun h4 => ?_)
      · refine js_tabI (3 : Int32) (off := 77) 82 dX8_holds_5 h4 (by decide) ?_
        refine js_bipush dX8_holds_82 kb_6 ?_
        exact js_iret dX8_holds_84 rfl rfl
      · refine js_split (fun h5 => ?_) (fun h5 => ?_)
        · refine js_tabI (4 : Int32) (off := 51) 56 dX8_holds_5 h5 (by decide) ?_
          refine js_iload_n dX8_holds_56 rfl rfl ?_
          refine js_iconst dX8_holds_57 ki_2 ?_
          refine js_irem dX8_holds_58 (by decide) ?_
          refine js_iconst dX8_holds_59 ki_1 ?_
          refine js_icmp_ne 67 dX8_holds_60 rfl ?_ ?_
          · refine js_bipush dX8_holds_67 kb_6 ?_
            exact js_iret dX8_holds_69 rfl rfl
          · refine js_iconst dX8_holds_63 ki_5 ?_
            refine js_goto 69 dX8_holds_64 rfl ?_
            exact js_iret dX8_holds_69 rfl rfl
        · refine js_split (fun h6 => ?_) (fun h6 => ?_)
          · refine js_tabI (5 : Int32) (off := 65) 70 dX8_holds_5 h6 (by decide) ?_
            refine js_iload_n dX8_holds_70 rfl rfl ?_
            refine js_bipush dX8_holds_71 kb_7 ?_
            refine js_icmp_ne 80 dX8_holds_73 rfl ?_ ?_
            · refine js_iconst dX8_holds_80 ki_3 ?_
              exact js_iret dX8_holds_81 rfl rfl
            · refine js_iconst dX8_holds_76 ki_5 ?_
              refine js_goto 81 dX8_holds_77 rfl ?_
              exact js_iret dX8_holds_81 rfl rfl
          · refine js_tabO 82 dX8_holds_5 (by have eh2 := lv_neT h2 (k := (1 : Int32)) (a := 1) (by decide); have eh3 := lv_neT h3 (k := (2 : Int32)) (a := 2) (by decide); have eh4 := lv_neT h4 (k := (3 : Int32)) (a := 3) (by decide); have eh5 := lv_neT h5 (k := (4 : Int32)) (a := 4) (by decide); have eh6 := lv_neT h6 (k := (5 : Int32)) (a := 5) (by decide); omega) rfl ?_
            refine js_bipush dX8_holds_82 kb_6 ?_
            exact js_iret dX8_holds_84 rfl rfl

theorem qX8_holds (G : js_G) (a1 : Int32) (a2 : Int32) (σ : js_S) (r : Int32) (h : fX8_holds a1 a2 σ = some r) : js_Con G shM mX8_holds [(.ref 0), (.int a1), (.int a2)] σ ((js_eI σ) r) := js_con (mi := mX8_holds) 0 pn_X8 rfl (Nat.le_of_ble_eq_true rfl) (jX8_holds G a1 a2 σ) r h
def fX8_bend (a1 : Int32) (a2 : Int32) (a3 : Int32) (σ : js_S) : Option (Int32 × js_S) := (fX8_isFlue a1 σ).bind fun r1 => (if r1 = 0 then (fX8_finds (-1000000001 : Int32) σ).bind fun r2 => some (r2.1, r2.2) else (if (fX8_isBend a2) = 0 then (fX8_finds (-1000000001 : Int32) σ).bind fun r3 => some (r3.1, r3.2) else (if (fX8_in (Int32.toInt64 a3) (0 : Int64) (2 : Int64)) = 0 then (fX8_finds (-1000000001 : Int32) σ).bind fun r7 => some (r7.1, r7.2) else (if a3 = 0 then (fX8_layers a1 a2 σ).bind fun r6 => some (r6, σ) else (if a3 = (1 : Int32) then (fX8_holds a1 a2 σ).bind fun r5 => some (r5, σ) else (fX8_wordsAt a1 a2 σ).bind fun r4 => some (r4, σ))))))
set_option maxRecDepth 10000 in
theorem jX8_bend (G : js_G) (a1 : Int32) (a2 : Int32) (a3 : Int32) (σ : js_S) : js_J G shM mX8_bend js_eW 0 [some (.ref 0), some (.int a1), some (.int a2), some (.int a3)] [] σ (fX8_bend a1 a2 a3 σ) := by
  unfold fX8_bend
  refine js_aload_n dX8_bend_0 rfl rfl ?_
  refine js_iload_n dX8_bend_1 rfl rfl ?_
  refine js_callV_I (mj := mX8_isFlue) [(.int a1)] [] dX8_bend_2 tw_880 cm_X8_isFlue cv_X8_isFlue rfl rfl rfl rfl rfl rfl (fun r h => qX8_isFlue G a1 σ r h) (fun r1 => ?_)
  refine js_if_eq 27 dX8_bend_5 rfl ?_ ?_
  · refine js_aload_n dX8_bend_27 rfl rfl ?_
    refine js_ldc dX8_bend_28 tw_863 ?_
    refine js_callV_W (mj := mX8_finds) [(.int (-1000000001 : Int32))] [] dX8_bend_30 tw_864 cm_X8_finds cv_X8_finds rfl rfl rfl rfl rfl rfl (fun r h => qX8_finds G (-1000000001 : Int32) σ r h) (fun r2 => ?_)
    exact js_iret dX8_bend_33 rfl rfl
  · refine js_iload_n dX8_bend_8 rfl rfl ?_
    refine js_callS_P (mj := mX8_isBend) [(.int a2)] [] dX8_bend_9 tw_920 cm_X8_isBend tw_921 rfl rfl rfl rfl (qX8_isBend G a2 σ) ?_
    refine js_if_eq 27 dX8_bend_12 rfl ?_ ?_
    · refine js_aload_n dX8_bend_27 rfl rfl ?_
      refine js_ldc dX8_bend_28 tw_863 ?_
      refine js_callV_W (mj := mX8_finds) [(.int (-1000000001 : Int32))] [] dX8_bend_30 tw_864 cm_X8_finds cv_X8_finds rfl rfl rfl rfl rfl rfl (fun r h => qX8_finds G (-1000000001 : Int32) σ r h) (fun r3 => ?_)
      exact js_iret dX8_bend_33 rfl rfl
    · refine js_iload_n dX8_bend_15 rfl rfl ?_
      refine js_i2l dX8_bend_16 ?_
      refine js_lconst dX8_bend_17 kl_0 ?_
      refine js_ldc2 dX8_bend_18 tw_924 ?_
      refine js_callS_P (mj := mX8_in) [(.long (Int32.toInt64 a3)), (.long (0 : Int64)), (.long (2 : Int64))] [] dX8_bend_21 tw_860 cm_X8_in tw_861 rfl rfl rfl rfl (qX8_in G (Int32.toInt64 a3) (0 : Int64) (2 : Int64) σ) ?_
      refine js_if_ne 34 dX8_bend_24 rfl ?_ ?_
      · refine js_iload_n dX8_bend_34 rfl rfl ?_
        refine js_if_ne 47 dX8_bend_35 rfl ?_ ?_
        · refine js_iload_n dX8_bend_47 rfl rfl ?_
          refine js_iconst dX8_bend_48 ki_1 ?_
          refine js_icmp_ne 61 dX8_bend_49 rfl ?_ ?_
          · refine js_aload_n dX8_bend_61 rfl rfl ?_
            refine js_iload_n dX8_bend_62 rfl rfl ?_
            refine js_iload_n dX8_bend_63 rfl rfl ?_
            refine js_callV_I (mj := mX8_wordsAt) [(.int a1), (.int a2)] [] dX8_bend_64 tw_901 cm_X8_wordsAt cv_X8_wordsAt rfl rfl rfl rfl rfl rfl (fun r h => qX8_wordsAt G a1 a2 σ r h) (fun r4 => ?_)
            exact js_iret dX8_bend_67 rfl rfl
          · refine js_aload_n dX8_bend_52 rfl rfl ?_
            refine js_iload_n dX8_bend_53 rfl rfl ?_
            refine js_iload_n dX8_bend_54 rfl rfl ?_
            refine js_callV_I (mj := mX8_holds) [(.int a1), (.int a2)] [] dX8_bend_55 tw_925 cm_X8_holds cv_X8_holds rfl rfl rfl rfl rfl rfl (fun r h => qX8_holds G a1 a2 σ r h) (fun r5 => ?_)
            refine js_goto 67 dX8_bend_58 rfl ?_
            exact js_iret dX8_bend_67 rfl rfl
        · refine js_aload_n dX8_bend_38 rfl rfl ?_
          refine js_iload_n dX8_bend_39 rfl rfl ?_
          refine js_iload_n dX8_bend_40 rfl rfl ?_
          refine js_callV_I (mj := mX8_layers) [(.int a1), (.int a2)] [] dX8_bend_41 tw_893 cm_X8_layers cv_X8_layers rfl rfl rfl rfl rfl rfl (fun r h => qX8_layers G a1 a2 σ r h) (fun r6 => ?_)
          refine js_goto 67 dX8_bend_44 rfl ?_
          exact js_iret dX8_bend_67 rfl rfl
      · refine js_aload_n dX8_bend_27 rfl rfl ?_
        refine js_ldc dX8_bend_28 tw_863 ?_
        refine js_callV_W (mj := mX8_finds) [(.int (-1000000001 : Int32))] [] dX8_bend_30 tw_864 cm_X8_finds cv_X8_finds rfl rfl rfl rfl rfl rfl (fun r h => qX8_finds G (-1000000001 : Int32) σ r h) (fun r7 => ?_)
        exact js_iret dX8_bend_33 rfl rfl

theorem qX8_bend (G : js_G) (a1 : Int32) (a2 : Int32) (a3 : Int32) (σ : js_S) (r : (Int32 × js_S)) (h : fX8_bend a1 a2 a3 σ = some r) : js_Con G shM mX8_bend [(.ref 0), (.int a1), (.int a2), (.int a3)] σ (js_eW r) := js_con (mi := mX8_bend) 0 pn_X8 rfl (Nat.le_of_ble_eq_true rfl) (jX8_bend G a1 a2 a3 σ) r h
def fX8_layer (a1 : Int32) (a2 : Int32) (a3 : Int32) (a4 : Int32) (σ : js_S) : Option (Int32 × js_S) := (fX8_isFlue a1 σ).bind fun r1 => (if r1 = 0 then (fX8_finds (-1000000001 : Int32) σ).bind fun r2 => some (r2.1, r2.2) else (if (fX8_isBend a2) = 0 then (fX8_finds (-1000000001 : Int32) σ).bind fun r3 => some (r3.1, r3.2) else (if (fX8_in (Int32.toInt64 a4) (0 : Int64) (1 : Int64)) = 0 then (fX8_finds (-1000000001 : Int32) σ).bind fun r8 => some (r8.1, r8.2) else (fX8_layers a1 a2 σ).bind fun r4 => (if (fX8_in (Int32.toInt64 a3) (0 : Int64) (Int32.toInt64 (r4 - (1 : Int32)))) = 0 then (fX8_finds (-1000000004 : Int32) σ).bind fun r7 => some (r7.1, r7.2) else (if a4 = 0 then (fX8_layers a1 a2 σ).bind fun r6 => js_gd (js_ix ((57 : Int32) + (fX8_spot a1 a2 ((r6 - (1 : Int32)) - a3))) 633) (some ((σ.1 1 (Int32.toNatClampNeg ((57 : Int32) + (fX8_spot a1 a2 ((r6 - (1 : Int32)) - a3))))), σ)) else (fX8_layers a1 a2 σ).bind fun r5 => js_gd (js_ix ((345 : Int32) + (fX8_spot a1 a2 ((r5 - (1 : Int32)) - a3))) 633) (some ((σ.1 1 (Int32.toNatClampNeg ((345 : Int32) + (fX8_spot a1 a2 ((r5 - (1 : Int32)) - a3))))), σ)))))))
set_option maxRecDepth 10000 in
theorem jX8_layer (G : js_G) (a1 : Int32) (a2 : Int32) (a3 : Int32) (a4 : Int32) (σ : js_S) : js_J G shM mX8_layer js_eW 0 [some (.ref 0), some (.int a1), some (.int a2), some (.int a3), some (.int a4)] [] σ (fX8_layer a1 a2 a3 a4 σ) := by
  unfold fX8_layer
  refine js_aload_n dX8_layer_0 rfl rfl ?_
  refine js_iload_n dX8_layer_1 rfl rfl ?_
  refine js_callV_I (mj := mX8_isFlue) [(.int a1)] [] dX8_layer_2 tw_880 cm_X8_isFlue cv_X8_isFlue rfl rfl rfl rfl rfl rfl (fun r h => qX8_isFlue G a1 σ r h) (fun r1 => ?_)
  refine js_if_eq 26 dX8_layer_5 rfl ?_ ?_
  · refine js_aload_n dX8_layer_26 rfl rfl ?_
    refine js_ldc dX8_layer_27 tw_863 ?_
    refine js_callV_W (mj := mX8_finds) [(.int (-1000000001 : Int32))] [] dX8_layer_29 tw_864 cm_X8_finds cv_X8_finds rfl rfl rfl rfl rfl rfl (fun r h => qX8_finds G (-1000000001 : Int32) σ r h) (fun r2 => ?_)
    exact js_iret dX8_layer_32 rfl rfl
  · refine js_iload_n dX8_layer_8 rfl rfl ?_
    refine js_callS_P (mj := mX8_isBend) [(.int a2)] [] dX8_layer_9 tw_920 cm_X8_isBend tw_921 rfl rfl rfl rfl (qX8_isBend G a2 σ) ?_
    refine js_if_eq 26 dX8_layer_12 rfl ?_ ?_
    · refine js_aload_n dX8_layer_26 rfl rfl ?_
      refine js_ldc dX8_layer_27 tw_863 ?_
      refine js_callV_W (mj := mX8_finds) [(.int (-1000000001 : Int32))] [] dX8_layer_29 tw_864 cm_X8_finds cv_X8_finds rfl rfl rfl rfl rfl rfl (fun r h => qX8_finds G (-1000000001 : Int32) σ r h) (fun r3 => ?_)
      exact js_iret dX8_layer_32 rfl rfl
    · refine js_iload dX8_layer_15 rfl ?_
      refine js_i2l dX8_layer_17 ?_
      refine js_lconst dX8_layer_18 kl_0 ?_
      refine js_lconst dX8_layer_19 kl_1 ?_
      refine js_callS_P (mj := mX8_in) [(.long (Int32.toInt64 a4)), (.long (0 : Int64)), (.long (1 : Int64))] [] dX8_layer_20 tw_860 cm_X8_in tw_861 rfl rfl rfl rfl (qX8_in G (Int32.toInt64 a4) (0 : Int64) (1 : Int64) σ) ?_
      refine js_if_ne 33 dX8_layer_23 rfl ?_ ?_
      · refine js_iload_n dX8_layer_33 rfl rfl ?_
        refine js_i2l dX8_layer_34 ?_
        refine js_lconst dX8_layer_35 kl_0 ?_
        refine js_aload_n dX8_layer_36 rfl rfl ?_
        refine js_iload_n dX8_layer_37 rfl rfl ?_
        refine js_iload_n dX8_layer_38 rfl rfl ?_
        refine js_callV_I (mj := mX8_layers) [(.int a1), (.int a2)] [(.long (0 : Int64)), (.long (Int32.toInt64 a3))] dX8_layer_39 tw_893 cm_X8_layers cv_X8_layers rfl rfl rfl rfl rfl rfl (fun r h => qX8_layers G a1 a2 σ r h) (fun r4 => ?_)
        refine js_iconst dX8_layer_42 ki_1 ?_
        refine js_isub dX8_layer_43 ?_
        refine js_i2l dX8_layer_44 ?_
        refine js_callS_P (mj := mX8_in) [(.long (Int32.toInt64 a3)), (.long (0 : Int64)), (.long (Int32.toInt64 (r4 - (1 : Int32))))] [] dX8_layer_45 tw_860 cm_X8_in tw_861 rfl rfl rfl rfl (qX8_in G (Int32.toInt64 a3) (0 : Int64) (Int32.toInt64 (r4 - (1 : Int32))) σ) ?_
        refine js_if_ne 58 dX8_layer_48 rfl ?_ ?_
        · refine js_aload_n dX8_layer_58 rfl rfl ?_
          refine js_getR dX8_layer_59 fl_X8_7 rfl rfl ?_
          refine js_iload dX8_layer_62 rfl ?_
          refine js_if_ne 72 dX8_layer_64 rfl ?_ ?_
          · refine js_sipush dX8_layer_72 ks_345 ?_
            refine js_iload_n dX8_layer_75 rfl rfl ?_
            refine js_iload_n dX8_layer_76 rfl rfl ?_
            refine js_aload_n dX8_layer_77 rfl rfl ?_
            refine js_iload_n dX8_layer_78 rfl rfl ?_
            refine js_iload_n dX8_layer_79 rfl rfl ?_
            refine js_callV_I (mj := mX8_layers) [(.int a1), (.int a2)] [(.int a2), (.int a1), (.int (345 : Int32)), (.ref 1)] dX8_layer_80 tw_893 cm_X8_layers cv_X8_layers rfl rfl rfl rfl rfl rfl (fun r h => qX8_layers G a1 a2 σ r h) (fun r5 => ?_)
            refine js_iconst dX8_layer_83 ki_1 ?_
            refine js_isub dX8_layer_84 ?_
            refine js_iload_n dX8_layer_85 rfl rfl ?_
            refine js_isub dX8_layer_86 ?_
            refine js_callS_P (mj := mX8_spot) [(.int a1), (.int a2), (.int ((r5 - (1 : Int32)) - a3))] [(.int (345 : Int32)), (.ref 1)] dX8_layer_87 tw_905 cm_X8_spot tw_906 rfl rfl rfl rfl (qX8_spot G a1 a2 ((r5 - (1 : Int32)) - a3) σ) ?_
            refine js_iadd dX8_layer_90 ?_
            refine js_iald dX8_layer_91 rfl ?_
            exact js_iret dX8_layer_92 rfl rfl
          · refine js_bipush dX8_layer_67 kb_57 ?_
            refine js_goto 75 dX8_layer_69 rfl ?_
            refine js_iload_n dX8_layer_75 rfl rfl ?_
            refine js_iload_n dX8_layer_76 rfl rfl ?_
            refine js_aload_n dX8_layer_77 rfl rfl ?_
            refine js_iload_n dX8_layer_78 rfl rfl ?_
            refine js_iload_n dX8_layer_79 rfl rfl ?_
            refine js_callV_I (mj := mX8_layers) [(.int a1), (.int a2)] [(.int a2), (.int a1), (.int (57 : Int32)), (.ref 1)] dX8_layer_80 tw_893 cm_X8_layers cv_X8_layers rfl rfl rfl rfl rfl rfl (fun r h => qX8_layers G a1 a2 σ r h) (fun r6 => ?_)
            refine js_iconst dX8_layer_83 ki_1 ?_
            refine js_isub dX8_layer_84 ?_
            refine js_iload_n dX8_layer_85 rfl rfl ?_
            refine js_isub dX8_layer_86 ?_
            refine js_callS_P (mj := mX8_spot) [(.int a1), (.int a2), (.int ((r6 - (1 : Int32)) - a3))] [(.int (57 : Int32)), (.ref 1)] dX8_layer_87 tw_905 cm_X8_spot tw_906 rfl rfl rfl rfl (qX8_spot G a1 a2 ((r6 - (1 : Int32)) - a3) σ) ?_
            refine js_iadd dX8_layer_90 ?_
            refine js_iald dX8_layer_91 rfl ?_
            exact js_iret dX8_layer_92 rfl rfl
        · refine js_aload_n dX8_layer_51 rfl rfl ?_
          refine js_ldc dX8_layer_52 tw_933 ?_
          refine js_callV_W (mj := mX8_finds) [(.int (-1000000004 : Int32))] [] dX8_layer_54 tw_864 cm_X8_finds cv_X8_finds rfl rfl rfl rfl rfl rfl (fun r h => qX8_finds G (-1000000004 : Int32) σ r h) (fun r7 => ?_)
          exact js_iret dX8_layer_57 rfl rfl
      · refine js_aload_n dX8_layer_26 rfl rfl ?_
        refine js_ldc dX8_layer_27 tw_863 ?_
        refine js_callV_W (mj := mX8_finds) [(.int (-1000000001 : Int32))] [] dX8_layer_29 tw_864 cm_X8_finds cv_X8_finds rfl rfl rfl rfl rfl rfl (fun r h => qX8_finds G (-1000000001 : Int32) σ r h) (fun r8 => ?_)
        exact js_iret dX8_layer_32 rfl rfl

theorem qX8_layer (G : js_G) (a1 : Int32) (a2 : Int32) (a3 : Int32) (a4 : Int32) (σ : js_S) (r : (Int32 × js_S)) (h : fX8_layer a1 a2 a3 a4 σ = some r) : js_Con G shM mX8_layer [(.ref 0), (.int a1), (.int a2), (.int a3), (.int a4)] σ (js_eW r) := js_con (mi := mX8_layer) 0 pn_X8 rfl (Nat.le_of_ble_eq_true rfl) (jX8_layer G a1 a2 a3 a4 σ) r h
def fX8_becomes (a1 : Int32) (a2 : Int32) (σ : js_S) : Option (Int32 × js_S) := js_gd (js_ix a1 633) (js_gd (js_ix a1 633) (some ((σ.1 1 (Int32.toNatClampNeg a1)), (js_sI σ 1 (Int32.toNatClampNeg a1) a2))))
set_option maxRecDepth 10000 in
theorem jX8_becomes (G : js_G) (a1 : Int32) (a2 : Int32) (σ : js_S) : js_J G shM mX8_becomes js_eW 0 [some (.ref 0), some (.int a1), some (.int a2), none] [] σ (fX8_becomes a1 a2 σ) := by
  unfold fX8_becomes
  refine js_aload_n dX8_becomes_0 rfl rfl ?_
  refine js_getR dX8_becomes_1 fl_X8_7 rfl rfl ?_
  refine js_iload_n dX8_becomes_4 rfl rfl ?_
  refine js_iald dX8_becomes_5 rfl ?_
  refine js_istore_n (lv' := [some (.ref 0), some (.int a1), some (.int a2), some (.int (σ.1 1 (Int32.toNatClampNeg a1)))]) dX8_becomes_6 rfl rfl rfl rfl ?_
  refine js_aload_n dX8_becomes_7 rfl rfl ?_
  refine js_getR dX8_becomes_8 fl_X8_7 rfl rfl ?_
  refine js_iload_n dX8_becomes_11 rfl rfl ?_
  refine js_iload_n dX8_becomes_12 rfl rfl ?_
  refine js_iast dX8_becomes_13 rfl ?_
  refine js_iload_n dX8_becomes_14 rfl rfl ?_
  exact js_iret dX8_becomes_15 rfl rfl

theorem qX8_becomes (G : js_G) (a1 : Int32) (a2 : Int32) (σ : js_S) (r : (Int32 × js_S)) (h : fX8_becomes a1 a2 σ = some r) : js_Con G shM mX8_becomes [(.ref 0), (.int a1), (.int a2)] σ (js_eW r) := js_con (mi := mX8_becomes) 1 pn_X8 rfl (Nat.le_of_ble_eq_true rfl) (jX8_becomes G a1 a2 σ) r h
def fX8_turn (a1 : Int32) (a2 : Int32) (σ : js_S) : Option (Int32 × js_S) := (fX8_isFlue a1 σ).bind fun r1 => (if r1 = 0 then (fX8_finds (-1000000001 : Int32) σ).bind fun r2 => some (r2.1, r2.2) else (if (fX8_isKind a2) = 0 then (fX8_finds (-1000000001 : Int32) σ).bind fun r3 => some (r3.1, r3.2) else (fX8_becomes ((3 : Int32) + a1) a2 σ).bind fun r4 => some (r4.1, r4.2)))
set_option maxRecDepth 10000 in
theorem jX8_turn (G : js_G) (a1 : Int32) (a2 : Int32) (σ : js_S) : js_J G shM mX8_turn js_eW 0 [some (.ref 0), some (.int a1), some (.int a2)] [] σ (fX8_turn a1 a2 σ) := by
  unfold fX8_turn
  refine js_aload_n dX8_turn_0 rfl rfl ?_
  refine js_iload_n dX8_turn_1 rfl rfl ?_
  refine js_callV_I (mj := mX8_isFlue) [(.int a1)] [] dX8_turn_2 tw_880 cm_X8_isFlue cv_X8_isFlue rfl rfl rfl rfl rfl rfl (fun r h => qX8_isFlue G a1 σ r h) (fun r1 => ?_)
  refine js_if_eq 26 dX8_turn_5 rfl ?_ ?_
  · refine js_aload_n dX8_turn_26 rfl rfl ?_
    refine js_ldc dX8_turn_27 tw_863 ?_
    refine js_callV_W (mj := mX8_finds) [(.int (-1000000001 : Int32))] [] dX8_turn_29 tw_864 cm_X8_finds cv_X8_finds rfl rfl rfl rfl rfl rfl (fun r h => qX8_finds G (-1000000001 : Int32) σ r h) (fun r2 => ?_)
    exact js_iret dX8_turn_32 rfl rfl
  · refine js_iload_n dX8_turn_8 rfl rfl ?_
    refine js_callS_P (mj := mX8_isKind) [(.int a2)] [] dX8_turn_9 tw_856 cm_X8_isKind tw_857 rfl rfl rfl rfl (qX8_isKind G a2 σ) ?_
    refine js_if_eq 26 dX8_turn_12 rfl ?_ ?_
    · refine js_aload_n dX8_turn_26 rfl rfl ?_
      refine js_ldc dX8_turn_27 tw_863 ?_
      refine js_callV_W (mj := mX8_finds) [(.int (-1000000001 : Int32))] [] dX8_turn_29 tw_864 cm_X8_finds cv_X8_finds rfl rfl rfl rfl rfl rfl (fun r h => qX8_finds G (-1000000001 : Int32) σ r h) (fun r3 => ?_)
      exact js_iret dX8_turn_32 rfl rfl
    · refine js_aload_n dX8_turn_15 rfl rfl ?_
      refine js_iconst dX8_turn_16 ki_3 ?_
      refine js_iload_n dX8_turn_17 rfl rfl ?_
      refine js_iadd dX8_turn_18 ?_
      refine js_iload_n dX8_turn_19 rfl rfl ?_
      refine js_callV_W (mj := mX8_becomes) [(.int ((3 : Int32) + a1)), (.int a2)] [] dX8_turn_20 tw_938 cm_X8_becomes cv_X8_becomes rfl rfl rfl rfl rfl rfl (fun r h => qX8_becomes G ((3 : Int32) + a1) a2 σ r h) (fun r4 => ?_)
      refine js_goto 32 dX8_turn_23 rfl ?_
      exact js_iret dX8_turn_32 rfl rfl

theorem qX8_turn (G : js_G) (a1 : Int32) (a2 : Int32) (σ : js_S) (r : (Int32 × js_S)) (h : fX8_turn a1 a2 σ = some r) : js_Con G shM mX8_turn [(.ref 0), (.int a1), (.int a2)] σ (js_eW r) := js_con (mi := mX8_turn) 0 pn_X8 rfl (Nat.le_of_ble_eq_true rfl) (jX8_turn G a1 a2 σ) r h
def fX8_isUnder (a0 : Int32) (a1 : Int32) : Int32 := (if a1 = 0 then (1 : Int32) else (if a0 = a1 then (1 : Int32) else (if a0 ≤ (3 : Int32) then (0 : Int32) else (if (a0 - (3 : Int32)) = a1 then (1 : Int32) else (0 : Int32)))))
set_option maxRecDepth 10000 in
theorem jX8_isUnder (G : js_G) (a0 : Int32) (a1 : Int32) (σ : js_S) : js_J G shM mX8_isUnder (js_eI σ) 0 [some (.int a0), some (.int a1)] [] σ (some (fX8_isUnder a0 a1)) := by
  unfold fX8_isUnder
  refine js_iload_n dX8_isUnder_0 rfl rfl ?_
  refine js_pi ?_
  refine js_if_eq 21 dX8_isUnder_1 rfl ?_ ?_
  · refine js_iconst dX8_isUnder_21 ki_1 ?_
    refine js_goto 26 dX8_isUnder_22 rfl ?_
    exact js_zret dX8_isUnder_26 rfl nb_1.1 rfl
  · refine js_iload_n dX8_isUnder_4 rfl rfl ?_
    refine js_iload_n dX8_isUnder_5 rfl rfl ?_
    refine js_pi ?_
    refine js_icmp_eq 21 dX8_isUnder_6 rfl ?_ ?_
    · refine js_iconst dX8_isUnder_21 ki_1 ?_
      refine js_goto 26 dX8_isUnder_22 rfl ?_
      exact js_zret dX8_isUnder_26 rfl nb_1.1 rfl
    · refine js_iload_n dX8_isUnder_9 rfl rfl ?_
      refine js_iconst dX8_isUnder_10 ki_3 ?_
      refine js_pi ?_
      refine js_icmp_le 25 dX8_isUnder_11 rfl ?_ ?_
      · refine js_iconst dX8_isUnder_25 ki_0 ?_
        exact js_zret dX8_isUnder_26 rfl nb_0.1 rfl
      · refine js_iload_n dX8_isUnder_14 rfl rfl ?_
        refine js_iconst dX8_isUnder_15 ki_3 ?_
        refine js_isub dX8_isUnder_16 ?_
        refine js_iload_n dX8_isUnder_17 rfl rfl ?_
        refine js_pi ?_
        refine js_icmp_ne 25 dX8_isUnder_18 rfl ?_ ?_
        · refine js_iconst dX8_isUnder_25 ki_0 ?_
          exact js_zret dX8_isUnder_26 rfl nb_0.1 rfl
        · refine js_iconst dX8_isUnder_21 ki_1 ?_
          refine js_goto 26 dX8_isUnder_22 rfl ?_
          exact js_zret dX8_isUnder_26 rfl nb_1.1 rfl

theorem qX8_isUnder (G : js_G) (a0 : Int32) (a1 : Int32) (σ : js_S) : js_Con G shM mX8_isUnder [(.int a0), (.int a1)] σ (some (.int (fX8_isUnder a0 a1)), σ) := js_con (mi := mX8_isUnder) (emb := (js_eI σ)) 0 pn_X8 rfl (Nat.le_of_ble_eq_true rfl) (jX8_isUnder G a0 a1 σ) _ rfl
theorem zX8_isUnder (a0 : Int32) (a1 : Int32) : fX8_isUnder a0 a1 = 0 ∨ fX8_isUnder a0 a1 = 1 := by
  unfold fX8_isUnder
  repeat' split
  all_goals first | exact Or.inl rfl | exact Or.inr rfl
def fX8_as (a1 : Int32) (a2 : Int32) (σ : js_S) : Option (Int32 × js_S) := (fX8_isFlue a1 σ).bind fun r1 => (if r1 = 0 then (fX8_finds (-1000000001 : Int32) σ).bind fun r2 => some (r2.1, r2.2) else (if (fX8_isKind a2) = 0 then (fX8_finds (-1000000001 : Int32) σ).bind fun r6 => some (r6.1, r6.2) else (fX8_kindOf a1 σ).bind fun r3 => (if (fX8_isUnder r3 a2) = 0 then (fX8_finds (-1000000003 : Int32) σ).bind fun r4 => some (r4.1, r4.2) else (fX8_layersOf a1 σ).bind fun r5 => some (r5, σ))))
set_option maxRecDepth 10000 in
theorem jX8_as (G : js_G) (a1 : Int32) (a2 : Int32) (σ : js_S) : js_J G shM mX8_as js_eW 0 [some (.ref 0), some (.int a1), some (.int a2)] [] σ (fX8_as a1 a2 σ) := by
  unfold fX8_as
  refine js_aload_n dX8_as_0 rfl rfl ?_
  refine js_iload_n dX8_as_1 rfl rfl ?_
  refine js_callV_I (mj := mX8_isFlue) [(.int a1)] [] dX8_as_2 tw_880 cm_X8_isFlue cv_X8_isFlue rfl rfl rfl rfl rfl rfl (fun r h => qX8_isFlue G a1 σ r h) (fun r1 => ?_)
  refine js_if_eq 15 dX8_as_5 rfl ?_ ?_
  · refine js_aload_n dX8_as_15 rfl rfl ?_
    refine js_ldc dX8_as_16 tw_863 ?_
    refine js_callV_W (mj := mX8_finds) [(.int (-1000000001 : Int32))] [] dX8_as_18 tw_864 cm_X8_finds cv_X8_finds rfl rfl rfl rfl rfl rfl (fun r h => qX8_finds G (-1000000001 : Int32) σ r h) (fun r2 => ?_)
    exact js_iret dX8_as_21 rfl rfl
  · refine js_iload_n dX8_as_8 rfl rfl ?_
    refine js_callS_P (mj := mX8_isKind) [(.int a2)] [] dX8_as_9 tw_856 cm_X8_isKind tw_857 rfl rfl rfl rfl (qX8_isKind G a2 σ) ?_
    refine js_if_ne 22 dX8_as_12 rfl ?_ ?_
    · refine js_aload_n dX8_as_22 rfl rfl ?_
      refine js_iload_n dX8_as_23 rfl rfl ?_
      refine js_callV_I (mj := mX8_kindOf) [(.int a1)] [] dX8_as_24 tw_885 cm_X8_kindOf cv_X8_kindOf rfl rfl rfl rfl rfl rfl (fun r h => qX8_kindOf G a1 σ r h) (fun r3 => ?_)
      refine js_iload_n dX8_as_27 rfl rfl ?_
      refine js_callS_P (mj := mX8_isUnder) [(.int r3), (.int a2)] [] dX8_as_28 tw_946 cm_X8_isUnder tw_947 rfl rfl rfl rfl (qX8_isUnder G r3 a2 σ) ?_
      refine js_if_eq 42 dX8_as_31 rfl ?_ ?_
      · refine js_aload_n dX8_as_42 rfl rfl ?_
        refine js_ldc dX8_as_43 tw_949 ?_
        refine js_callV_W (mj := mX8_finds) [(.int (-1000000003 : Int32))] [] dX8_as_45 tw_864 cm_X8_finds cv_X8_finds rfl rfl rfl rfl rfl rfl (fun r h => qX8_finds G (-1000000003 : Int32) σ r h) (fun r4 => ?_)
        exact js_iret dX8_as_48 rfl rfl
      · refine js_aload_n dX8_as_34 rfl rfl ?_
        refine js_iload_n dX8_as_35 rfl rfl ?_
        refine js_callV_I (mj := mX8_layersOf) [(.int a1)] [] dX8_as_36 tw_889 cm_X8_layersOf cv_X8_layersOf rfl rfl rfl rfl rfl rfl (fun r h => qX8_layersOf G a1 σ r h) (fun r5 => ?_)
        refine js_goto 48 dX8_as_39 rfl ?_
        exact js_iret dX8_as_48 rfl rfl
    · refine js_aload_n dX8_as_15 rfl rfl ?_
      refine js_ldc dX8_as_16 tw_863 ?_
      refine js_callV_W (mj := mX8_finds) [(.int (-1000000001 : Int32))] [] dX8_as_18 tw_864 cm_X8_finds cv_X8_finds rfl rfl rfl rfl rfl rfl (fun r h => qX8_finds G (-1000000001 : Int32) σ r h) (fun r6 => ?_)
      exact js_iret dX8_as_21 rfl rfl

theorem qX8_as (G : js_G) (a1 : Int32) (a2 : Int32) (σ : js_S) (r : (Int32 × js_S)) (h : fX8_as a1 a2 σ = some r) : js_Con G shM mX8_as [(.ref 0), (.int a1), (.int a2)] σ (js_eW r) := js_con (mi := mX8_as) 0 pn_X8 rfl (Nat.le_of_ble_eq_true rfl) (jX8_as G a1 a2 σ) r h
def fX8_damp (a1 : Int32) (σ : js_S) : Option (Int32 × js_S) := (if (fX8_in (Int32.toInt64 a1) (0 : Int64) (9 : Int64)) = 0 then (fX8_finds (-1000000001 : Int32) σ).bind fun r1 => some (r1.1, r1.2) else (fX8_becomes (2 : Int32) a1 σ).bind fun r2 => some (r2.1, r2.2))
set_option maxRecDepth 10000 in
theorem jX8_damp (G : js_G) (a1 : Int32) (σ : js_S) : js_J G shM mX8_damp js_eW 0 [some (.ref 0), some (.int a1)] [] σ (fX8_damp a1 σ) := by
  unfold fX8_damp
  refine js_iload_n dX8_damp_0 rfl rfl ?_
  refine js_i2l dX8_damp_1 ?_
  refine js_lconst dX8_damp_2 kl_0 ?_
  refine js_ldc2 dX8_damp_3 tw_954 ?_
  refine js_callS_P (mj := mX8_in) [(.long (Int32.toInt64 a1)), (.long (0 : Int64)), (.long (9 : Int64))] [] dX8_damp_6 tw_860 cm_X8_in tw_861 rfl rfl rfl rfl (qX8_in G (Int32.toInt64 a1) (0 : Int64) (9 : Int64) σ) ?_
  refine js_if_eq 21 dX8_damp_9 rfl ?_ ?_
  · refine js_aload_n dX8_damp_21 rfl rfl ?_
    refine js_ldc dX8_damp_22 tw_863 ?_
    refine js_callV_W (mj := mX8_finds) [(.int (-1000000001 : Int32))] [] dX8_damp_24 tw_864 cm_X8_finds cv_X8_finds rfl rfl rfl rfl rfl rfl (fun r h => qX8_finds G (-1000000001 : Int32) σ r h) (fun r1 => ?_)
    exact js_iret dX8_damp_27 rfl rfl
  · refine js_aload_n dX8_damp_12 rfl rfl ?_
    refine js_iconst dX8_damp_13 ki_2 ?_
    refine js_iload_n dX8_damp_14 rfl rfl ?_
    refine js_callV_W (mj := mX8_becomes) [(.int (2 : Int32)), (.int a1)] [] dX8_damp_15 tw_938 cm_X8_becomes cv_X8_becomes rfl rfl rfl rfl rfl rfl (fun r h => qX8_becomes G (2 : Int32) a1 σ r h) (fun r2 => ?_)
    refine js_goto 27 dX8_damp_18 rfl ?_
    exact js_iret dX8_damp_27 rfl rfl

theorem qX8_damp (G : js_G) (a1 : Int32) (σ : js_S) (r : (Int32 × js_S)) (h : fX8_damp a1 σ = some r) : js_Con G shM mX8_damp [(.ref 0), (.int a1)] σ (js_eW r) := js_con (mi := mX8_damp) 0 pn_X8 rfl (Nat.le_of_ble_eq_true rfl) (jX8_damp G a1 σ) r h
def fX8_isWord (a0 : Int32) : Int32 := (fX8_in (Int32.toInt64 a0) (0 : Int64) (15 : Int64))
set_option maxRecDepth 10000 in
theorem jX8_isWord (G : js_G) (a0 : Int32) (σ : js_S) : js_J G shM mX8_isWord (js_eI σ) 0 [some (.int a0)] [] σ (some (fX8_isWord a0)) := by
  unfold fX8_isWord
  refine js_iload_n dX8_isWord_0 rfl rfl ?_
  refine js_i2l dX8_isWord_1 ?_
  refine js_lconst dX8_isWord_2 kl_0 ?_
  refine js_ldc2 dX8_isWord_3 tw_962 ?_
  refine js_callS_P (mj := mX8_in) [(.long (Int32.toInt64 a0)), (.long (0 : Int64)), (.long (15 : Int64))] [] dX8_isWord_6 tw_860 cm_X8_in tw_861 rfl rfl rfl rfl (qX8_in G (Int32.toInt64 a0) (0 : Int64) (15 : Int64) σ) ?_
  exact js_zret dX8_isWord_9 rfl (js_nb (zX8_in (Int32.toInt64 a0) (0 : Int64) (15 : Int64))) rfl

theorem qX8_isWord (G : js_G) (a0 : Int32) (σ : js_S) : js_Con G shM mX8_isWord [(.int a0)] σ (some (.int (fX8_isWord a0)), σ) := js_con (mi := mX8_isWord) (emb := (js_eI σ)) 0 pn_X8 rfl (Nat.le_of_ble_eq_true rfl) (jX8_isWord G a0 σ) _ rfl
theorem zX8_isWord (a0 : Int32) : fX8_isWord a0 = 0 ∨ fX8_isWord a0 = 1 := by
  unfold fX8_isWord
  repeat' split
  all_goals first | exact Or.inl rfl | exact Or.inr rfl | exact zX8_in _ _ _
def fX8_isVoice (a0 : Int32) : Int32 := (fX8_in (Int32.toInt64 a0) (0 : Int64) (9 : Int64))
set_option maxRecDepth 10000 in
theorem jX8_isVoice (G : js_G) (a0 : Int32) (σ : js_S) : js_J G shM mX8_isVoice (js_eI σ) 0 [some (.int a0)] [] σ (some (fX8_isVoice a0)) := by
  unfold fX8_isVoice
  refine js_iload_n dX8_isVoice_0 rfl rfl ?_
  refine js_i2l dX8_isVoice_1 ?_
  refine js_lconst dX8_isVoice_2 kl_0 ?_
  refine js_ldc2 dX8_isVoice_3 tw_954 ?_
  refine js_callS_P (mj := mX8_in) [(.long (Int32.toInt64 a0)), (.long (0 : Int64)), (.long (9 : Int64))] [] dX8_isVoice_6 tw_860 cm_X8_in tw_861 rfl rfl rfl rfl (qX8_in G (Int32.toInt64 a0) (0 : Int64) (9 : Int64) σ) ?_
  exact js_zret dX8_isVoice_9 rfl (js_nb (zX8_in (Int32.toInt64 a0) (0 : Int64) (9 : Int64))) rfl

theorem qX8_isVoice (G : js_G) (a0 : Int32) (σ : js_S) : js_Con G shM mX8_isVoice [(.int a0)] σ (some (.int (fX8_isVoice a0)), σ) := js_con (mi := mX8_isVoice) (emb := (js_eI σ)) 0 pn_X8 rfl (Nat.le_of_ble_eq_true rfl) (jX8_isVoice G a0 σ) _ rfl
theorem zX8_isVoice (a0 : Int32) : fX8_isVoice a0 = 0 ∨ fX8_isVoice a0 = 1 := by
  unfold fX8_isVoice
  repeat' split
  all_goals first | exact Or.inl rfl | exact Or.inr rfl | exact zX8_in _ _ _
def fX8_rise (a1 : Int32) (a2 : Int32) (a3 : Int32) (σ : js_S) : Option Int32 := (if (7 : Int32) ≤ a3 then (if (a2 - a2 / (8 : Int32) * (8 : Int32)) ≤ (0 : Int32) then (if (0 : Int32) ≤ (2 : Int32) then (fX8_kindOf a1 σ).bind fun r1 => (if r1 = (1 : Int32) then some (a2 - a2 / (8 : Int32) * (8 : Int32)) else (if r1 = (2 : Int32) then some (0 : Int32) else (if r1 = (3 : Int32) then some (0 : Int32) else (if r1 = (4 : Int32) then (if a2 = (15 : Int32) then some (7 : Int32) else some (a2 - a2 / (8 : Int32) * (8 : Int32))) else (if r1 = (5 : Int32) then js_gd (js_ix (1 : Int32) 633) ((if ((σ.1 1 (Int32.toNatClampNeg (1 : Int32))) - (σ.1 1 (Int32.toNatClampNeg (1 : Int32))) / (4 : Int32) * (4 : Int32)) = (2 : Int32) then some (-1 : Int32) else some (0 : Int32))) else some (0 : Int32)))))) else (fX8_kindOf a1 σ).bind fun r7 => (if r7 = (1 : Int32) then some (a2 - a2 / (8 : Int32) * (8 : Int32)) else (if r7 = (2 : Int32) then some ((0 : Int32) - (2 : Int32)) else (if r7 = (3 : Int32) then some (0 : Int32) else (if r7 = (4 : Int32) then (if a2 = (15 : Int32) then some (7 : Int32) else some (a2 - a2 / (8 : Int32) * (8 : Int32))) else (if r7 = (5 : Int32) then js_gd (js_ix (1 : Int32) 633) ((if ((σ.1 1 (Int32.toNatClampNeg (1 : Int32))) - (σ.1 1 (Int32.toNatClampNeg (1 : Int32))) / (4 : Int32) * (4 : Int32)) = (2 : Int32) then some (-1 : Int32) else some ((0 : Int32) - (2 : Int32)))) else some (0 : Int32))))))) else (if (0 : Int32) ≤ (2 : Int32) then (fX8_kindOf a1 σ).bind fun r13 => (if r13 = (1 : Int32) then some (0 : Int32) else (if r13 = (2 : Int32) then some (0 : Int32) else (if r13 = (3 : Int32) then some (0 : Int32) else (if r13 = (4 : Int32) then (if a2 = (15 : Int32) then some (7 : Int32) else some (0 : Int32)) else (if r13 = (5 : Int32) then js_gd (js_ix (1 : Int32) 633) ((if ((σ.1 1 (Int32.toNatClampNeg (1 : Int32))) - (σ.1 1 (Int32.toNatClampNeg (1 : Int32))) / (4 : Int32) * (4 : Int32)) = (2 : Int32) then some (-1 : Int32) else some (0 : Int32))) else some (0 : Int32)))))) else (fX8_kindOf a1 σ).bind fun r19 => (if r19 = (1 : Int32) then some (0 : Int32) else (if r19 = (2 : Int32) then some ((0 : Int32) - (2 : Int32)) else (if r19 = (3 : Int32) then some (0 : Int32) else (if r19 = (4 : Int32) then (if a2 = (15 : Int32) then some (7 : Int32) else some (0 : Int32)) else (if r19 = (5 : Int32) then js_gd (js_ix (1 : Int32) 633) ((if ((σ.1 1 (Int32.toNatClampNeg (1 : Int32))) - (σ.1 1 (Int32.toNatClampNeg (1 : Int32))) / (4 : Int32) * (4 : Int32)) = (2 : Int32) then some (-1 : Int32) else some ((0 : Int32) - (2 : Int32)))) else some (0 : Int32)))))))) else (if (a2 - a2 / (8 : Int32) * (8 : Int32)) ≤ ((7 : Int32) - a3) then (if ((7 : Int32) - a3) ≤ (2 : Int32) then (fX8_kindOf a1 σ).bind fun r25 => (if r25 = (1 : Int32) then some (a2 - a2 / (8 : Int32) * (8 : Int32)) else (if r25 = (2 : Int32) then some (0 : Int32) else (if r25 = (3 : Int32) then some (0 : Int32) else (if r25 = (4 : Int32) then (if a2 = (15 : Int32) then some (7 : Int32) else some (a2 - a2 / (8 : Int32) * (8 : Int32))) else (if r25 = (5 : Int32) then js_gd (js_ix (1 : Int32) 633) ((if ((σ.1 1 (Int32.toNatClampNeg (1 : Int32))) - (σ.1 1 (Int32.toNatClampNeg (1 : Int32))) / (4 : Int32) * (4 : Int32)) = (2 : Int32) then some (-1 : Int32) else some (0 : Int32))) else some ((7 : Int32) - a3)))))) else (fX8_kindOf a1 σ).bind fun r31 => (if r31 = (1 : Int32) then some (a2 - a2 / (8 : Int32) * (8 : Int32)) else (if r31 = (2 : Int32) then some (((7 : Int32) - a3) - (2 : Int32)) else (if r31 = (3 : Int32) then some (0 : Int32) else (if r31 = (4 : Int32) then (if a2 = (15 : Int32) then some (7 : Int32) else some (a2 - a2 / (8 : Int32) * (8 : Int32))) else (if r31 = (5 : Int32) then js_gd (js_ix (1 : Int32) 633) ((if ((σ.1 1 (Int32.toNatClampNeg (1 : Int32))) - (σ.1 1 (Int32.toNatClampNeg (1 : Int32))) / (4 : Int32) * (4 : Int32)) = (2 : Int32) then some (-1 : Int32) else some (((7 : Int32) - a3) - (2 : Int32)))) else some ((7 : Int32) - a3))))))) else (if ((7 : Int32) - a3) ≤ (2 : Int32) then (fX8_kindOf a1 σ).bind fun r37 => (if r37 = (1 : Int32) then some ((7 : Int32) - a3) else (if r37 = (2 : Int32) then some (0 : Int32) else (if r37 = (3 : Int32) then some (0 : Int32) else (if r37 = (4 : Int32) then (if a2 = (15 : Int32) then some (7 : Int32) else some ((7 : Int32) - a3)) else (if r37 = (5 : Int32) then js_gd (js_ix (1 : Int32) 633) ((if ((σ.1 1 (Int32.toNatClampNeg (1 : Int32))) - (σ.1 1 (Int32.toNatClampNeg (1 : Int32))) / (4 : Int32) * (4 : Int32)) = (2 : Int32) then some (-1 : Int32) else some (0 : Int32))) else some ((7 : Int32) - a3)))))) else (fX8_kindOf a1 σ).bind fun r43 => (if r43 = (1 : Int32) then some ((7 : Int32) - a3) else (if r43 = (2 : Int32) then some (((7 : Int32) - a3) - (2 : Int32)) else (if r43 = (3 : Int32) then some (0 : Int32) else (if r43 = (4 : Int32) then (if a2 = (15 : Int32) then some (7 : Int32) else some ((7 : Int32) - a3)) else (if r43 = (5 : Int32) then js_gd (js_ix (1 : Int32) 633) ((if ((σ.1 1 (Int32.toNatClampNeg (1 : Int32))) - (σ.1 1 (Int32.toNatClampNeg (1 : Int32))) / (4 : Int32) * (4 : Int32)) = (2 : Int32) then some (-1 : Int32) else some (((7 : Int32) - a3) - (2 : Int32)))) else some ((7 : Int32) - a3)))))))))
set_option maxRecDepth 10000 in
theorem jX8_rise (G : js_G) (a1 : Int32) (a2 : Int32) (a3 : Int32) (σ : js_S) : js_J G shM mX8_rise (js_eI σ) 0 [some (.ref 0), some (.int a1), some (.int a2), some (.int a3), none, none, none] [] σ (fX8_rise a1 a2 a3 σ) := by
  unfold fX8_rise
  refine js_iload_n dX8_rise_0 rfl rfl ?_
  refine js_bipush dX8_rise_1 kb_7 ?_
  refine js_icmp_ge 13 dX8_rise_3 rfl ?_ ?_
  · refine js_iconst dX8_rise_13 ki_0 ?_
    refine js_istore (lv' := [some (.ref 0), some (.int a1), some (.int a2), some (.int a3), some (.int (0 : Int32)), none, none]) dX8_rise_14 rfl rfl rfl ?_
    refine js_iload dX8_rise_16 rfl ?_
    refine js_iload_n dX8_rise_18 rfl rfl ?_
    refine js_bipush dX8_rise_19 kb_8 ?_
    refine js_irem dX8_rise_21 (by decide) ?_
    refine js_icmp_ge 30 dX8_rise_22 rfl ?_ ?_
    · refine js_iload_n dX8_rise_30 rfl rfl ?_
      refine js_bipush dX8_rise_31 kb_8 ?_
      refine js_irem dX8_rise_33 (by decide) ?_
      refine js_istore (lv' := [some (.ref 0), some (.int a1), some (.int a2), some (.int a3), some (.int (0 : Int32)), some (.int (a2 - a2 / (8 : Int32) * (8 : Int32))), none]) dX8_rise_34 rfl rfl rfl ?_
      refine js_iload dX8_rise_36 rfl ?_
      refine js_iconst dX8_rise_38 ki_2 ?_
      refine js_icmp_le 49 dX8_rise_39 rfl ?_ ?_
      · refine js_iconst dX8_rise_49 ki_0 ?_
        refine js_istore (lv' := [some (.ref 0), some (.int a1), some (.int a2), some (.int a3), some (.int (0 : Int32)), some (.int (a2 - a2 / (8 : Int32) * (8 : Int32))), some (.int (0 : Int32))]) dX8_rise_50 rfl rfl rfl ?_
        refine js_aload_n dX8_rise_52 rfl rfl ?_
        refine js_iload_n dX8_rise_53 rfl rfl ?_
        refine js_callV_I (mj := mX8_kindOf) [(.int a1)] [] dX8_rise_54 tw_885 cm_X8_kindOf cv_X8_kindOf rfl rfl rfl rfl rfl rfl (fun r h => qX8_kindOf G a1 σ r h) (fun r1 => ?_)
        refine js_split (fun h2 => ?_) (fun h2 => ?_)
        · refine js_tabI (1 : Int32) (off := 35) 92 dX8_rise_57 h2 (by decide) ?_
          refine js_iload dX8_rise_92 rfl ?_
          exact js_iret dX8_rise_94 rfl rfl
        · refine js_split (fun h3 => ?_) (fun h3 => ?_)
          · refine js_tabI (2 : Int32) (off := 38) 95 dX8_rise_57 h3 (by decide) ?_
            refine js_iload dX8_rise_95 rfl ?_
            exact js_iret dX8_rise_97 rfl rfl
          · refine js_split (fun h4 => ?_) (fun h4 => ?_)
            · refine js_tabI (3 : Int32) (off := 41) 98 dX8_rise_57 h4 (by decide) ?_
              refine js_iconst dX8_rise_98 ki_0 ?_
              exact js_iret dX8_rise_99 rfl rfl
            · refine js_split (fun h5 => ?_) (fun h5 => ?_)
              · refine js_tabI (4 : Int32) (off := 43) 100 dX8_rise_57 h5 (by decide) ?_
                refine js_iload_n dX8_rise_100 rfl rfl ?_
                refine js_bipush dX8_rise_101 kb_15 ?_
                refine js_icmp_ne 111 dX8_rise_103 rfl ?_ ?_
                · refine js_iload dX8_rise_111 rfl ?_
                  exact js_iret dX8_rise_113 rfl rfl
                · refine js_bipush dX8_rise_106 kb_7 ?_
                  refine js_goto 113 dX8_rise_108 rfl ?_
                  exact js_iret dX8_rise_113 rfl rfl
              · refine js_split (fun h6 => ?_) (fun h6 => ?_)
                · refine js_tabI (5 : Int32) (off := 57) 114 dX8_rise_57 h6 (by decide) ?_
                  refine js_aload_n dX8_rise_114 rfl rfl ?_
                  refine js_getR dX8_rise_115 fl_X8_7 rfl rfl ?_
                  refine js_iconst dX8_rise_118 ki_1 ?_
                  refine js_iald dX8_rise_119 rfl ?_
                  refine js_iconst dX8_rise_120 ki_4 ?_
                  refine js_irem dX8_rise_121 (by decide) ?_
                  refine js_iconst dX8_rise_122 ki_2 ?_
                  refine js_icmp_ne 130 dX8_rise_123 rfl ?_ ?_
                  · refine js_iload dX8_rise_130 rfl ?_
                    exact js_iret dX8_rise_132 rfl rfl
                  · refine js_iconst dX8_rise_126 ki_m1 ?_
                    refine js_goto 132 dX8_rise_127 rfl ?_
                    exact js_iret dX8_rise_132 rfl rfl
                · refine js_tabO 133 dX8_rise_57 (by have eh2 := lv_neT h2 (k := (1 : Int32)) (a := 1) (by decide); have eh3 := lv_neT h3 (k := (2 : Int32)) (a := 2) (by decide); have eh4 := lv_neT h4 (k := (3 : Int32)) (a := 3) (by decide); have eh5 := lv_neT h5 (k := (4 : Int32)) (a := 4) (by decide); have eh6 := lv_neT h6 (k := (5 : Int32)) (a := 5) (by decide); omega) rfl ?_
                  refine js_iload dX8_rise_133 rfl ?_
                  exact js_iret dX8_rise_135 rfl rfl
      · refine js_iload dX8_rise_42 rfl ?_
        refine js_iconst dX8_rise_44 ki_2 ?_
        refine js_isub dX8_rise_45 ?_
        refine js_goto 50 dX8_rise_46 rfl ?_
        refine js_istore (lv' := [some (.ref 0), some (.int a1), some (.int a2), some (.int a3), some (.int (0 : Int32)), some (.int (a2 - a2 / (8 : Int32) * (8 : Int32))), some (.int ((0 : Int32) - (2 : Int32)))]) dX8_rise_50 rfl rfl rfl ?_
        refine js_aload_n dX8_rise_52 rfl rfl ?_
        refine js_iload_n dX8_rise_53 rfl rfl ?_
        refine js_callV_I (mj := mX8_kindOf) [(.int a1)] [] dX8_rise_54 tw_885 cm_X8_kindOf cv_X8_kindOf rfl rfl rfl rfl rfl rfl (fun r h => qX8_kindOf G a1 σ r h) (fun r7 => ?_)
        refine js_split (fun h8 => ?_) (fun h8 => ?_)
        · refine js_tabI (1 : Int32) (off := 35) 92 dX8_rise_57 h8 (by decide) ?_
          refine js_iload dX8_rise_92 rfl ?_
          exact js_iret dX8_rise_94 rfl rfl
        · refine js_split (fun h9 => ?_) (fun h9 => ?_)
          · refine js_tabI (2 : Int32) (off := 38) 95 dX8_rise_57 h9 (by decide) ?_
            refine js_iload dX8_rise_95 rfl ?_
            exact js_iret dX8_rise_97 rfl rfl
          · refine js_split (fun h10 => ?_) (fun h10 => ?_)
            · refine js_tabI (3 : Int32) (off := 41) 98 dX8_rise_57 h10 (by decide) ?_
              refine js_iconst dX8_rise_98 ki_0 ?_
              exact js_iret dX8_rise_99 rfl rfl
            · refine js_split (fun h11 => ?_) (fun h11 => ?_)
              · refine js_tabI (4 : Int32) (off := 43) 100 dX8_rise_57 h11 (by decide) ?_
                refine js_iload_n dX8_rise_100 rfl rfl ?_
                refine js_bipush dX8_rise_101 kb_15 ?_
                refine js_icmp_ne 111 dX8_rise_103 rfl ?_ ?_
                · refine js_iload dX8_rise_111 rfl ?_
                  exact js_iret dX8_rise_113 rfl rfl
                · refine js_bipush dX8_rise_106 kb_7 ?_
                  refine js_goto 113 dX8_rise_108 rfl ?_
                  exact js_iret dX8_rise_113 rfl rfl
              · refine js_split (fun h12 => ?_) (fun h12 => ?_)
                · refine js_tabI (5 : Int32) (off := 57) 114 dX8_rise_57 h12 (by decide) ?_
                  refine js_aload_n dX8_rise_114 rfl rfl ?_
                  refine js_getR dX8_rise_115 fl_X8_7 rfl rfl ?_
                  refine js_iconst dX8_rise_118 ki_1 ?_
                  refine js_iald dX8_rise_119 rfl ?_
                  refine js_iconst dX8_rise_120 ki_4 ?_
                  refine js_irem dX8_rise_121 (by decide) ?_
                  refine js_iconst dX8_rise_122 ki_2 ?_
                  refine js_icmp_ne 130 dX8_rise_123 rfl ?_ ?_
                  · refine js_iload dX8_rise_130 rfl ?_
                    exact js_iret dX8_rise_132 rfl rfl
                  · refine js_iconst dX8_rise_126 ki_m1 ?_
                    refine js_goto 132 dX8_rise_127 rfl ?_
                    exact js_iret dX8_rise_132 rfl rfl
                · refine js_tabO 133 dX8_rise_57 (by have eh8 := lv_neT h8 (k := (1 : Int32)) (a := 1) (by decide); have eh9 := lv_neT h9 (k := (2 : Int32)) (a := 2) (by decide); have eh10 := lv_neT h10 (k := (3 : Int32)) (a := 3) (by decide); have eh11 := lv_neT h11 (k := (4 : Int32)) (a := 4) (by decide); have eh12 := lv_neT h12 (k := (5 : Int32)) (a := 5) (by decide); omega) rfl ?_
                  refine js_iload dX8_rise_133 rfl ?_
                  exact js_iret dX8_rise_135 rfl rfl
    · refine js_iload dX8_rise_25 rfl ?_
      refine js_goto 34 dX8_rise_27 rfl ?_
      refine js_istore (lv' := [some (.ref 0), some (.int a1), some (.int a2), some (.int a3), some (.int (0 : Int32)), some (.int (0 : Int32)), none]) dX8_rise_34 rfl rfl rfl ?_
      refine js_iload dX8_rise_36 rfl ?_
      refine js_iconst dX8_rise_38 ki_2 ?_
      refine js_icmp_le 49 dX8_rise_39 rfl ?_ ?_
      · refine js_iconst dX8_rise_49 ki_0 ?_
        refine js_istore (lv' := [some (.ref 0), some (.int a1), some (.int a2), some (.int a3), some (.int (0 : Int32)), some (.int (0 : Int32)), some (.int (0 : Int32))]) dX8_rise_50 rfl rfl rfl ?_
        refine js_aload_n dX8_rise_52 rfl rfl ?_
        refine js_iload_n dX8_rise_53 rfl rfl ?_
        refine js_callV_I (mj := mX8_kindOf) [(.int a1)] [] dX8_rise_54 tw_885 cm_X8_kindOf cv_X8_kindOf rfl rfl rfl rfl rfl rfl (fun r h => qX8_kindOf G a1 σ r h) (fun r13 => ?_)
        refine js_split (fun h14 => ?_) (fun h14 => ?_)
        · refine js_tabI (1 : Int32) (off := 35) 92 dX8_rise_57 h14 (by decide) ?_
          refine js_iload dX8_rise_92 rfl ?_
          exact js_iret dX8_rise_94 rfl rfl
        · refine js_split (fun h15 => ?_) (fun h15 => ?_)
          · refine js_tabI (2 : Int32) (off := 38) 95 dX8_rise_57 h15 (by decide) ?_
            refine js_iload dX8_rise_95 rfl ?_
            exact js_iret dX8_rise_97 rfl rfl
          · refine js_split (fun h16 => ?_) (fun h16 => ?_)
            · refine js_tabI (3 : Int32) (off := 41) 98 dX8_rise_57 h16 (by decide) ?_
              refine js_iconst dX8_rise_98 ki_0 ?_
              exact js_iret dX8_rise_99 rfl rfl
            · refine js_split (fun h17 => ?_) (fun h17 => ?_)
              · refine js_tabI (4 : Int32) (off := 43) 100 dX8_rise_57 h17 (by decide) ?_
                refine js_iload_n dX8_rise_100 rfl rfl ?_
                refine js_bipush dX8_rise_101 kb_15 ?_
                refine js_icmp_ne 111 dX8_rise_103 rfl ?_ ?_
                · refine js_iload dX8_rise_111 rfl ?_
                  exact js_iret dX8_rise_113 rfl rfl
                · refine js_bipush dX8_rise_106 kb_7 ?_
                  refine js_goto 113 dX8_rise_108 rfl ?_
                  exact js_iret dX8_rise_113 rfl rfl
              · refine js_split (fun h18 => ?_) (fun h18 => ?_)
                · refine js_tabI (5 : Int32) (off := 57) 114 dX8_rise_57 h18 (by decide) ?_
                  refine js_aload_n dX8_rise_114 rfl rfl ?_
                  refine js_getR dX8_rise_115 fl_X8_7 rfl rfl ?_
                  refine js_iconst dX8_rise_118 ki_1 ?_
                  refine js_iald dX8_rise_119 rfl ?_
                  refine js_iconst dX8_rise_120 ki_4 ?_
                  refine js_irem dX8_rise_121 (by decide) ?_
                  refine js_iconst dX8_rise_122 ki_2 ?_
                  refine js_icmp_ne 130 dX8_rise_123 rfl ?_ ?_
                  · refine js_iload dX8_rise_130 rfl ?_
                    exact js_iret dX8_rise_132 rfl rfl
                  · refine js_iconst dX8_rise_126 ki_m1 ?_
                    refine js_goto 132 dX8_rise_127 rfl ?_
                    exact js_iret dX8_rise_132 rfl rfl
                · refine js_tabO 133 dX8_rise_57 (by have eh14 := lv_neT h14 (k := (1 : Int32)) (a := 1) (by decide); have eh15 := lv_neT h15 (k := (2 : Int32)) (a := 2) (by decide); have eh16 := lv_neT h16 (k := (3 : Int32)) (a := 3) (by decide); have eh17 := lv_neT h17 (k := (4 : Int32)) (a := 4) (by decide); have eh18 := lv_neT h18 (k := (5 : Int32)) (a := 5) (by decide); omega) rfl ?_
                  refine js_iload dX8_rise_133 rfl ?_
                  exact js_iret dX8_rise_135 rfl rfl
      · refine js_iload dX8_rise_42 rfl ?_
        refine js_iconst dX8_rise_44 ki_2 ?_
        refine js_isub dX8_rise_45 ?_
        refine js_goto 50 dX8_rise_46 rfl ?_
        refine js_istore (lv' := [some (.ref 0), some (.int a1), some (.int a2), some (.int a3), some (.int (0 : Int32)), some (.int (0 : Int32)), some (.int ((0 : Int32) - (2 : Int32)))]) dX8_rise_50 rfl rfl rfl ?_
        refine js_aload_n dX8_rise_52 rfl rfl ?_
        refine js_iload_n dX8_rise_53 rfl rfl ?_
        refine js_callV_I (mj := mX8_kindOf) [(.int a1)] [] dX8_rise_54 tw_885 cm_X8_kindOf cv_X8_kindOf rfl rfl rfl rfl rfl rfl (fun r h => qX8_kindOf G a1 σ r h) (fun r19 => ?_)
        refine js_split (fun h20 => ?_) (fun h20 => ?_)
        · refine js_tabI (1 : Int32) (off := 35) 92 dX8_rise_57 h20 (by decide) ?_
          refine js_iload dX8_rise_92 rfl ?_
          exact js_iret dX8_rise_94 rfl rfl
        · refine js_split (fun h21 => ?_) (fun h21 => ?_)
          · refine js_tabI (2 : Int32) (off := 38) 95 dX8_rise_57 h21 (by decide) ?_
            refine js_iload dX8_rise_95 rfl ?_
            exact js_iret dX8_rise_97 rfl rfl
          · refine js_split (fun h22 => ?_) (fun h22 => ?_)
            · refine js_tabI (3 : Int32) (off := 41) 98 dX8_rise_57 h22 (by decide) ?_
              refine js_iconst dX8_rise_98 ki_0 ?_
              exact js_iret dX8_rise_99 rfl rfl
            · refine js_split (fun h23 => ?_) (fun h23 => ?_)
              · refine js_tabI (4 : Int32) (off := 43) 100 dX8_rise_57 h23 (by decide) ?_
                refine js_iload_n dX8_rise_100 rfl rfl ?_
                refine js_bipush dX8_rise_101 kb_15 ?_
                refine js_icmp_ne 111 dX8_rise_103 rfl ?_ ?_
                · refine js_iload dX8_rise_111 rfl ?_
                  exact js_iret dX8_rise_113 rfl rfl
                · refine js_bipush dX8_rise_106 kb_7 ?_
                  refine js_goto 113 dX8_rise_108 rfl ?_
                  exact js_iret dX8_rise_113 rfl rfl
              · refine js_split (fun h24 => ?_) (fun h24 => ?_)
                · refine js_tabI (5 : Int32) (off := 57) 114 dX8_rise_57 h24 (by decide) ?_
                  refine js_aload_n dX8_rise_114 rfl rfl ?_
                  refine js_getR dX8_rise_115 fl_X8_7 rfl rfl ?_
                  refine js_iconst dX8_rise_118 ki_1 ?_
                  refine js_iald dX8_rise_119 rfl ?_
                  refine js_iconst dX8_rise_120 ki_4 ?_
                  refine js_irem dX8_rise_121 (by decide) ?_
                  refine js_iconst dX8_rise_122 ki_2 ?_
                  refine js_icmp_ne 130 dX8_rise_123 rfl ?_ ?_
                  · refine js_iload dX8_rise_130 rfl ?_
                    exact js_iret dX8_rise_132 rfl rfl
                  · refine js_iconst dX8_rise_126 ki_m1 ?_
                    refine js_goto 132 dX8_rise_127 rfl ?_
                    exact js_iret dX8_rise_132 rfl rfl
                · refine js_tabO 133 dX8_rise_57 (by have eh20 := lv_neT h20 (k := (1 : Int32)) (a := 1) (by decide); have eh21 := lv_neT h21 (k := (2 : Int32)) (a := 2) (by decide); have eh22 := lv_neT h22 (k := (3 : Int32)) (a := 3) (by decide); have eh23 := lv_neT h23 (k := (4 : Int32)) (a := 4) (by decide); have eh24 := lv_neT h24 (k := (5 : Int32)) (a := 5) (by decide); omega) rfl ?_
                  refine js_iload dX8_rise_133 rfl ?_
                  exact js_iret dX8_rise_135 rfl rfl
  · refine js_bipush dX8_rise_6 kb_7 ?_
    refine js_iload_n dX8_rise_8 rfl rfl ?_
    refine js_isub dX8_rise_9 ?_
    refine js_goto 14 dX8_rise_10 rfl ?_
    refine js_istore (lv' := [some (.ref 0), some (.int a1), some (.int a2), some (.int a3), some (.int ((7 : Int32) - a3)), none, none]) dX8_rise_14 rfl rfl rfl ?_
    refine js_iload dX8_rise_16 rfl ?_
    refine js_iload_n dX8_rise_18 rfl rfl ?_
    refine js_bipush dX8_rise_19 kb_8 ?_
    refine js_irem dX8_rise_21 (by decide) ?_
    refine js_icmp_ge 30 dX8_rise_22 rfl ?_ ?_
    · refine js_iload_n dX8_rise_30 rfl rfl ?_
      refine js_bipush dX8_rise_31 kb_8 ?_
      refine js_irem dX8_rise_33 (by decide) ?_
      refine js_istore (lv' := [some (.ref 0), some (.int a1), some (.int a2), some (.int a3), some (.int ((7 : Int32) - a3)), some (.int (a2 - a2 / (8 : Int32) * (8 : Int32))), none]) dX8_rise_34 rfl rfl rfl ?_
      refine js_iload dX8_rise_36 rfl ?_
      refine js_iconst dX8_rise_38 ki_2 ?_
      refine js_icmp_le 49 dX8_rise_39 rfl ?_ ?_
      · refine js_iconst dX8_rise_49 ki_0 ?_
        refine js_istore (lv' := [some (.ref 0), some (.int a1), some (.int a2), some (.int a3), some (.int ((7 : Int32) - a3)), some (.int (a2 - a2 / (8 : Int32) * (8 : Int32))), some (.int (0 : Int32))]) dX8_rise_50 rfl rfl rfl ?_
        refine js_aload_n dX8_rise_52 rfl rfl ?_
        refine js_iload_n dX8_rise_53 rfl rfl ?_
        refine js_callV_I (mj := mX8_kindOf) [(.int a1)] [] dX8_rise_54 tw_885 cm_X8_kindOf cv_X8_kindOf rfl rfl rfl rfl rfl rfl (fun r h => qX8_kindOf G a1 σ r h) (fun r25 => ?_)
        refine js_split (fun h26 => ?_) (fun h26 => ?_)
        · refine js_tabI (1 : Int32) (off := 35) 92 dX8_rise_57 h26 (by decide) ?_
          refine js_iload dX8_rise_92 rfl ?_
          exact js_iret dX8_rise_94 rfl rfl
        · refine js_split (fun h27 => ?_) (fun h27 => ?_)
          · refine js_tabI (2 : Int32) (off := 38) 95 dX8_rise_57 h27 (by decide) ?_
            refine js_iload dX8_rise_95 rfl ?_
            exact js_iret dX8_rise_97 rfl rfl
          · refine js_split (fun h28 => ?_) (fun h28 => ?_)
            · refine js_tabI (3 : Int32) (off := 41) 98 dX8_rise_57 h28 (by decide) ?_
              refine js_iconst dX8_rise_98 ki_0 ?_
              exact js_iret dX8_rise_99 rfl rfl
            · refine js_split (fun h29 => ?_) (fun h29 => ?_)
              · refine js_tabI (4 : Int32) (off := 43) 100 dX8_rise_57 h29 (by decide) ?_
                refine js_iload_n dX8_rise_100 rfl rfl ?_
                refine js_bipush dX8_rise_101 kb_15 ?_
                refine js_icmp_ne 111 dX8_rise_103 rfl ?_ ?_
                · refine js_iload dX8_rise_111 rfl ?_
                  exact js_iret dX8_rise_113 rfl rfl
                · refine js_bipush dX8_rise_106 kb_7 ?_
                  refine js_goto 113 dX8_rise_108 rfl ?_
                  exact js_iret dX8_rise_113 rfl rfl
              · refine js_split (fun h30 => ?_) (fun h30 => ?_)
                · refine js_tabI (5 : Int32) (off := 57) 114 dX8_rise_57 h30 (by decide) ?_
                  refine js_aload_n dX8_rise_114 rfl rfl ?_
                  refine js_getR dX8_rise_115 fl_X8_7 rfl rfl ?_
                  refine js_iconst dX8_rise_118 ki_1 ?_
                  refine js_iald dX8_rise_119 rfl ?_
                  refine js_iconst dX8_rise_120 ki_4 ?_
                  refine js_irem dX8_rise_121 (by decide) ?_
                  refine js_iconst dX8_rise_122 ki_2 ?_
                  refine js_icmp_ne 130 dX8_rise_123 rfl ?_ ?_
                  · refine js_iload dX8_rise_130 rfl ?_
                    exact js_iret dX8_rise_132 rfl rfl
                  · refine js_iconst dX8_rise_126 ki_m1 ?_
                    refine js_goto 132 dX8_rise_127 rfl ?_
                    exact js_iret dX8_rise_132 rfl rfl
                · refine js_tabO 133 dX8_rise_57 (by have eh26 := lv_neT h26 (k := (1 : Int32)) (a := 1) (by decide); have eh27 := lv_neT h27 (k := (2 : Int32)) (a := 2) (by decide); have eh28 := lv_neT h28 (k := (3 : Int32)) (a := 3) (by decide); have eh29 := lv_neT h29 (k := (4 : Int32)) (a := 4) (by decide); have eh30 := lv_neT h30 (k := (5 : Int32)) (a := 5) (by decide); omega) rfl ?_
                  refine js_iload dX8_rise_133 rfl ?_
                  exact js_iret dX8_rise_135 rfl rfl
      · refine js_iload dX8_rise_42 rfl ?_
        refine js_iconst dX8_rise_44 ki_2 ?_
        refine js_isub dX8_rise_45 ?_
        refine js_goto 50 dX8_rise_46 rfl ?_
        refine js_istore (lv' := [some (.ref 0), some (.int a1), some (.int a2), some (.int a3), some (.int ((7 : Int32) - a3)), some (.int (a2 - a2 / (8 : Int32) * (8 : Int32))), some (.int (((7 : Int32) - a3) - (2 : Int32)))]) dX8_rise_50 rfl rfl rfl ?_
        refine js_aload_n dX8_rise_52 rfl rfl ?_
        refine js_iload_n dX8_rise_53 rfl rfl ?_
        refine js_callV_I (mj := mX8_kindOf) [(.int a1)] [] dX8_rise_54 tw_885 cm_X8_kindOf cv_X8_kindOf rfl rfl rfl rfl rfl rfl (fun r h => qX8_kindOf G a1 σ r h) (fun r31 => ?_)
        refine js_split (fun h32 => ?_) (fun h32 => ?_)
        · refine js_tabI (1 : Int32) (off := 35) 92 dX8_rise_57 h32 (by decide) ?_
          refine js_iload dX8_rise_92 rfl ?_
          exact js_iret dX8_rise_94 rfl rfl
        · refine js_split (fun h33 => ?_) (fun h33 => ?_)
          · refine js_tabI (2 : Int32) (off := 38) 95 dX8_rise_57 h33 (by decide) ?_
            refine js_iload dX8_rise_95 rfl ?_
            exact js_iret dX8_rise_97 rfl rfl
          · refine js_split (fun h34 => ?_) (fun h34 => ?_)
            · refine js_tabI (3 : Int32) (off := 41) 98 dX8_rise_57 h34 (by decide) ?_
              refine js_iconst dX8_rise_98 ki_0 ?_
              exact js_iret dX8_rise_99 rfl rfl
            · refine js_split (fun h35 => ?_) (fun h35 => ?_)
              · refine js_tabI (4 : Int32) (off := 43) 100 dX8_rise_57 h35 (by decide) ?_
                refine js_iload_n dX8_rise_100 rfl rfl ?_
                refine js_bipush dX8_rise_101 kb_15 ?_
                refine js_icmp_ne 111 dX8_rise_103 rfl ?_ ?_
                · refine js_iload dX8_rise_111 rfl ?_
                  exact js_iret dX8_rise_113 rfl rfl
                · refine js_bipush dX8_rise_106 kb_7 ?_
                  refine js_goto 113 dX8_rise_108 rfl ?_
                  exact js_iret dX8_rise_113 rfl rfl
              · refine js_split (fun h36 => ?_) (fun h36 => ?_)
                · refine js_tabI (5 : Int32) (off := 57) 114 dX8_rise_57 h36 (by decide) ?_
                  refine js_aload_n dX8_rise_114 rfl rfl ?_
                  refine js_getR dX8_rise_115 fl_X8_7 rfl rfl ?_
                  refine js_iconst dX8_rise_118 ki_1 ?_
                  refine js_iald dX8_rise_119 rfl ?_
                  refine js_iconst dX8_rise_120 ki_4 ?_
                  refine js_irem dX8_rise_121 (by decide) ?_
                  refine js_iconst dX8_rise_122 ki_2 ?_
                  refine js_icmp_ne 130 dX8_rise_123 rfl ?_ ?_
                  · refine js_iload dX8_rise_130 rfl ?_
                    exact js_iret dX8_rise_132 rfl rfl
                  · refine js_iconst dX8_rise_126 ki_m1 ?_
                    refine js_goto 132 dX8_rise_127 rfl ?_
                    exact js_iret dX8_rise_132 rfl rfl
                · refine js_tabO 133 dX8_rise_57 (by have eh32 := lv_neT h32 (k := (1 : Int32)) (a := 1) (by decide); have eh33 := lv_neT h33 (k := (2 : Int32)) (a := 2) (by decide); have eh34 := lv_neT h34 (k := (3 : Int32)) (a := 3) (by decide); have eh35 := lv_neT h35 (k := (4 : Int32)) (a := 4) (by decide); have eh36 := lv_neT h36 (k := (5 : Int32)) (a := 5) (by decide); omega) rfl ?_
                  refine js_iload dX8_rise_133 rfl ?_
                  exact js_iret dX8_rise_135 rfl rfl
    · refine js_iload dX8_rise_25 rfl ?_
      refine js_goto 34 dX8_rise_27 rfl ?_
      refine js_istore (lv' := [some (.ref 0), some (.int a1), some (.int a2), some (.int a3), some (.int ((7 : Int32) - a3)), some (.int ((7 : Int32) - a3)), none]) dX8_rise_34 rfl rfl rfl ?_
      refine js_iload dX8_rise_36 rfl ?_
      refine js_iconst dX8_rise_38 ki_2 ?_
      refine js_icmp_le 49 dX8_rise_39 rfl ?_ ?_
      · refine js_iconst dX8_rise_49 ki_0 ?_
        refine js_istore (lv' := [some (.ref 0), some (.int a1), some (.int a2), some (.int a3), some (.int ((7 : Int32) - a3)), some (.int ((7 : Int32) - a3)), some (.int (0 : Int32))]) dX8_rise_50 rfl rfl rfl ?_
        refine js_aload_n dX8_rise_52 rfl rfl ?_
        refine js_iload_n dX8_rise_53 rfl rfl ?_
        refine js_callV_I (mj := mX8_kindOf) [(.int a1)] [] dX8_rise_54 tw_885 cm_X8_kindOf cv_X8_kindOf rfl rfl rfl rfl rfl rfl (fun r h => qX8_kindOf G a1 σ r h) (fun r37 => ?_)
        refine js_split (fun h38 => ?_) (fun h38 => ?_)
        · refine js_tabI (1 : Int32) (off := 35) 92 dX8_rise_57 h38 (by decide) ?_
          refine js_iload dX8_rise_92 rfl ?_
          exact js_iret dX8_rise_94 rfl rfl
        · refine js_split (fun h39 => ?_) (fun h39 => ?_)
          · refine js_tabI (2 : Int32) (off := 38) 95 dX8_rise_57 h39 (by decide) ?_
            refine js_iload dX8_rise_95 rfl ?_
            exact js_iret dX8_rise_97 rfl rfl
          · refine js_split (fun h40 => ?_) (fun h40 => ?_)
            · refine js_tabI (3 : Int32) (off := 41) 98 dX8_rise_57 h40 (by decide) ?_
              refine js_iconst dX8_rise_98 ki_0 ?_
              exact js_iret dX8_rise_99 rfl rfl
            · refine js_split (fun h41 => ?_) (fun h41 => ?_)
              · refine js_tabI (4 : Int32) (off := 43) 100 dX8_rise_57 h41 (by decide) ?_
                refine js_iload_n dX8_rise_100 rfl rfl ?_
                refine js_bipush dX8_rise_101 kb_15 ?_
                refine js_icmp_ne 111 dX8_rise_103 rfl ?_ ?_
                · refine js_iload dX8_rise_111 rfl ?_
                  exact js_iret dX8_rise_113 rfl rfl
                · refine js_bipush dX8_rise_106 kb_7 ?_
                  refine js_goto 113 dX8_rise_108 rfl ?_
                  exact js_iret dX8_rise_113 rfl rfl
              · refine js_split (fun h42 => ?_) (fun h42 => ?_)
                · refine js_tabI (5 : Int32) (off := 57) 114 dX8_rise_57 h42 (by decide) ?_
                  refine js_aload_n dX8_rise_114 rfl rfl ?_
                  refine js_getR dX8_rise_115 fl_X8_7 rfl rfl ?_
                  refine js_iconst dX8_rise_118 ki_1 ?_
                  refine js_iald dX8_rise_119 rfl ?_
                  refine js_iconst dX8_rise_120 ki_4 ?_
                  refine js_irem dX8_rise_121 (by decide) ?_
                  refine js_iconst dX8_rise_122 ki_2 ?_
                  refine js_icmp_ne 130 dX8_rise_123 rfl ?_ ?_
                  · refine js_iload dX8_rise_130 rfl ?_
                    exact js_iret dX8_rise_132 rfl rfl
                  · refine js_iconst dX8_rise_126 ki_m1 ?_
                    refine js_goto 132 dX8_rise_127 rfl ?_
                    exact js_iret dX8_rise_132 rfl rfl
                · refine js_tabO 133 dX8_rise_57 (by have eh38 := lv_neT h38 (k := (1 : Int32)) (a := 1) (by decide); have eh39 := lv_neT h39 (k := (2 : Int32)) (a := 2) (by decide); have eh40 := lv_neT h40 (k := (3 : Int32)) (a := 3) (by decide); have eh41 := lv_neT h41 (k := (4 : Int32)) (a := 4) (by decide); have eh42 := lv_neT h42 (k := (5 : Int32)) (a := 5) (by decide); omega) rfl ?_
                  refine js_iload dX8_rise_133 rfl ?_
                  exact js_iret dX8_rise_135 rfl rfl
      · refine js_iload dX8_rise_42 rfl ?_
        refine js_iconst dX8_rise_44 ki_2 ?_
        refine js_isub dX8_rise_45 ?_
        refine js_goto 50 dX8_rise_46 rfl ?_
        refine js_istore (lv' := [some (.ref 0), some (.int a1), some (.int a2), some (.int a3), some (.int ((7 : Int32) - a3)), some (.int ((7 : Int32) - a3)), some (.int (((7 : Int32) - a3) - (2 : Int32)))]) dX8_rise_50 rfl rfl rfl ?_
        refine js_aload_n dX8_rise_52 rfl rfl ?_
        refine js_iload_n dX8_rise_53 rfl rfl ?_
        refine js_callV_I (mj := mX8_kindOf) [(.int a1)] [] dX8_rise_54 tw_885 cm_X8_kindOf cv_X8_kindOf rfl rfl rfl rfl rfl rfl (fun r h => qX8_kindOf G a1 σ r h) (fun r43 => ?_)
        refine js_split (fun h44 => ?_) (fun h44 => ?_)
        · refine js_tabI (1 : Int32) (off := 35) 92 dX8_rise_57 h44 (by decide) ?_
          refine js_iload dX8_rise_92 rfl ?_
          exact js_iret dX8_rise_94 rfl rfl
        · refine js_split (fun h45 => ?_) (fun h45 => ?_)
          · refine js_tabI (2 : Int32) (off := 38) 95 dX8_rise_57 h45 (by decide) ?_
            refine js_iload dX8_rise_95 rfl ?_
            exact js_iret dX8_rise_97 rfl rfl
          · refine js_split (fun h46 => ?_) (fun h46 => ?_)
            · refine js_tabI (3 : Int32) (off := 41) 98 dX8_rise_57 h46 (by decide) ?_
              refine js_iconst dX8_rise_98 ki_0 ?_
              exact js_iret dX8_rise_99 rfl rfl
            · refine js_split (fun h47 => ?_) (fun h47 => ?_)
              · refine js_tabI (4 : Int32) (off := 43) 100 dX8_rise_57 h47 (by decide) ?_
                refine js_iload_n dX8_rise_100 rfl rfl ?_
                refine js_bipush dX8_rise_101 kb_15 ?_
                refine js_icmp_ne 111 dX8_rise_103 rfl ?_ ?_
                · refine js_iload dX8_rise_111 rfl ?_
                  exact js_iret dX8_rise_113 rfl rfl
                · refine js_bipush dX8_rise_106 kb_7 ?_
                  refine js_goto 113 dX8_rise_108 rfl ?_
                  exact js_iret dX8_rise_113 rfl rfl
              · refine js_split (fun h48 => ?_) (fun h48 => ?_)
                · refine js_tabI (5 : Int32) (off := 57) 114 dX8_rise_57 h48 (by decide) ?_
                  refine js_aload_n dX8_rise_114 rfl rfl ?_
                  refine js_getR dX8_rise_115 fl_X8_7 rfl rfl ?_
                  refine js_iconst dX8_rise_118 ki_1 ?_
                  refine js_iald dX8_rise_119 rfl ?_
                  refine js_iconst dX8_rise_120 ki_4 ?_
                  refine js_irem dX8_rise_121 (by decide) ?_
                  refine js_iconst dX8_rise_122 ki_2 ?_
                  refine js_icmp_ne 130 dX8_rise_123 rfl ?_ ?_
                  · refine js_iload dX8_rise_130 rfl ?_
                    exact js_iret dX8_rise_132 rfl rfl
                  · refine js_iconst dX8_rise_126 ki_m1 ?_
                    refine js_goto 132 dX8_rise_127 rfl ?_
                    exact js_iret dX8_rise_132 rfl rfl
                · refine js_tabO 133 dX8_rise_57 (by have eh44 := lv_neT h44 (k := (1 : Int32)) (a := 1) (by decide); have eh45 := lv_neT h45 (k := (2 : Int32)) (a := 2) (by decide); have eh46 := lv_neT h46 (k := (3 : Int32)) (a := 3) (by decide); have eh47 := lv_neT h47 (k := (4 : Int32)) (a := 4) (by decide); have eh48 := lv_neT h48 (k := (5 : Int32)) (a := 5) (by decide); omega) rfl ?_
                  refine js_iload dX8_rise_133 rfl ?_
                  exact js_iret dX8_rise_135 rfl rfl

theorem qX8_rise (G : js_G) (a1 : Int32) (a2 : Int32) (a3 : Int32) (σ : js_S) (r : Int32) (h : fX8_rise a1 a2 a3 σ = some r) : js_Con G shM mX8_rise [(.ref 0), (.int a1), (.int a2), (.int a3)] σ ((js_eI σ) r) := js_con (mi := mX8_rise) 3 pn_X8 rfl (Nat.le_of_ble_eq_true rfl) (jX8_rise G a1 a2 a3 σ) r h
def fX8_rises (a1 : Int32) (a2 : Int32) (a3 : Int32) (σ : js_S) : Option (Int32 × js_S) := (fX8_isFlue a1 σ).bind fun r1 => (if r1 = 0 then (fX8_finds (-1000000001 : Int32) σ).bind fun r2 => some (r2.1, r2.2) else (if (fX8_isWord a2) = 0 then (fX8_finds (-1000000001 : Int32) σ).bind fun r3 => some (r3.1, r3.2) else (if (fX8_isVoice a3) = 0 then (fX8_finds (-1000000001 : Int32) σ).bind fun r6 => some (r6.1, r6.2) else (fX8_rise a1 a2 a3 σ).bind fun r4 => (if 0 ≤ r4 then some (r4, σ) else (fX8_finds (-1000000004 : Int32) σ).bind fun r5 => some (r5.1, r5.2)))))
set_option maxRecDepth 10000 in
theorem jX8_rises (G : js_G) (a1 : Int32) (a2 : Int32) (a3 : Int32) (σ : js_S) : js_J G shM mX8_rises js_eW 0 [some (.ref 0), some (.int a1), some (.int a2), some (.int a3), none] [] σ (fX8_rises a1 a2 a3 σ) := by
  unfold fX8_rises
  refine js_aload_n dX8_rises_0 rfl rfl ?_
  refine js_iload_n dX8_rises_1 rfl rfl ?_
  refine js_callV_I (mj := mX8_isFlue) [(.int a1)] [] dX8_rises_2 tw_880 cm_X8_isFlue cv_X8_isFlue rfl rfl rfl rfl rfl rfl (fun r h => qX8_isFlue G a1 σ r h) (fun r1 => ?_)
  refine js_if_eq 22 dX8_rises_5 rfl ?_ ?_
  · refine js_aload_n dX8_rises_22 rfl rfl ?_
    refine js_ldc dX8_rises_23 tw_863 ?_
    refine js_callV_W (mj := mX8_finds) [(.int (-1000000001 : Int32))] [] dX8_rises_25 tw_864 cm_X8_finds cv_X8_finds rfl rfl rfl rfl rfl rfl (fun r h => qX8_finds G (-1000000001 : Int32) σ r h) (fun r2 => ?_)
    exact js_iret dX8_rises_28 rfl rfl
  · refine js_iload_n dX8_rises_8 rfl rfl ?_
    refine js_callS_P (mj := mX8_isWord) [(.int a2)] [] dX8_rises_9 tw_959 cm_X8_isWord tw_960 rfl rfl rfl rfl (qX8_isWord G a2 σ) ?_
    refine js_if_eq 22 dX8_rises_12 rfl ?_ ?_
    · refine js_aload_n dX8_rises_22 rfl rfl ?_
      refine js_ldc dX8_rises_23 tw_863 ?_
      refine js_callV_W (mj := mX8_finds) [(.int (-1000000001 : Int32))] [] dX8_rises_25 tw_864 cm_X8_finds cv_X8_finds rfl rfl rfl rfl rfl rfl (fun r h => qX8_finds G (-1000000001 : Int32) σ r h) (fun r3 => ?_)
      exact js_iret dX8_rises_28 rfl rfl
    · refine js_iload_n dX8_rises_15 rfl rfl ?_
      refine js_callS_P (mj := mX8_isVoice) [(.int a3)] [] dX8_rises_16 tw_963 cm_X8_isVoice tw_964 rfl rfl rfl rfl (qX8_isVoice G a3 σ) ?_
      refine js_if_ne 29 dX8_rises_19 rfl ?_ ?_
      · refine js_aload_n dX8_rises_29 rfl rfl ?_
        refine js_iload_n dX8_rises_30 rfl rfl ?_
        refine js_iload_n dX8_rises_31 rfl rfl ?_
        refine js_iload_n dX8_rises_32 rfl rfl ?_
        refine js_callV_I (mj := mX8_rise) [(.int a1), (.int a2), (.int a3)] [] dX8_rises_33 tw_966 cm_X8_rise cv_X8_rise rfl rfl rfl rfl rfl rfl (fun r h => qX8_rise G a1 a2 a3 σ r h) (fun r4 => ?_)
        refine js_istore (lv' := [some (.ref 0), some (.int a1), some (.int a2), some (.int a3), some (.int r4)]) dX8_rises_36 rfl rfl rfl ?_
        refine js_iload dX8_rises_38 rfl ?_
        refine js_if_ge 52 dX8_rises_40 rfl ?_ ?_
        · refine js_iload dX8_rises_52 rfl ?_
          exact js_iret dX8_rises_54 rfl rfl
        · refine js_aload_n dX8_rises_43 rfl rfl ?_
          refine js_ldc dX8_rises_44 tw_933 ?_
          refine js_callV_W (mj := mX8_finds) [(.int (-1000000004 : Int32))] [] dX8_rises_46 tw_864 cm_X8_finds cv_X8_finds rfl rfl rfl rfl rfl rfl (fun r h => qX8_finds G (-1000000004 : Int32) σ r h) (fun r5 => ?_)
          refine js_goto 54 dX8_rises_49 rfl ?_
          exact js_iret dX8_rises_54 rfl rfl
      · refine js_aload_n dX8_rises_22 rfl rfl ?_
        refine js_ldc dX8_rises_23 tw_863 ?_
        refine js_callV_W (mj := mX8_finds) [(.int (-1000000001 : Int32))] [] dX8_rises_25 tw_864 cm_X8_finds cv_X8_finds rfl rfl rfl rfl rfl rfl (fun r h => qX8_finds G (-1000000001 : Int32) σ r h) (fun r6 => ?_)
        exact js_iret dX8_rises_28 rfl rfl

theorem qX8_rises (G : js_G) (a1 : Int32) (a2 : Int32) (a3 : Int32) (σ : js_S) (r : (Int32 × js_S)) (h : fX8_rises a1 a2 a3 σ = some r) : js_Con G shM mX8_rises [(.ref 0), (.int a1), (.int a2), (.int a3)] σ (js_eW r) := js_con (mi := mX8_rises) 1 pn_X8 rfl (Nat.le_of_ble_eq_true rfl) (jX8_rises G a1 a2 a3 σ) r h
def fX8_isFull (a1 : Int32) (a2 : Int32) (σ : js_S) : Option Int32 := (fX8_layers a1 a2 σ).bind fun r1 => (fX8_holds a1 a2 σ).bind fun r2 => (if r1 < r2 then some (0 : Int32) else some (1 : Int32))
set_option maxRecDepth 10000 in
theorem jX8_isFull (G : js_G) (a1 : Int32) (a2 : Int32) (σ : js_S) : js_J G shM mX8_isFull (js_eI σ) 0 [some (.ref 0), some (.int a1), some (.int a2)] [] σ (fX8_isFull a1 a2 σ) := by
  unfold fX8_isFull
  refine js_aload_n dX8_isFull_0 rfl rfl ?_
  refine js_iload_n dX8_isFull_1 rfl rfl ?_
  refine js_iload_n dX8_isFull_2 rfl rfl ?_
  refine js_callV_I (mj := mX8_layers) [(.int a1), (.int a2)] [] dX8_isFull_3 tw_893 cm_X8_layers cv_X8_layers rfl rfl rfl rfl rfl rfl (fun r h => qX8_layers G a1 a2 σ r h) (fun r1 => ?_)
  refine js_aload_n dX8_isFull_6 rfl rfl ?_
  refine js_iload_n dX8_isFull_7 rfl rfl ?_
  refine js_iload_n dX8_isFull_8 rfl rfl ?_
  refine js_callV_I (mj := mX8_holds) [(.int a1), (.int a2)] [(.int r1)] dX8_isFull_9 tw_925 cm_X8_holds cv_X8_holds rfl rfl rfl rfl rfl rfl (fun r h => qX8_holds G a1 a2 σ r h) (fun r2 => ?_)
  refine js_icmp_lt 19 dX8_isFull_12 rfl ?_ ?_
  · refine js_iconst dX8_isFull_19 ki_0 ?_
    exact js_zret dX8_isFull_20 rfl nb_0.1 rfl
  · refine js_iconst dX8_isFull_15 ki_1 ?_
    refine js_goto 20 dX8_isFull_16 rfl ?_
    exact js_zret dX8_isFull_20 rfl nb_1.1 rfl

theorem qX8_isFull (G : js_G) (a1 : Int32) (a2 : Int32) (σ : js_S) (r : Int32) (h : fX8_isFull a1 a2 σ = some r) : js_Con G shM mX8_isFull [(.ref 0), (.int a1), (.int a2)] σ ((js_eI σ) r) := js_con (mi := mX8_isFull) 0 pn_X8 rfl (Nat.le_of_ble_eq_true rfl) (jX8_isFull G a1 a2 σ) r h
def fX8_lands_L9 (p1 : Int32) (σ : js_S) : Nat → Int32 → Option Int32
  | 0, _ => none
  | n + 1, v4 => (if v4 < 0 then some v4 else (fX8_isFull p1 v4 σ).bind fun r2 => (if r2 = 0 then some v4 else fX8_lands_L9 p1 σ n (v4 + (-1 : Int32))))
set_option maxRecDepth 10000 in
theorem jX8_lands_L9 (G : js_G) (p1 : Int32) (σ : js_S) : ∀ (n : Nat) (v4 : Int32), js_J G shM mX8_lands (js_eI σ) 9 [some (.ref 0), some (.int p1), none, none, some (.int v4)] [] σ (fX8_lands_L9 p1 σ n v4) := by
  intro n
  induction n with
  | zero =>
    intros
    exact js_none
  | succ n ih1 =>
    intro v4
    rw [fX8_lands_L9]
    refine js_iload dX8_lands_9 rfl ?_
    refine js_if_lt 30 dX8_lands_11 rfl ?_ ?_
    · refine js_iload dX8_lands_30 rfl ?_
      exact js_iret dX8_lands_32 rfl rfl
    · refine js_aload_n dX8_lands_14 rfl rfl ?_
      refine js_iload_n dX8_lands_15 rfl rfl ?_
      refine js_iload dX8_lands_16 rfl ?_
      refine js_callV_I (mj := mX8_isFull) [(.int p1), (.int v4)] [] dX8_lands_18 tw_982 cm_X8_isFull cv_X8_isFull rfl rfl rfl rfl rfl rfl (fun r h => qX8_isFull G p1 v4 σ r h) (fun r2 => ?_)
      refine js_if_eq 30 dX8_lands_21 rfl ?_ ?_
      · refine js_iload dX8_lands_30 rfl ?_
        exact js_iret dX8_lands_32 rfl rfl
      · refine js_iinc (v := (v4 + (-1 : Int32))) (lv' := [some (.ref 0), some (.int p1), none, none, some (.int (v4 + (-1 : Int32)))]) dX8_lands_24 rfl (kx_m1 _) rfl rfl rfl ?_
        refine js_goto 9 dX8_lands_27 rfl ?_
        exact ih1 (v4 + (-1 : Int32))

def fX8_lands (a1 : Int32) (a2 : Int32) (a3 : Int32) (σ : js_S) : Option Int32 := (fX8_rise a1 a2 a3 σ).bind fun r1 => fX8_lands_L9 a1 σ js_FU r1
set_option maxRecDepth 10000 in
theorem jX8_lands (G : js_G) (a1 : Int32) (a2 : Int32) (a3 : Int32) (σ : js_S) : js_J G shM mX8_lands (js_eI σ) 0 [some (.ref 0), some (.int a1), some (.int a2), some (.int a3), none] [] σ (fX8_lands a1 a2 a3 σ) := by
  unfold fX8_lands
  refine js_aload_n dX8_lands_0 rfl rfl ?_
  refine js_iload_n dX8_lands_1 rfl rfl ?_
  refine js_iload_n dX8_lands_2 rfl rfl ?_
  refine js_iload_n dX8_lands_3 rfl rfl ?_
  refine js_callV_I (mj := mX8_rise) [(.int a1), (.int a2), (.int a3)] [] dX8_lands_4 tw_966 cm_X8_rise cv_X8_rise rfl rfl rfl rfl rfl rfl (fun r h => qX8_rise G a1 a2 a3 σ r h) (fun r1 => ?_)
  refine js_istore (lv' := [some (.ref 0), some (.int a1), some (.int a2), some (.int a3), some (.int r1)]) dX8_lands_7 rfl rfl rfl ?_
  refine js_drop [true, true, false, false, true] (lv2 := [some (.ref 0), some (.int a1), none, none, some (.int r1)]) rfl ?_
  exact jX8_lands_L9 G a1 σ  _ r1

theorem qX8_lands (G : js_G) (a1 : Int32) (a2 : Int32) (a3 : Int32) (σ : js_S) (r : Int32) (h : fX8_lands a1 a2 a3 σ = some r) : js_Con G shM mX8_lands [(.ref 0), (.int a1), (.int a2), (.int a3)] σ ((js_eI σ) r) := js_con (mi := mX8_lands) 1 pn_X8 rfl (Nat.le_of_ble_eq_true rfl) (jX8_lands G a1 a2 a3 σ) r h
def fX8_lies (a1 : Int32) (a2 : Int32) (a3 : Int32) (a4 : Int32) (σ : js_S) : Option js_S := (fX8_layers a1 a2 σ).bind fun r1 => js_gd (js_ix ((57 : Int32) + (fX8_spot a1 a2 r1)) 633) (js_gd (js_ix ((345 : Int32) + (fX8_spot a1 a2 r1)) 633) (js_gd (js_ix ((9 : Int32) + (fX8_place a1 a2)) 633) (js_gd (js_ix ((9 : Int32) + (fX8_place a1 a2)) 633) (some (js_sI (js_sI (js_sI σ 1 (Int32.toNatClampNeg ((57 : Int32) + (fX8_spot a1 a2 r1))) a3) 1 (Int32.toNatClampNeg ((345 : Int32) + (fX8_spot a1 a2 r1))) a4) 1 (Int32.toNatClampNeg ((9 : Int32) + (fX8_place a1 a2))) (((js_sI (js_sI σ 1 (Int32.toNatClampNeg ((57 : Int32) + (fX8_spot a1 a2 r1))) a3) 1 (Int32.toNatClampNeg ((345 : Int32) + (fX8_spot a1 a2 r1))) a4).1 1 (Int32.toNatClampNeg ((9 : Int32) + (fX8_place a1 a2)))) + (1 : Int32)))))))
set_option maxRecDepth 10000 in
theorem jX8_lies (G : js_G) (a1 : Int32) (a2 : Int32) (a3 : Int32) (a4 : Int32) (σ : js_S) : js_J G shM mX8_lies js_eV 0 [some (.ref 0), some (.int a1), some (.int a2), some (.int a3), some (.int a4), none] [] σ (fX8_lies a1 a2 a3 a4 σ) := by
  unfold fX8_lies
  refine js_iload_n dX8_lies_0 rfl rfl ?_
  refine js_iload_n dX8_lies_1 rfl rfl ?_
  refine js_aload_n dX8_lies_2 rfl rfl ?_
  refine js_iload_n dX8_lies_3 rfl rfl ?_
  refine js_iload_n dX8_lies_4 rfl rfl ?_
  refine js_callV_I (mj := mX8_layers) [(.int a1), (.int a2)] [(.int a2), (.int a1)] dX8_lies_5 tw_893 cm_X8_layers cv_X8_layers rfl rfl rfl rfl rfl rfl (fun r h => qX8_layers G a1 a2 σ r h) (fun r1 => ?_)
  refine js_callS_P (mj := mX8_spot) [(.int a1), (.int a2), (.int r1)] [] dX8_lies_8 tw_905 cm_X8_spot tw_906 rfl rfl rfl rfl (qX8_spot G a1 a2 r1 σ) ?_
  refine js_istore (lv' := [some (.ref 0), some (.int a1), some (.int a2), some (.int a3), some (.int a4), some (.int (fX8_spot a1 a2 r1))]) dX8_lies_11 rfl rfl rfl ?_
  refine js_aload_n dX8_lies_13 rfl rfl ?_
  refine js_getR dX8_lies_14 fl_X8_7 rfl rfl ?_
  refine js_bipush dX8_lies_17 kb_57 ?_
  refine js_iload dX8_lies_19 rfl ?_
  refine js_iadd dX8_lies_21 ?_
  refine js_iload_n dX8_lies_22 rfl rfl ?_
  refine js_iast dX8_lies_23 rfl ?_
  refine js_aload_n dX8_lies_24 rfl rfl ?_
  refine js_getR dX8_lies_25 fl_X8_7 rfl rfl ?_
  refine js_sipush dX8_lies_28 ks_345 ?_
  refine js_iload dX8_lies_31 rfl ?_
  refine js_iadd dX8_lies_33 ?_
  refine js_iload dX8_lies_34 rfl ?_
  refine js_iast dX8_lies_36 rfl ?_
  refine js_aload_n dX8_lies_37 rfl rfl ?_
  refine js_getR dX8_lies_38 fl_X8_7 rfl rfl ?_
  refine js_bipush dX8_lies_41 kb_9 ?_
  refine js_iload_n dX8_lies_43 rfl rfl ?_
  refine js_iload_n dX8_lies_44 rfl rfl ?_
  refine js_callS_P (mj := mX8_place) [(.int a1), (.int a2)] [(.int (9 : Int32)), (.ref 1)] dX8_lies_45 tw_873 cm_X8_place tw_874 rfl rfl rfl rfl (qX8_place G a1 a2 (js_sI (js_sI σ 1 (Int32.toNatClampNeg ((57 : Int32) + (fX8_spot a1 a2 r1))) a3) 1 (Int32.toNatClampNeg ((345 : Int32) + (fX8_spot a1 a2 r1))) a4)) ?_
  refine js_iadd dX8_lies_48 ?_
  refine js_dup2 dX8_lies_49 rfl rfl ?_
  refine js_iald dX8_lies_50 rfl ?_
  refine js_iconst dX8_lies_51 ki_1 ?_
  refine js_iadd dX8_lies_52 ?_
  refine js_iast dX8_lies_53 rfl ?_
  exact js_vret dX8_lies_54 rfl rfl

theorem qX8_lies (G : js_G) (a1 : Int32) (a2 : Int32) (a3 : Int32) (a4 : Int32) (σ : js_S) (r : js_S) (h : fX8_lies a1 a2 a3 a4 σ = some r) : js_Con G shM mX8_lies [(.ref 0), (.int a1), (.int a2), (.int a3), (.int a4)] σ (js_eV r) := js_con (mi := mX8_lies) 1 pn_X8 rfl (Nat.le_of_ble_eq_true rfl) (jX8_lies G a1 a2 a3 a4 σ) r h
def fX8_says (a1 : Int32) (a2 : Int32) (a3 : Int32) (σ : js_S) : Option (Int32 × js_S) := (fX8_lands a1 a2 a3 σ).bind fun r1 => (if r1 < 0 then some (r1, σ) else (fX8_lies a1 r1 a2 (0 : Int32) σ).bind fun r2 => some (r1, r2))
set_option maxRecDepth 10000 in
theorem jX8_says (G : js_G) (a1 : Int32) (a2 : Int32) (a3 : Int32) (σ : js_S) : js_J G shM mX8_says js_eW 0 [some (.ref 0), some (.int a1), some (.int a2), some (.int a3), none] [] σ (fX8_says a1 a2 a3 σ) := by
  unfold fX8_says
  refine js_aload_n dX8_says_0 rfl rfl ?_
  refine js_iload_n dX8_says_1 rfl rfl ?_
  refine js_iload_n dX8_says_2 rfl rfl ?_
  refine js_iload_n dX8_says_3 rfl rfl ?_
  refine js_callV_I (mj := mX8_lands) [(.int a1), (.int a2), (.int a3)] [] dX8_says_4 tw_978 cm_X8_lands cv_X8_lands rfl rfl rfl rfl rfl rfl (fun r h => qX8_lands G a1 a2 a3 σ r h) (fun r1 => ?_)
  refine js_istore (lv' := [some (.ref 0), some (.int a1), some (.int a2), some (.int a3), some (.int r1)]) dX8_says_7 rfl rfl rfl ?_
  refine js_iload dX8_says_9 rfl ?_
  refine js_if_lt 23 dX8_says_11 rfl ?_ ?_
  · refine js_iload dX8_says_23 rfl ?_
    exact js_iret dX8_says_25 rfl rfl
  · refine js_aload_n dX8_says_14 rfl rfl ?_
    refine js_iload_n dX8_says_15 rfl rfl ?_
    refine js_iload dX8_says_16 rfl ?_
    refine js_iload_n dX8_says_18 rfl rfl ?_
    refine js_iconst dX8_says_19 ki_0 ?_
    refine js_callV_V (mj := mX8_lies) [(.int a1), (.int r1), (.int a2), (.int (0 : Int32))] [] dX8_says_20 tw_986 cm_X8_lies cv_X8_lies rfl rfl rfl rfl rfl rfl (fun r h => qX8_lies G a1 r1 a2 (0 : Int32) σ r h) (fun r2 => ?_)
    refine js_iload dX8_says_23 rfl ?_
    exact js_iret dX8_says_25 rfl rfl

theorem qX8_says (G : js_G) (a1 : Int32) (a2 : Int32) (a3 : Int32) (σ : js_S) (r : (Int32 × js_S)) (h : fX8_says a1 a2 a3 σ = some r) : js_Con G shM mX8_says [(.ref 0), (.int a1), (.int a2), (.int a3)] σ (js_eW r) := js_con (mi := mX8_says) 1 pn_X8 rfl (Nat.le_of_ble_eq_true rfl) (jX8_says G a1 a2 a3 σ) r h
