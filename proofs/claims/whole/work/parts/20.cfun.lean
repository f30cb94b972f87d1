def fX7_isBelow (a0 : Int32) (a1 : Int32) : Int32 := (if a0 < 0 then (0 : Int32) else (if a1 ≤ a0 then (0 : Int32) else (1 : Int32)))
set_option maxRecDepth 10000 in
theorem jX7_isBelow (G : js_G) (a0 : Int32) (a1 : Int32) (σ : js_S) : js_J G shC mX7_isBelow (js_eI σ) 0 [some (.int a0), some (.int a1)] [] σ (some (fX7_isBelow a0 a1)) := by
  unfold fX7_isBelow
  refine js_iload_n dX7_isBelow_0 rfl rfl ?_
  refine js_pi ?_
  refine js_if_lt 13 dX7_isBelow_1 rfl ?_ ?_
  · refine js_iconst dX7_isBelow_13 ki_0 ?_
    exact js_zret dX7_isBelow_14 rfl nb_0.1 rfl
  · refine js_iload_n dX7_isBelow_4 rfl rfl ?_
    refine js_iload_n dX7_isBelow_5 rfl rfl ?_
    refine js_pi ?_
    refine js_icmp_ge 13 dX7_isBelow_6 rfl ?_ ?_
    · refine js_iconst dX7_isBelow_13 ki_0 ?_
      exact js_zret dX7_isBelow_14 rfl nb_0.1 rfl
    · refine js_iconst dX7_isBelow_9 ki_1 ?_
      refine js_goto 14 dX7_isBelow_10 rfl ?_
      exact js_zret dX7_isBelow_14 rfl nb_1.1 rfl

theorem qX7_isBelow (G : js_G) (a0 : Int32) (a1 : Int32) (σ : js_S) : js_Con G shC mX7_isBelow [(.int a0), (.int a1)] σ (some (.int (fX7_isBelow a0 a1)), σ) := js_con (mi := mX7_isBelow) (emb := (js_eI σ)) 0 pn_X7 rfl (Nat.le_of_ble_eq_true rfl) (jX7_isBelow G a0 a1 σ) _ rfl
theorem zX7_isBelow (a0 : Int32) (a1 : Int32) : fX7_isBelow a0 a1 = 0 ∨ fX7_isBelow a0 a1 = 1 := by
  unfold fX7_isBelow
  repeat' split
  all_goals first | exact Or.inl rfl | exact Or.inr rfl
def fX7_isKind (a0 : Int32) : Int32 := (fX7_isBelow a0 (6 : Int32))
set_option maxRecDepth 10000 in
theorem jX7_isKind (G : js_G) (a0 : Int32) (σ : js_S) : js_J G shC mX7_isKind (js_eI σ) 0 [some (.int a0)] [] σ (some (fX7_isKind a0)) := by
  unfold fX7_isKind
  refine js_iload_n dX7_isKind_0 rfl rfl ?_
  refine js_bipush dX7_isKind_1 kb_6 ?_
  refine js_callS_P (mj := mX7_isBelow) [(.int a0), (.int (6 : Int32))] [] dX7_isKind_3 tw_214 cm_X7_isBelow tw_215 rfl rfl rfl rfl (qX7_isBelow G a0 (6 : Int32) σ) ?_
  exact js_zret dX7_isKind_6 rfl (js_nb (zX7_isBelow a0 (6 : Int32))) rfl

theorem qX7_isKind (G : js_G) (a0 : Int32) (σ : js_S) : js_Con G shC mX7_isKind [(.int a0)] σ (some (.int (fX7_isKind a0)), σ) := js_con (mi := mX7_isKind) (emb := (js_eI σ)) 0 pn_X7 rfl (Nat.le_of_ble_eq_true rfl) (jX7_isKind G a0 σ) _ rfl
theorem zX7_isKind (a0 : Int32) : fX7_isKind a0 = 0 ∨ fX7_isKind a0 = 1 := by
  unfold fX7_isKind
  repeat' split
  all_goals first | exact Or.inl rfl | exact Or.inr rfl | exact zX7_isBelow _ _
def fX3_addFlue_L23 : Nat → Int32 → js_S → Option (Int32 × js_S)
  | 0, _, _ => none
  | n + 1, v2, σ => (if (8 : Int32) ≤ v2 then some ((((js_sI σ 1 2 ((σ.1 1 2) + (1 : Int32))).1 1 2) - (1 : Int32)), (js_sI σ 1 2 ((σ.1 1 2) + (1 : Int32)))) else js_gd (js_ix (((σ.1 1 2) * (8 : Int32)) + v2) 48) (fX3_addFlue_L23  n (v2 + (1 : Int32)) (js_sI σ 3 (Int32.toNatClampNeg (((σ.1 1 2) * (8 : Int32)) + v2)) (0 : Int32))))
set_option maxRecDepth 10000 in
theorem jX3_addFlue_L23 (G : js_G) : ∀ (n : Nat) (v2 : Int32) (σ : js_S), js_J G shC mX3_addFlue js_eW 23 [some (.ref 1), none, some (.int v2)] [] σ (fX3_addFlue_L23 n v2 σ) := by
  intro n
  induction n with
  | zero =>
    intros
    exact js_none
  | succ n ih1 =>
    intro v2 σ
    rw [fX3_addFlue_L23]
    refine js_iload_n dX3_addFlue_23 rfl rfl ?_
    refine js_bipush dX3_addFlue_24 kb_8 ?_
    refine js_icmp_ge 50 dX3_addFlue_26 rfl ?_ ?_
    · refine js_aload_n dX3_addFlue_50 rfl rfl ?_
      refine js_dup dX3_addFlue_51 rfl ?_
      refine js_getI dX3_addFlue_52 fl_X3_18 rfl rfl ?_
      refine js_iconst dX3_addFlue_55 ki_1 ?_
      refine js_iadd dX3_addFlue_56 ?_
      refine js_putI dX3_addFlue_57 fp_X3_18 rfl rfl rfl rfl ?_
      refine js_aload_n dX3_addFlue_60 rfl rfl ?_
      refine js_getI dX3_addFlue_61 fl_X3_18 rfl rfl ?_
      refine js_iconst dX3_addFlue_64 ki_1 ?_
      refine js_isub dX3_addFlue_65 ?_
      exact js_iret dX3_addFlue_66 rfl rfl
    · refine js_aload_n dX3_addFlue_29 rfl rfl ?_
      refine js_getR dX3_addFlue_30 fl_X3_25 rfl rfl ?_
      refine js_aload_n dX3_addFlue_33 rfl rfl ?_
      refine js_getI dX3_addFlue_34 fl_X3_18 rfl rfl ?_
      refine js_bipush dX3_addFlue_37 kb_8 ?_
      refine js_imul dX3_addFlue_39 ?_
      refine js_iload_n dX3_addFlue_40 rfl rfl ?_
      refine js_iadd dX3_addFlue_41 ?_
      refine js_iconst dX3_addFlue_42 ki_0 ?_
      refine js_iast dX3_addFlue_43 rfl ?_
      refine js_iinc (v := (v2 + (1 : Int32))) (lv' := [some (.ref 1), none, some (.int (v2 + (1 : Int32)))]) dX3_addFlue_44 rfl (kx_1 _) rfl rfl rfl ?_
      refine js_goto 23 dX3_addFlue_47 rfl ?_
      exact ih1 (v2 + (1 : Int32)) (js_sI σ 3 (Int32.toNatClampNeg (((σ.1 1 2) * (8 : Int32)) + v2)) (0 : Int32))

def fX3_addFlue (a1 : Int32) (σ : js_S) : Option (Int32 × js_S) := (if (σ.1 1 2) < (6 : Int32) then js_gd (js_ix (σ.1 1 2) 6) (fX3_addFlue_L23 js_FU (0 : Int32) (js_sI σ 2 (Int32.toNatClampNeg (σ.1 1 2)) a1)) else some ((-1 : Int32), σ))
set_option maxRecDepth 10000 in
theorem jX3_addFlue (G : js_G) (a1 : Int32) (σ : js_S) : js_J G shC mX3_addFlue js_eW 0 [some (.ref 1), some (.int a1), none] [] σ (fX3_addFlue a1 σ) := by
  unfold fX3_addFlue
  refine js_aload_n dX3_addFlue_0 rfl rfl ?_
  refine js_getI dX3_addFlue_1 fl_X3_18 rfl rfl ?_
  refine js_bipush dX3_addFlue_4 kb_6 ?_
  refine js_icmp_lt 11 dX3_addFlue_6 rfl ?_ ?_
  · refine js_aload_n dX3_addFlue_11 rfl rfl ?_
    refine js_getR dX3_addFlue_12 fl_X3_21 rfl rfl ?_
    refine js_aload_n dX3_addFlue_15 rfl rfl ?_
    refine js_getI dX3_addFlue_16 fl_X3_18 rfl rfl ?_
    refine js_iload_n dX3_addFlue_19 rfl rfl ?_
    refine js_iast dX3_addFlue_20 rfl ?_
    refine js_iconst dX3_addFlue_21 ki_0 ?_
    refine js_istore_n (lv' := [some (.ref 1), some (.int a1), some (.int (0 : Int32))]) dX3_addFlue_22 rfl rfl rfl rfl ?_
    refine js_drop [true, false, true] (lv2 := [some (.ref 1), none, some (.int (0 : Int32))]) rfl ?_
    exact jX3_addFlue_L23 G  _ (0 : Int32) (js_sI σ 2 (Int32.toNatClampNeg (σ.1 1 2)) a1)
  · refine js_iconst dX3_addFlue_9 ki_m1 ?_
    exact js_iret dX3_addFlue_10 rfl rfl

theorem qX3_addFlue (G : js_G) (a1 : Int32) (σ : js_S) (r : (Int32 × js_S)) (h : fX3_addFlue a1 σ = some r) : js_Con G shC mX3_addFlue [(.ref 1), (.int a1)] σ (js_eW r) := js_con (mi := mX3_addFlue) 1 pn_X3 rfl (Nat.le_of_ble_eq_true rfl) (jX3_addFlue G a1 σ) r h
def fX7_found (a1 : Int32) (σ : js_S) : Option (Int32 × js_S) := (if ((-1000000001 : Int32) - a1) < 0 then some (a1, σ) else (if (7 : Int32) ≤ ((-1000000001 : Int32) - a1) then some (a1, σ) else js_gd (js_ix ((-1000000001 : Int32) - a1) 7) (js_gd (js_ix ((-1000000001 : Int32) - a1) 7) (some (a1, (js_sI σ 22 (Int32.toNatClampNeg ((-1000000001 : Int32) - a1)) ((σ.1 22 (Int32.toNatClampNeg ((-1000000001 : Int32) - a1))) + (1 : Int32))))))))
set_option maxRecDepth 10000 in
theorem jX7_found (G : js_G) (a1 : Int32) (σ : js_S) : js_J G shC mX7_found js_eW 0 [some (.ref 0), some (.int a1), none] [] σ (fX7_found a1 σ) := by
  unfold fX7_found
  refine js_ldc dX7_found_0 tw_217 ?_
  refine js_iload_n dX7_found_2 rfl rfl ?_
  refine js_isub dX7_found_3 ?_
  refine js_istore_n (lv' := [some (.ref 0), some (.int a1), some (.int ((-1000000001 : Int32) - a1))]) dX7_found_4 rfl rfl rfl rfl ?_
  refine js_iload_n dX7_found_5 rfl rfl ?_
  refine js_if_lt 25 dX7_found_6 rfl ?_ ?_
  · refine js_iload_n dX7_found_25 rfl rfl ?_
    exact js_iret dX7_found_26 rfl rfl
  · refine js_iload_n dX7_found_9 rfl rfl ?_
    refine js_bipush dX7_found_10 kb_7 ?_
    refine js_icmp_ge 25 dX7_found_12 rfl ?_ ?_
    · refine js_iload_n dX7_found_25 rfl rfl ?_
      exact js_iret dX7_found_26 rfl rfl
    · refine js_aload_n dX7_found_15 rfl rfl ?_
      refine js_getR dX7_found_16 fl_X7_58 rfl rfl ?_
      refine js_iload_n dX7_found_19 rfl rfl ?_
      refine js_dup2 dX7_found_20 rfl rfl ?_
      refine js_iald dX7_found_21 rfl ?_
      refine js_iconst dX7_found_22 ki_1 ?_
      refine js_iadd dX7_found_23 ?_
      refine js_iast dX7_found_24 rfl ?_
      refine js_iload_n dX7_found_25 rfl rfl ?_
      exact js_iret dX7_found_26 rfl rfl

theorem qX7_found (G : js_G) (a1 : Int32) (σ : js_S) (r : (Int32 × js_S)) (h : fX7_found a1 σ = some r) : js_Con G shC mX7_found [(.ref 0), (.int a1)] σ (js_eW r) := js_con (mi := mX7_found) 1 pn_X7 rfl (Nat.le_of_ble_eq_true rfl) (jX7_found G a1 σ) r h
def fX7_flue (a1 : Int32) (σ : js_S) : Option (Int32 × js_S) := (if (fX7_isKind a1) = 0 then (fX7_found (-1000000001 : Int32) σ).bind fun r3 => some (r3.1, r3.2) else (if (σ.1 1 2) < (6 : Int32) then (fX3_addFlue a1 σ).bind fun r1 => some (r1.1, r1.2) else (fX7_found (-1000000002 : Int32) σ).bind fun r2 => some (r2.1, r2.2)))
set_option maxRecDepth 10000 in
theorem jX7_flue (G : js_G) (a1 : Int32) (σ : js_S) : js_J G shC mX7_flue js_eW 0 [some (.ref 0), some (.int a1)] [] σ (fX7_flue a1 σ) := by
  unfold fX7_flue
  refine js_iload_n dX7_flue_0 rfl rfl ?_
  refine js_callS_P (mj := mX7_isKind) [(.int a1)] [] dX7_flue_1 tw_211 cm_X7_isKind tw_212 rfl rfl rfl rfl (qX7_isKind G a1 σ) ?_
  refine js_if_ne 14 dX7_flue_4 rfl ?_ ?_
  · refine js_aload_n dX7_flue_14 rfl rfl ?_
    refine js_getR dX7_flue_15 fl_X7_10 rfl rfl ?_
    refine js_getI dX7_flue_18 fl_X7_74 rfl rfl ?_
    refine js_bipush dX7_flue_21 kb_6 ?_
    refine js_icmp_lt 33 dX7_flue_23 rfl ?_ ?_
    · refine js_aload_n dX7_flue_33 rfl rfl ?_
      refine js_getR dX7_flue_34 fl_X7_10 rfl rfl ?_
      refine js_iload_n dX7_flue_37 rfl rfl ?_
      refine js_callV_W (mj := mX3_addFlue) [(.int a1)] [] dX7_flue_38 tw_223 cm_X3_addFlue cv_X3_addFlue rfl rfl rfl rfl rfl rfl (fun r h => qX3_addFlue G a1 σ r h) (fun r1 => ?_)
      exact js_iret dX7_flue_41 rfl rfl
    · refine js_aload_n dX7_flue_26 rfl rfl ?_
      refine js_ldc dX7_flue_27 tw_222 ?_
      refine js_callV_W (mj := mX7_found) [(.int (-1000000002 : Int32))] [] dX7_flue_29 tw_218 cm_X7_found cv_X7_found rfl rfl rfl rfl rfl rfl (fun r h => qX7_found G (-1000000002 : Int32) σ r h) (fun r2 => ?_)
      exact js_iret dX7_flue_32 rfl rfl
  · refine js_aload_n dX7_flue_7 rfl rfl ?_
    refine js_ldc dX7_flue_8 tw_217 ?_
    refine js_callV_W (mj := mX7_found) [(.int (-1000000001 : Int32))] [] dX7_flue_10 tw_218 cm_X7_found cv_X7_found rfl rfl rfl rfl rfl rfl (fun r h => qX7_found G (-1000000001 : Int32) σ r h) (fun r3 => ?_)
    exact js_iret dX7_flue_13 rfl rfl

theorem qX7_flue (G : js_G) (a1 : Int32) (σ : js_S) (r : (Int32 × js_S)) (h : fX7_flue a1 σ = some r) : js_Con G shC mX7_flue [(.ref 0), (.int a1)] σ (js_eW r) := js_con (mi := mX7_flue) 0 pn_X7 rfl (Nat.le_of_ble_eq_true rfl) (jX7_flue G a1 σ) r h
def fX3_hasFlue (a1 : Int32) (σ : js_S) : Option Int32 := (if a1 < 0 then some (0 : Int32) else (if (σ.1 1 2) ≤ a1 then some (0 : Int32) else (if (6 : Int32) ≤ a1 then some (0 : Int32) else some (1 : Int32))))
set_option maxRecDepth 10000 in
theorem jX3_hasFlue (G : js_G) (a1 : Int32) (σ : js_S) : js_J G shC mX3_hasFlue (js_eI σ) 0 [some (.ref 1), some (.int a1)] [] σ (fX3_hasFlue a1 σ) := by
  unfold fX3_hasFlue
  refine js_iload_n dX3_hasFlue_0 rfl rfl ?_
  refine js_if_lt 22 dX3_hasFlue_1 rfl ?_ ?_
  · refine js_iconst dX3_hasFlue_22 ki_0 ?_
    exact js_zret dX3_hasFlue_23 rfl nb_0.1 rfl
  · refine js_iload_n dX3_hasFlue_4 rfl rfl ?_
    refine js_aload_n dX3_hasFlue_5 rfl rfl ?_
    refine js_getI dX3_hasFlue_6 fl_X3_18 rfl rfl ?_
    refine js_icmp_ge 22 dX3_hasFlue_9 rfl ?_ ?_
    · refine js_iconst dX3_hasFlue_22 ki_0 ?_
      exact js_zret dX3_hasFlue_23 rfl nb_0.1 rfl
    · refine js_iload_n dX3_hasFlue_12 rfl rfl ?_
      refine js_bipush dX3_hasFlue_13 kb_6 ?_
      refine js_icmp_ge 22 dX3_hasFlue_15 rfl ?_ ?_
      · refine js_iconst dX3_hasFlue_22 ki_0 ?_
        exact js_zret dX3_hasFlue_23 rfl nb_0.1 rfl
      · refine js_iconst dX3_hasFlue_18 ki_1 ?_
        refine js_goto 23 dX3_hasFlue_19 rfl ?_
        exact js_zret dX3_hasFlue_23 rfl nb_1.1 rfl

theorem qX3_hasFlue (G : js_G) (a1 : Int32) (σ : js_S) (r : Int32) (h : fX3_hasFlue a1 σ = some r) : js_Con G shC mX3_hasFlue [(.ref 1), (.int a1)] σ ((js_eI σ) r) := js_con (mi := mX3_hasFlue) 0 pn_X3 rfl (Nat.le_of_ble_eq_true rfl) (jX3_hasFlue G a1 σ) r h
def fX3_kindOf (a1 : Int32) (σ : js_S) : Option Int32 := (fX3_hasFlue a1 σ).bind fun r1 => (if r1 = 0 then some (0 : Int32) else js_gd (js_ix a1 6) (some (σ.1 2 (Int32.toNatClampNeg a1))))
set_option maxRecDepth 10000 in
theorem jX3_kindOf (G : js_G) (a1 : Int32) (σ : js_S) : js_J G shC mX3_kindOf (js_eI σ) 0 [some (.ref 1), some (.int a1)] [] σ (fX3_kindOf a1 σ) := by
  unfold fX3_kindOf
  refine js_aload_n dX3_kindOf_0 rfl rfl ?_
  refine js_iload_n dX3_kindOf_1 rfl rfl ?_
  refine js_callV_I (mj := mX3_hasFlue) [(.int a1)] [] dX3_kindOf_2 tw_239 cm_X3_hasFlue cv_X3_hasFlue rfl rfl rfl rfl rfl rfl (fun r h => qX3_hasFlue G a1 σ r h) (fun r1 => ?_)
  refine js_if_eq 17 dX3_kindOf_5 rfl ?_ ?_
  · refine js_iconst dX3_kindOf_17 ki_0 ?_
    exact js_iret dX3_kindOf_18 rfl rfl
  · refine js_aload_n dX3_kindOf_8 rfl rfl ?_
    refine js_getR dX3_kindOf_9 fl_X3_21 rfl rfl ?_
    refine js_iload_n dX3_kindOf_12 rfl rfl ?_
    refine js_iald dX3_kindOf_13 rfl ?_
    refine js_goto 18 dX3_kindOf_14 rfl ?_
    exact js_iret dX3_kindOf_18 rfl rfl

theorem qX3_kindOf (G : js_G) (a1 : Int32) (σ : js_S) (r : Int32) (h : fX3_kindOf a1 σ = some r) : js_Con G shC mX3_kindOf [(.ref 1), (.int a1)] σ ((js_eI σ) r) := js_con (mi := mX3_kindOf) 0 pn_X3 rfl (Nat.le_of_ble_eq_true rfl) (jX3_kindOf G a1 σ) r h
def fX1_cakes (a0 : Int32) (a1 : Int32) : Int32 := (if a1 ≤ (5 : Int32) then (if a0 = (1 : Int32) then (a1 / (3 : Int32)) else (if a0 = (2 : Int32) then (a1 / (3 : Int32)) else (if a0 = (3 : Int32) then ((2 : Int32) * (a1 / (3 : Int32))) else (if a0 = (4 : Int32) then (a1 / (3 : Int32)) else (if a0 = (5 : Int32) then (if (0 : Int32) < ((a1 / (3 : Int32)) - (1 : Int32)) then ((a1 / (3 : Int32)) - (1 : Int32)) else (0 : Int32)) else (a1 / (3 : Int32))))))) else (if a0 = (1 : Int32) then ((a1 / (3 : Int32)) + (1 : Int32)) else (if a0 = (2 : Int32) then (a1 / (3 : Int32)) else (if a0 = (3 : Int32) then ((2 : Int32) * (a1 / (3 : Int32))) else (if a0 = (4 : Int32) then ((a1 / (3 : Int32)) + (1 : Int32)) else (if a0 = (5 : Int32) then (if (0 : Int32) < ((a1 / (3 : Int32)) - (1 : Int32)) then ((a1 / (3 : Int32)) - (1 : Int32)) else (0 : Int32)) else (a1 / (3 : Int32))))))))
set_option maxRecDepth 10000 in
theorem jX1_cakes (G : js_G) (a0 : Int32) (a1 : Int32) (σ : js_S) : js_J G shC mX1_cakes (js_eI σ) 0 [some (.int a0), some (.int a1), none, none] [] σ (some (fX1_cakes a0 a1)) := by
  unfold fX1_cakes
  refine js_iload_n dX1_cakes_0 rfl rfl ?_
  refine js_iconst dX1_cakes_1 ki_3 ?_
  refine js_idiv dX1_cakes_2 (by decide) ?_
  refine js_istore_n (lv' := [some (.int a0), some (.int a1), some (.int (a1 / (3 : Int32))), none]) dX1_cakes_3 rfl rfl rfl rfl ?_
  refine js_iload_n dX1_cakes_4 rfl rfl ?_
  refine js_iconst dX1_cakes_5 ki_5 ?_
  refine js_pi ?_
  refine js_icmp_le 15 dX1_cakes_6 rfl ?_ ?_
  · refine js_iload_n dX1_cakes_15 rfl rfl ?_
    refine js_istore_n (lv' := [some (.int a0), some (.int a1), some (.int (a1 / (3 : Int32))), some (.int (a1 / (3 : Int32)))]) dX1_cakes_16 rfl rfl rfl rfl ?_
    refine js_iload_n dX1_cakes_17 rfl rfl ?_
    refine js_pi ?_
    refine js_split (fun h1 => ?_) (fun h1 => ?_)
    · refine js_tabI (1 : Int32) (off := 34) 52 dX1_cakes_18 h1 (by decide) ?_
      refine js_iload_n dX1_cakes_52 rfl rfl ?_
      exact js_iret dX1_cakes_53 rfl rfl
    · refine js_pi ?_
      refine js_split (fun h2 => ?_) (fun h2 => ?_)
      · refine js_tabI (2 : Int32) (off := 50) 68 dX1_cakes_18 h2 (by decide) ?_
        refine js_iload_n dX1_cakes_68 rfl rfl ?_
        exact js_iret dX1_cakes_69 rfl rfl
      · refine js_pi ?_
        refine js_split (fun h3 => ?_) (fun h3 => ?_)
        · refine js_tabI (3 : Int32) (off := 36) 54 dX1_cakes_18 h3 (by decide) ?_
          refine js_iconst dX1_cakes_54 ki_2 ?_
          refine js_iload_n dX1_cakes_55 rfl rfl ?_
          refine js_imul dX1_cakes_56 ?_
          exact js_iret dX1_cakes_57 rfl rfl
        · refine js_pi ?_
          refine js_split (fun h4 => ?_) (fun h4 => ?_)
          · refine js_tabI (4 : Int32) (off := 40) 58 dX1_cakes_18 h4 (by decide) ?_
            refine js_iload_n dX1_cakes_58 rfl rfl ?_
            exact js_iret dX1_cakes_59 rfl rfl
          · refine js_pi ?_
            refine js_split (fun h5 => ?_) (fun h5 => ?_)
            · refine js_tabI (5 : Int32) (off := 42) 60 dX1_cakes_18 h5 (by decide) ?_
              refine js_iconst dX1_cakes_60 ki_0 ?_
              refine js_iload_n dX1_cakes_61 rfl rfl ?_
              refine js_iconst dX1_cakes_62 ki_1 ?_
              refine js_isub dX1_cakes_63 ?_
              refine js_max dX1_cakes_64 tw_270 mm_max rfl rfl ?_
              exact js_iret dX1_cakes_67 rfl rfl
            · refine js_tabO 68 dX1_cakes_18 (by have eh1 := lv_neT h1 (k := (1 : Int32)) (a := 1) (by decide); have eh2 := lv_neT h2 (k := (2 : Int32)) (a := 2) (by decide); have eh3 := lv_neT h3 (k := (3 : Int32)) (a := 3) (by decide); have eh4 := lv_neT h4 (k := (4 : Int32)) (a := 4) (by decide); have eh5 := lv_neT h5 (k := (5 : Int32)) (a := 5) (by decide); omega) rfl ?_
              refine js_iload_n dX1_cakes_68 rfl rfl ?_
              exact js_iret dX1_cakes_69 rfl rfl
  · refine js_iload_n dX1_cakes_9 rfl rfl ?_
    refine js_iconst dX1_cakes_10 ki_1 ?_
    refine js_iadd dX1_cakes_11 ?_
    refine js_goto 16 dX1_cakes_12 rfl ?_
    refine js_istore_n (lv' := [some (.int a0), some (.int a1), some (.int (a1 / (3 : Int32))), some (.int ((a1 / (3 : Int32)) + (1 : Int32)))]) dX1_cakes_16 rfl rfl rfl rfl ?_
    refine js_iload_n dX1_cakes_17 rfl rfl ?_
    refine js_pi ?_
    refine js_split (fun h6 => ?_) (fun h6 => ?_)
    · refine js_tabI (1 : Int32) (off := 34) 52 dX1_cakes_18 h6 (by decide) ?_
      refine js_iload_n dX1_cakes_52 rfl rfl ?_
      exact js_iret dX1_cakes_53 rfl rfl
    · refine js_pi ?_
      refine js_split (fun h7 => ?_) (fun h7 => ?_)
      · refine js_tabI (2 : Int32) (off := 50) 68 dX1_cakes_18 h7 (by decide) ?_
        refine js_iload_n dX1_cakes_68 rfl rfl ?_
        exact js_iret dX1_cakes_69 rfl rfl
      · refine js_pi ?_
        refine js_split (fun h8 => ?_) (fun h8 => ?_)
        · refine js_tabI (3 : Int32) (off := 36) 54 dX1_cakes_18 h8 (by decide) ?_
          refine js_iconst dX1_cakes_54 ki_2 ?_
          refine js_iload_n dX1_cakes_55 rfl rfl ?_
          refine js_imul dX1_cakes_56 ?_
          exact js_iret dX1_cakes_57 rfl rfl
        · refine js_pi ?_
          refine js_split (fun h9 => ?_) (fun h9 => ?_)
          · refine js_tabI (4 : Int32) (off := 40) 58 dX1_cakes_18 h9 (by decide) ?_
            refine js_iload_n dX1_cakes_58 rfl rfl ?_
            exact js_iret dX1_cakes_59 rfl rfl
          · refine js_pi ?_
            refine js_split (fun h10 => ?_) (fun h10 => ?_)
            · refine js_tabI (5 : Int32) (off := 42) 60 dX1_cakes_18 h10 (by decide) ?_
              refine js_iconst dX1_cakes_60 ki_0 ?_
              refine js_iload_n dX1_cakes_61 rfl rfl ?_
              refine js_iconst dX1_cakes_62 ki_1 ?_
              refine js_isub dX1_cakes_63 ?_
              refine js_max dX1_cakes_64 tw_270 mm_max rfl rfl ?_
              exact js_iret dX1_cakes_67 rfl rfl
            · refine js_tabO 68 dX1_cakes_18 (by have eh6 := lv_neT h6 (k := (1 : Int32)) (a := 1) (by decide); have eh7 := lv_neT h7 (k := (2 : Int32)) (a := 2) (by decide); have eh8 := lv_neT h8 (k := (3 : Int32)) (a := 3) (by decide); have eh9 := lv_neT h9 (k := (4 : Int32)) (a := 4) (by decide); have eh10 := lv_neT h10 (k := (5 : Int32)) (a := 5) (by decide); omega) rfl ?_
              refine js_iload_n dX1_cakes_68 rfl rfl ?_
              exact js_iret dX1_cakes_69 rfl rfl

theorem qX1_cakes (G : js_G) (a0 : Int32) (a1 : Int32) (σ : js_S) : js_Con G shC mX1_cakes [(.int a0), (.int a1)] σ (some (.int (fX1_cakes a0 a1)), σ) := js_con (mi := mX1_cakes) (emb := (js_eI σ)) 2 pn_X1 rfl (Nat.le_of_ble_eq_true rfl) (jX1_cakes G a0 a1 σ) _ rfl
def fX7_isBend (a0 : Int32) : Int32 := (if a0 < 0 then (0 : Int32) else (if (8 : Int32) ≤ a0 then (0 : Int32) else (1 : Int32)))
set_option maxRecDepth 10000 in
theorem jX7_isBend (G : js_G) (a0 : Int32) (σ : js_S) : js_J G shC mX7_isBend (js_eI σ) 0 [some (.int a0)] [] σ (some (fX7_isBend a0)) := by
  unfold fX7_isBend
  refine js_iload_n dX7_isBend_0 rfl rfl ?_
  refine js_pi ?_
  refine js_if_lt 14 dX7_isBend_1 rfl ?_ ?_
  · refine js_iconst dX7_isBend_14 ki_0 ?_
    exact js_zret dX7_isBend_15 rfl nb_0.1 rfl
  · refine js_iload_n dX7_isBend_4 rfl rfl ?_
    refine js_bipush dX7_isBend_5 kb_8 ?_
    refine js_pi ?_
    refine js_icmp_ge 14 dX7_isBend_7 rfl ?_ ?_
    · refine js_iconst dX7_isBend_14 ki_0 ?_
      exact js_zret dX7_isBend_15 rfl nb_0.1 rfl
    · refine js_iconst dX7_isBend_10 ki_1 ?_
      refine js_goto 15 dX7_isBend_11 rfl ?_
      exact js_zret dX7_isBend_15 rfl nb_1.1 rfl

theorem qX7_isBend (G : js_G) (a0 : Int32) (σ : js_S) : js_Con G shC mX7_isBend [(.int a0)] σ (some (.int (fX7_isBend a0)), σ) := js_con (mi := mX7_isBend) (emb := (js_eI σ)) 0 pn_X7 rfl (Nat.le_of_ble_eq_true rfl) (jX7_isBend G a0 σ) _ rfl
theorem zX7_isBend (a0 : Int32) : fX7_isBend a0 = 0 ∨ fX7_isBend a0 = 1 := by
  unfold fX7_isBend
  repeat' split
  all_goals first | exact Or.inl rfl | exact Or.inr rfl
def fX3_height (a1 : Int32) (a2 : Int32) (σ : js_S) : Option Int32 := (fX3_hasFlue a1 σ).bind fun r1 => (if r1 = 0 then some (0 : Int32) else (if (fX7_isBend a2) = 0 then some (0 : Int32) else js_gd (js_ix ((a1 * (8 : Int32)) + a2) 48) (some (σ.1 3 (Int32.toNatClampNeg ((a1 * (8 : Int32)) + a2))))))
set_option maxRecDepth 10000 in
theorem jX3_height (G : js_G) (a1 : Int32) (a2 : Int32) (σ : js_S) : js_J G shC mX3_height (js_eI σ) 0 [some (.ref 1), some (.int a1), some (.int a2)] [] σ (fX3_height a1 a2 σ) := by
  unfold fX3_height
  refine js_aload_n dX3_height_0 rfl rfl ?_
  refine js_iload_n dX3_height_1 rfl rfl ?_
  refine js_callV_I (mj := mX3_hasFlue) [(.int a1)] [] dX3_height_2 tw_239 cm_X3_hasFlue cv_X3_hasFlue rfl rfl rfl rfl rfl rfl (fun r h => qX3_hasFlue G a1 σ r h) (fun r1 => ?_)
  refine js_if_eq 29 dX3_height_5 rfl ?_ ?_
  · refine js_iconst dX3_height_29 ki_0 ?_
    exact js_iret dX3_height_30 rfl rfl
  · refine js_iload_n dX3_height_8 rfl rfl ?_
    refine js_callN_P (host := RX7) (mj := mX7_isBend) [(.int a2)] [] dX3_height_9 (List.mem_of_getElem? (i := 0) rfl) cm_X7_isBend tw_249 rfl rfl rfl rfl (qX7_isBend G a2 σ) ?_
    refine js_if_eq 29 dX3_height_12 rfl ?_ ?_
    · refine js_iconst dX3_height_29 ki_0 ?_
      exact js_iret dX3_height_30 rfl rfl
    · refine js_aload_n dX3_height_15 rfl rfl ?_
      refine js_getR dX3_height_16 fl_X3_25 rfl rfl ?_
      refine js_iload_n dX3_height_19 rfl rfl ?_
      refine js_bipush dX3_height_20 kb_8 ?_
      refine js_imul dX3_height_22 ?_
      refine js_iload_n dX3_height_23 rfl rfl ?_
      refine js_iadd dX3_height_24 ?_
      refine js_iald dX3_height_25 rfl ?_
      refine js_goto 30 dX3_height_26 rfl ?_
      exact js_iret dX3_height_30 rfl rfl

theorem qX3_height (G : js_G) (a1 : Int32) (a2 : Int32) (σ : js_S) (r : Int32) (h : fX3_height a1 a2 σ = some r) : js_Con G shC mX3_height [(.ref 1), (.int a1), (.int a2)] σ ((js_eI σ) r) := js_con (mi := mX3_height) 0 pn_X3 rfl (Nat.le_of_ble_eq_true rfl) (jX3_height G a1 a2 σ) r h
def fX3_bareBends_L4 (p1 : Int32) (σ : js_S) : Nat → Int32 → Int32 → Option Int32
  | 0, _, _ => none
  | n + 1, v2, v3 => (if (8 : Int32) ≤ v3 then some v2 else (fX3_height p1 v3 σ).bind fun r1 => (if r1 = 0 then fX3_bareBends_L4 p1 σ n (v2 ||| ((1 : Int32) <<< (v3 &&& 31))) (v3 + (1 : Int32)) else fX3_bareBends_L4 p1 σ n v2 (v3 + (1 : Int32))))
set_option maxRecDepth 10000 in
theorem jX3_bareBends_L4 (G : js_G) (p1 : Int32) (σ : js_S) : ∀ (n : Nat) (v2 : Int32) (v3 : Int32), js_J G shC mX3_bareBends (js_eI σ) 4 [some (.ref 1), some (.int p1), some (.int v2), some (.int v3)] [] σ (fX3_bareBends_L4 p1 σ n v2 v3) := by
  intro n
  induction n with
  | zero =>
    intros
    exact js_none
  | succ n ih1 =>
    intro v2 v3
    rw [fX3_bareBends_L4]
    refine js_iload_n dX3_bareBends_4 rfl rfl ?_
    refine js_bipush dX3_bareBends_5 kb_8 ?_
    refine js_icmp_ge 31 dX3_bareBends_7 rfl ?_ ?_
    · refine js_iload_n dX3_bareBends_31 rfl rfl ?_
      exact js_iret dX3_bareBends_32 rfl rfl
    · refine js_aload_n dX3_bareBends_10 rfl rfl ?_
      refine js_iload_n dX3_bareBends_11 rfl rfl ?_
      refine js_iload_n dX3_bareBends_12 rfl rfl ?_
      refine js_callV_I (mj := mX3_height) [(.int p1), (.int v3)] [] dX3_bareBends_13 tw_244 cm_X3_height cv_X3_height rfl rfl rfl rfl rfl rfl (fun r h => qX3_height G p1 v3 σ r h) (fun r1 => ?_)
      refine js_if_ne 25 dX3_bareBends_16 rfl ?_ ?_
      · refine js_iinc (v := (v3 + (1 : Int32))) (lv' := [some (.ref 1), some (.int p1), some (.int v2), some (.int (v3 + (1 : Int32)))]) dX3_bareBends_25 rfl (kx_1 _) rfl rfl rfl ?_
        refine js_goto 4 dX3_bareBends_28 rfl ?_
        exact ih1 v2 (v3 + (1 : Int32))
      · refine js_iload_n dX3_bareBends_19 rfl rfl ?_
        refine js_iconst dX3_bareBends_20 ki_1 ?_
        refine js_iload_n dX3_bareBends_21 rfl rfl ?_
        refine js_ishl dX3_bareBends_22 ?_
        refine js_ior dX3_bareBends_23 ?_
        refine js_istore_n (lv' := [some (.ref 1), some (.int p1), some (.int (v2 ||| ((1 : Int32) <<< (v3 &&& 31)))), some (.int v3)]) dX3_bareBends_24 rfl rfl rfl rfl ?_
        refine js_iinc (v := (v3 + (1 : Int32))) (lv' := [some (.ref 1), some (.int p1), some (.int (v2 ||| ((1 : Int32) <<< (v3 &&& 31)))), some (.int (v3 + (1 : Int32)))]) dX3_bareBends_25 rfl (kx_1 _) rfl rfl rfl ?_
        refine js_goto 4 dX3_bareBends_28 rfl ?_
        exact ih1 (v2 ||| ((1 : Int32) <<< (v3 &&& 31))) (v3 + (1 : Int32))

def fX3_bareBends (a1 : Int32) (σ : js_S) : Option Int32 := fX3_bareBends_L4 a1 σ js_FU (0 : Int32) (0 : Int32)
set_option maxRecDepth 10000 in
theorem jX3_bareBends (G : js_G) (a1 : Int32) (σ : js_S) : js_J G shC mX3_bareBends (js_eI σ) 0 [some (.ref 1), some (.int a1), none, none] [] σ (fX3_bareBends a1 σ) := by
  unfold fX3_bareBends
  refine js_iconst dX3_bareBends_0 ki_0 ?_
  refine js_istore_n (lv' := [some (.ref 1), some (.int a1), some (.int (0 : Int32)), none]) dX3_bareBends_1 rfl rfl rfl rfl ?_
  refine js_iconst dX3_bareBends_2 ki_0 ?_
  refine js_istore_n (lv' := [some (.ref 1), some (.int a1), some (.int (0 : Int32)), some (.int (0 : Int32))]) dX3_bareBends_3 rfl rfl rfl rfl ?_
  exact jX3_bareBends_L4 G a1 σ  _ (0 : Int32) (0 : Int32)

theorem qX3_bareBends (G : js_G) (a1 : Int32) (σ : js_S) (r : Int32) (h : fX3_bareBends a1 σ = some r) : js_Con G shC mX3_bareBends [(.ref 1), (.int a1)] σ ((js_eI σ) r) := js_con (mi := mX3_bareBends) 2 pn_X3 rfl (Nat.le_of_ble_eq_true rfl) (jX3_bareBends G a1 σ) r h
def fX3_place (a1 : Int32) (a2 : Int32) (a3 : Int32) (σ : js_S) : Option Int32 := (fX3_height a1 a2 σ).bind fun r1 => some ((((((a1 * (8 : Int32)) + a2) * (6 : Int32)) + r1) - (1 : Int32)) - a3)
set_option maxRecDepth 10000 in
theorem jX3_place (G : js_G) (a1 : Int32) (a2 : Int32) (a3 : Int32) (σ : js_S) : js_J G shC mX3_place (js_eI σ) 0 [some (.ref 1), some (.int a1), some (.int a2), some (.int a3)] [] σ (fX3_place a1 a2 a3 σ) := by
  unfold fX3_place
  refine js_iload_n dX3_place_0 rfl rfl ?_
  refine js_bipush dX3_place_1 kb_8 ?_
  refine js_imul dX3_place_3 ?_
  refine js_iload_n dX3_place_4 rfl rfl ?_
  refine js_iadd dX3_place_5 ?_
  refine js_bipush dX3_place_6 kb_6 ?_
  refine js_imul dX3_place_8 ?_
  refine js_aload_n dX3_place_9 rfl rfl ?_
  refine js_iload_n dX3_place_10 rfl rfl ?_
  refine js_iload_n dX3_place_11 rfl rfl ?_
  refine js_callV_I (mj := mX3_height) [(.int a1), (.int a2)] [(.int (((a1 * (8 : Int32)) + a2) * (6 : Int32)))] dX3_place_12 tw_244 cm_X3_height cv_X3_height rfl rfl rfl rfl rfl rfl (fun r h => qX3_height G a1 a2 σ r h) (fun r1 => ?_)
  refine js_iadd dX3_place_15 ?_
  refine js_iconst dX3_place_16 ki_1 ?_
  refine js_isub dX3_place_17 ?_
  refine js_iload_n dX3_place_18 rfl rfl ?_
  refine js_isub dX3_place_19 ?_
  exact js_iret dX3_place_20 rfl rfl

theorem qX3_place (G : js_G) (a1 : Int32) (a2 : Int32) (a3 : Int32) (σ : js_S) (r : Int32) (h : fX3_place a1 a2 a3 σ = some r) : js_Con G shC mX3_place [(.ref 1), (.int a1), (.int a2), (.int a3)] σ ((js_eI σ) r) := js_con (mi := mX3_place) 0 pn_X3 rfl (Nat.le_of_ble_eq_true rfl) (jX3_place G a1 a2 a3 σ) r h
def fX3_wordsOn_L22 (p4 : Int32) (p5 : Int32) (σ : js_S) : Nat → Int32 → Int32 → Option Int32
  | 0, _, _ => none
  | n + 1, v3, v6 => (if p4 ≤ v6 then some v3 else js_gd (js_ix (p5 - v6) 288) (fX3_wordsOn_L22 p4 p5 σ n (v3 ||| ((1 : Int32) <<< ((σ.1 4 (Int32.toNatClampNeg (p5 - v6))) &&& 31))) (v6 + (1 : Int32))))
set_option maxRecDepth 10000 in
theorem jX3_wordsOn_L22 (G : js_G) (p4 : Int32) (p5 : Int32) (σ : js_S) : ∀ (n : Nat) (v3 : Int32) (v6 : Int32), js_J G shC mX3_wordsOn (js_eI σ) 22 [some (.ref 1), none, none, some (.int v3), some (.int p4), some (.int p5), some (.int v6)] [] σ (fX3_wordsOn_L22 p4 p5 σ n v3 v6) := by
  intro n
  induction n with
  | zero =>
    intros
    exact js_none
  | succ n ih1 =>
    intro v3 v6
    rw [fX3_wordsOn_L22]
    refine js_iload dX3_wordsOn_22 rfl ?_
    refine js_iload dX3_wordsOn_24 rfl ?_
    refine js_icmp_ge 50 dX3_wordsOn_26 rfl ?_ ?_
    · refine js_iload_n dX3_wordsOn_50 rfl rfl ?_
      exact js_iret dX3_wordsOn_51 rfl rfl
    · refine js_iload_n dX3_wordsOn_29 rfl rfl ?_
      refine js_iconst dX3_wordsOn_30 ki_1 ?_
      refine js_aload_n dX3_wordsOn_31 rfl rfl ?_
      refine js_getR dX3_wordsOn_32 fl_X3_28 rfl rfl ?_
      refine js_iload dX3_wordsOn_35 rfl ?_
      refine js_iload dX3_wordsOn_37 rfl ?_
      refine js_isub dX3_wordsOn_39 ?_
      refine js_iald dX3_wordsOn_40 rfl ?_
      refine js_ishl dX3_wordsOn_41 ?_
      refine js_ior dX3_wordsOn_42 ?_
      refine js_istore_n (lv' := [some (.ref 1), none, none, some (.int (v3 ||| ((1 : Int32) <<< ((σ.1 4 (Int32.toNatClampNeg (p5 - v6))) &&& 31)))), some (.int p4), some (.int p5), some (.int v6)]) dX3_wordsOn_43 rfl rfl rfl rfl ?_
      refine js_iinc (v := (v6 + (1 : Int32))) (lv' := [some (.ref 1), none, none, some (.int (v3 ||| ((1 : Int32) <<< ((σ.1 4 (Int32.toNatClampNeg (p5 - v6))) &&& 31)))), some (.int p4), some (.int p5), some (.int (v6 + (1 : Int32)))]) dX3_wordsOn_44 rfl (kx_1 _) rfl rfl rfl ?_
      refine js_goto 22 dX3_wordsOn_47 rfl ?_
      exact ih1 (v3 ||| ((1 : Int32) <<< ((σ.1 4 (Int32.toNatClampNeg (p5 - v6))) &&& 31))) (v6 + (1 : Int32))

def fX3_wordsOn (a1 : Int32) (a2 : Int32) (σ : js_S) : Option Int32 := (fX3_height a1 a2 σ).bind fun r1 => (fX3_place a1 a2 (0 : Int32) σ).bind fun r2 => fX3_wordsOn_L22 r1 r2 σ js_FU (0 : Int32) (0 : Int32)
set_option maxRecDepth 10000 in
theorem jX3_wordsOn (G : js_G) (a1 : Int32) (a2 : Int32) (σ : js_S) : js_J G shC mX3_wordsOn (js_eI σ) 0 [some (.ref 1), some (.int a1), some (.int a2), none, none, none, none] [] σ (fX3_wordsOn a1 a2 σ) := by
  unfold fX3_wordsOn
  refine js_iconst dX3_wordsOn_0 ki_0 ?_
  refine js_istore_n (lv' := [some (.ref 1), some (.int a1), some (.int a2), some (.int (0 : Int32)), none, none, none]) dX3_wordsOn_1 rfl rfl rfl rfl ?_
  refine js_aload_n dX3_wordsOn_2 rfl rfl ?_
  refine js_iload_n dX3_wordsOn_3 rfl rfl ?_
  refine js_iload_n dX3_wordsOn_4 rfl rfl ?_
  refine js_callV_I (mj := mX3_height) [(.int a1), (.int a2)] [] dX3_wordsOn_5 tw_244 cm_X3_height cv_X3_height rfl rfl rfl rfl rfl rfl (fun r h => qX3_height G a1 a2 σ r h) (fun r1 => ?_)
  refine js_istore (lv' := [some (.ref 1), some (.int a1), some (.int a2), some (.int (0 : Int32)), some (.int r1), none, none]) dX3_wordsOn_8 rfl rfl rfl ?_
  refine js_aload_n dX3_wordsOn_10 rfl rfl ?_
  refine js_iload_n dX3_wordsOn_11 rfl rfl ?_
  refine js_iload_n dX3_wordsOn_12 rfl rfl ?_
  refine js_iconst dX3_wordsOn_13 ki_0 ?_
  refine js_callV_I (mj := mX3_place) [(.int a1), (.int a2), (.int (0 : Int32))] [] dX3_wordsOn_14 tw_259 cm_X3_place cv_X3_place rfl rfl rfl rfl rfl rfl (fun r h => qX3_place G a1 a2 (0 : Int32) σ r h) (fun r2 => ?_)
  refine js_istore (lv' := [some (.ref 1), some (.int a1), some (.int a2), some (.int (0 : Int32)), some (.int r1), some (.int r2), none]) dX3_wordsOn_17 rfl rfl rfl ?_
  refine js_iconst dX3_wordsOn_19 ki_0 ?_
  refine js_istore (lv' := [some (.ref 1), some (.int a1), some (.int a2), some (.int (0 : Int32)), some (.int r1), some (.int r2), some (.int (0 : Int32))]) dX3_wordsOn_20 rfl rfl rfl ?_
  refine js_drop [true, false, false, true, true, true, true] (lv2 := [some (.ref 1), none, none, some (.int (0 : Int32)), some (.int r1), some (.int r2), some (.int (0 : Int32))]) rfl ?_
  exact jX3_wordsOn_L22 G r1 r2 σ  _ (0 : Int32) (0 : Int32)

theorem qX3_wordsOn (G : js_G) (a1 : Int32) (a2 : Int32) (σ : js_S) (r : Int32) (h : fX3_wordsOn a1 a2 σ = some r) : js_Con G shC mX3_wordsOn [(.ref 1), (.int a1), (.int a2)] σ ((js_eI σ) r) := js_con (mi := mX3_wordsOn) 4 pn_X3 rfl (Nat.le_of_ble_eq_true rfl) (jX3_wordsOn G a1 a2 σ) r h
def fX3_wordsIn_L4 (p1 : Int32) (σ : js_S) : Nat → Int32 → Int32 → Option Int32
  | 0, _, _ => none
  | n + 1, v2, v3 => (if (8 : Int32) ≤ v3 then some v2 else (fX3_wordsOn p1 v3 σ).bind fun r1 => fX3_wordsIn_L4 p1 σ n (v2 ||| r1) (v3 + (1 : Int32)))
set_option maxRecDepth 10000 in
theorem jX3_wordsIn_L4 (G : js_G) (p1 : Int32) (σ : js_S) : ∀ (n : Nat) (v2 : Int32) (v3 : Int32), js_J G shC mX3_wordsIn (js_eI σ) 4 [some (.ref 1), some (.int p1), some (.int v2), some (.int v3)] [] σ (fX3_wordsIn_L4 p1 σ n v2 v3) := by
  intro n
  induction n with
  | zero =>
    intros
    exact js_none
  | succ n ih1 =>
    intro v2 v3
    rw [fX3_wordsIn_L4]
    refine js_iload_n dX3_wordsIn_4 rfl rfl ?_
    refine js_bipush dX3_wordsIn_5 kb_8 ?_
    refine js_icmp_ge 25 dX3_wordsIn_7 rfl ?_ ?_
    · refine js_iload_n dX3_wordsIn_25 rfl rfl ?_
      exact js_iret dX3_wordsIn_26 rfl rfl
    · refine js_iload_n dX3_wordsIn_10 rfl rfl ?_
      refine js_aload_n dX3_wordsIn_11 rfl rfl ?_
      refine js_iload_n dX3_wordsIn_12 rfl rfl ?_
      refine js_iload_n dX3_wordsIn_13 rfl rfl ?_
      refine js_callV_I (mj := mX3_wordsOn) [(.int p1), (.int v3)] [(.int v2)] dX3_wordsIn_14 tw_255 cm_X3_wordsOn cv_X3_wordsOn rfl rfl rfl rfl rfl rfl (fun r h => qX3_wordsOn G p1 v3 σ r h) (fun r1 => ?_)
      refine js_ior dX3_wordsIn_17 ?_
      refine js_istore_n (lv' := [some (.ref 1), some (.int p1), some (.int (v2 ||| r1)), some (.int v3)]) dX3_wordsIn_18 rfl rfl rfl rfl ?_
      refine js_iinc (v := (v3 + (1 : Int32))) (lv' := [some (.ref 1), some (.int p1), some (.int (v2 ||| r1)), some (.int (v3 + (1 : Int32)))]) dX3_wordsIn_19 rfl (kx_1 _) rfl rfl rfl ?_
      refine js_goto 4 dX3_wordsIn_22 rfl ?_
      exact ih1 (v2 ||| r1) (v3 + (1 : Int32))

def fX3_wordsIn (a1 : Int32) (σ : js_S) : Option Int32 := fX3_wordsIn_L4 a1 σ js_FU (0 : Int32) (0 : Int32)
set_option maxRecDepth 10000 in
theorem jX3_wordsIn (G : js_G) (a1 : Int32) (σ : js_S) : js_J G shC mX3_wordsIn (js_eI σ) 0 [some (.ref 1), some (.int a1), none, none] [] σ (fX3_wordsIn a1 σ) := by
  unfold fX3_wordsIn
  refine js_iconst dX3_wordsIn_0 ki_0 ?_
  refine js_istore_n (lv' := [some (.ref 1), some (.int a1), some (.int (0 : Int32)), none]) dX3_wordsIn_1 rfl rfl rfl rfl ?_
  refine js_iconst dX3_wordsIn_2 ki_0 ?_
  refine js_istore_n (lv' := [some (.ref 1), some (.int a1), some (.int (0 : Int32)), some (.int (0 : Int32))]) dX3_wordsIn_3 rfl rfl rfl rfl ?_
  exact jX3_wordsIn_L4 G a1 σ  _ (0 : Int32) (0 : Int32)

theorem qX3_wordsIn (G : js_G) (a1 : Int32) (σ : js_S) (r : Int32) (h : fX3_wordsIn a1 σ = some r) : js_Con G shC mX3_wordsIn [(.ref 1), (.int a1)] σ ((js_eI σ) r) := js_con (mi := mX3_wordsIn) 2 pn_X3 rfl (Nat.le_of_ble_eq_true rfl) (jX3_wordsIn G a1 σ) r h
def fX3_layersIn_L4 (p1 : Int32) (σ : js_S) : Nat → Int32 → Int32 → Option Int32
  | 0, _, _ => none
  | n + 1, v2, v3 => (if (8 : Int32) ≤ v3 then some v2 else (fX3_height p1 v3 σ).bind fun r1 => fX3_layersIn_L4 p1 σ n (v2 + r1) (v3 + (1 : Int32)))
set_option maxRecDepth 10000 in
theorem jX3_layersIn_L4 (G : js_G) (p1 : Int32) (σ : js_S) : ∀ (n : Nat) (v2 : Int32) (v3 : Int32), js_J G shC mX3_layersIn (js_eI σ) 4 [some (.ref 1), some (.int p1), some (.int v2), some (.int v3)] [] σ (fX3_layersIn_L4 p1 σ n v2 v3) := by
  intro n
  induction n with
  | zero =>
    intros
    exact js_none
  | succ n ih1 =>
    intro v2 v3
    rw [fX3_layersIn_L4]
    refine js_iload_n dX3_layersIn_4 rfl rfl ?_
    refine js_bipush dX3_layersIn_5 kb_8 ?_
    refine js_icmp_ge 25 dX3_layersIn_7 rfl ?_ ?_
    · refine js_iload_n dX3_layersIn_25 rfl rfl ?_
      exact js_iret dX3_layersIn_26 rfl rfl
    · refine js_iload_n dX3_layersIn_10 rfl rfl ?_
      refine js_aload_n dX3_layersIn_11 rfl rfl ?_
      refine js_iload_n dX3_layersIn_12 rfl rfl ?_
      refine js_iload_n dX3_layersIn_13 rfl rfl ?_
      refine js_callV_I (mj := mX3_height) [(.int p1), (.int v3)] [(.int v2)] dX3_layersIn_14 tw_244 cm_X3_height cv_X3_height rfl rfl rfl rfl rfl rfl (fun r h => qX3_height G p1 v3 σ r h) (fun r1 => ?_)
      refine js_iadd dX3_layersIn_17 ?_
      refine js_istore_n (lv' := [some (.ref 1), some (.int p1), some (.int (v2 + r1)), some (.int v3)]) dX3_layersIn_18 rfl rfl rfl rfl ?_
      refine js_iinc (v := (v3 + (1 : Int32))) (lv' := [some (.ref 1), some (.int p1), some (.int (v2 + r1)), some (.int (v3 + (1 : Int32)))]) dX3_layersIn_19 rfl (kx_1 _) rfl rfl rfl ?_
      refine js_goto 4 dX3_layersIn_22 rfl ?_
      exact ih1 (v2 + r1) (v3 + (1 : Int32))

def fX3_layersIn (a1 : Int32) (σ : js_S) : Option Int32 := fX3_layersIn_L4 a1 σ js_FU (0 : Int32) (0 : Int32)
set_option maxRecDepth 10000 in
theorem jX3_layersIn (G : js_G) (a1 : Int32) (σ : js_S) : js_J G shC mX3_layersIn (js_eI σ) 0 [some (.ref 1), some (.int a1), none, none] [] σ (fX3_layersIn a1 σ) := by
  unfold fX3_layersIn
  refine js_iconst dX3_layersIn_0 ki_0 ?_
  refine js_istore_n (lv' := [some (.ref 1), some (.int a1), some (.int (0 : Int32)), none]) dX3_layersIn_1 rfl rfl rfl rfl ?_
  refine js_iconst dX3_layersIn_2 ki_0 ?_
  refine js_istore_n (lv' := [some (.ref 1), some (.int a1), some (.int (0 : Int32)), some (.int (0 : Int32))]) dX3_layersIn_3 rfl rfl rfl rfl ?_
  exact jX3_layersIn_L4 G a1 σ  _ (0 : Int32) (0 : Int32)

theorem qX3_layersIn (G : js_G) (a1 : Int32) (σ : js_S) (r : Int32) (h : fX3_layersIn a1 σ = some r) : js_Con G shC mX3_layersIn [(.ref 1), (.int a1)] σ ((js_eI σ) r) := js_con (mi := mX3_layersIn) 2 pn_X3 rfl (Nat.le_of_ble_eq_true rfl) (jX3_layersIn G a1 σ) r h
def fX7_of (a1 : Int32) (a2 : Int32) (σ : js_S) : Option (Int32 × js_S) := (fX3_hasFlue a1 σ).bind fun r1 => (if r1 = 0 then (fX7_found (-1000000001 : Int32) σ).bind fun r13 => some (r13.1, r13.2) else (if a2 = (0 : Int32) then (fX3_kindOf a1 σ).bind fun r12 => some (r12, σ) else (if a2 = (1 : Int32) then (fX3_layersIn a1 σ).bind fun r11 => some (r11, σ) else (if a2 = (2 : Int32) then (fX3_wordsIn a1 σ).bind fun r10 => some (r10, σ) else (if a2 = (3 : Int32) then (fX3_bareBends a1 σ).bind fun r9 => some (r9, σ) else (if a2 = (4 : Int32) then (fX3_kindOf a1 σ).bind fun r8 => some ((fX1_cakes r8 (σ.1 1 1)), σ) else (fX7_found (-1000000001 : Int32) σ).bind fun r2 => some (r2.1, r2.2)))))))
set_option maxRecDepth 10000 in
theorem jX7_of (G : js_G) (a1 : Int32) (a2 : Int32) (σ : js_S) : js_J G shC mX7_of js_eW 0 [some (.ref 0), some (.int a1), some (.int a2)] [] σ (fX7_of a1 a2 σ) := by
  unfold fX7_of
  refine js_aload_n dX7_of_0 rfl rfl ?_
  refine js_getR dX7_of_1 fl_X7_10 rfl rfl ?_
  refine js_iload_n dX7_of_4 rfl rfl ?_
  refine js_callV_I (mj := mX3_hasFlue) [(.int a1)] [] dX7_of_5 tw_231 cm_X3_hasFlue cv_X3_hasFlue rfl rfl rfl rfl rfl rfl (fun r h => qX3_hasFlue G a1 σ r h) (fun r1 => ?_)
  refine js_if_ne 18 dX7_of_8 rfl ?_ ?_
  · refine js_iload_n dX7_of_18 rfl rfl ?_
    refine js_split (fun h3 => ?_) (fun h3 => ?_)
    · refine js_tabI (0 : Int32) (off := 33) 52 dX7_of_19 h3 (by decide) ?_
      refine js_aload_n dX7_of_52 rfl rfl ?_
      refine js_getR dX7_of_53 fl_X7_10 rfl rfl ?_
      refine js_iload_n dX7_of_56 rfl rfl ?_
      refine js_callV_I (mj := mX3_kindOf) [(.int a1)] [] dX7_of_57 tw_235 cm_X3_kindOf cv_X3_kindOf rfl rfl rfl rfl rfl rfl (fun r h => qX3_kindOf G a1 σ r h) (fun r12 => ?_)
      exact js_iret dX7_of_60 rfl rfl
    · refine js_split (fun h4 => ?_) (fun h4 => ?_)
      · refine js_tabI (1 : Int32) (off := 42) 61 dX7_of_19 h4 (by decide) ?_
        refine js_aload_n dX7_of_61 rfl rfl ?_
        refine js_getR dX7_of_62 fl_X7_10 rfl rfl ?_
        refine js_iload_n dX7_of_65 rfl rfl ?_
        refine js_callV_I (mj := mX3_layersIn) [(.int a1)] [] dX7_of_66 tw_240 cm_X3_layersIn cv_X3_layersIn rfl rfl rfl rfl rfl rfl (fun r h => qX3_layersIn G a1 σ r h) (fun r11 => ?_)
        exact js_iret dX7_of_69 rfl rfl
      · refine js_split (fun h5 => ?_) (fun h5 => ?_)
        · refine js_tabI (2 : Int32) (off := 51) 70 dX7_of_19 h5 (by decide) ?_
          refine js_aload_n dX7_of_70 rfl rfl ?_
          refine js_getR dX7_of_71 fl_X7_10 rfl rfl ?_
          refine js_iload_n dX7_of_74 rfl rfl ?_
          refine js_callV_I (mj := mX3_wordsIn) [(.int a1)] [] dX7_of_75 tw_251 cm_X3_wordsIn cv_X3_wordsIn rfl rfl rfl rfl rfl rfl (fun r h => qX3_wordsIn G a1 σ r h) (fun r10 => ?_)
          exact js_iret dX7_of_78 rfl rfl
        · refine js_split (fun h6 => ?_) (fun h6 => ?_)
          · refine js_tabI (3 : Int32) (off := 60) 79 dX7_of_19 h6 (by decide) ?_
            refine js_aload_n dX7_of_79 rfl rfl ?_
            refine js_getR dX7_of_80 fl_X7_10 rfl rfl ?_
            refine js_iload_n dX7_of_83 rfl rfl ?_
            refine js_callV_I (mj := mX3_bareBends) [(.int a1)] [] dX7_of_84 tw_263 cm_X3_bareBends cv_X3_bareBends rfl rfl rfl rfl rfl rfl (fun r h => qX3_bareBends G a1 σ r h) (fun r9 => ?_)
            exact js_iret dX7_of_87 rfl rfl
          · refine js_split (fun h7 => ?_) (fun h7 => ?_)
            · refine js_tabI (4 : Int32) (off := 69) 88 dX7_of_19 h7 (by decide) ?_
              refine js_aload_n dX7_of_88 rfl rfl ?_
              refine js_getR dX7_of_89 fl_X7_10 rfl rfl ?_
              refine js_iload_n dX7_of_92 rfl rfl ?_
              refine js_callV_I (mj := mX3_kindOf) [(.int a1)] [] dX7_of_93 tw_235 cm_X3_kindOf cv_X3_kindOf rfl rfl rfl rfl rfl rfl (fun r h => qX3_kindOf G a1 σ r h) (fun r8 => ?_)
              refine js_aload_n dX7_of_96 rfl rfl ?_
              refine js_getR dX7_of_97 fl_X7_10 rfl rfl ?_
              refine js_getI dX7_of_100 fl_X7_97 rfl rfl ?_
              refine js_callS_P (mj := mX1_cakes) [(.int r8), (.int (σ.1 1 1))] [] dX7_of_103 tw_267 cm_X1_cakes tw_268 rfl rfl rfl rfl (qX1_cakes G r8 (σ.1 1 1) σ) ?_
              exact js_iret dX7_of_106 rfl rfl
            · refine js_tabO 107 dX7_of_19 (by have eh3 := lv_neT h3 (k := (0 : Int32)) (a := 0) (by decide); have eh4 := lv_neT h4 (k := (1 : Int32)) (a := 1) (by decide); have eh5 := lv_neT h5 (k := (2 : Int32)) (a := 2) (by decide); have eh6 := lv_neT h6 (k := (3 : Int32)) (a := 3) (by decide); have eh7 := lv_neT h7 (k := (4 : Int32)) (a := 4) (by decide); omega) rfl ?_
              refine js_aload_n dX7_of_107 rfl rfl ?_
              refine js_ldc dX7_of_108 tw_217 ?_
              refine js_callV_W (mj := mX7_found) [(.int (-1000000001 : Int32))] [] dX7_of_110 tw_218 cm_X7_found cv_X7_found rfl rfl rfl rfl rfl rfl (fun r h => qX7_found G (-1000000001 : Int32) σ r h) (fun r2 => ?_)
              exact js_iret dX7_of_113 rfl rfl
  · refine js_aload_n dX7_of_11 rfl rfl ?_
    refine js_ldc dX7_of_12 tw_217 ?_
    refine js_callV_W (mj := mX7_found) [(.int (-1000000001 : Int32))] [] dX7_of_14 tw_218 cm_X7_found cv_X7_found rfl rfl rfl rfl rfl rfl (fun r h => qX7_found G (-1000000001 : Int32) σ r h) (fun r13 => ?_)
    exact js_iret dX7_of_17 rfl rfl

theorem qX7_of (G : js_G) (a1 : Int32) (a2 : Int32) (σ : js_S) (r : (Int32 × js_S)) (h : fX7_of a1 a2 σ = some r) : js_Con G shC mX7_of [(.ref 0), (.int a1), (.int a2)] σ (js_eW r) := js_con (mi := mX7_of) 0 pn_X7 rfl (Nat.le_of_ble_eq_true rfl) (jX7_of G a1 a2 σ) r h
def fX7_isPlace (a1 : Int32) (a2 : Int32) (σ : js_S) : Option Int32 := (fX3_hasFlue a1 σ).bind fun r1 => (if r1 = 0 then some (0 : Int32) else (if (fX7_isBend a2) = 0 then some (0 : Int32) else some (1 : Int32)))
set_option maxRecDepth 10000 in
theorem jX7_isPlace (G : js_G) (a1 : Int32) (a2 : Int32) (σ : js_S) : js_J G shC mX7_isPlace (js_eI σ) 0 [some (.ref 0), some (.int a1), some (.int a2)] [] σ (fX7_isPlace a1 a2 σ) := by
  unfold fX7_isPlace
  refine js_aload_n dX7_isPlace_0 rfl rfl ?_
  refine js_getR dX7_isPlace_1 fl_X7_10 rfl rfl ?_
  refine js_iload_n dX7_isPlace_4 rfl rfl ?_
  refine js_callV_I (mj := mX3_hasFlue) [(.int a1)] [] dX7_isPlace_5 tw_231 cm_X3_hasFlue cv_X3_hasFlue rfl rfl rfl rfl rfl rfl (fun r h => qX3_hasFlue G a1 σ r h) (fun r1 => ?_)
  refine js_if_eq 22 dX7_isPlace_8 rfl ?_ ?_
  · refine js_iconst dX7_isPlace_22 ki_0 ?_
    exact js_zret dX7_isPlace_23 rfl nb_0.1 rfl
  · refine js_iload_n dX7_isPlace_11 rfl rfl ?_
    refine js_callS_P (mj := mX7_isBend) [(.int a2)] [] dX7_isPlace_12 tw_281 cm_X7_isBend tw_249 rfl rfl rfl rfl (qX7_isBend G a2 σ) ?_
    refine js_if_eq 22 dX7_isPlace_15 rfl ?_ ?_
    · refine js_iconst dX7_isPlace_22 ki_0 ?_
      exact js_zret dX7_isPlace_23 rfl nb_0.1 rfl
    · refine js_iconst dX7_isPlace_18 ki_1 ?_
      refine js_goto 23 dX7_isPlace_19 rfl ?_
      exact js_zret dX7_isPlace_23 rfl nb_1.1 rfl

theorem qX7_isPlace (G : js_G) (a1 : Int32) (a2 : Int32) (σ : js_S) (r : Int32) (h : fX7_isPlace a1 a2 σ = some r) : js_Con G shC mX7_isPlace [(.ref 0), (.int a1), (.int a2)] σ ((js_eI σ) r) := js_con (mi := mX7_isPlace) 0 pn_X7 rfl (Nat.le_of_ble_eq_true rfl) (jX7_isPlace G a1 a2 σ) r h
def fX1_holds (a0 : Int32) (a1 : Int32) : Int32 := (if (a1 - a1 / (2 : Int32) * (2 : Int32)) = (1 : Int32) then (if a0 = (1 : Int32) then (4 : Int32) else (if a0 = (2 : Int32) then (3 : Int32) else (if a0 = (3 : Int32) then (6 : Int32) else (if a0 = (4 : Int32) then (if (6 : Int32) ≤ (4 : Int32) then (6 : Int32) else ((4 : Int32) + (1 : Int32))) else (if a0 = (5 : Int32) then (if a1 = (7 : Int32) then ((3 : Int32) + (2 : Int32)) else (3 : Int32)) else (6 : Int32)))))) else (if a0 = (1 : Int32) then (6 : Int32) else (if a0 = (2 : Int32) then (3 : Int32) else (if a0 = (3 : Int32) then (6 : Int32) else (if a0 = (4 : Int32) then (if (6 : Int32) ≤ (6 : Int32) then (6 : Int32) else ((6 : Int32) + (1 : Int32))) else (if a0 = (5 : Int32) then (if a1 = (7 : Int32) then ((3 : Int32) + (2 : Int32)) else (3 : Int32)) else (6 : Int32)))))))
set_option maxRecDepth 10000 in
theorem jX1_holds (G : js_G) (a0 : Int32) (a1 : Int32) (σ : js_S) : js_J G shC mX1_holds (js_eI σ) 0 [some (.int a0), some (.int a1), none, none] [] σ (some (fX1_holds a0 a1)) := by
  unfold fX1_holds
  refine js_iload_n dX1_holds_0 rfl rfl ?_
  refine js_iconst dX1_holds_1 ki_2 ?_
  refine js_irem dX1_holds_2 (by decide) ?_
  refine js_iconst dX1_holds_3 ki_1 ?_
  refine js_pi ?_
  refine js_icmp_ne 11 dX1_holds_4 rfl ?_ ?_
  · refine js_bipush dX1_holds_11 kb_6 ?_
    refine js_istore_n (lv' := [some (.int a0), some (.int a1), some (.int (6 : Int32)), none]) dX1_holds_13 rfl rfl rfl rfl ?_
    refine js_iconst dX1_holds_14 ki_3 ?_
    refine js_istore_n (lv' := [some (.int a0), some (.int a1), some (.int (6 : Int32)), some (.int (3 : Int32))]) dX1_holds_15 rfl rfl rfl rfl ?_
    refine js_iload_n dX1_holds_16 rfl rfl ?_
    refine js_pi ?_
    refine js_split (fun h1 => ?_) (fun h1 => ?_)
    · refine js_tabI (1 : Int32) (off := 35) 52 dX1_holds_17 h1 (by decide) ?_
      refine js_iload_n dX1_holds_52 rfl rfl ?_
      exact js_iret dX1_holds_53 rfl rfl
    · refine js_pi ?_
      refine js_split (fun h2 => ?_) (fun h2 => ?_)
      · refine js_tabI (2 : Int32) (off := 37) 54 dX1_holds_17 h2 (by decide) ?_
        refine js_iload_n dX1_holds_54 rfl rfl ?_
        exact js_iret dX1_holds_55 rfl rfl
      · refine js_pi ?_
        refine js_split (fun h3 => ?_) (fun h3 => ?_)
        · refine js_tabI (3 : Int32) (off := 68) 85 dX1_holds_17 h3 (by decide) ?_
          refine js_bipush dX1_holds_85 kb_6 ?_
          exact js_iret dX1_holds_87 rfl rfl
        · refine js_pi ?_
          refine js_split (fun h4 => ?_) (fun h4 => ?_)
          · refine js_tabI (4 : Int32) (off := 39) 56 dX1_holds_17 h4 (by decide) ?_
            refine js_iload_n dX1_holds_56 rfl rfl ?_
            refine js_bipush dX1_holds_57 kb_6 ?_
            refine js_pi ?_
            refine js_icmp_ge 68 dX1_holds_59 rfl ?_ ?_
            · refine js_bipush dX1_holds_68 kb_6 ?_
              exact js_iret dX1_holds_70 rfl rfl
            · refine js_iload_n dX1_holds_62 rfl rfl ?_
              refine js_iconst dX1_holds_63 ki_1 ?_
              refine js_iadd dX1_holds_64 ?_
              refine js_goto 70 dX1_holds_65 rfl ?_
              exact js_iret dX1_holds_70 rfl rfl
          · refine js_pi ?_
            refine js_split (fun h5 => ?_) (fun h5 => ?_)
            · refine js_tabI (5 : Int32) (off := 54) 71 dX1_holds_17 h5 (by decide) ?_
              refine js_iload_n dX1_holds_71 rfl rfl ?_
              refine js_bipush dX1_holds_72 kb_7 ?_
              refine js_pi ?_
              refine js_icmp_ne 83 dX1_holds_74 rfl ?_ ?_
              · refine js_iload_n dX1_holds_83 rfl rfl ?_
                exact js_iret dX1_holds_84 rfl rfl
              · refine js_iload_n dX1_holds_77 rfl rfl ?_
                refine js_iconst dX1_holds_78 ki_2 ?_
                refine js_iadd dX1_holds_79 ?_
                refine js_goto 84 dX1_holds_80 rfl ?_
                exact js_iret dX1_holds_84 rfl rfl
            · refine js_tabO 85 dX1_holds_17 (by have eh1 := lv_neT h1 (k := (1 : Int32)) (a := 1) (by decide); have eh2 := lv_neT h2 (k := (2 : Int32)) (a := 2) (by decide); have eh3 := lv_neT h3 (k := (3 : Int32)) (a := 3) (by decide); have eh4 := lv_neT h4 (k := (4 : Int32)) (a := 4) (by decide); have eh5 := lv_neT h5 (k := (5 : Int32)) (a := 5) (by decide); omega) rfl ?_
              refine js_bipush dX1_holds_85 kb_6 ?_
              exact js_iret dX1_holds_87 rfl rfl
  · refine js_iconst dX1_holds_7 ki_4 ?_
    refine js_goto 13 dX1_holds_8 rfl ?_
    refine js_istore_n (lv' := [some (.int a0), some (.int a1), some (.int (4 : Int32)), none]) dX1_holds_13 rfl rfl rfl rfl ?_
    refine js_iconst dX1_holds_14 ki_3 ?_
    refine js_istore_n (lv' := [some (.int a0), some (.int a1), some (.int (4 : Int32)), some (.int (3 : Int32))]) dX1_holds_15 rfl rfl rfl rfl ?_
    refine js_iload_n dX1_holds_16 rfl rfl ?_
    refine js_pi ?_
    refine js_split (fun h6 => ?_) (fun h6 => ?_)
    · refine js_tabI (1 : Int32) (off := 35) 52 dX1_holds_17 h6 (by decide) ?_
      refine js_iload_n dX1_holds_52 rfl rfl ?_
      exact js_iret dX1_holds_53 rfl rfl
    · refine js_pi ?_
      refine js_split (fun h7 => ?_) (fun h7 => ?_)
      · refine js_tabI (2 : Int32) (off := 37) 54 dX1_holds_17 h7 (by decide) ?_
        refine js_iload_n dX1_holds_54 rfl rfl ?_
        exact js_iret dX1_holds_55 rfl rfl
      · refine js_pi ?_
        refine js_split (fun h8 => ?_) (fun h8 => ?_)
        · refine js_tabI (3 : Int32) (off := 68) 85 dX1_holds_17 h8 (by decide) ?_
          refine js_bipush dX1_holds_85 kb_6 ?_
          exact js_iret dX1_holds_87 rfl rfl
        · refine js_pi ?_
          refine js_split (fun h9 => ?_) (fun h9 => ?_)
          · refine js_tabI (4 : Int32) (off := 39) 56 dX1_holds_17 h9 (by decide) ?_
            refine js_iload_n dX1_holds_56 rfl rfl ?_
            refine js_bipush dX1_holds_57 kb_6 ?_
            refine js_pi ?_
            refine js_icmp_ge 68 dX1_holds_59 rfl ?_ ?_
            · refine js_bipush dX1_holds_68 kb_6 ?_
              exact js_iret dX1_holds_70 rfl rfl
            · refine js_iload_n dX1_holds_62 rfl rfl ?_
              refine js_iconst dX1_holds_63 ki_1 ?_
              refine js_iadd dX1_holds_64 ?_
              refine js_goto 70 dX1_holds_65 rfl ?_
              exact js_iret dX1_holds_70 rfl rfl
          · refine js_pi ?_
            refine js_split (fun h10 => ?_) (fun h10 => ?_)
            · refine js_tabI (5 : Int32) (off := 54) 71 dX1_holds_17 h10 (by decide) ?_
              refine js_iload_n dX1_holds_71 rfl rfl ?_
              refine js_bipush dX1_holds_72 kb_7 ?_
              refine js_pi ?_
              refine js_icmp_ne 83 dX1_holds_74 rfl ?_ ?_
              · refine js_iload_n dX1_holds_83 rfl rfl ?_
                exact js_iret dX1_holds_84 rfl rfl
              · refine js_iload_n dX1_holds_77 rfl rfl ?_
                refine js_iconst dX1_holds_78 ki_2 ?_
                refine js_iadd dX1_holds_79 ?_
                refine js_goto 84 dX1_holds_80 rfl ?_
                exact js_iret dX1_holds_84 rfl rfl
            · refine js_tabO 85 dX1_holds_17 (by have eh6 := lv_neT h6 (k := (1 : Int32)) (a := 1) (by decide); have eh7 := lv_neT h7 (k := (2 : Int32)) (a := 2) (by decide); have eh8 := lv_neT h8 (k := (3 : Int32)) (a := 3) (by decide); have eh9 := lv_neT h9 (k := (4 : Int32)) (a := 4) (by decide); have eh10 := lv_neT h10 (k := (5 : Int32)) (a := 5) (by decide); omega) rfl ?_
              refine js_bipush dX1_holds_85 kb_6 ?_
              exact js_iret dX1_holds_87 rfl rfl

theorem qX1_holds (G : js_G) (a0 : Int32) (a1 : Int32) (σ : js_S) : js_Con G shC mX1_holds [(.int a0), (.int a1)] σ (some (.int (fX1_holds a0 a1)), σ) := js_con (mi := mX1_holds) (emb := (js_eI σ)) 2 pn_X1 rfl (Nat.le_of_ble_eq_true rfl) (jX1_holds G a0 a1 σ) _ rfl
def fX7_bend (a1 : Int32) (a2 : Int32) (a3 : Int32) (σ : js_S) : Option (Int32 × js_S) := (fX7_isPlace a1 a2 σ).bind fun r1 => (if r1 = 0 then (fX7_found (-1000000001 : Int32) σ).bind fun r9 => some (r9.1, r9.2) else (if a3 = (0 : Int32) then (fX3_height a1 a2 σ).bind fun r8 => some (r8, σ) else (if a3 = (1 : Int32) then (fX3_kindOf a1 σ).bind fun r7 => some ((fX1_holds r7 a2), σ) else (if a3 = (2 : Int32) then (fX3_wordsOn a1 a2 σ).bind fun r6 => some (r6, σ) else (fX7_found (-1000000001 : Int32) σ).bind fun r2 => some (r2.1, r2.2)))))
set_option maxRecDepth 10000 in
theorem jX7_bend (G : js_G) (a1 : Int32) (a2 : Int32) (a3 : Int32) (σ : js_S) : js_J G shC mX7_bend js_eW 0 [some (.ref 0), some (.int a1), some (.int a2), some (.int a3)] [] σ (fX7_bend a1 a2 a3 σ) := by
  unfold fX7_bend
  refine js_aload_n dX7_bend_0 rfl rfl ?_
  refine js_iload_n dX7_bend_1 rfl rfl ?_
  refine js_iload_n dX7_bend_2 rfl rfl ?_
  refine js_callV_I (mj := mX7_isPlace) [(.int a1), (.int a2)] [] dX7_bend_3 tw_277 cm_X7_isPlace cv_X7_isPlace rfl rfl rfl rfl rfl rfl (fun r h => qX7_isPlace G a1 a2 σ r h) (fun r1 => ?_)
  refine js_if_ne 16 dX7_bend_6 rfl ?_ ?_
  · refine js_iload_n dX7_bend_16 rfl rfl ?_
    refine js_split (fun h3 => ?_) (fun h3 => ?_)
    · refine js_tabI (0 : Int32) (off := 27) 44 dX7_bend_17 h3 (by decide) ?_
      refine js_aload_n dX7_bend_44 rfl rfl ?_
      refine js_getR dX7_bend_45 fl_X7_10 rfl rfl ?_
      refine js_iload_n dX7_bend_48 rfl rfl ?_
      refine js_iload_n dX7_bend_49 rfl rfl ?_
      refine js_callV_I (mj := mX3_height) [(.int a1), (.int a2)] [] dX7_bend_50 tw_282 cm_X3_height cv_X3_height rfl rfl rfl rfl rfl rfl (fun r h => qX3_height G a1 a2 σ r h) (fun r8 => ?_)
      exact js_iret dX7_bend_53 rfl rfl
    · refine js_split (fun h4 => ?_) (fun h4 => ?_)
      · refine js_tabI (1 : Int32) (off := 37) 54 dX7_bend_17 h4 (by decide) ?_
        refine js_aload_n dX7_bend_54 rfl rfl ?_
        refine js_getR dX7_bend_55 fl_X7_10 rfl rfl ?_
        refine js_iload_n dX7_bend_58 rfl rfl ?_
        refine js_callV_I (mj := mX3_kindOf) [(.int a1)] [] dX7_bend_59 tw_235 cm_X3_kindOf cv_X3_kindOf rfl rfl rfl rfl rfl rfl (fun r h => qX3_kindOf G a1 σ r h) (fun r7 => ?_)
        refine js_iload_n dX7_bend_62 rfl rfl ?_
        refine js_callS_P (mj := mX1_holds) [(.int r7), (.int a2)] [] dX7_bend_63 tw_283 cm_X1_holds tw_284 rfl rfl rfl rfl (qX1_holds G r7 a2 σ) ?_
        exact js_iret dX7_bend_66 rfl rfl
      · refine js_split (fun h5 => ?_) (fun h5 => ?_)
        · refine js_tabI (2 : Int32) (off := 50) 67 dX7_bend_17 h5 (by decide) ?_
          refine js_aload_n dX7_bend_67 rfl rfl ?_
          refine js_getR dX7_bend_68 fl_X7_10 rfl rfl ?_
          refine js_iload_n dX7_bend_71 rfl rfl ?_
          refine js_iload_n dX7_bend_72 rfl rfl ?_
          refine js_callV_I (mj := mX3_wordsOn) [(.int a1), (.int a2)] [] dX7_bend_73 tw_286 cm_X3_wordsOn cv_X3_wordsOn rfl rfl rfl rfl rfl rfl (fun r h => qX3_wordsOn G a1 a2 σ r h) (fun r6 => ?_)
          exact js_iret dX7_bend_76 rfl rfl
        · refine js_tabO 77 dX7_bend_17 (by have eh3 := lv_neT h3 (k := (0 : Int32)) (a := 0) (by decide); have eh4 := lv_neT h4 (k := (1 : Int32)) (a := 1) (by decide); have eh5 := lv_neT h5 (k := (2 : Int32)) (a := 2) (by decide); omega) rfl ?_
          refine js_aload_n dX7_bend_77 rfl rfl ?_
          refine js_ldc dX7_bend_78 tw_217 ?_
          refine js_callV_W (mj := mX7_found) [(.int (-1000000001 : Int32))] [] dX7_bend_80 tw_218 cm_X7_found cv_X7_found rfl rfl rfl rfl rfl rfl (fun r h => qX7_found G (-1000000001 : Int32) σ r h) (fun r2 => ?_)
          exact js_iret dX7_bend_83 rfl rfl
  · refine js_aload_n dX7_bend_9 rfl rfl ?_
    refine js_ldc dX7_bend_10 tw_217 ?_
    refine js_callV_W (mj := mX7_found) [(.int (-1000000001 : Int32))] [] dX7_bend_12 tw_218 cm_X7_found cv_X7_found rfl rfl rfl rfl rfl rfl (fun r h => qX7_found G (-1000000001 : Int32) σ r h) (fun r9 => ?_)
    exact js_iret dX7_bend_15 rfl rfl

theorem qX7_bend (G : js_G) (a1 : Int32) (a2 : Int32) (a3 : Int32) (σ : js_S) (r : (Int32 × js_S)) (h : fX7_bend a1 a2 a3 σ = some r) : js_Con G shC mX7_bend [(.ref 0), (.int a1), (.int a2), (.int a3)] σ (js_eW r) := js_con (mi := mX7_bend) 0 pn_X7 rfl (Nat.le_of_ble_eq_true rfl) (jX7_bend G a1 a2 a3 σ) r h
def fX3_hasLayer (a1 : Int32) (a2 : Int32) (a3 : Int32) (σ : js_S) : Option Int32 := (if a3 < 0 then some (0 : Int32) else (fX3_height a1 a2 σ).bind fun r1 => (if r1 ≤ a3 then some (0 : Int32) else some (1 : Int32)))
set_option maxRecDepth 10000 in
theorem jX3_hasLayer (G : js_G) (a1 : Int32) (a2 : Int32) (a3 : Int32) (σ : js_S) : js_J G shC mX3_hasLayer (js_eI σ) 0 [some (.ref 1), some (.int a1), some (.int a2), some (.int a3)] [] σ (fX3_hasLayer a1 a2 a3 σ) := by
  unfold fX3_hasLayer
  refine js_iload_n dX3_hasLayer_0 rfl rfl ?_
  refine js_if_lt 18 dX3_hasLayer_1 rfl ?_ ?_
  · refine js_iconst dX3_hasLayer_18 ki_0 ?_
    exact js_zret dX3_hasLayer_19 rfl nb_0.1 rfl
  · refine js_iload_n dX3_hasLayer_4 rfl rfl ?_
    refine js_aload_n dX3_hasLayer_5 rfl rfl ?_
    refine js_iload_n dX3_hasLayer_6 rfl rfl ?_
    refine js_iload_n dX3_hasLayer_7 rfl rfl ?_
    refine js_callV_I (mj := mX3_height) [(.int a1), (.int a2)] [(.int a3)] dX3_hasLayer_8 tw_244 cm_X3_height cv_X3_height rfl rfl rfl rfl rfl rfl (fun r h => qX3_height G a1 a2 σ r h) (fun r1 => ?_)
    refine js_icmp_ge 18 dX3_hasLayer_11 rfl ?_ ?_
    · refine js_iconst dX3_hasLayer_18 ki_0 ?_
      exact js_zret dX3_hasLayer_19 rfl nb_0.1 rfl
    · refine js_iconst dX3_hasLayer_14 ki_1 ?_
      refine js_goto 19 dX3_hasLayer_15 rfl ?_
      exact js_zret dX3_hasLayer_19 rfl nb_1.1 rfl

theorem qX3_hasLayer (G : js_G) (a1 : Int32) (a2 : Int32) (a3 : Int32) (σ : js_S) (r : Int32) (h : fX3_hasLayer a1 a2 a3 σ = some r) : js_Con G shC mX3_hasLayer [(.ref 1), (.int a1), (.int a2), (.int a3)] σ ((js_eI σ) r) := js_con (mi := mX3_hasLayer) 0 pn_X3 rfl (Nat.le_of_ble_eq_true rfl) (jX3_hasLayer G a1 a2 a3 σ) r h
def fX3_cakeAt (a1 : Int32) (a2 : Int32) (a3 : Int32) (σ : js_S) : Option Int32 := (fX3_hasLayer a1 a2 a3 σ).bind fun r1 => (if r1 = 0 then some (0 : Int32) else (fX3_place a1 a2 a3 σ).bind fun r2 => js_gd (js_ix r2 288) (some (σ.1 5 (Int32.toNatClampNeg r2))))
set_option maxRecDepth 10000 in
theorem jX3_cakeAt (G : js_G) (a1 : Int32) (a2 : Int32) (a3 : Int32) (σ : js_S) : js_J G shC mX3_cakeAt (js_eI σ) 0 [some (.ref 1), some (.int a1), some (.int a2), some (.int a3)] [] σ (fX3_cakeAt a1 a2 a3 σ) := by
  unfold fX3_cakeAt
  refine js_aload_n dX3_cakeAt_0 rfl rfl ?_
  refine js_iload_n dX3_cakeAt_1 rfl rfl ?_
  refine js_iload_n dX3_cakeAt_2 rfl rfl ?_
  refine js_iload_n dX3_cakeAt_3 rfl rfl ?_
  refine js_callV_I (mj := mX3_hasLayer) [(.int a1), (.int a2), (.int a3)] [] dX3_cakeAt_4 tw_300 cm_X3_hasLayer cv_X3_hasLayer rfl rfl rfl rfl rfl rfl (fun r h => qX3_hasLayer G a1 a2 a3 σ r h) (fun r1 => ?_)
  refine js_if_eq 25 dX3_cakeAt_7 rfl ?_ ?_
  · refine js_iconst dX3_cakeAt_25 ki_0 ?_
    exact js_iret dX3_cakeAt_26 rfl rfl
  · refine js_aload_n dX3_cakeAt_10 rfl rfl ?_
    refine js_getR dX3_cakeAt_11 fl_X3_31 rfl rfl ?_
    refine js_aload_n dX3_cakeAt_14 rfl rfl ?_
    refine js_iload_n dX3_cakeAt_15 rfl rfl ?_
    refine js_iload_n dX3_cakeAt_16 rfl rfl ?_
    refine js_iload_n dX3_cakeAt_17 rfl rfl ?_
    refine js_callV_I (mj := mX3_place) [(.int a1), (.int a2), (.int a3)] [(.ref 5)] dX3_cakeAt_18 tw_259 cm_X3_place cv_X3_place rfl rfl rfl rfl rfl rfl (fun r h => qX3_place G a1 a2 a3 σ r h) (fun r2 => ?_)
    refine js_iald dX3_cakeAt_21 rfl ?_
    refine js_goto 26 dX3_cakeAt_22 rfl ?_
    exact js_iret dX3_cakeAt_26 rfl rfl

theorem qX3_cakeAt (G : js_G) (a1 : Int32) (a2 : Int32) (a3 : Int32) (σ : js_S) (r : Int32) (h : fX3_cakeAt a1 a2 a3 σ = some r) : js_Con G shC mX3_cakeAt [(.ref 1), (.int a1), (.int a2), (.int a3)] σ ((js_eI σ) r) := js_con (mi := mX3_cakeAt) 0 pn_X3 rfl (Nat.le_of_ble_eq_true rfl) (jX3_cakeAt G a1 a2 a3 σ) r h
def fX3_wordAt (a1 : Int32) (a2 : Int32) (a3 : Int32) (σ : js_S) : Option Int32 := (fX3_hasLayer a1 a2 a3 σ).bind fun r1 => (if r1 = 0 then some (0 : Int32) else (fX3_place a1 a2 a3 σ).bind fun r2 => js_gd (js_ix r2 288) (some (σ.1 4 (Int32.toNatClampNeg r2))))
set_option maxRecDepth 10000 in
theorem jX3_wordAt (G : js_G) (a1 : Int32) (a2 : Int32) (a3 : Int32) (σ : js_S) : js_J G shC mX3_wordAt (js_eI σ) 0 [some (.ref 1), some (.int a1), some (.int a2), some (.int a3)] [] σ (fX3_wordAt a1 a2 a3 σ) := by
  unfold fX3_wordAt
  refine js_aload_n dX3_wordAt_0 rfl rfl ?_
  refine js_iload_n dX3_wordAt_1 rfl rfl ?_
  refine js_iload_n dX3_wordAt_2 rfl rfl ?_
  refine js_iload_n dX3_wordAt_3 rfl rfl ?_
  refine js_callV_I (mj := mX3_hasLayer) [(.int a1), (.int a2), (.int a3)] [] dX3_wordAt_4 tw_300 cm_X3_hasLayer cv_X3_hasLayer rfl rfl rfl rfl rfl rfl (fun r h => qX3_hasLayer G a1 a2 a3 σ r h) (fun r1 => ?_)
  refine js_if_eq 25 dX3_wordAt_7 rfl ?_ ?_
  · refine js_iconst dX3_wordAt_25 ki_0 ?_
    exact js_iret dX3_wordAt_26 rfl rfl
  · refine js_aload_n dX3_wordAt_10 rfl rfl ?_
    refine js_getR dX3_wordAt_11 fl_X3_28 rfl rfl ?_
    refine js_aload_n dX3_wordAt_14 rfl rfl ?_
    refine js_iload_n dX3_wordAt_15 rfl rfl ?_
    refine js_iload_n dX3_wordAt_16 rfl rfl ?_
    refine js_iload_n dX3_wordAt_17 rfl rfl ?_
    refine js_callV_I (mj := mX3_place) [(.int a1), (.int a2), (.int a3)] [(.ref 4)] dX3_wordAt_18 tw_259 cm_X3_place cv_X3_place rfl rfl rfl rfl rfl rfl (fun r h => qX3_place G a1 a2 a3 σ r h) (fun r2 => ?_)
    refine js_iald dX3_wordAt_21 rfl ?_
    refine js_goto 26 dX3_wordAt_22 rfl ?_
    exact js_iret dX3_wordAt_26 rfl rfl

theorem qX3_wordAt (G : js_G) (a1 : Int32) (a2 : Int32) (a3 : Int32) (σ : js_S) (r : Int32) (h : fX3_wordAt a1 a2 a3 σ = some r) : js_Con G shC mX3_wordAt [(.ref 1), (.int a1), (.int a2), (.int a3)] σ ((js_eI σ) r) := js_con (mi := mX3_wordAt) 0 pn_X3 rfl (Nat.le_of_ble_eq_true rfl) (jX3_wordAt G a1 a2 a3 σ) r h
def fX7_layer (a1 : Int32) (a2 : Int32) (a3 : Int32) (a4 : Int32) (σ : js_S) : Option (Int32 × js_S) := (fX7_isPlace a1 a2 σ).bind fun r1 => (if r1 = 0 then (fX7_found (-1000000001 : Int32) σ).bind fun r2 => some (r2.1, r2.2) else (if (fX7_isBelow a4 (2 : Int32)) = 0 then (fX7_found (-1000000001 : Int32) σ).bind fun r7 => some (r7.1, r7.2) else (fX3_hasLayer a1 a2 a3 σ).bind fun r3 => (if r3 = 0 then (fX7_found (-1000000004 : Int32) σ).bind fun r6 => some (r6.1, r6.2) else (if a4 = 0 then (fX3_wordAt a1 a2 a3 σ).bind fun r5 => some (r5, σ) else (fX3_cakeAt a1 a2 a3 σ).bind fun r4 => some (r4, σ)))))
set_option maxRecDepth 10000 in
theorem jX7_layer (G : js_G) (a1 : Int32) (a2 : Int32) (a3 : Int32) (a4 : Int32) (σ : js_S) : js_J G shC mX7_layer js_eW 0 [some (.ref 0), some (.int a1), some (.int a2), some (.int a3), some (.int a4)] [] σ (fX7_layer a1 a2 a3 a4 σ) := by
  unfold fX7_layer
  refine js_aload_n dX7_layer_0 rfl rfl ?_
  refine js_iload_n dX7_layer_1 rfl rfl ?_
  refine js_iload_n dX7_layer_2 rfl rfl ?_
  refine js_callV_I (mj := mX7_isPlace) [(.int a1), (.int a2)] [] dX7_layer_3 tw_277 cm_X7_isPlace cv_X7_isPlace rfl rfl rfl rfl rfl rfl (fun r h => qX7_isPlace G a1 a2 σ r h) (fun r1 => ?_)
  refine js_if_eq 18 dX7_layer_6 rfl ?_ ?_
  · refine js_aload_n dX7_layer_18 rfl rfl ?_
    refine js_ldc dX7_layer_19 tw_217 ?_
    refine js_callV_W (mj := mX7_found) [(.int (-1000000001 : Int32))] [] dX7_layer_21 tw_218 cm_X7_found cv_X7_found rfl rfl rfl rfl rfl rfl (fun r h => qX7_found G (-1000000001 : Int32) σ r h) (fun r2 => ?_)
    exact js_iret dX7_layer_24 rfl rfl
  · refine js_iload dX7_layer_9 rfl ?_
    refine js_iconst dX7_layer_11 ki_2 ?_
    refine js_callS_P (mj := mX7_isBelow) [(.int a4), (.int (2 : Int32))] [] dX7_layer_12 tw_214 cm_X7_isBelow tw_215 rfl rfl rfl rfl (qX7_isBelow G a4 (2 : Int32) σ) ?_
    refine js_if_ne 25 dX7_layer_15 rfl ?_ ?_
    · refine js_aload_n dX7_layer_25 rfl rfl ?_
      refine js_getR dX7_layer_26 fl_X7_10 rfl rfl ?_
      refine js_iload_n dX7_layer_29 rfl rfl ?_
      refine js_iload_n dX7_layer_30 rfl rfl ?_
      refine js_iload_n dX7_layer_31 rfl rfl ?_
      refine js_callV_I (mj := mX3_hasLayer) [(.int a1), (.int a2), (.int a3)] [] dX7_layer_32 tw_291 cm_X3_hasLayer cv_X3_hasLayer rfl rfl rfl rfl rfl rfl (fun r h => qX3_hasLayer G a1 a2 a3 σ r h) (fun r3 => ?_)
      refine js_if_ne 45 dX7_layer_35 rfl ?_ ?_
      · refine js_iload dX7_layer_45 rfl ?_
        refine js_if_ne 63 dX7_layer_47 rfl ?_ ?_
        · refine js_aload_n dX7_layer_63 rfl rfl ?_
          refine js_getR dX7_layer_64 fl_X7_10 rfl rfl ?_
          refine js_iload_n dX7_layer_67 rfl rfl ?_
          refine js_iload_n dX7_layer_68 rfl rfl ?_
          refine js_iload_n dX7_layer_69 rfl rfl ?_
          refine js_callV_I (mj := mX3_cakeAt) [(.int a1), (.int a2), (.int a3)] [] dX7_layer_70 tw_301 cm_X3_cakeAt cv_X3_cakeAt rfl rfl rfl rfl rfl rfl (fun r h => qX3_cakeAt G a1 a2 a3 σ r h) (fun r4 => ?_)
          exact js_iret dX7_layer_73 rfl rfl
        · refine js_aload_n dX7_layer_50 rfl rfl ?_
          refine js_getR dX7_layer_51 fl_X7_10 rfl rfl ?_
          refine js_iload_n dX7_layer_54 rfl rfl ?_
          refine js_iload_n dX7_layer_55 rfl rfl ?_
          refine js_iload_n dX7_layer_56 rfl rfl ?_
          refine js_callV_I (mj := mX3_wordAt) [(.int a1), (.int a2), (.int a3)] [] dX7_layer_57 tw_296 cm_X3_wordAt cv_X3_wordAt rfl rfl rfl rfl rfl rfl (fun r h => qX3_wordAt G a1 a2 a3 σ r h) (fun r5 => ?_)
          refine js_goto 73 dX7_layer_60 rfl ?_
          exact js_iret dX7_layer_73 rfl rfl
      · refine js_aload_n dX7_layer_38 rfl rfl ?_
        refine js_ldc dX7_layer_39 tw_295 ?_
        refine js_callV_W (mj := mX7_found) [(.int (-1000000004 : Int32))] [] dX7_layer_41 tw_218 cm_X7_found cv_X7_found rfl rfl rfl rfl rfl rfl (fun r h => qX7_found G (-1000000004 : Int32) σ r h) (fun r6 => ?_)
        exact js_iret dX7_layer_44 rfl rfl
    · refine js_aload_n dX7_layer_18 rfl rfl ?_
      refine js_ldc dX7_layer_19 tw_217 ?_
      refine js_callV_W (mj := mX7_found) [(.int (-1000000001 : Int32))] [] dX7_layer_21 tw_218 cm_X7_found cv_X7_found rfl rfl rfl rfl rfl rfl (fun r h => qX7_found G (-1000000001 : Int32) σ r h) (fun r7 => ?_)
      exact js_iret dX7_layer_24 rfl rfl

theorem qX7_layer (G : js_G) (a1 : Int32) (a2 : Int32) (a3 : Int32) (a4 : Int32) (σ : js_S) (r : (Int32 × js_S)) (h : fX7_layer a1 a2 a3 a4 σ = some r) : js_Con G shC mX7_layer [(.ref 0), (.int a1), (.int a2), (.int a3), (.int a4)] σ (js_eW r) := js_con (mi := mX7_layer) 0 pn_X7 rfl (Nat.le_of_ble_eq_true rfl) (jX7_layer G a1 a2 a3 a4 σ) r h
def fX3_setKind (a1 : Int32) (a2 : Int32) (σ : js_S) : Option js_S := (fX3_hasFlue a1 σ).bind fun r1 => (if r1 = 0 then some σ else js_gd (js_ix a1 6) (some (js_sI σ 2 (Int32.toNatClampNeg a1) a2)))
set_option maxRecDepth 10000 in
theorem jX3_setKind (G : js_G) (a1 : Int32) (a2 : Int32) (σ : js_S) : js_J G shC mX3_setKind js_eV 0 [some (.ref 1), some (.int a1), some (.int a2)] [] σ (fX3_setKind a1 a2 σ) := by
  unfold fX3_setKind
  refine js_aload_n dX3_setKind_0 rfl rfl ?_
  refine js_iload_n dX3_setKind_1 rfl rfl ?_
  refine js_callV_I (mj := mX3_hasFlue) [(.int a1)] [] dX3_setKind_2 tw_239 cm_X3_hasFlue cv_X3_hasFlue rfl rfl rfl rfl rfl rfl (fun r h => qX3_hasFlue G a1 σ r h) (fun r1 => ?_)
  refine js_if_eq 15 dX3_setKind_5 rfl ?_ ?_
  · exact js_vret dX3_setKind_15 rfl rfl
  · refine js_aload_n dX3_setKind_8 rfl rfl ?_
    refine js_getR dX3_setKind_9 fl_X3_21 rfl rfl ?_
    refine js_iload_n dX3_setKind_12 rfl rfl ?_
    refine js_iload_n dX3_setKind_13 rfl rfl ?_
    refine js_iast dX3_setKind_14 rfl ?_
    exact js_vret dX3_setKind_15 rfl rfl

theorem qX3_setKind (G : js_G) (a1 : Int32) (a2 : Int32) (σ : js_S) (r : js_S) (h : fX3_setKind a1 a2 σ = some r) : js_Con G shC mX3_setKind [(.ref 1), (.int a1), (.int a2)] σ (js_eV r) := js_con (mi := mX3_setKind) 0 pn_X3 rfl (Nat.le_of_ble_eq_true rfl) (jX3_setKind G a1 a2 σ) r h
def fX7_turn (a1 : Int32) (a2 : Int32) (σ : js_S) : Option (Int32 × js_S) := (fX3_hasFlue a1 σ).bind fun r1 => (if r1 = 0 then (fX7_found (-1000000001 : Int32) σ).bind fun r2 => some (r2.1, r2.2) else (if (fX7_isKind a2) = 0 then (fX7_found (-1000000001 : Int32) σ).bind fun r5 => some (r5.1, r5.2) else (fX3_kindOf a1 σ).bind fun r3 => (fX3_setKind a1 a2 σ).bind fun r4 => some (r3, r4)))
set_option maxRecDepth 10000 in
theorem jX7_turn (G : js_G) (a1 : Int32) (a2 : Int32) (σ : js_S) : js_J G shC mX7_turn js_eW 0 [some (.ref 0), some (.int a1), some (.int a2), none] [] σ (fX7_turn a1 a2 σ) := by
  unfold fX7_turn
  refine js_aload_n dX7_turn_0 rfl rfl ?_
  refine js_getR dX7_turn_1 fl_X7_10 rfl rfl ?_
  refine js_iload_n dX7_turn_4 rfl rfl ?_
  refine js_callV_I (mj := mX3_hasFlue) [(.int a1)] [] dX7_turn_5 tw_231 cm_X3_hasFlue cv_X3_hasFlue rfl rfl rfl rfl rfl rfl (fun r h => qX3_hasFlue G a1 σ r h) (fun r1 => ?_)
  refine js_if_eq 18 dX7_turn_8 rfl ?_ ?_
  · refine js_aload_n dX7_turn_18 rfl rfl ?_
    refine js_ldc dX7_turn_19 tw_217 ?_
    refine js_callV_W (mj := mX7_found) [(.int (-1000000001 : Int32))] [] dX7_turn_21 tw_218 cm_X7_found cv_X7_found rfl rfl rfl rfl rfl rfl (fun r h => qX7_found G (-1000000001 : Int32) σ r h) (fun r2 => ?_)
    exact js_iret dX7_turn_24 rfl rfl
  · refine js_iload_n dX7_turn_11 rfl rfl ?_
    refine js_callS_P (mj := mX7_isKind) [(.int a2)] [] dX7_turn_12 tw_211 cm_X7_isKind tw_212 rfl rfl rfl rfl (qX7_isKind G a2 σ) ?_
    refine js_if_ne 25 dX7_turn_15 rfl ?_ ?_
    · refine js_aload_n dX7_turn_25 rfl rfl ?_
      refine js_getR dX7_turn_26 fl_X7_10 rfl rfl ?_
      refine js_iload_n dX7_turn_29 rfl rfl ?_
      refine js_callV_I (mj := mX3_kindOf) [(.int a1)] [] dX7_turn_30 tw_235 cm_X3_kindOf cv_X3_kindOf rfl rfl rfl rfl rfl rfl (fun r h => qX3_kindOf G a1 σ r h) (fun r3 => ?_)
      refine js_istore_n (lv' := [some (.ref 0), some (.int a1), some (.int a2), some (.int r3)]) dX7_turn_33 rfl rfl rfl rfl ?_
      refine js_aload_n dX7_turn_34 rfl rfl ?_
      refine js_getR dX7_turn_35 fl_X7_10 rfl rfl ?_
      refine js_iload_n dX7_turn_38 rfl rfl ?_
      refine js_iload_n dX7_turn_39 rfl rfl ?_
      refine js_callV_V (mj := mX3_setKind) [(.int a1), (.int a2)] [] dX7_turn_40 tw_309 cm_X3_setKind cv_X3_setKind rfl rfl rfl rfl rfl rfl (fun r h => qX3_setKind G a1 a2 σ r h) (fun r4 => ?_)
      refine js_iload_n dX7_turn_43 rfl rfl ?_
      exact js_iret dX7_turn_44 rfl rfl
    · refine js_aload_n dX7_turn_18 rfl rfl ?_
      refine js_ldc dX7_turn_19 tw_217 ?_
      refine js_callV_W (mj := mX7_found) [(.int (-1000000001 : Int32))] [] dX7_turn_21 tw_218 cm_X7_found cv_X7_found rfl rfl rfl rfl rfl rfl (fun r h => qX7_found G (-1000000001 : Int32) σ r h) (fun r5 => ?_)
      exact js_iret dX7_turn_24 rfl rfl

theorem qX7_turn (G : js_G) (a1 : Int32) (a2 : Int32) (σ : js_S) (r : (Int32 × js_S)) (h : fX7_turn a1 a2 σ = some r) : js_Con G shC mX7_turn [(.ref 0), (.int a1), (.int a2)] σ (js_eW r) := js_con (mi := mX7_turn) 1 pn_X7 rfl (Nat.le_of_ble_eq_true rfl) (jX7_turn G a1 a2 σ) r h
def fX1_isOrIsUnder_L4 (p1 : Int32) (σ : js_S) : Nat → Int32 → Int32 → Option Int32
  | 0, _, _ => none
  | n + 1, v2, v3 => (if (6 : Int32) ≤ v3 then some (0 : Int32) else (if v2 < 0 then some (0 : Int32) else (if (6 : Int32) ≤ v2 then some (0 : Int32) else (if v2 = p1 then some (1 : Int32) else js_gd (js_ix v2 6) (fX1_isOrIsUnder_L4 p1 σ n (js_abv.getD (Int32.toNatClampNeg v2) 0) (v3 + (1 : Int32)))))))
set_option maxRecDepth 10000 in
theorem jX1_isOrIsUnder_L4 (G : js_G) (p1 : Int32) (σ : js_S) : ∀ (n : Nat) (v2 : Int32) (v3 : Int32), js_J G shC mX1_isOrIsUnder (js_eI σ) 4 [none, some (.int p1), some (.int v2), some (.int v3)] [] σ (fX1_isOrIsUnder_L4 p1 σ n v2 v3) := by
  intro n
  induction n with
  | zero =>
    intros
    exact js_none
  | succ n ih1 =>
    intro v2 v3
    rw [fX1_isOrIsUnder_L4]
    refine js_iload_n dX1_isOrIsUnder_4 rfl rfl ?_
    refine js_bipush dX1_isOrIsUnder_5 kb_6 ?_
    refine js_icmp_ge 41 dX1_isOrIsUnder_7 rfl ?_ ?_
    · refine js_iconst dX1_isOrIsUnder_41 ki_0 ?_
      exact js_zret dX1_isOrIsUnder_42 rfl nb_0.1 rfl
    · refine js_iload_n dX1_isOrIsUnder_10 rfl rfl ?_
      refine js_if_lt 41 dX1_isOrIsUnder_11 rfl ?_ ?_
      · refine js_iconst dX1_isOrIsUnder_41 ki_0 ?_
        exact js_zret dX1_isOrIsUnder_42 rfl nb_0.1 rfl
      · refine js_iload_n dX1_isOrIsUnder_14 rfl rfl ?_
        refine js_above dX1_isOrIsUnder_15 tw_320 ?_
        refine js_abvlen dX1_isOrIsUnder_18 ?_
        refine js_icmp_ge 41 dX1_isOrIsUnder_19 rfl ?_ ?_
        · refine js_iconst dX1_isOrIsUnder_41 ki_0 ?_
          exact js_zret dX1_isOrIsUnder_42 rfl nb_0.1 rfl
        · refine js_iload_n dX1_isOrIsUnder_22 rfl rfl ?_
          refine js_iload_n dX1_isOrIsUnder_23 rfl rfl ?_
          refine js_icmp_ne 29 dX1_isOrIsUnder_24 rfl ?_ ?_
          · refine js_above dX1_isOrIsUnder_29 tw_320 ?_
            refine js_iload_n dX1_isOrIsUnder_32 rfl rfl ?_
            refine js_abvld dX1_isOrIsUnder_33 ?_
            refine js_istore_n (lv' := [none, some (.int p1), some (.int (js_abv.getD (Int32.toNatClampNeg v2) 0)), some (.int v3)]) dX1_isOrIsUnder_34 rfl rfl rfl rfl ?_
            refine js_iinc (v := (v3 + (1 : Int32))) (lv' := [none, some (.int p1), some (.int (js_abv.getD (Int32.toNatClampNeg v2) 0)), some (.int (v3 + (1 : Int32)))]) dX1_isOrIsUnder_35 rfl (kx_1 _) rfl rfl rfl ?_
            refine js_goto 4 dX1_isOrIsUnder_38 rfl ?_
            exact ih1 (js_abv.getD (Int32.toNatClampNeg v2) 0) (v3 + (1 : Int32))
          · refine js_iconst dX1_isOrIsUnder_27 ki_1 ?_
            exact js_zret dX1_isOrIsUnder_28 rfl nb_1.1 rfl

def fX1_isOrIsUnder (a0 : Int32) (a1 : Int32) (σ : js_S) : Option Int32 := fX1_isOrIsUnder_L4 a1 σ js_FU a0 (0 : Int32)
set_option maxRecDepth 10000 in
theorem jX1_isOrIsUnder (G : js_G) (a0 : Int32) (a1 : Int32) (σ : js_S) : js_J G shC mX1_isOrIsUnder (js_eI σ) 0 [some (.int a0), some (.int a1), none, none] [] σ (fX1_isOrIsUnder a0 a1 σ) := by
  unfold fX1_isOrIsUnder
  refine js_iload_n dX1_isOrIsUnder_0 rfl rfl ?_
  refine js_istore_n (lv' := [some (.int a0), some (.int a1), some (.int a0), none]) dX1_isOrIsUnder_1 rfl rfl rfl rfl ?_
  refine js_iconst dX1_isOrIsUnder_2 ki_0 ?_
  refine js_istore_n (lv' := [some (.int a0), some (.int a1), some (.int a0), some (.int (0 : Int32))]) dX1_isOrIsUnder_3 rfl rfl rfl rfl ?_
  refine js_drop [false, true, true, true] (lv2 := [none, some (.int a1), some (.int a0), some (.int (0 : Int32))]) rfl ?_
  exact jX1_isOrIsUnder_L4 G a1 σ  _ a0 (0 : Int32)

theorem qX1_isOrIsUnder (G : js_G) (a0 : Int32) (a1 : Int32) (σ : js_S) (r : Int32) (h : fX1_isOrIsUnder a0 a1 σ = some r) : js_Con G shC mX1_isOrIsUnder [(.int a0), (.int a1)] σ ((js_eI σ) r) := js_con (mi := mX1_isOrIsUnder) 2 pn_X1 rfl (Nat.le_of_ble_eq_true rfl) (jX1_isOrIsUnder G a0 a1 σ) r h
def fX7_as (a1 : Int32) (a2 : Int32) (σ : js_S) : Option (Int32 × js_S) := (fX3_hasFlue a1 σ).bind fun r1 => (if r1 = 0 then (fX7_found (-1000000001 : Int32) σ).bind fun r2 => some (r2.1, r2.2) else (if (fX7_isKind a2) = 0 then (fX7_found (-1000000001 : Int32) σ).bind fun r7 => some (r7.1, r7.2) else (fX3_kindOf a1 σ).bind fun r3 => (fX1_isOrIsUnder r3 a2 σ).bind fun r4 => (if r4 = 0 then (fX7_found (-1000000003 : Int32) σ).bind fun r6 => some (r6.1, r6.2) else (fX3_layersIn a1 σ).bind fun r5 => some (r5, σ))))
set_option maxRecDepth 10000 in
theorem jX7_as (G : js_G) (a1 : Int32) (a2 : Int32) (σ : js_S) : js_J G shC mX7_as js_eW 0 [some (.ref 0), some (.int a1), some (.int a2)] [] σ (fX7_as a1 a2 σ) := by
  unfold fX7_as
  refine js_aload_n dX7_as_0 rfl rfl ?_
  refine js_getR dX7_as_1 fl_X7_10 rfl rfl ?_
  refine js_iload_n dX7_as_4 rfl rfl ?_
  refine js_callV_I (mj := mX3_hasFlue) [(.int a1)] [] dX7_as_5 tw_231 cm_X3_hasFlue cv_X3_hasFlue rfl rfl rfl rfl rfl rfl (fun r h => qX3_hasFlue G a1 σ r h) (fun r1 => ?_)
  refine js_if_eq 18 dX7_as_8 rfl ?_ ?_
  · refine js_aload_n dX7_as_18 rfl rfl ?_
    refine js_ldc dX7_as_19 tw_217 ?_
    refine js_callV_W (mj := mX7_found) [(.int (-1000000001 : Int32))] [] dX7_as_21 tw_218 cm_X7_found cv_X7_found rfl rfl rfl rfl rfl rfl (fun r h => qX7_found G (-1000000001 : Int32) σ r h) (fun r2 => ?_)
    exact js_iret dX7_as_24 rfl rfl
  · refine js_iload_n dX7_as_11 rfl rfl ?_
    refine js_callS_P (mj := mX7_isKind) [(.int a2)] [] dX7_as_12 tw_211 cm_X7_isKind tw_212 rfl rfl rfl rfl (qX7_isKind G a2 σ) ?_
    refine js_if_ne 25 dX7_as_15 rfl ?_ ?_
    · refine js_aload_n dX7_as_25 rfl rfl ?_
      refine js_getR dX7_as_26 fl_X7_10 rfl rfl ?_
      refine js_iload_n dX7_as_29 rfl rfl ?_
      refine js_callV_I (mj := mX3_kindOf) [(.int a1)] [] dX7_as_30 tw_235 cm_X3_kindOf cv_X3_kindOf rfl rfl rfl rfl rfl rfl (fun r h => qX3_kindOf G a1 σ r h) (fun r3 => ?_)
      refine js_iload_n dX7_as_33 rfl rfl ?_
      refine js_callS_I (mj := mX1_isOrIsUnder) [(.int r3), (.int a2)] [] dX7_as_34 tw_317 cm_X1_isOrIsUnder tw_318 rfl rfl rfl rfl (fun r h => qX1_isOrIsUnder G r3 a2 σ r h) (fun r4 => ?_)
      refine js_if_ne 47 dX7_as_37 rfl ?_ ?_
      · refine js_aload_n dX7_as_47 rfl rfl ?_
        refine js_getR dX7_as_48 fl_X7_10 rfl rfl ?_
        refine js_iload_n dX7_as_51 rfl rfl ?_
        refine js_callV_I (mj := mX3_layersIn) [(.int a1)] [] dX7_as_52 tw_240 cm_X3_layersIn cv_X3_layersIn rfl rfl rfl rfl rfl rfl (fun r h => qX3_layersIn G a1 σ r h) (fun r5 => ?_)
        exact js_iret dX7_as_55 rfl rfl
      · refine js_aload_n dX7_as_40 rfl rfl ?_
        refine js_ldc dX7_as_41 tw_322 ?_
        refine js_callV_W (mj := mX7_found) [(.int (-1000000003 : Int32))] [] dX7_as_43 tw_218 cm_X7_found cv_X7_found rfl rfl rfl rfl rfl rfl (fun r h => qX7_found G (-1000000003 : Int32) σ r h) (fun r6 => ?_)
        exact js_iret dX7_as_46 rfl rfl
    · refine js_aload_n dX7_as_18 rfl rfl ?_
      refine js_ldc dX7_as_19 tw_217 ?_
      refine js_callV_W (mj := mX7_found) [(.int (-1000000001 : Int32))] [] dX7_as_21 tw_218 cm_X7_found cv_X7_found rfl rfl rfl rfl rfl rfl (fun r h => qX7_found G (-1000000001 : Int32) σ r h) (fun r7 => ?_)
      exact js_iret dX7_as_24 rfl rfl

theorem qX7_as (G : js_G) (a1 : Int32) (a2 : Int32) (σ : js_S) (r : (Int32 × js_S)) (h : fX7_as a1 a2 σ = some r) : js_Con G shC mX7_as [(.ref 0), (.int a1), (.int a2)] σ (js_eW r) := js_con (mi := mX7_as) 0 pn_X7 rfl (Nat.le_of_ble_eq_true rfl) (jX7_as G a1 a2 σ) r h
def fX7_damp (a1 : Int32) (σ : js_S) : Option (Int32 × js_S) := (if (fX7_isBelow a1 (10 : Int32)) = 0 then (fX7_found (-1000000001 : Int32) σ).bind fun r1 => some (r1.1, r1.2) else some ((σ.1 1 1), (js_sI σ 1 1 a1)))
set_option maxRecDepth 10000 in
theorem jX7_damp (G : js_G) (a1 : Int32) (σ : js_S) : js_J G shC mX7_damp js_eW 0 [some (.ref 0), some (.int a1), none] [] σ (fX7_damp a1 σ) := by
  unfold fX7_damp
  refine js_iload_n dX7_damp_0 rfl rfl ?_
  refine js_bipush dX7_damp_1 kb_10 ?_
  refine js_callS_P (mj := mX7_isBelow) [(.int a1), (.int (10 : Int32))] [] dX7_damp_3 tw_214 cm_X7_isBelow tw_215 rfl rfl rfl rfl (qX7_isBelow G a1 (10 : Int32) σ) ?_
  refine js_if_ne 16 dX7_damp_6 rfl ?_ ?_
  · refine js_aload_n dX7_damp_16 rfl rfl ?_
    refine js_getR dX7_damp_17 fl_X7_10 rfl rfl ?_
    refine js_getI dX7_damp_20 fl_X7_97 rfl rfl ?_
    refine js_istore_n (lv' := [some (.ref 0), some (.int a1), some (.int (σ.1 1 1))]) dX7_damp_23 rfl rfl rfl rfl ?_
    refine js_aload_n dX7_damp_24 rfl rfl ?_
    refine js_getR dX7_damp_25 fl_X7_10 rfl rfl ?_
    refine js_iload_n dX7_damp_28 rfl rfl ?_
    refine js_putI dX7_damp_29 fp_X7_97 rfl rfl rfl rfl ?_
    refine js_iload_n dX7_damp_32 rfl rfl ?_
    exact js_iret dX7_damp_33 rfl rfl
  · refine js_aload_n dX7_damp_9 rfl rfl ?_
    refine js_ldc dX7_damp_10 tw_217 ?_
    refine js_callV_W (mj := mX7_found) [(.int (-1000000001 : Int32))] [] dX7_damp_12 tw_218 cm_X7_found cv_X7_found rfl rfl rfl rfl rfl rfl (fun r h => qX7_found G (-1000000001 : Int32) σ r h) (fun r1 => ?_)
    exact js_iret dX7_damp_15 rfl rfl

theorem qX7_damp (G : js_G) (a1 : Int32) (σ : js_S) (r : (Int32 × js_S)) (h : fX7_damp a1 σ = some r) : js_Con G shC mX7_damp [(.ref 0), (.int a1)] σ (js_eW r) := js_con (mi := mX7_damp) 1 pn_X7 rfl (Nat.le_of_ble_eq_true rfl) (jX7_damp G a1 σ) r h
def fX7_isWord (a0 : Int32) : Int32 := (fX7_isBelow a0 (16 : Int32))
set_option maxRecDepth 10000 in
theorem jX7_isWord (G : js_G) (a0 : Int32) (σ : js_S) : js_J G shC mX7_isWord (js_eI σ) 0 [some (.int a0)] [] σ (some (fX7_isWord a0)) := by
  unfold fX7_isWord
  refine js_iload_n dX7_isWord_0 rfl rfl ?_
  refine js_bipush dX7_isWord_1 kb_16 ?_
  refine js_callS_P (mj := mX7_isBelow) [(.int a0), (.int (16 : Int32))] [] dX7_isWord_3 tw_214 cm_X7_isBelow tw_215 rfl rfl rfl rfl (qX7_isBelow G a0 (16 : Int32) σ) ?_
  exact js_zret dX7_isWord_6 rfl (js_nb (zX7_isBelow a0 (16 : Int32))) rfl

theorem qX7_isWord (G : js_G) (a0 : Int32) (σ : js_S) : js_Con G shC mX7_isWord [(.int a0)] σ (some (.int (fX7_isWord a0)), σ) := js_con (mi := mX7_isWord) (emb := (js_eI σ)) 0 pn_X7 rfl (Nat.le_of_ble_eq_true rfl) (jX7_isWord G a0 σ) _ rfl
theorem zX7_isWord (a0 : Int32) : fX7_isWord a0 = 0 ∨ fX7_isWord a0 = 1 := by
  unfold fX7_isWord
  repeat' split
  all_goals first | exact Or.inl rfl | exact Or.inr rfl | exact zX7_isBelow _ _
def fX7_isVoice (a0 : Int32) : Int32 := (fX7_isBelow a0 (10 : Int32))
set_option maxRecDepth 10000 in
theorem jX7_isVoice (G : js_G) (a0 : Int32) (σ : js_S) : js_J G shC mX7_isVoice (js_eI σ) 0 [some (.int a0)] [] σ (some (fX7_isVoice a0)) := by
  unfold fX7_isVoice
  refine js_iload_n dX7_isVoice_0 rfl rfl ?_
  refine js_bipush dX7_isVoice_1 kb_10 ?_
  refine js_callS_P (mj := mX7_isBelow) [(.int a0), (.int (10 : Int32))] [] dX7_isVoice_3 tw_214 cm_X7_isBelow tw_215 rfl rfl rfl rfl (qX7_isBelow G a0 (10 : Int32) σ) ?_
  exact js_zret dX7_isVoice_6 rfl (js_nb (zX7_isBelow a0 (10 : Int32))) rfl

theorem qX7_isVoice (G : js_G) (a0 : Int32) (σ : js_S) : js_Con G shC mX7_isVoice [(.int a0)] σ (some (.int (fX7_isVoice a0)), σ) := js_con (mi := mX7_isVoice) (emb := (js_eI σ)) 0 pn_X7 rfl (Nat.le_of_ble_eq_true rfl) (jX7_isVoice G a0 σ) _ rfl
theorem zX7_isVoice (a0 : Int32) : fX7_isVoice a0 = 0 ∨ fX7_isVoice a0 = 1 := by
  unfold fX7_isVoice
  repeat' split
  all_goals first | exact Or.inl rfl | exact Or.inr rfl | exact zX7_isBelow _ _
def fX1_rise (a0 : Int32) (a1 : Int32) (a2 : Int32) (a3 : Int32) : Int32 := (if a0 = (1 : Int32) then (if (a1 - a1 / (8 : Int32) * (8 : Int32)) < (if (0 : Int32) < ((7 : Int32) - a2) then ((7 : Int32) - a2) else (0 : Int32)) then (a1 - a1 / (8 : Int32) * (8 : Int32)) else (if (0 : Int32) < ((7 : Int32) - a2) then ((7 : Int32) - a2) else (0 : Int32))) else (if a0 = (2 : Int32) then (if (0 : Int32) < ((if (0 : Int32) < ((7 : Int32) - a2) then ((7 : Int32) - a2) else (0 : Int32)) - (2 : Int32)) then ((if (0 : Int32) < ((7 : Int32) - a2) then ((7 : Int32) - a2) else (0 : Int32)) - (2 : Int32)) else (0 : Int32)) else (if a0 = (3 : Int32) then (0 : Int32) else (if a0 = (4 : Int32) then (if a1 = (15 : Int32) then (7 : Int32) else (if (a1 - a1 / (8 : Int32) * (8 : Int32)) < (if (0 : Int32) < ((7 : Int32) - a2) then ((7 : Int32) - a2) else (0 : Int32)) then (a1 - a1 / (8 : Int32) * (8 : Int32)) else (if (0 : Int32) < ((7 : Int32) - a2) then ((7 : Int32) - a2) else (0 : Int32)))) else (if a0 = (5 : Int32) then (if (a3 - a3 / (4 : Int32) * (4 : Int32)) = (2 : Int32) then (-1 : Int32) else (if (0 : Int32) < ((if (0 : Int32) < ((7 : Int32) - a2) then ((7 : Int32) - a2) else (0 : Int32)) - (2 : Int32)) then ((if (0 : Int32) < ((7 : Int32) - a2) then ((7 : Int32) - a2) else (0 : Int32)) - (2 : Int32)) else (0 : Int32))) else (if (0 : Int32) < ((7 : Int32) - a2) then ((7 : Int32) - a2) else (0 : Int32)))))))
set_option maxRecDepth 10000 in
theorem jX1_rise (G : js_G) (a0 : Int32) (a1 : Int32) (a2 : Int32) (a3 : Int32) (σ : js_S) : js_J G shC mX1_rise (js_eI σ) 0 [some (.int a0), some (.int a1), some (.int a2), some (.int a3), none, none, none] [] σ (some (fX1_rise a0 a1 a2 a3)) := by
  unfold fX1_rise
  refine js_iconst dX1_rise_0 ki_0 ?_
  refine js_bipush dX1_rise_1 kb_7 ?_
  refine js_iload_n dX1_rise_3 rfl rfl ?_
  refine js_isub dX1_rise_4 ?_
  refine js_max dX1_rise_5 tw_270 mm_max rfl rfl ?_
  refine js_istore (lv' := [some (.int a0), some (.int a1), some (.int a2), some (.int a3), some (.int (if (0 : Int32) < ((7 : Int32) - a2) then ((7 : Int32) - a2) else (0 : Int32))), none, none]) dX1_rise_8 rfl rfl rfl ?_
  refine js_iload dX1_rise_10 rfl ?_
  refine js_iload_n dX1_rise_12 rfl rfl ?_
  refine js_bipush dX1_rise_13 kb_8 ?_
  refine js_irem dX1_rise_15 (by decide) ?_
  refine js_min dX1_rise_16 tw_340 mm_min rfl rfl ?_
  refine js_istore (lv' := [some (.int a0), some (.int a1), some (.int a2), some (.int a3), some (.int (if (0 : Int32) < ((7 : Int32) - a2) then ((7 : Int32) - a2) else (0 : Int32))), some (.int (if (a1 - a1 / (8 : Int32) * (8 : Int32)) < (if (0 : Int32) < ((7 : Int32) - a2) then ((7 : Int32) - a2) else (0 : Int32)) then (a1 - a1 / (8 : Int32) * (8 : Int32)) else (if (0 : Int32) < ((7 : Int32) - a2) then ((7 : Int32) - a2) else (0 : Int32)))), none]) dX1_rise_19 rfl rfl rfl ?_
  refine js_iconst dX1_rise_21 ki_0 ?_
  refine js_iload dX1_rise_22 rfl ?_
  refine js_iconst dX1_rise_24 ki_2 ?_
  refine js_isub dX1_rise_25 ?_
  refine js_max dX1_rise_26 tw_270 mm_max rfl rfl ?_
  refine js_istore (lv' := [some (.int a0), some (.int a1), some (.int a2), some (.int a3), some (.int (if (0 : Int32) < ((7 : Int32) - a2) then ((7 : Int32) - a2) else (0 : Int32))), some (.int (if (a1 - a1 / (8 : Int32) * (8 : Int32)) < (if (0 : Int32) < ((7 : Int32) - a2) then ((7 : Int32) - a2) else (0 : Int32)) then (a1 - a1 / (8 : Int32) * (8 : Int32)) else (if (0 : Int32) < ((7 : Int32) - a2) then ((7 : Int32) - a2) else (0 : Int32)))), some (.int (if (0 : Int32) < ((if (0 : Int32) < ((7 : Int32) - a2) then ((7 : Int32) - a2) else (0 : Int32)) - (2 : Int32)) then ((if (0 : Int32) < ((7 : Int32) - a2) then ((7 : Int32) - a2) else (0 : Int32)) - (2 : Int32)) else (0 : Int32)))]) dX1_rise_29 rfl rfl rfl ?_
  refine js_iload_n dX1_rise_31 rfl rfl ?_
  refine js_pi ?_
  refine js_split (fun h1 => ?_) (fun h1 => ?_)
  · refine js_tabI (1 : Int32) (off := 36) 68 dX1_rise_32 h1 (by decide) ?_
    refine js_iload dX1_rise_68 rfl ?_
    exact js_iret dX1_rise_70 rfl rfl
  · refine js_pi ?_
    refine js_split (fun h2 => ?_) (fun h2 => ?_)
    · refine js_tabI (2 : Int32) (off := 39) 71 dX1_rise_32 h2 (by decide) ?_
      refine js_iload dX1_rise_71 rfl ?_
      exact js_iret dX1_rise_73 rfl rfl
    · refine js_pi ?_
      refine js_split (fun h3 => ?_) (fun h3 => ?_)
      · refine js_tabI (3 : Int32) (off := 42) 74 dX1_rise_32 h3 (by decide) ?_
        refine js_iconst dX1_rise_74 ki_0 ?_
        exact js_iret dX1_rise_75 rfl rfl
      · refine js_pi ?_
        refine js_split (fun h4 => ?_) (fun h4 => ?_)
        · refine js_tabI (4 : Int32) (off := 44) 76 dX1_rise_32 h4 (by decide) ?_
          refine js_iload_n dX1_rise_76 rfl rfl ?_
          refine js_bipush dX1_rise_77 kb_15 ?_
          refine js_pi ?_
          refine js_icmp_ne 87 dX1_rise_79 rfl ?_ ?_
          · refine js_iload dX1_rise_87 rfl ?_
            exact js_iret dX1_rise_89 rfl rfl
          · refine js_bipush dX1_rise_82 kb_7 ?_
            refine js_goto 89 dX1_rise_84 rfl ?_
            exact js_iret dX1_rise_89 rfl rfl
        · refine js_pi ?_
          refine js_split (fun h5 => ?_) (fun h5 => ?_)
          · refine js_tabI (5 : Int32) (off := 58) 90 dX1_rise_32 h5 (by decide) ?_
            refine js_iload_n dX1_rise_90 rfl rfl ?_
            refine js_iconst dX1_rise_91 ki_4 ?_
            refine js_irem dX1_rise_92 (by decide) ?_
            refine js_iconst dX1_rise_93 ki_2 ?_
            refine js_pi ?_
            refine js_icmp_ne 101 dX1_rise_94 rfl ?_ ?_
            · refine js_iload dX1_rise_101 rfl ?_
              exact js_iret dX1_rise_103 rfl rfl
            · refine js_iconst dX1_rise_97 ki_m1 ?_
              refine js_goto 103 dX1_rise_98 rfl ?_
              exact js_iret dX1_rise_103 rfl rfl
          · refine js_tabO 104 dX1_rise_32 (by have eh1 := lv_neT h1 (k := (1 : Int32)) (a := 1) (by decide); have eh2 := lv_neT h2 (k := (2 : Int32)) (a := 2) (by decide); have eh3 := lv_neT h3 (k := (3 : Int32)) (a := 3) (by decide); have eh4 := lv_neT h4 (k := (4 : Int32)) (a := 4) (by decide); have eh5 := lv_neT h5 (k := (5 : Int32)) (a := 5) (by decide); omega) rfl ?_
            refine js_iload dX1_rise_104 rfl ?_
            exact js_iret dX1_rise_106 rfl rfl

theorem qX1_rise (G : js_G) (a0 : Int32) (a1 : Int32) (a2 : Int32) (a3 : Int32) (σ : js_S) : js_Con G shC mX1_rise [(.int a0), (.int a1), (.int a2), (.int a3)] σ (some (.int (fX1_rise a0 a1 a2 a3)), σ) := js_con (mi := mX1_rise) (emb := (js_eI σ)) 3 pn_X1 rfl (Nat.le_of_ble_eq_true rfl) (jX1_rise G a0 a1 a2 a3 σ) _ rfl
def fX7_rises (a1 : Int32) (a2 : Int32) (a3 : Int32) (σ : js_S) : Option (Int32 × js_S) := (fX3_hasFlue a1 σ).bind fun r1 => (if r1 = 0 then (fX7_found (-1000000001 : Int32) σ).bind fun r2 => some (r2.1, r2.2) else (if (fX7_isWord a2) = 0 then (fX7_found (-1000000001 : Int32) σ).bind fun r3 => some (r3.1, r3.2) else (if (fX7_isVoice a3) = 0 then (fX7_found (-1000000001 : Int32) σ).bind fun r6 => some (r6.1, r6.2) else (fX3_kindOf a1 σ).bind fun r4 => (if (fX1_rise r4 a2 a3 (σ.1 1 0)) = (-1 : Int32) then (fX7_found (-1000000004 : Int32) σ).bind fun r5 => some (r5.1, r5.2) else some ((fX1_rise r4 a2 a3 (σ.1 1 0)), σ)))))
set_option maxRecDepth 10000 in
theorem jX7_rises (G : js_G) (a1 : Int32) (a2 : Int32) (a3 : Int32) (σ : js_S) : js_J G shC mX7_rises js_eW 0 [some (.ref 0), some (.int a1), some (.int a2), some (.int a3), none] [] σ (fX7_rises a1 a2 a3 σ) := by
  unfold fX7_rises
  refine js_aload_n dX7_rises_0 rfl rfl ?_
  refine js_getR dX7_rises_1 fl_X7_10 rfl rfl ?_
  refine js_iload_n dX7_rises_4 rfl rfl ?_
  refine js_callV_I (mj := mX3_hasFlue) [(.int a1)] [] dX7_rises_5 tw_231 cm_X3_hasFlue cv_X3_hasFlue rfl rfl rfl rfl rfl rfl (fun r h => qX3_hasFlue G a1 σ r h) (fun r1 => ?_)
  refine js_if_eq 25 dX7_rises_8 rfl ?_ ?_
  · refine js_aload_n dX7_rises_25 rfl rfl ?_
    refine js_ldc dX7_rises_26 tw_217 ?_
    refine js_callV_W (mj := mX7_found) [(.int (-1000000001 : Int32))] [] dX7_rises_28 tw_218 cm_X7_found cv_X7_found rfl rfl rfl rfl rfl rfl (fun r h => qX7_found G (-1000000001 : Int32) σ r h) (fun r2 => ?_)
    exact js_iret dX7_rises_31 rfl rfl
  · refine js_iload_n dX7_rises_11 rfl rfl ?_
    refine js_callS_P (mj := mX7_isWord) [(.int a2)] [] dX7_rises_12 tw_331 cm_X7_isWord tw_332 rfl rfl rfl rfl (qX7_isWord G a2 σ) ?_
    refine js_if_eq 25 dX7_rises_15 rfl ?_ ?_
    · refine js_aload_n dX7_rises_25 rfl rfl ?_
      refine js_ldc dX7_rises_26 tw_217 ?_
      refine js_callV_W (mj := mX7_found) [(.int (-1000000001 : Int32))] [] dX7_rises_28 tw_218 cm_X7_found cv_X7_found rfl rfl rfl rfl rfl rfl (fun r h => qX7_found G (-1000000001 : Int32) σ r h) (fun r3 => ?_)
      exact js_iret dX7_rises_31 rfl rfl
    · refine js_iload_n dX7_rises_18 rfl rfl ?_
      refine js_callS_P (mj := mX7_isVoice) [(.int a3)] [] dX7_rises_19 tw_334 cm_X7_isVoice tw_335 rfl rfl rfl rfl (qX7_isVoice G a3 σ) ?_
      refine js_if_ne 32 dX7_rises_22 rfl ?_ ?_
      · refine js_aload_n dX7_rises_32 rfl rfl ?_
        refine js_getR dX7_rises_33 fl_X7_10 rfl rfl ?_
        refine js_iload_n dX7_rises_36 rfl rfl ?_
        refine js_callV_I (mj := mX3_kindOf) [(.int a1)] [] dX7_rises_37 tw_235 cm_X3_kindOf cv_X3_kindOf rfl rfl rfl rfl rfl rfl (fun r h => qX3_kindOf G a1 σ r h) (fun r4 => ?_)
        refine js_iload_n dX7_rises_40 rfl rfl ?_
        refine js_iload_n dX7_rises_41 rfl rfl ?_
        refine js_aload_n dX7_rises_42 rfl rfl ?_
        refine js_getR dX7_rises_43 fl_X7_10 rfl rfl ?_
        refine js_getI dX7_rises_46 fl_X7_148 rfl rfl ?_
        refine js_callS_P (mj := mX1_rise) [(.int r4), (.int a2), (.int a3), (.int (σ.1 1 0))] [] dX7_rises_49 tw_337 cm_X1_rise tw_338 rfl rfl rfl rfl (qX1_rise G r4 a2 a3 (σ.1 1 0) σ) ?_
        refine js_istore (lv' := [some (.ref 0), some (.int a1), some (.int a2), some (.int a3), some (.int (fX1_rise r4 a2 a3 (σ.1 1 0)))]) dX7_rises_52 rfl rfl rfl ?_
        refine js_iload dX7_rises_54 rfl ?_
        refine js_iconst dX7_rises_56 ki_m1 ?_
        refine js_icmp_ne 69 dX7_rises_57 rfl ?_ ?_
        · refine js_iload dX7_rises_69 rfl ?_
          exact js_iret dX7_rises_71 rfl rfl
        · refine js_aload_n dX7_rises_60 rfl rfl ?_
          refine js_ldc dX7_rises_61 tw_295 ?_
          refine js_callV_W (mj := mX7_found) [(.int (-1000000004 : Int32))] [] dX7_rises_63 tw_218 cm_X7_found cv_X7_found rfl rfl rfl rfl rfl rfl (fun r h => qX7_found G (-1000000004 : Int32) σ r h) (fun r5 => ?_)
          refine js_goto 71 dX7_rises_66 rfl ?_
          exact js_iret dX7_rises_71 rfl rfl
      · refine js_aload_n dX7_rises_25 rfl rfl ?_
        refine js_ldc dX7_rises_26 tw_217 ?_
        refine js_callV_W (mj := mX7_found) [(.int (-1000000001 : Int32))] [] dX7_rises_28 tw_218 cm_X7_found cv_X7_found rfl rfl rfl rfl rfl rfl (fun r h => qX7_found G (-1000000001 : Int32) σ r h) (fun r6 => ?_)
        exact js_iret dX7_rises_31 rfl rfl

theorem qX7_rises (G : js_G) (a1 : Int32) (a2 : Int32) (a3 : Int32) (σ : js_S) (r : (Int32 × js_S)) (h : fX7_rises a1 a2 a3 σ = some r) : js_Con G shC mX7_rises [(.ref 0), (.int a1), (.int a2), (.int a3)] σ (js_eW r) := js_con (mi := mX7_rises) 1 pn_X7 rfl (Nat.le_of_ble_eq_true rfl) (jX7_rises G a1 a2 a3 σ) r h
def fX1_settle_L8 (p0 : Int32) (p3 : Int32) (σ : js_S) : Nat → Int32 → Option Int32
  | 0, _ => none
  | n + 1, v4 => (if v4 < 0 then some (-1 : Int32) else (if (p3 + v4) < 0 then fX1_settle_L8 p0 p3 σ n (v4 + (-1 : Int32)) else (if (48 : Int32) ≤ (p3 + v4) then fX1_settle_L8 p0 p3 σ n (v4 + (-1 : Int32)) else js_gd (js_ix (p3 + v4) 48) ((if (fX1_holds p0 v4) ≤ (σ.1 3 (Int32.toNatClampNeg (p3 + v4))) then fX1_settle_L8 p0 p3 σ n (v4 + (-1 : Int32)) else some v4)))))
set_option maxRecDepth 10000 in
theorem jX1_settle_L8 (G : js_G) (p0 : Int32) (p3 : Int32) (σ : js_S) : ∀ (n : Nat) (v4 : Int32), js_J G shC mX1_settle (js_eI σ) 8 [some (.int p0), none, some (.ref 3), some (.int p3), some (.int v4), none] [] σ (fX1_settle_L8 p0 p3 σ n v4) := by
  intro n
  induction n with
  | zero =>
    intros
    exact js_none
  | succ n ih1 =>
    intro v4
    rw [fX1_settle_L8]
    refine js_iload dX1_settle_8 rfl ?_
    refine js_if_lt 53 dX1_settle_10 rfl ?_ ?_
    · refine js_iconst dX1_settle_53 ki_m1 ?_
      exact js_iret dX1_settle_54 rfl rfl
    · refine js_iload_n dX1_settle_13 rfl rfl ?_
      refine js_iload dX1_settle_14 rfl ?_
      refine js_iadd dX1_settle_16 ?_
      refine js_istore (lv' := [some (.int p0), none, some (.ref 3), some (.int p3), some (.int v4), some (.int (p3 + v4))]) dX1_settle_17 rfl rfl rfl ?_
      refine js_iload dX1_settle_19 rfl ?_
      refine js_if_lt 47 dX1_settle_21 rfl ?_ ?_
      · refine js_iinc (v := (v4 + (-1 : Int32))) (lv' := [some (.int p0), none, some (.ref 3), some (.int p3), some (.int (v4 + (-1 : Int32))), some (.int (p3 + v4))]) dX1_settle_47 rfl (kx_m1 _) rfl rfl rfl ?_
        refine js_goto 8 dX1_settle_50 rfl ?_
        refine js_drop [true, false, true, true, true, false] (lv2 := [some (.int p0), none, some (.ref 3), some (.int p3), some (.int (v4 + (-1 : Int32))), none]) rfl ?_
        exact ih1 (v4 + (-1 : Int32))
      · refine js_iload dX1_settle_24 rfl ?_
        refine js_aload_n dX1_settle_26 rfl rfl ?_
        refine js_alen (v := (48 : Int32)) dX1_settle_27 rfl rfl ?_
        refine js_icmp_ge 47 dX1_settle_28 rfl ?_ ?_
        · refine js_iinc (v := (v4 + (-1 : Int32))) (lv' := [some (.int p0), none, some (.ref 3), some (.int p3), some (.int (v4 + (-1 : Int32))), some (.int (p3 + v4))]) dX1_settle_47 rfl (kx_m1 _) rfl rfl rfl ?_
          refine js_goto 8 dX1_settle_50 rfl ?_
          refine js_drop [true, false, true, true, true, false] (lv2 := [some (.int p0), none, some (.ref 3), some (.int p3), some (.int (v4 + (-1 : Int32))), none]) rfl ?_
          exact ih1 (v4 + (-1 : Int32))
        · refine js_aload_n dX1_settle_31 rfl rfl ?_
          refine js_iload dX1_settle_32 rfl ?_
          refine js_iald dX1_settle_34 rfl ?_
          refine js_iload_n dX1_settle_35 rfl rfl ?_
          refine js_iload dX1_settle_36 rfl ?_
          refine js_callS_P (mj := mX1_holds) [(.int p0), (.int v4)] [(.int (σ.1 3 (Int32.toNatClampNeg (p3 + v4))))] dX1_settle_38 tw_360 cm_X1_holds tw_284 rfl rfl rfl rfl (qX1_holds G p0 v4 σ) ?_
          refine js_icmp_ge 47 dX1_settle_41 rfl ?_ ?_
          · refine js_iinc (v := (v4 + (-1 : Int32))) (lv' := [some (.int p0), none, some (.ref 3), some (.int p3), some (.int (v4 + (-1 : Int32))), some (.int (p3 + v4))]) dX1_settle_47 rfl (kx_m1 _) rfl rfl rfl ?_
            refine js_goto 8 dX1_settle_50 rfl ?_
            refine js_drop [true, false, true, true, true, false] (lv2 := [some (.int p0), none, some (.ref 3), some (.int p3), some (.int (v4 + (-1 : Int32))), none]) rfl ?_
            exact ih1 (v4 + (-1 : Int32))
          · refine js_iload dX1_settle_44 rfl ?_
            exact js_iret dX1_settle_46 rfl rfl

def fX1_settle (a0 : Int32) (a1 : Int32) (a3 : Int32) (σ : js_S) : Option Int32 := fX1_settle_L8 a0 a3 σ js_FU (if (7 : Int32) < a1 then (7 : Int32) else a1)
set_option maxRecDepth 10000 in
theorem jX1_settle (G : js_G) (a0 : Int32) (a1 : Int32) (a3 : Int32) (σ : js_S) : js_J G shC mX1_settle (js_eI σ) 0 [some (.int a0), some (.int a1), some (.ref 3), some (.int a3), none, none] [] σ (fX1_settle a0 a1 a3 σ) := by
  unfold fX1_settle
  refine js_iload_n dX1_settle_0 rfl rfl ?_
  refine js_bipush dX1_settle_1 kb_7 ?_
  refine js_min dX1_settle_3 tw_340 mm_min rfl rfl ?_
  refine js_istore (lv' := [some (.int a0), some (.int a1), some (.ref 3), some (.int a3), some (.int (if (7 : Int32) < a1 then (7 : Int32) else a1)), none]) dX1_settle_6 rfl rfl rfl ?_
  refine js_drop [true, false, true, true, true, false] (lv2 := [some (.int a0), none, some (.ref 3), some (.int a3), some (.int (if (7 : Int32) < a1 then (7 : Int32) else a1)), none]) rfl ?_
  exact jX1_settle_L8 G a0 a3 σ  _ (if (7 : Int32) < a1 then (7 : Int32) else a1)

theorem qX1_settle (G : js_G) (a0 : Int32) (a1 : Int32) (a3 : Int32) (σ : js_S) (r : Int32) (h : fX1_settle a0 a1 a3 σ = some r) : js_Con G shC mX1_settle [(.int a0), (.int a1), (.ref 3), (.int a3)] σ ((js_eI σ) r) := js_con (mi := mX1_settle) 2 pn_X1 rfl (Nat.le_of_ble_eq_true rfl) (jX1_settle G a0 a1 a3 σ) r h
def fX3_landing (a1 : Int32) (a2 : Int32) (a3 : Int32) (σ : js_S) : Option Int32 := (fX3_kindOf a1 σ).bind fun r1 => (fX1_settle r1 (fX1_rise r1 a2 a3 (σ.1 1 0)) (a1 * (8 : Int32)) σ).bind fun r2 => some r2
set_option maxRecDepth 10000 in
theorem jX3_landing (G : js_G) (a1 : Int32) (a2 : Int32) (a3 : Int32) (σ : js_S) : js_J G shC mX3_landing (js_eI σ) 0 [some (.ref 1), some (.int a1), some (.int a2), some (.int a3), none] [] σ (fX3_landing a1 a2 a3 σ) := by
  unfold fX3_landing
  refine js_aload_n dX3_landing_0 rfl rfl ?_
  refine js_iload_n dX3_landing_1 rfl rfl ?_
  refine js_callV_I (mj := mX3_kindOf) [(.int a1)] [] dX3_landing_2 tw_355 cm_X3_kindOf cv_X3_kindOf rfl rfl rfl rfl rfl rfl (fun r h => qX3_kindOf G a1 σ r h) (fun r1 => ?_)
  refine js_istore (lv' := [some (.ref 1), some (.int a1), some (.int a2), some (.int a3), some (.int r1)]) dX3_landing_5 rfl rfl rfl ?_
  refine js_iload dX3_landing_7 rfl ?_
  refine js_iload dX3_landing_9 rfl ?_
  refine js_iload_n dX3_landing_11 rfl rfl ?_
  refine js_iload_n dX3_landing_12 rfl rfl ?_
  refine js_aload_n dX3_landing_13 rfl rfl ?_
  refine js_getI dX3_landing_14 fl_X3_9 rfl rfl ?_
  refine js_callS_P (mj := mX1_rise) [(.int r1), (.int a2), (.int a3), (.int (σ.1 1 0))] [(.int r1)] dX3_landing_17 tw_356 cm_X1_rise tw_338 rfl rfl rfl rfl (qX1_rise G r1 a2 a3 (σ.1 1 0) σ) ?_
  refine js_aload_n dX3_landing_20 rfl rfl ?_
  refine js_getR dX3_landing_21 fl_X3_25 rfl rfl ?_
  refine js_iload_n dX3_landing_24 rfl rfl ?_
  refine js_bipush dX3_landing_25 kb_8 ?_
  refine js_imul dX3_landing_27 ?_
  refine js_callS_I (mj := mX1_settle) [(.int r1), (.int (fX1_rise r1 a2 a3 (σ.1 1 0))), (.ref 3), (.int (a1 * (8 : Int32)))] [] dX3_landing_28 tw_357 cm_X1_settle tw_358 rfl rfl rfl rfl (fun r h => qX1_settle G r1 (fX1_rise r1 a2 a3 (σ.1 1 0)) (a1 * (8 : Int32)) σ r h) (fun r2 => ?_)
  exact js_iret dX3_landing_31 rfl rfl

theorem qX3_landing (G : js_G) (a1 : Int32) (a2 : Int32) (a3 : Int32) (σ : js_S) (r : Int32) (h : fX3_landing a1 a2 a3 σ = some r) : js_Con G shC mX3_landing [(.ref 1), (.int a1), (.int a2), (.int a3)] σ ((js_eI σ) r) := js_con (mi := mX3_landing) 1 pn_X3 rfl (Nat.le_of_ble_eq_true rfl) (jX3_landing G a1 a2 a3 σ) r h
def fX3_lay (a1 : Int32) (a2 : Int32) (a3 : Int32) (a4 : Int32) (σ : js_S) : Option js_S := (fX3_hasFlue a1 σ).bind fun r1 => (if r1 = 0 then some σ else (if (fX7_isBend a2) = 0 then some σ else (fX3_height a1 a2 σ).bind fun r2 => (if (6 : Int32) ≤ r2 then some σ else (fX3_kindOf a1 σ).bind fun r3 => (if r2 < (fX1_holds r3 a2) then js_gd (js_ix ((((a1 * (8 : Int32)) + a2) * (6 : Int32)) + r2) 288) (js_gd (js_ix ((((a1 * (8 : Int32)) + a2) * (6 : Int32)) + r2) 288) (js_gd (js_ix ((a1 * (8 : Int32)) + a2) 48) (some (js_sI (js_sI (js_sI σ 4 (Int32.toNatClampNeg ((((a1 * (8 : Int32)) + a2) * (6 : Int32)) + r2)) a3) 5 (Int32.toNatClampNeg ((((a1 * (8 : Int32)) + a2) * (6 : Int32)) + r2)) a4) 3 (Int32.toNatClampNeg ((a1 * (8 : Int32)) + a2)) (r2 + (1 : Int32)))))) else some σ))))
set_option maxRecDepth 10000 in
theorem jX3_lay (G : js_G) (a1 : Int32) (a2 : Int32) (a3 : Int32) (a4 : Int32) (σ : js_S) : js_J G shC mX3_lay js_eV 0 [some (.ref 1), some (.int a1), some (.int a2), some (.int a3), some (.int a4), none, none] [] σ (fX3_lay a1 a2 a3 a4 σ) := by
  unfold fX3_lay
  refine js_aload_n dX3_lay_0 rfl rfl ?_
  refine js_iload_n dX3_lay_1 rfl rfl ?_
  refine js_callV_I (mj := mX3_hasFlue) [(.int a1)] [] dX3_lay_2 tw_239 cm_X3_hasFlue cv_X3_hasFlue rfl rfl rfl rfl rfl rfl (fun r h => qX3_hasFlue G a1 σ r h) (fun r1 => ?_)
  refine js_if_eq 15 dX3_lay_5 rfl ?_ ?_
  · exact js_vret dX3_lay_15 rfl rfl
  · refine js_iload_n dX3_lay_8 rfl rfl ?_
    refine js_callN_P (host := RX7) (mj := mX7_isBend) [(.int a2)] [] dX3_lay_9 (List.mem_of_getElem? (i := 0) rfl) cm_X7_isBend tw_249 rfl rfl rfl rfl (qX7_isBend G a2 σ) ?_
    refine js_if_ne 16 dX3_lay_12 rfl ?_ ?_
    · refine js_aload_n dX3_lay_16 rfl rfl ?_
      refine js_iload_n dX3_lay_17 rfl rfl ?_
      refine js_iload_n dX3_lay_18 rfl rfl ?_
      refine js_callV_I (mj := mX3_height) [(.int a1), (.int a2)] [] dX3_lay_19 tw_244 cm_X3_height cv_X3_height rfl rfl rfl rfl rfl rfl (fun r h => qX3_height G a1 a2 σ r h) (fun r2 => ?_)
      refine js_istore (lv' := [some (.ref 1), some (.int a1), some (.int a2), some (.int a3), some (.int a4), some (.int r2), none]) dX3_lay_22 rfl rfl rfl ?_
      refine js_iload dX3_lay_24 rfl ?_
      refine js_bipush dX3_lay_26 kb_6 ?_
      refine js_icmp_ge 45 dX3_lay_28 rfl ?_ ?_
      · exact js_vret dX3_lay_45 rfl rfl
      · refine js_iload dX3_lay_31 rfl ?_
        refine js_aload_n dX3_lay_33 rfl rfl ?_
        refine js_iload_n dX3_lay_34 rfl rfl ?_
        refine js_callV_I (mj := mX3_kindOf) [(.int a1)] [(.int r2)] dX3_lay_35 tw_355 cm_X3_kindOf cv_X3_kindOf rfl rfl rfl rfl rfl rfl (fun r h => qX3_kindOf G a1 σ r h) (fun r3 => ?_)
        refine js_iload_n dX3_lay_38 rfl rfl ?_
        refine js_callS_P (mj := mX1_holds) [(.int r3), (.int a2)] [(.int r2)] dX3_lay_39 tw_365 cm_X1_holds tw_284 rfl rfl rfl rfl (qX1_holds G r3 a2 σ) ?_
        refine js_icmp_lt 46 dX3_lay_42 rfl ?_ ?_
        · refine js_iload_n dX3_lay_46 rfl rfl ?_
          refine js_bipush dX3_lay_47 kb_8 ?_
          refine js_imul dX3_lay_49 ?_
          refine js_iload_n dX3_lay_50 rfl rfl ?_
          refine js_iadd dX3_lay_51 ?_
          refine js_bipush dX3_lay_52 kb_6 ?_
          refine js_imul dX3_lay_54 ?_
          refine js_iload dX3_lay_55 rfl ?_
          refine js_iadd dX3_lay_57 ?_
          refine js_istore (lv' := [some (.ref 1), some (.int a1), some (.int a2), some (.int a3), some (.int a4), some (.int r2), some (.int ((((a1 * (8 : Int32)) + a2) * (6 : Int32)) + r2))]) dX3_lay_58 rfl rfl rfl ?_
          refine js_aload_n dX3_lay_60 rfl rfl ?_
          refine js_getR dX3_lay_61 fl_X3_28 rfl rfl ?_
          refine js_iload dX3_lay_64 rfl ?_
          refine js_iload_n dX3_lay_66 rfl rfl ?_
          refine js_iast dX3_lay_67 rfl ?_
          refine js_aload_n dX3_lay_68 rfl rfl ?_
          refine js_getR dX3_lay_69 fl_X3_31 rfl rfl ?_
          refine js_iload dX3_lay_72 rfl ?_
          refine js_iload dX3_lay_74 rfl ?_
          refine js_iast dX3_lay_76 rfl ?_
          refine js_aload_n dX3_lay_77 rfl rfl ?_
          refine js_getR dX3_lay_78 fl_X3_25 rfl rfl ?_
          refine js_iload_n dX3_lay_81 rfl rfl ?_
          refine js_bipush dX3_lay_82 kb_8 ?_
          refine js_imul dX3_lay_84 ?_
          refine js_iload_n dX3_lay_85 rfl rfl ?_
          refine js_iadd dX3_lay_86 ?_
          refine js_iload dX3_lay_87 rfl ?_
          refine js_iconst dX3_lay_89 ki_1 ?_
          refine js_iadd dX3_lay_90 ?_
          refine js_iast dX3_lay_91 rfl ?_
          exact js_vret dX3_lay_92 rfl rfl
        · exact js_vret dX3_lay_45 rfl rfl
    · exact js_vret dX3_lay_15 rfl rfl

theorem qX3_lay (G : js_G) (a1 : Int32) (a2 : Int32) (a3 : Int32) (a4 : Int32) (σ : js_S) (r : js_S) (h : fX3_lay a1 a2 a3 a4 σ = some r) : js_Con G shC mX3_lay [(.ref 1), (.int a1), (.int a2), (.int a3), (.int a4)] σ (js_eV r) := js_con (mi := mX3_lay) 2 pn_X3 rfl (Nat.le_of_ble_eq_true rfl) (jX3_lay G a1 a2 a3 a4 σ) r h
def fX3_speak (a1 : Int32) (a2 : Int32) (a3 : Int32) (σ : js_S) : Option (Int32 × js_S) := (fX3_landing a1 a2 a3 σ).bind fun r1 => (if r1 = (-1 : Int32) then some (r1, σ) else (fX3_lay a1 r1 a2 (0 : Int32) σ).bind fun r2 => some (r1, r2))
set_option maxRecDepth 10000 in
theorem jX3_speak (G : js_G) (a1 : Int32) (a2 : Int32) (a3 : Int32) (σ : js_S) : js_J G shC mX3_speak js_eW 0 [some (.ref 1), some (.int a1), some (.int a2), some (.int a3), none] [] σ (fX3_speak a1 a2 a3 σ) := by
  unfold fX3_speak
  refine js_aload_n dX3_speak_0 rfl rfl ?_
  refine js_iload_n dX3_speak_1 rfl rfl ?_
  refine js_iload_n dX3_speak_2 rfl rfl ?_
  refine js_iload_n dX3_speak_3 rfl rfl ?_
  refine js_callV_I (mj := mX3_landing) [(.int a1), (.int a2), (.int a3)] [] dX3_speak_4 tw_351 cm_X3_landing cv_X3_landing rfl rfl rfl rfl rfl rfl (fun r h => qX3_landing G a1 a2 a3 σ r h) (fun r1 => ?_)
  refine js_istore (lv' := [some (.ref 1), some (.int a1), some (.int a2), some (.int a3), some (.int r1)]) dX3_speak_7 rfl rfl rfl ?_
  refine js_iload dX3_speak_9 rfl ?_
  refine js_iconst dX3_speak_11 ki_m1 ?_
  refine js_icmp_eq 24 dX3_speak_12 rfl ?_ ?_
  · refine js_iload dX3_speak_24 rfl ?_
    exact js_iret dX3_speak_26 rfl rfl
  · refine js_aload_n dX3_speak_15 rfl rfl ?_
    refine js_iload_n dX3_speak_16 rfl rfl ?_
    refine js_iload dX3_speak_17 rfl ?_
    refine js_iload_n dX3_speak_19 rfl rfl ?_
    refine js_iconst dX3_speak_20 ki_0 ?_
    refine js_callV_V (mj := mX3_lay) [(.int a1), (.int r1), (.int a2), (.int (0 : Int32))] [] dX3_speak_21 tw_361 cm_X3_lay cv_X3_lay rfl rfl rfl rfl rfl rfl (fun r h => qX3_lay G a1 r1 a2 (0 : Int32) σ r h) (fun r2 => ?_)
    refine js_iload dX3_speak_24 rfl ?_
    exact js_iret dX3_speak_26 rfl rfl

theorem qX3_speak (G : js_G) (a1 : Int32) (a2 : Int32) (a3 : Int32) (σ : js_S) (r : (Int32 × js_S)) (h : fX3_speak a1 a2 a3 σ = some r) : js_Con G shC mX3_speak [(.ref 1), (.int a1), (.int a2), (.int a3)] σ (js_eW r) := js_con (mi := mX3_speak) 1 pn_X3 rfl (Nat.le_of_ble_eq_true rfl) (jX3_speak G a1 a2 a3 σ) r h
def fX7_say (a1 : Int32) (a2 : Int32) (a3 : Int32) (σ : js_S) : Option (Int32 × js_S) := (fX3_hasFlue a1 σ).bind fun r1 => (if r1 = 0 then (fX7_found (-1000000001 : Int32) σ).bind fun r2 => some (r2.1, r2.2) else (if (fX7_isWord a2) = 0 then (fX7_found (-1000000001 : Int32) σ).bind fun r3 => some (r3.1, r3.2) else (if (fX7_isVoice a3) = 0 then (fX7_found (-1000000001 : Int32) σ).bind fun r5 => some (r5.1, r5.2) else (fX3_speak a1 a2 a3 σ).bind fun r4 => some (r4.1, r4.2))))
set_option maxRecDepth 10000 in
theorem jX7_say (G : js_G) (a1 : Int32) (a2 : Int32) (a3 : Int32) (σ : js_S) : js_J G shC mX7_say js_eW 0 [some (.ref 0), some (.int a1), some (.int a2), some (.int a3)] [] σ (fX7_say a1 a2 a3 σ) := by
  unfold fX7_say
  refine js_aload_n dX7_say_0 rfl rfl ?_
  refine js_getR dX7_say_1 fl_X7_10 rfl rfl ?_
  refine js_iload_n dX7_say_4 rfl rfl ?_
  refine js_callV_I (mj := mX3_hasFlue) [(.int a1)] [] dX7_say_5 tw_231 cm_X3_hasFlue cv_X3_hasFlue rfl rfl rfl rfl rfl rfl (fun r h => qX3_hasFlue G a1 σ r h) (fun r1 => ?_)
  refine js_if_eq 25 dX7_say_8 rfl ?_ ?_
  · refine js_aload_n dX7_say_25 rfl rfl ?_
    refine js_ldc dX7_say_26 tw_217 ?_
    refine js_callV_W (mj := mX7_found) [(.int (-1000000001 : Int32))] [] dX7_say_28 tw_218 cm_X7_found cv_X7_found rfl rfl rfl rfl rfl rfl (fun r h => qX7_found G (-1000000001 : Int32) σ r h) (fun r2 => ?_)
    exact js_iret dX7_say_31 rfl rfl
  · refine js_iload_n dX7_say_11 rfl rfl ?_
    refine js_callS_P (mj := mX7_isWord) [(.int a2)] [] dX7_say_12 tw_331 cm_X7_isWord tw_332 rfl rfl rfl rfl (qX7_isWord G a2 σ) ?_
    refine js_if_eq 25 dX7_say_15 rfl ?_ ?_
    · refine js_aload_n dX7_say_25 rfl rfl ?_
      refine js_ldc dX7_say_26 tw_217 ?_
      refine js_callV_W (mj := mX7_found) [(.int (-1000000001 : Int32))] [] dX7_say_28 tw_218 cm_X7_found cv_X7_found rfl rfl rfl rfl rfl rfl (fun r h => qX7_found G (-1000000001 : Int32) σ r h) (fun r3 => ?_)
      exact js_iret dX7_say_31 rfl rfl
    · refine js_iload_n dX7_say_18 rfl rfl ?_
      refine js_callS_P (mj := mX7_isVoice) [(.int a3)] [] dX7_say_19 tw_334 cm_X7_isVoice tw_335 rfl rfl rfl rfl (qX7_isVoice G a3 σ) ?_
      refine js_if_ne 32 dX7_say_22 rfl ?_ ?_
      · refine js_aload_n dX7_say_32 rfl rfl ?_
        refine js_getR dX7_say_33 fl_X7_10 rfl rfl ?_
        refine js_iload_n dX7_say_36 rfl rfl ?_
        refine js_iload_n dX7_say_37 rfl rfl ?_
        refine js_iload_n dX7_say_38 rfl rfl ?_
        refine js_callV_W (mj := mX3_speak) [(.int a1), (.int a2), (.int a3)] [] dX7_say_39 tw_347 cm_X3_speak cv_X3_speak rfl rfl rfl rfl rfl rfl (fun r h => qX3_speak G a1 a2 a3 σ r h) (fun r4 => ?_)
        exact js_iret dX7_say_42 rfl rfl
      · refine js_aload_n dX7_say_25 rfl rfl ?_
        refine js_ldc dX7_say_26 tw_217 ?_
        refine js_callV_W (mj := mX7_found) [(.int (-1000000001 : Int32))] [] dX7_say_28 tw_218 cm_X7_found cv_X7_found rfl rfl rfl rfl rfl rfl (fun r h => qX7_found G (-1000000001 : Int32) σ r h) (fun r5 => ?_)
        exact js_iret dX7_say_31 rfl rfl

theorem qX7_say (G : js_G) (a1 : Int32) (a2 : Int32) (a3 : Int32) (σ : js_S) (r : (Int32 × js_S)) (h : fX7_say a1 a2 a3 σ = some r) : js_Con G shC mX7_say [(.ref 0), (.int a1), (.int a2), (.int a3)] σ (js_eW r) := js_con (mi := mX7_say) 0 pn_X7 rfl (Nat.le_of_ble_eq_true rfl) (jX7_say G a1 a2 a3 σ) r h
def fX3_setCake (a1 : Int32) (a2 : Int32) (a3 : Int32) (a4 : Int32) (σ : js_S) : Option js_S := (fX3_hasLayer a1 a2 a3 σ).bind fun r1 => (if r1 = 0 then some σ else (fX3_place a1 a2 a3 σ).bind fun r2 => js_gd (js_ix r2 288) (some (js_sI σ 5 (Int32.toNatClampNeg r2) a4)))
set_option maxRecDepth 10000 in
theorem jX3_setCake (G : js_G) (a1 : Int32) (a2 : Int32) (a3 : Int32) (a4 : Int32) (σ : js_S) : js_J G shC mX3_setCake js_eV 0 [some (.ref 1), some (.int a1), some (.int a2), some (.int a3), some (.int a4)] [] σ (fX3_setCake a1 a2 a3 a4 σ) := by
  unfold fX3_setCake
  refine js_aload_n dX3_setCake_0 rfl rfl ?_
  refine js_iload_n dX3_setCake_1 rfl rfl ?_
  refine js_iload_n dX3_setCake_2 rfl rfl ?_
  refine js_iload_n dX3_setCake_3 rfl rfl ?_
  refine js_callV_I (mj := mX3_hasLayer) [(.int a1), (.int a2), (.int a3)] [] dX3_setCake_4 tw_300 cm_X3_hasLayer cv_X3_hasLayer rfl rfl rfl rfl rfl rfl (fun r h => qX3_hasLayer G a1 a2 a3 σ r h) (fun r1 => ?_)
  refine js_if_eq 24 dX3_setCake_7 rfl ?_ ?_
  · exact js_vret dX3_setCake_24 rfl rfl
  · refine js_aload_n dX3_setCake_10 rfl rfl ?_
    refine js_getR dX3_setCake_11 fl_X3_31 rfl rfl ?_
    refine js_aload_n dX3_setCake_14 rfl rfl ?_
    refine js_iload_n dX3_setCake_15 rfl rfl ?_
    refine js_iload_n dX3_setCake_16 rfl rfl ?_
    refine js_iload_n dX3_setCake_17 rfl rfl ?_
    refine js_callV_I (mj := mX3_place) [(.int a1), (.int a2), (.int a3)] [(.ref 5)] dX3_setCake_18 tw_259 cm_X3_place cv_X3_place rfl rfl rfl rfl rfl rfl (fun r h => qX3_place G a1 a2 a3 σ r h) (fun r2 => ?_)
    refine js_iload dX3_setCake_21 rfl ?_
    refine js_iast dX3_setCake_23 rfl ?_
    exact js_vret dX3_setCake_24 rfl rfl

theorem qX3_setCake (G : js_G) (a1 : Int32) (a2 : Int32) (a3 : Int32) (a4 : Int32) (σ : js_S) (r : js_S) (h : fX3_setCake a1 a2 a3 a4 σ = some r) : js_Con G shC mX3_setCake [(.ref 1), (.int a1), (.int a2), (.int a3), (.int a4)] σ (js_eV r) := js_con (mi := mX3_setCake) 0 pn_X3 rfl (Nat.le_of_ble_eq_true rfl) (jX3_setCake G a1 a2 a3 a4 σ) r h
def fX7_cake (a1 : Int32) (a2 : Int32) (a3 : Int32) (a4 : Int32) (σ : js_S) : Option (Int32 × js_S) := (fX7_isPlace a1 a2 σ).bind fun r1 => (if r1 = 0 then (fX7_found (-1000000001 : Int32) σ).bind fun r2 => some (r2.1, r2.2) else (if (fX7_isBelow a4 (10 : Int32)) = 0 then (fX7_found (-1000000001 : Int32) σ).bind fun r7 => some (r7.1, r7.2) else (fX3_hasLayer a1 a2 a3 σ).bind fun r3 => (if r3 = 0 then (fX7_found (-1000000004 : Int32) σ).bind fun r6 => some (r6.1, r6.2) else (fX3_cakeAt a1 a2 a3 σ).bind fun r4 => (fX3_setCake a1 a2 a3 a4 σ).bind fun r5 => some (r4, r5))))
set_option maxRecDepth 10000 in
theorem jX7_cake (G : js_G) (a1 : Int32) (a2 : Int32) (a3 : Int32) (a4 : Int32) (σ : js_S) : js_J G shC mX7_cake js_eW 0 [some (.ref 0), some (.int a1), some (.int a2), some (.int a3), some (.int a4), none] [] σ (fX7_cake a1 a2 a3 a4 σ) := by
  unfold fX7_cake
  refine js_aload_n dX7_cake_0 rfl rfl ?_
  refine js_iload_n dX7_cake_1 rfl rfl ?_
  refine js_iload_n dX7_cake_2 rfl rfl ?_
  refine js_callV_I (mj := mX7_isPlace) [(.int a1), (.int a2)] [] dX7_cake_3 tw_277 cm_X7_isPlace cv_X7_isPlace rfl rfl rfl rfl rfl rfl (fun r h => qX7_isPlace G a1 a2 σ r h) (fun r1 => ?_)
  refine js_if_eq 19 dX7_cake_6 rfl ?_ ?_
  · refine js_aload_n dX7_cake_19 rfl rfl ?_
    refine js_ldc dX7_cake_20 tw_217 ?_
    refine js_callV_W (mj := mX7_found) [(.int (-1000000001 : Int32))] [] dX7_cake_22 tw_218 cm_X7_found cv_X7_found rfl rfl rfl rfl rfl rfl (fun r h => qX7_found G (-1000000001 : Int32) σ r h) (fun r2 => ?_)
    exact js_iret dX7_cake_25 rfl rfl
  · refine js_iload dX7_cake_9 rfl ?_
    refine js_bipush dX7_cake_11 kb_10 ?_
    refine js_callS_P (mj := mX7_isBelow) [(.int a4), (.int (10 : Int32))] [] dX7_cake_13 tw_214 cm_X7_isBelow tw_215 rfl rfl rfl rfl (qX7_isBelow G a4 (10 : Int32) σ) ?_
    refine js_if_ne 26 dX7_cake_16 rfl ?_ ?_
    · refine js_aload_n dX7_cake_26 rfl rfl ?_
      refine js_getR dX7_cake_27 fl_X7_10 rfl rfl ?_
      refine js_iload_n dX7_cake_30 rfl rfl ?_
      refine js_iload_n dX7_cake_31 rfl rfl ?_
      refine js_iload_n dX7_cake_32 rfl rfl ?_
      refine js_callV_I (mj := mX3_hasLayer) [(.int a1), (.int a2), (.int a3)] [] dX7_cake_33 tw_291 cm_X3_hasLayer cv_X3_hasLayer rfl rfl rfl rfl rfl rfl (fun r h => qX3_hasLayer G a1 a2 a3 σ r h) (fun r3 => ?_)
      refine js_if_ne 46 dX7_cake_36 rfl ?_ ?_
      · refine js_aload_n dX7_cake_46 rfl rfl ?_
        refine js_getR dX7_cake_47 fl_X7_10 rfl rfl ?_
        refine js_iload_n dX7_cake_50 rfl rfl ?_
        refine js_iload_n dX7_cake_51 rfl rfl ?_
        refine js_iload_n dX7_cake_52 rfl rfl ?_
        refine js_callV_I (mj := mX3_cakeAt) [(.int a1), (.int a2), (.int a3)] [] dX7_cake_53 tw_301 cm_X3_cakeAt cv_X3_cakeAt rfl rfl rfl rfl rfl rfl (fun r h => qX3_cakeAt G a1 a2 a3 σ r h) (fun r4 => ?_)
        refine js_istore (lv' := [some (.ref 0), some (.int a1), some (.int a2), some (.int a3), some (.int a4), some (.int r4)]) dX7_cake_56 rfl rfl rfl ?_
        refine js_aload_n dX7_cake_58 rfl rfl ?_
        refine js_getR dX7_cake_59 fl_X7_10 rfl rfl ?_
        refine js_iload_n dX7_cake_62 rfl rfl ?_
        refine js_iload_n dX7_cake_63 rfl rfl ?_
        refine js_iload_n dX7_cake_64 rfl rfl ?_
        refine js_iload dX7_cake_65 rfl ?_
        refine js_callV_V (mj := mX3_setCake) [(.int a1), (.int a2), (.int a3), (.int a4)] [] dX7_cake_67 tw_370 cm_X3_setCake cv_X3_setCake rfl rfl rfl rfl rfl rfl (fun r h => qX3_setCake G a1 a2 a3 a4 σ r h) (fun r5 => ?_)
        refine js_iload dX7_cake_70 rfl ?_
        exact js_iret dX7_cake_72 rfl rfl
      · refine js_aload_n dX7_cake_39 rfl rfl ?_
        refine js_ldc dX7_cake_40 tw_295 ?_
        refine js_callV_W (mj := mX7_found) [(.int (-1000000004 : Int32))] [] dX7_cake_42 tw_218 cm_X7_found cv_X7_found rfl rfl rfl rfl rfl rfl (fun r h => qX7_found G (-1000000004 : Int32) σ r h) (fun r6 => ?_)
        exact js_iret dX7_cake_45 rfl rfl
    · refine js_aload_n dX7_cake_19 rfl rfl ?_
      refine js_ldc dX7_cake_20 tw_217 ?_
      refine js_callV_W (mj := mX7_found) [(.int (-1000000001 : Int32))] [] dX7_cake_22 tw_218 cm_X7_found cv_X7_found rfl rfl rfl rfl rfl rfl (fun r h => qX7_found G (-1000000001 : Int32) σ r h) (fun r7 => ?_)
      exact js_iret dX7_cake_25 rfl rfl

theorem qX7_cake (G : js_G) (a1 : Int32) (a2 : Int32) (a3 : Int32) (a4 : Int32) (σ : js_S) (r : (Int32 × js_S)) (h : fX7_cake a1 a2 a3 a4 σ = some r) : js_Con G shC mX7_cake [(.ref 0), (.int a1), (.int a2), (.int a3), (.int a4)] σ (js_eW r) := js_con (mi := mX7_cake) 1 pn_X7 rfl (Nat.le_of_ble_eq_true rfl) (jX7_cake G a1 a2 a3 a4 σ) r h
def fX3_passDays_L38 (k81 : js_S → Option js_S) (p1 : Int32) (p2 : Int32) (p3 : Int32) (p4 : Int32) : Nat → Int32 → js_S → Option js_S
  | 0, _, _ => none
  | n + 1, v5, σ => (fX3_height p2 p4 σ).bind fun r2 => (if r2 ≤ v5 then k81 σ else (fX3_cakeAt p2 p4 v5 σ).bind fun r3 => (fX3_setCake p2 p4 v5 (if (r3 + p3) < (9 : Int32) then (r3 + p3) else (9 : Int32)) σ).bind fun r4 => fX3_passDays_L38 k81 p1 p2 p3 p4 n (v5 + (1 : Int32)) r4)
set_option maxRecDepth 10000 in
theorem jX3_passDays_L38 (G : js_G) (k81 : js_S → Option js_S) (p1 : Int32) (p2 : Int32) (p3 : Int32) (p4 : Int32) (hk81 : ∀  (σ : js_S), js_J G shC mX3_passDays js_eV 81 [some (.ref 1), some (.int p1), some (.int p2), some (.int p3), some (.int p4), none] [] σ (k81 σ)) : ∀ (n : Nat) (v5 : Int32) (σ : js_S), js_J G shC mX3_passDays js_eV 38 [some (.ref 1), some (.int p1), some (.int p2), some (.int p3), some (.int p4), some (.int v5)] [] σ (fX3_passDays_L38 k81 p1 p2 p3 p4 n v5 σ) := by
  intro n
  induction n with
  | zero =>
    intros
    exact js_none
  | succ n ih3 =>
    intro v5 σ
    rw [fX3_passDays_L38]
    refine js_iload dX3_passDays_38 rfl ?_
    refine js_aload_n dX3_passDays_40 rfl rfl ?_
    refine js_iload_n dX3_passDays_41 rfl rfl ?_
    refine js_iload dX3_passDays_42 rfl ?_
    refine js_callV_I (mj := mX3_height) [(.int p2), (.int p4)] [(.int v5)] dX3_passDays_44 tw_244 cm_X3_height cv_X3_height rfl rfl rfl rfl rfl rfl (fun r h => qX3_height G p2 p4 σ r h) (fun r2 => ?_)
    refine js_icmp_ge 81 dX3_passDays_47 rfl ?_ ?_
    · refine js_drop [true, true, true, true, true, false] (lv2 := [some (.ref 1), some (.int p1), some (.int p2), some (.int p3), some (.int p4), none]) rfl ?_
      exact hk81 σ
    · refine js_aload_n dX3_passDays_50 rfl rfl ?_
      refine js_iload_n dX3_passDays_51 rfl rfl ?_
      refine js_iload dX3_passDays_52 rfl ?_
      refine js_iload dX3_passDays_54 rfl ?_
      refine js_bipush dX3_passDays_56 kb_9 ?_
      refine js_aload_n dX3_passDays_58 rfl rfl ?_
      refine js_iload_n dX3_passDays_59 rfl rfl ?_
      refine js_iload dX3_passDays_60 rfl ?_
      refine js_iload dX3_passDays_62 rfl ?_
      refine js_callV_I (mj := mX3_cakeAt) [(.int p2), (.int p4), (.int v5)] [(.int (9 : Int32)), (.int v5), (.int p4), (.int p2), (.ref 1)] dX3_passDays_64 tw_384 cm_X3_cakeAt cv_X3_cakeAt rfl rfl rfl rfl rfl rfl (fun r h => qX3_cakeAt G p2 p4 v5 σ r h) (fun r3 => ?_)
      refine js_iload_n dX3_passDays_67 rfl rfl ?_
      refine js_iadd dX3_passDays_68 ?_
      refine js_min dX3_passDays_69 tw_385 mm_min rfl rfl ?_
      refine js_callV_V (mj := mX3_setCake) [(.int p2), (.int p4), (.int v5), (.int (if (r3 + p3) < (9 : Int32) then (r3 + p3) else (9 : Int32)))] [] dX3_passDays_72 tw_386 cm_X3_setCake cv_X3_setCake rfl rfl rfl rfl rfl rfl (fun r h => qX3_setCake G p2 p4 v5 (if (r3 + p3) < (9 : Int32) then (r3 + p3) else (9 : Int32)) σ r h) (fun r4 => ?_)
      refine js_iinc (v := (v5 + (1 : Int32))) (lv' := [some (.ref 1), some (.int p1), some (.int p2), some (.int p3), some (.int p4), some (.int (v5 + (1 : Int32)))]) dX3_passDays_75 rfl (kx_1 _) rfl rfl rfl ?_
      refine js_goto 38 dX3_passDays_78 rfl ?_
      exact ih3 (v5 + (1 : Int32)) r4

def fX3_passDays_L28 (k87 : js_S → Option js_S) (p1 : Int32) (p2 : Int32) (p3 : Int32) : Nat → Int32 → js_S → Option js_S
  | 0, _, _ => none
  | n + 1, v4, σ => (if (8 : Int32) ≤ v4 then k87 σ else fX3_passDays_L38 (fun s5 => fX3_passDays_L28 k87 p1 p2 p3 n (v4 + (1 : Int32)) s5) p1 p2 p3 v4 js_FU (0 : Int32) σ)
set_option maxRecDepth 10000 in
theorem jX3_passDays_L28 (G : js_G) (k87 : js_S → Option js_S) (p1 : Int32) (p2 : Int32) (p3 : Int32) (hk87 : ∀  (σ : js_S), js_J G shC mX3_passDays js_eV 87 [some (.ref 1), some (.int p1), some (.int p2), none, none, none] [] σ (k87 σ)) : ∀ (n : Nat) (v4 : Int32) (σ : js_S), js_J G shC mX3_passDays js_eV 28 [some (.ref 1), some (.int p1), some (.int p2), some (.int p3), some (.int v4), none] [] σ (fX3_passDays_L28 k87 p1 p2 p3 n v4 σ) := by
  intro n
  induction n with
  | zero =>
    intros
    exact js_none
  | succ n ih2 =>
    intro v4 σ
    rw [fX3_passDays_L28]
    refine js_iload dX3_passDays_28 rfl ?_
    refine js_bipush dX3_passDays_30 kb_8 ?_
    refine js_icmp_ge 87 dX3_passDays_32 rfl ?_ ?_
    · refine js_drop [true, true, true, false, false, false] (lv2 := [some (.ref 1), some (.int p1), some (.int p2), none, none, none]) rfl ?_
      exact hk87 σ
    · refine js_iconst dX3_passDays_35 ki_0 ?_
      refine js_istore (lv' := [some (.ref 1), some (.int p1), some (.int p2), some (.int p3), some (.int v4), some (.int (0 : Int32))]) dX3_passDays_36 rfl rfl rfl ?_
      refine jX3_passDays_L38 G _ p1 p2 p3 v4 (fun s5 => ?_) _ (0 : Int32) σ
      refine js_iinc (v := (v4 + (1 : Int32))) (lv' := [some (.ref 1), some (.int p1), some (.int p2), some (.int p3), some (.int (v4 + (1 : Int32))), none]) dX3_passDays_81 rfl (kx_1 _) rfl rfl rfl ?_
      refine js_goto 28 dX3_passDays_84 rfl ?_
      exact ih2 (v4 + (1 : Int32)) s5

def fX3_passDays_L2 (p1 : Int32) : Nat → Int32 → js_S → Option js_S
  | 0, _, _ => none
  | n + 1, v2, σ => (if (σ.1 1 2) ≤ v2 then some (js_sI σ 1 0 ((σ.1 1 0) + p1)) else (fX3_kindOf v2 σ).bind fun r1 => fX3_passDays_L28 (fun s6 => fX3_passDays_L2 p1 n (v2 + (1 : Int32)) s6) p1 v2 (p1 * (fX1_cakes r1 (σ.1 1 1))) js_FU (0 : Int32) σ)
set_option maxRecDepth 10000 in
theorem jX3_passDays_L2 (G : js_G) (p1 : Int32) : ∀ (n : Nat) (v2 : Int32) (σ : js_S), js_J G shC mX3_passDays js_eV 2 [some (.ref 1), some (.int p1), some (.int v2), none, none, none] [] σ (fX3_passDays_L2 p1 n v2 σ) := by
  intro n
  induction n with
  | zero =>
    intros
    exact js_none
  | succ n ih1 =>
    intro v2 σ
    rw [fX3_passDays_L2]
    refine js_iload_n dX3_passDays_2 rfl rfl ?_
    refine js_aload_n dX3_passDays_3 rfl rfl ?_
    refine js_getI dX3_passDays_4 fl_X3_18 rfl rfl ?_
    refine js_icmp_ge 93 dX3_passDays_7 rfl ?_ ?_
    · refine js_aload_n dX3_passDays_93 rfl rfl ?_
      refine js_dup dX3_passDays_94 rfl ?_
      refine js_getI dX3_passDays_95 fl_X3_9 rfl rfl ?_
      refine js_iload_n dX3_passDays_98 rfl rfl ?_
      refine js_iadd dX3_passDays_99 ?_
      refine js_putI dX3_passDays_100 fp_X3_9 rfl rfl rfl rfl ?_
      exact js_vret dX3_passDays_103 rfl rfl
    · refine js_iload_n dX3_passDays_10 rfl rfl ?_
      refine js_aload_n dX3_passDays_11 rfl rfl ?_
      refine js_iload_n dX3_passDays_12 rfl rfl ?_
      refine js_callV_I (mj := mX3_kindOf) [(.int v2)] [(.int p1)] dX3_passDays_13 tw_355 cm_X3_kindOf cv_X3_kindOf rfl rfl rfl rfl rfl rfl (fun r h => qX3_kindOf G v2 σ r h) (fun r1 => ?_)
      refine js_aload_n dX3_passDays_16 rfl rfl ?_
      refine js_getI dX3_passDays_17 fl_X3_15 rfl rfl ?_
      refine js_callS_P (mj := mX1_cakes) [(.int r1), (.int (σ.1 1 1))] [(.int p1)] dX3_passDays_20 tw_383 cm_X1_cakes tw_268 rfl rfl rfl rfl (qX1_cakes G r1 (σ.1 1 1) σ) ?_
      refine js_imul dX3_passDays_23 ?_
      refine js_istore_n (lv' := [some (.ref 1), some (.int p1), some (.int v2), some (.int (p1 * (fX1_cakes r1 (σ.1 1 1)))), none, none]) dX3_passDays_24 rfl rfl rfl rfl ?_
      refine js_iconst dX3_passDays_25 ki_0 ?_
      refine js_istore (lv' := [some (.ref 1), some (.int p1), some (.int v2), some (.int (p1 * (fX1_cakes r1 (σ.1 1 1)))), some (.int (0 : Int32)), none]) dX3_passDays_26 rfl rfl rfl ?_
      refine jX3_passDays_L28 G _ p1 v2 (p1 * (fX1_cakes r1 (σ.1 1 1))) (fun s6 => ?_) _ (0 : Int32) σ
      refine js_iinc (v := (v2 + (1 : Int32))) (lv' := [some (.ref 1), some (.int p1), some (.int (v2 + (1 : Int32))), none, none, none]) dX3_passDays_87 rfl (kx_1 _) rfl rfl rfl ?_
      refine js_goto 2 dX3_passDays_90 rfl ?_
      exact ih1 (v2 + (1 : Int32)) s6

def fX3_passDays (a1 : Int32) (σ : js_S) : Option js_S := fX3_passDays_L2 a1 js_FU (0 : Int32) σ
set_option maxRecDepth 10000 in
theorem jX3_passDays (G : js_G) (a1 : Int32) (σ : js_S) : js_J G shC mX3_passDays js_eV 0 [some (.ref 1), some (.int a1), none, none, none, none] [] σ (fX3_passDays a1 σ) := by
  unfold fX3_passDays
  refine js_iconst dX3_passDays_0 ki_0 ?_
  refine js_istore_n (lv' := [some (.ref 1), some (.int a1), some (.int (0 : Int32)), none, none, none]) dX3_passDays_1 rfl rfl rfl rfl ?_
  exact jX3_passDays_L2 G a1  _ (0 : Int32) σ

theorem qX3_passDays (G : js_G) (a1 : Int32) (σ : js_S) (r : js_S) (h : fX3_passDays a1 σ = some r) : js_Con G shC mX3_passDays [(.ref 1), (.int a1)] σ (js_eV r) := js_con (mi := mX3_passDays) 4 pn_X3 rfl (Nat.le_of_ble_eq_true rfl) (jX3_passDays G a1 σ) r h
