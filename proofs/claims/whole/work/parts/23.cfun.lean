def fX7_house (σ : js_S) : Option (Int32 × js_S) := (fX5_goThrough (0 : Int32) σ).bind fun r1 => (if r1.1 < 0 then some (r1.1, (js_sI r1.2 15 0 (0 : Int32))) else (fX5_goThrough (1 : Int32) r1.2).bind fun r2 => some (r2.1, (js_sI r2.2 15 0 (0 : Int32))))
set_option maxRecDepth 10000 in
theorem jX7_house (G : js_G) (σ : js_S) : js_J G shC mX7_house js_eW 0 [some (.ref 0), none] [] σ (fX7_house σ) := by
  unfold fX7_house
  refine js_aload_n dX7_house_0 rfl rfl ?_
  refine js_getR dX7_house_1 fl_X7_47 rfl rfl ?_
  refine js_aload_n dX7_house_4 rfl rfl ?_
  refine js_getR dX7_house_5 fl_X7_40 rfl rfl ?_
  refine js_aload_n dX7_house_8 rfl rfl ?_
  refine js_getR dX7_house_9 fl_X7_10 rfl rfl ?_
  refine js_iconst dX7_house_12 ki_0 ?_
  refine js_callV_W (mj := mX5_goThrough) [(.ref 15), (.ref 1), (.int (0 : Int32))] [] dX7_house_13 tw_552 cm_X5_goThrough cv_X5_goThrough rfl rfl rfl rfl rfl rfl (fun r h => qX5_goThrough G (0 : Int32) σ r h) (fun r1 => ?_)
  refine js_istore_n (lv' := [some (.ref 0), some (.int r1.1)]) dX7_house_16 rfl rfl rfl rfl ?_
  refine js_iload_n dX7_house_17 rfl rfl ?_
  refine js_if_lt 38 dX7_house_18 rfl ?_ ?_
  · refine js_aload_n dX7_house_38 rfl rfl ?_
    refine js_getR dX7_house_39 fl_X7_40 rfl rfl ?_
    refine js_iconst dX7_house_42 ki_0 ?_
    refine js_putI dX7_house_43 fp_X7_237 rfl rfl rfl rfl ?_
    refine js_iload_n dX7_house_46 rfl rfl ?_
    exact js_iret dX7_house_47 rfl rfl
  · refine js_aload_n dX7_house_21 rfl rfl ?_
    refine js_getR dX7_house_22 fl_X7_47 rfl rfl ?_
    refine js_aload_n dX7_house_25 rfl rfl ?_
    refine js_getR dX7_house_26 fl_X7_40 rfl rfl ?_
    refine js_aload_n dX7_house_29 rfl rfl ?_
    refine js_getR dX7_house_30 fl_X7_10 rfl rfl ?_
    refine js_iconst dX7_house_33 ki_1 ?_
    refine js_callV_W (mj := mX5_goThrough) [(.ref 15), (.ref 1), (.int (1 : Int32))] [] dX7_house_34 tw_552 cm_X5_goThrough cv_X5_goThrough rfl rfl rfl rfl rfl rfl (fun r h => qX5_goThrough G (1 : Int32) r1.2 r h) (fun r2 => ?_)
    refine js_istore_n (lv' := [some (.ref 0), some (.int r2.1)]) dX7_house_37 rfl rfl rfl rfl ?_
    refine js_aload_n dX7_house_38 rfl rfl ?_
    refine js_getR dX7_house_39 fl_X7_40 rfl rfl ?_
    refine js_iconst dX7_house_42 ki_0 ?_
    refine js_putI dX7_house_43 fp_X7_237 rfl rfl rfl rfl ?_
    refine js_iload_n dX7_house_46 rfl rfl ?_
    exact js_iret dX7_house_47 rfl rfl

theorem qX7_house (G : js_G) (σ : js_S) (r : (Int32 × js_S)) (h : fX7_house σ = some r) : js_Con G shC mX7_house [(.ref 0)] σ (js_eW r) := js_con (mi := mX7_house) 1 pn_X7 rfl (Nat.le_of_ble_eq_true rfl) (jX7_house G σ) r h
def fX2_isSheet (a0 : Int32) : Int32 := (if a0 < 0 then (0 : Int32) else (if (4 : Int32) ≤ a0 then (0 : Int32) else (1 : Int32)))
set_option maxRecDepth 10000 in
theorem jX2_isSheet (G : js_G) (a0 : Int32) (σ : js_S) : js_J G shC mX2_isSheet (js_eI σ) 0 [some (.int a0)] [] σ (some (fX2_isSheet a0)) := by
  unfold fX2_isSheet
  refine js_iload_n dX2_isSheet_0 rfl rfl ?_
  refine js_pi ?_
  refine js_if_lt 13 dX2_isSheet_1 rfl ?_ ?_
  · refine js_iconst dX2_isSheet_13 ki_0 ?_
    exact js_zret dX2_isSheet_14 rfl nb_0.1 rfl
  · refine js_iload_n dX2_isSheet_4 rfl rfl ?_
    refine js_iconst dX2_isSheet_5 ki_4 ?_
    refine js_pi ?_
    refine js_icmp_ge 13 dX2_isSheet_6 rfl ?_ ?_
    · refine js_iconst dX2_isSheet_13 ki_0 ?_
      exact js_zret dX2_isSheet_14 rfl nb_0.1 rfl
    · refine js_iconst dX2_isSheet_9 ki_1 ?_
      refine js_goto 14 dX2_isSheet_10 rfl ?_
      exact js_zret dX2_isSheet_14 rfl nb_1.1 rfl

theorem qX2_isSheet (G : js_G) (a0 : Int32) (σ : js_S) : js_Con G shC mX2_isSheet [(.int a0)] σ (some (.int (fX2_isSheet a0)), σ) := js_con (mi := mX2_isSheet) (emb := (js_eI σ)) 0 pn_X2 rfl (Nat.le_of_ble_eq_true rfl) (jX2_isSheet G a0 σ) _ rfl
theorem zX2_isSheet (a0 : Int32) : fX2_isSheet a0 = 0 ∨ fX2_isSheet a0 = 1 := by
  unfold fX2_isSheet
  repeat' split
  all_goals first | exact Or.inl rfl | exact Or.inr rfl
def fX2_isWidth (a0 : Int32) : Int32 := (if a0 = 0 then (1 : Int32) else (if a0 = (8 : Int32) then (1 : Int32) else (if a0 = (16 : Int32) then (1 : Int32) else (if a0 = (64 : Int32) then (1 : Int32) else (0 : Int32)))))
set_option maxRecDepth 10000 in
theorem jX2_isWidth (G : js_G) (a0 : Int32) (σ : js_S) : js_J G shC mX2_isWidth (js_eI σ) 0 [some (.int a0)] [] σ (some (fX2_isWidth a0)) := by
  unfold fX2_isWidth
  refine js_iload_n dX2_isWidth_0 rfl rfl ?_
  refine js_pi ?_
  refine js_if_eq 22 dX2_isWidth_1 rfl ?_ ?_
  · refine js_iconst dX2_isWidth_22 ki_1 ?_
    refine js_goto 27 dX2_isWidth_23 rfl ?_
    exact js_zret dX2_isWidth_27 rfl nb_1.1 rfl
  · refine js_iload_n dX2_isWidth_4 rfl rfl ?_
    refine js_bipush dX2_isWidth_5 kb_8 ?_
    refine js_pi ?_
    refine js_icmp_eq 22 dX2_isWidth_7 rfl ?_ ?_
    · refine js_iconst dX2_isWidth_22 ki_1 ?_
      refine js_goto 27 dX2_isWidth_23 rfl ?_
      exact js_zret dX2_isWidth_27 rfl nb_1.1 rfl
    · refine js_iload_n dX2_isWidth_10 rfl rfl ?_
      refine js_bipush dX2_isWidth_11 kb_16 ?_
      refine js_pi ?_
      refine js_icmp_eq 22 dX2_isWidth_13 rfl ?_ ?_
      · refine js_iconst dX2_isWidth_22 ki_1 ?_
        refine js_goto 27 dX2_isWidth_23 rfl ?_
        exact js_zret dX2_isWidth_27 rfl nb_1.1 rfl
      · refine js_iload_n dX2_isWidth_16 rfl rfl ?_
        refine js_bipush dX2_isWidth_17 kb_64 ?_
        refine js_pi ?_
        refine js_icmp_ne 26 dX2_isWidth_19 rfl ?_ ?_
        · refine js_iconst dX2_isWidth_26 ki_0 ?_
          exact js_zret dX2_isWidth_27 rfl nb_0.1 rfl
        · refine js_iconst dX2_isWidth_22 ki_1 ?_
          refine js_goto 27 dX2_isWidth_23 rfl ?_
          exact js_zret dX2_isWidth_27 rfl nb_1.1 rfl

theorem qX2_isWidth (G : js_G) (a0 : Int32) (σ : js_S) : js_Con G shC mX2_isWidth [(.int a0)] σ (some (.int (fX2_isWidth a0)), σ) := js_con (mi := mX2_isWidth) (emb := (js_eI σ)) 0 pn_X2 rfl (Nat.le_of_ble_eq_true rfl) (jX2_isWidth G a0 σ) _ rfl
theorem zX2_isWidth (a0 : Int32) : fX2_isWidth a0 = 0 ∨ fX2_isWidth a0 = 1 := by
  unfold fX2_isWidth
  repeat' split
  all_goals first | exact Or.inl rfl | exact Or.inr rfl
def fX2_layOut_L44 (p1 : Int32) : Nat → Int32 → js_S → Option (Int32 × js_S)
  | 0, _, _ => none
  | n + 1, v4, σ => (if (40 : Int32) ≤ v4 then js_gd (js_ix p1 4) (some ((σ.1 20 (Int32.toNatClampNeg p1)), σ)) else js_gd (js_ix ((p1 * (40 : Int32)) + v4) 160) (fX2_layOut_L44 p1 n (v4 + (1 : Int32)) (js_sL σ 21 (Int32.toNatClampNeg ((p1 * (40 : Int32)) + v4)) (0 : Int64))))
set_option maxRecDepth 10000 in
theorem jX2_layOut_L44 (G : js_G) (p1 : Int32) : ∀ (n : Nat) (v4 : Int32) (σ : js_S), js_J G shC mX2_layOut js_eW 44 [some (.ref 18), some (.int p1), none, none, some (.int v4)] [] σ (fX2_layOut_L44 p1 n v4 σ) := by
  intro n
  induction n with
  | zero =>
    intros
    exact js_none
  | succ n ih1 =>
    intro v4 σ
    rw [fX2_layOut_L44]
    refine js_iload dX2_layOut_44 rfl ?_
    refine js_bipush dX2_layOut_46 kb_40 ?_
    refine js_icmp_ge 70 dX2_layOut_48 rfl ?_ ?_
    · refine js_aload_n dX2_layOut_70 rfl rfl ?_
      refine js_getR dX2_layOut_71 fl_X2_13 rfl rfl ?_
      refine js_iload_n dX2_layOut_74 rfl rfl ?_
      refine js_iald dX2_layOut_75 rfl ?_
      exact js_iret dX2_layOut_76 rfl rfl
    · refine js_aload_n dX2_layOut_51 rfl rfl ?_
      refine js_getR dX2_layOut_52 fl_X2_16 rfl rfl ?_
      refine js_iload_n dX2_layOut_55 rfl rfl ?_
      refine js_bipush dX2_layOut_56 kb_40 ?_
      refine js_imul dX2_layOut_58 ?_
      refine js_iload dX2_layOut_59 rfl ?_
      refine js_iadd dX2_layOut_61 ?_
      refine js_lconst dX2_layOut_62 kl_0 ?_
      refine js_last dX2_layOut_63 rfl ?_
      refine js_iinc (v := (v4 + (1 : Int32))) (lv' := [some (.ref 18), some (.int p1), none, none, some (.int (v4 + (1 : Int32)))]) dX2_layOut_64 rfl (kx_1 _) rfl rfl rfl ?_
      refine js_goto 44 dX2_layOut_67 rfl ?_
      exact ih1 (v4 + (1 : Int32)) (js_sL σ 21 (Int32.toNatClampNeg ((p1 * (40 : Int32)) + v4)) (0 : Int64))

def fX2_layOut_L44_2 (p1 : Int32) : Nat → Int32 → js_S → Option (Int32 × js_S)
  | 0, _, _ => none
  | n + 1, v4, σ => (if (40 : Int32) ≤ v4 then js_gd (js_ix p1 4) (some ((σ.1 20 (Int32.toNatClampNeg p1)), σ)) else js_gd (js_ix ((p1 * (40 : Int32)) + v4) 160) (fX2_layOut_L44_2 p1 n (v4 + (1 : Int32)) (js_sL σ 21 (Int32.toNatClampNeg ((p1 * (40 : Int32)) + v4)) (0 : Int64))))
set_option maxRecDepth 10000 in
theorem jX2_layOut_L44_2 (G : js_G) (p1 : Int32) : ∀ (n : Nat) (v4 : Int32) (σ : js_S), js_J G shC mX2_layOut js_eW 44 [some (.ref 18), some (.int p1), none, none, some (.int v4)] [] σ (fX2_layOut_L44_2 p1 n v4 σ) := by
  intro n
  induction n with
  | zero =>
    intros
    exact js_none
  | succ n ih2 =>
    intro v4 σ
    rw [fX2_layOut_L44_2]
    refine js_iload dX2_layOut_44 rfl ?_
    refine js_bipush dX2_layOut_46 kb_40 ?_
    refine js_icmp_ge 70 dX2_layOut_48 rfl ?_ ?_
    · refine js_aload_n dX2_layOut_70 rfl rfl ?_
      refine js_getR dX2_layOut_71 fl_X2_13 rfl rfl ?_
      refine js_iload_n dX2_layOut_74 rfl rfl ?_
      refine js_iald dX2_layOut_75 rfl ?_
      exact js_iret dX2_layOut_76 rfl rfl
    · refine js_aload_n dX2_layOut_51 rfl rfl ?_
      refine js_getR dX2_layOut_52 fl_X2_16 rfl rfl ?_
      refine js_iload_n dX2_layOut_55 rfl rfl ?_
      refine js_bipush dX2_layOut_56 kb_40 ?_
      refine js_imul dX2_layOut_58 ?_
      refine js_iload dX2_layOut_59 rfl ?_
      refine js_iadd dX2_layOut_61 ?_
      refine js_lconst dX2_layOut_62 kl_0 ?_
      refine js_last dX2_layOut_63 rfl ?_
      refine js_iinc (v := (v4 + (1 : Int32))) (lv' := [some (.ref 18), some (.int p1), none, none, some (.int (v4 + (1 : Int32)))]) dX2_layOut_64 rfl (kx_1 _) rfl rfl rfl ?_
      refine js_goto 44 dX2_layOut_67 rfl ?_
      exact ih2 (v4 + (1 : Int32)) (js_sL σ 21 (Int32.toNatClampNeg ((p1 * (40 : Int32)) + v4)) (0 : Int64))

def fX2_layOut (a1 : Int32) (a2 : Int32) (a3 : Int32) (σ : js_S) : Option (Int32 × js_S) := (if (fX2_isSheet a1) = 0 then some ((0 : Int32), σ) else (if a3 < 0 then some ((0 : Int32), σ) else (if a3 ≤ (40 : Int32) then js_gd (js_ix a1 4) ((if a2 = 0 then js_gd (js_ix a1 4) (fX2_layOut_L44_2 a1 js_FU (0 : Int32) (js_sI (js_sI σ 19 (Int32.toNatClampNeg a1) a2) 20 (Int32.toNatClampNeg a1) (0 : Int32))) else js_gd (js_ix a1 4) (fX2_layOut_L44 a1 js_FU (0 : Int32) (js_sI (js_sI σ 19 (Int32.toNatClampNeg a1) a2) 20 (Int32.toNatClampNeg a1) a3)))) else some ((0 : Int32), σ))))
set_option maxRecDepth 10000 in
theorem jX2_layOut (G : js_G) (a1 : Int32) (a2 : Int32) (a3 : Int32) (σ : js_S) : js_J G shC mX2_layOut js_eW 0 [some (.ref 18), some (.int a1), some (.int a2), some (.int a3), none] [] σ (fX2_layOut a1 a2 a3 σ) := by
  unfold fX2_layOut
  refine js_iload_n dX2_layOut_0 rfl rfl ?_
  refine js_callS_P (mj := mX2_isSheet) [(.int a1)] [] dX2_layOut_1 tw_689 cm_X2_isSheet tw_679 rfl rfl rfl rfl (qX2_isSheet G a1 σ) ?_
  refine js_if_eq 17 dX2_layOut_4 rfl ?_ ?_
  · refine js_iconst dX2_layOut_17 ki_0 ?_
    exact js_iret dX2_layOut_18 rfl rfl
  · refine js_iload_n dX2_layOut_7 rfl rfl ?_
    refine js_if_lt 17 dX2_layOut_8 rfl ?_ ?_
    · refine js_iconst dX2_layOut_17 ki_0 ?_
      exact js_iret dX2_layOut_18 rfl rfl
    · refine js_iload_n dX2_layOut_11 rfl rfl ?_
      refine js_bipush dX2_layOut_12 kb_40 ?_
      refine js_icmp_le 19 dX2_layOut_14 rfl ?_ ?_
      · refine js_aload_n dX2_layOut_19 rfl rfl ?_
        refine js_getR dX2_layOut_20 fl_X2_9 rfl rfl ?_
        refine js_iload_n dX2_layOut_23 rfl rfl ?_
        refine js_iload_n dX2_layOut_24 rfl rfl ?_
        refine js_iast dX2_layOut_25 rfl ?_
        refine js_aload_n dX2_layOut_26 rfl rfl ?_
        refine js_getR dX2_layOut_27 fl_X2_13 rfl rfl ?_
        refine js_iload_n dX2_layOut_30 rfl rfl ?_
        refine js_iload_n dX2_layOut_31 rfl rfl ?_
        refine js_if_ne 39 dX2_layOut_32 rfl ?_ ?_
        · refine js_iload_n dX2_layOut_39 rfl rfl ?_
          refine js_iast dX2_layOut_40 rfl ?_
          refine js_iconst dX2_layOut_41 ki_0 ?_
          refine js_istore (lv' := [some (.ref 18), some (.int a1), some (.int a2), some (.int a3), some (.int (0 : Int32))]) dX2_layOut_42 rfl rfl rfl ?_
          refine js_drop [true, true, false, false, true] (lv2 := [some (.ref 18), some (.int a1), none, none, some (.int (0 : Int32))]) rfl ?_
          exact jX2_layOut_L44 G a1  _ (0 : Int32) (js_sI (js_sI σ 19 (Int32.toNatClampNeg a1) a2) 20 (Int32.toNatClampNeg a1) a3)
        · refine js_iconst dX2_layOut_35 ki_0 ?_
          refine js_goto 40 dX2_layOut_36 rfl ?_
          refine js_iast dX2_layOut_40 rfl ?_
          refine js_iconst dX2_layOut_41 ki_0 ?_
          refine js_istore (lv' := [some (.ref 18), some (.int a1), some (.int a2), some (.int a3), some (.int (0 : Int32))]) dX2_layOut_42 rfl rfl rfl ?_
          refine js_drop [true, true, false, false, true] (lv2 := [some (.ref 18), some (.int a1), none, none, some (.int (0 : Int32))]) rfl ?_
          exact jX2_layOut_L44_2 G a1  _ (0 : Int32) (js_sI (js_sI σ 19 (Int32.toNatClampNeg a1) a2) 20 (Int32.toNatClampNeg a1) (0 : Int32))
      · refine js_iconst dX2_layOut_17 ki_0 ?_
        exact js_iret dX2_layOut_18 rfl rfl

theorem qX2_layOut (G : js_G) (a1 : Int32) (a2 : Int32) (a3 : Int32) (σ : js_S) (r : (Int32 × js_S)) (h : fX2_layOut a1 a2 a3 σ = some r) : js_Con G shC mX2_layOut [(.ref 18), (.int a1), (.int a2), (.int a3)] σ (js_eW r) := js_con (mi := mX2_layOut) 1 pn_X2 rfl (Nat.le_of_ble_eq_true rfl) (jX2_layOut G a1 a2 a3 σ) r h
def fX7_sheet (a1 : Int32) (a2 : Int32) (a3 : Int32) (σ : js_S) : Option (Int32 × js_S) := (if (fX2_isSheet a1) = 0 then (fX7_found (-1000000001 : Int32) σ).bind fun r1 => some (r1.1, r1.2) else (if (fX2_isWidth a2) = 0 then (fX7_found (-1000000001 : Int32) σ).bind fun r5 => some (r5.1, r5.2) else (if 0 ≤ a3 then (if a3 ≤ (40 : Int32) then (fX2_layOut a1 a2 a3 σ).bind fun r2 => some (r2.1, r2.2) else (fX7_found (-1000000001 : Int32) σ).bind fun r3 => some (r3.1, r3.2)) else (fX7_found (-1000000007 : Int32) σ).bind fun r4 => some (r4.1, r4.2))))
set_option maxRecDepth 10000 in
theorem jX7_sheet (G : js_G) (a1 : Int32) (a2 : Int32) (a3 : Int32) (σ : js_S) : js_J G shC mX7_sheet js_eW 0 [some (.ref 0), some (.int a1), some (.int a2), some (.int a3)] [] σ (fX7_sheet a1 a2 a3 σ) := by
  unfold fX7_sheet
  refine js_iload_n dX7_sheet_0 rfl rfl ?_
  refine js_callS_P (mj := mX2_isSheet) [(.int a1)] [] dX7_sheet_1 tw_678 cm_X2_isSheet tw_679 rfl rfl rfl rfl (qX2_isSheet G a1 σ) ?_
  refine js_if_eq 14 dX7_sheet_4 rfl ?_ ?_
  · refine js_aload_n dX7_sheet_14 rfl rfl ?_
    refine js_ldc dX7_sheet_15 tw_217 ?_
    refine js_callV_W (mj := mX7_found) [(.int (-1000000001 : Int32))] [] dX7_sheet_17 tw_218 cm_X7_found cv_X7_found rfl rfl rfl rfl rfl rfl (fun r h => qX7_found G (-1000000001 : Int32) σ r h) (fun r1 => ?_)
    exact js_iret dX7_sheet_20 rfl rfl
  · refine js_iload_n dX7_sheet_7 rfl rfl ?_
    refine js_callS_P (mj := mX2_isWidth) [(.int a2)] [] dX7_sheet_8 tw_681 cm_X2_isWidth tw_682 rfl rfl rfl rfl (qX2_isWidth G a2 σ) ?_
    refine js_if_ne 21 dX7_sheet_11 rfl ?_ ?_
    · refine js_iload_n dX7_sheet_21 rfl rfl ?_
      refine js_if_ge 32 dX7_sheet_22 rfl ?_ ?_
      · refine js_iload_n dX7_sheet_32 rfl rfl ?_
        refine js_bipush dX7_sheet_33 kb_40 ?_
        refine js_icmp_le 45 dX7_sheet_35 rfl ?_ ?_
        · refine js_aload_n dX7_sheet_45 rfl rfl ?_
          refine js_getR dX7_sheet_46 fl_X7_54 rfl rfl ?_
          refine js_iload_n dX7_sheet_49 rfl rfl ?_
          refine js_iload_n dX7_sheet_50 rfl rfl ?_
          refine js_iload_n dX7_sheet_51 rfl rfl ?_
          refine js_callV_W (mj := mX2_layOut) [(.int a1), (.int a2), (.int a3)] [] dX7_sheet_52 tw_685 cm_X2_layOut cv_X2_layOut rfl rfl rfl rfl rfl rfl (fun r h => qX2_layOut G a1 a2 a3 σ r h) (fun r2 => ?_)
          exact js_iret dX7_sheet_55 rfl rfl
        · refine js_aload_n dX7_sheet_38 rfl rfl ?_
          refine js_ldc dX7_sheet_39 tw_217 ?_
          refine js_callV_W (mj := mX7_found) [(.int (-1000000001 : Int32))] [] dX7_sheet_41 tw_218 cm_X7_found cv_X7_found rfl rfl rfl rfl rfl rfl (fun r h => qX7_found G (-1000000001 : Int32) σ r h) (fun r3 => ?_)
          exact js_iret dX7_sheet_44 rfl rfl
      · refine js_aload_n dX7_sheet_25 rfl rfl ?_
        refine js_ldc dX7_sheet_26 tw_684 ?_
        refine js_callV_W (mj := mX7_found) [(.int (-1000000007 : Int32))] [] dX7_sheet_28 tw_218 cm_X7_found cv_X7_found rfl rfl rfl rfl rfl rfl (fun r h => qX7_found G (-1000000007 : Int32) σ r h) (fun r4 => ?_)
        exact js_iret dX7_sheet_31 rfl rfl
    · refine js_aload_n dX7_sheet_14 rfl rfl ?_
      refine js_ldc dX7_sheet_15 tw_217 ?_
      refine js_callV_W (mj := mX7_found) [(.int (-1000000001 : Int32))] [] dX7_sheet_17 tw_218 cm_X7_found cv_X7_found rfl rfl rfl rfl rfl rfl (fun r h => qX7_found G (-1000000001 : Int32) σ r h) (fun r5 => ?_)
      exact js_iret dX7_sheet_20 rfl rfl

theorem qX7_sheet (G : js_G) (a1 : Int32) (a2 : Int32) (a3 : Int32) (σ : js_S) (r : (Int32 × js_S)) (h : fX7_sheet a1 a2 a3 σ = some r) : js_Con G shC mX7_sheet [(.ref 0), (.int a1), (.int a2), (.int a3)] σ (js_eW r) := js_con (mi := mX7_sheet) 0 pn_X7 rfl (Nat.le_of_ble_eq_true rfl) (jX7_sheet G a1 a2 a3 σ) r h
def fX2_width (a1 : Int32) (σ : js_S) : Option Int32 := (if (fX2_isSheet a1) = 0 then some (0 : Int32) else js_gd (js_ix a1 4) (some (σ.1 19 (Int32.toNatClampNeg a1))))
set_option maxRecDepth 10000 in
theorem jX2_width (G : js_G) (a1 : Int32) (σ : js_S) : js_J G shC mX2_width (js_eI σ) 0 [some (.ref 18), some (.int a1)] [] σ (fX2_width a1 σ) := by
  unfold fX2_width
  refine js_iload_n dX2_width_0 rfl rfl ?_
  refine js_callS_P (mj := mX2_isSheet) [(.int a1)] [] dX2_width_1 tw_689 cm_X2_isSheet tw_679 rfl rfl rfl rfl (qX2_isSheet G a1 σ) ?_
  refine js_if_eq 16 dX2_width_4 rfl ?_ ?_
  · refine js_iconst dX2_width_16 ki_0 ?_
    exact js_iret dX2_width_17 rfl rfl
  · refine js_aload_n dX2_width_7 rfl rfl ?_
    refine js_getR dX2_width_8 fl_X2_9 rfl rfl ?_
    refine js_iload_n dX2_width_11 rfl rfl ?_
    refine js_iald dX2_width_12 rfl ?_
    refine js_goto 17 dX2_width_13 rfl ?_
    exact js_iret dX2_width_17 rfl rfl

theorem qX2_width (G : js_G) (a1 : Int32) (σ : js_S) (r : Int32) (h : fX2_width a1 σ = some r) : js_Con G shC mX2_width [(.ref 18), (.int a1)] σ ((js_eI σ) r) := js_con (mi := mX2_width) 0 pn_X2 rfl (Nat.le_of_ble_eq_true rfl) (jX2_width G a1 σ) r h
def fX2_isMissing (a1 : Int32) (σ : js_S) : Option Int32 := (fX2_width a1 σ).bind fun r1 => (if r1 = 0 then some (1 : Int32) else some (0 : Int32))
set_option maxRecDepth 10000 in
theorem jX2_isMissing (G : js_G) (a1 : Int32) (σ : js_S) : js_J G shC mX2_isMissing (js_eI σ) 0 [some (.ref 18), some (.int a1)] [] σ (fX2_isMissing a1 σ) := by
  unfold fX2_isMissing
  refine js_aload_n dX2_isMissing_0 rfl rfl ?_
  refine js_iload_n dX2_isMissing_1 rfl rfl ?_
  refine js_callV_I (mj := mX2_width) [(.int a1)] [] dX2_isMissing_2 tw_702 cm_X2_width cv_X2_width rfl rfl rfl rfl rfl rfl (fun r h => qX2_width G a1 σ r h) (fun r1 => ?_)
  refine js_if_ne 12 dX2_isMissing_5 rfl ?_ ?_
  · refine js_iconst dX2_isMissing_12 ki_0 ?_
    exact js_zret dX2_isMissing_13 rfl nb_0.1 rfl
  · refine js_iconst dX2_isMissing_8 ki_1 ?_
    refine js_goto 13 dX2_isMissing_9 rfl ?_
    exact js_zret dX2_isMissing_13 rfl nb_1.1 rfl

theorem qX2_isMissing (G : js_G) (a1 : Int32) (σ : js_S) (r : Int32) (h : fX2_isMissing a1 σ = some r) : js_Con G shC mX2_isMissing [(.ref 18), (.int a1)] σ ((js_eI σ) r) := js_con (mi := mX2_isMissing) 0 pn_X2 rfl (Nat.le_of_ble_eq_true rfl) (jX2_isMissing G a1 σ) r h
def fX7_sheetFinding (a1 : Int32) (σ : js_S) : Option (Int32 × js_S) := (if (fX2_isSheet a1) = 0 then (fX7_found (-1000000001 : Int32) σ).bind fun r3 => some (r3.1, r3.2) else (fX2_isMissing a1 σ).bind fun r1 => (if r1 = 0 then some ((0 : Int32), σ) else (fX7_found (-1000000006 : Int32) σ).bind fun r2 => some (r2.1, r2.2)))
set_option maxRecDepth 10000 in
theorem jX7_sheetFinding (G : js_G) (a1 : Int32) (σ : js_S) : js_J G shC mX7_sheetFinding js_eW 0 [some (.ref 0), some (.int a1)] [] σ (fX7_sheetFinding a1 σ) := by
  unfold fX7_sheetFinding
  refine js_iload_n dX7_sheetFinding_0 rfl rfl ?_
  refine js_callS_P (mj := mX2_isSheet) [(.int a1)] [] dX7_sheetFinding_1 tw_678 cm_X2_isSheet tw_679 rfl rfl rfl rfl (qX2_isSheet G a1 σ) ?_
  refine js_if_ne 14 dX7_sheetFinding_4 rfl ?_ ?_
  · refine js_aload_n dX7_sheetFinding_14 rfl rfl ?_
    refine js_getR dX7_sheetFinding_15 fl_X7_54 rfl rfl ?_
    refine js_iload_n dX7_sheetFinding_18 rfl rfl ?_
    refine js_callV_I (mj := mX2_isMissing) [(.int a1)] [] dX7_sheetFinding_19 tw_698 cm_X2_isMissing cv_X2_isMissing rfl rfl rfl rfl rfl rfl (fun r h => qX2_isMissing G a1 σ r h) (fun r1 => ?_)
    refine js_if_eq 35 dX7_sheetFinding_22 rfl ?_ ?_
    · refine js_iconst dX7_sheetFinding_35 ki_0 ?_
      exact js_iret dX7_sheetFinding_36 rfl rfl
    · refine js_aload_n dX7_sheetFinding_25 rfl rfl ?_
      refine js_ldcw dX7_sheetFinding_26 tw_706 ?_
      refine js_callV_W (mj := mX7_found) [(.int (-1000000006 : Int32))] [] dX7_sheetFinding_29 tw_218 cm_X7_found cv_X7_found rfl rfl rfl rfl rfl rfl (fun r h => qX7_found G (-1000000006 : Int32) σ r h) (fun r2 => ?_)
      refine js_goto 36 dX7_sheetFinding_32 rfl ?_
      exact js_iret dX7_sheetFinding_36 rfl rfl
  · refine js_aload_n dX7_sheetFinding_7 rfl rfl ?_
    refine js_ldc dX7_sheetFinding_8 tw_217 ?_
    refine js_callV_W (mj := mX7_found) [(.int (-1000000001 : Int32))] [] dX7_sheetFinding_10 tw_218 cm_X7_found cv_X7_found rfl rfl rfl rfl rfl rfl (fun r h => qX7_found G (-1000000001 : Int32) σ r h) (fun r3 => ?_)
    exact js_iret dX7_sheetFinding_13 rfl rfl

theorem qX7_sheetFinding (G : js_G) (a1 : Int32) (σ : js_S) (r : (Int32 × js_S)) (h : fX7_sheetFinding a1 σ = some r) : js_Con G shC mX7_sheetFinding [(.ref 0), (.int a1)] σ (js_eW r) := js_con (mi := mX7_sheetFinding) 0 pn_X7 rfl (Nat.le_of_ble_eq_true rfl) (jX7_sheetFinding G a1 σ) r h
def fX2_length (a1 : Int32) (σ : js_S) : Option Int32 := (if (fX2_isSheet a1) = 0 then some (0 : Int32) else js_gd (js_ix a1 4) (some (σ.1 20 (Int32.toNatClampNeg a1))))
set_option maxRecDepth 10000 in
theorem jX2_length (G : js_G) (a1 : Int32) (σ : js_S) : js_J G shC mX2_length (js_eI σ) 0 [some (.ref 18), some (.int a1)] [] σ (fX2_length a1 σ) := by
  unfold fX2_length
  refine js_iload_n dX2_length_0 rfl rfl ?_
  refine js_callS_P (mj := mX2_isSheet) [(.int a1)] [] dX2_length_1 tw_689 cm_X2_isSheet tw_679 rfl rfl rfl rfl (qX2_isSheet G a1 σ) ?_
  refine js_if_eq 16 dX2_length_4 rfl ?_ ?_
  · refine js_iconst dX2_length_16 ki_0 ?_
    exact js_iret dX2_length_17 rfl rfl
  · refine js_aload_n dX2_length_7 rfl rfl ?_
    refine js_getR dX2_length_8 fl_X2_13 rfl rfl ?_
    refine js_iload_n dX2_length_11 rfl rfl ?_
    refine js_iald dX2_length_12 rfl ?_
    refine js_goto 17 dX2_length_13 rfl ?_
    exact js_iret dX2_length_17 rfl rfl

theorem qX2_length (G : js_G) (a1 : Int32) (σ : js_S) (r : Int32) (h : fX2_length a1 σ = some r) : js_Con G shC mX2_length [(.ref 18), (.int a1)] σ ((js_eI σ) r) := js_con (mi := mX2_length) 0 pn_X2 rfl (Nat.le_of_ble_eq_true rfl) (jX2_length G a1 σ) r h
def fX2_hasRange (a1 : Int32) (a2 : Int32) (a3 : Int32) (σ : js_S) : Option Int32 := (if a2 < 0 then some (0 : Int32) else (if a3 < 0 then some (0 : Int32) else (fX2_length a1 σ).bind fun r1 => (if r1 < a3 then some (0 : Int32) else (fX2_length a1 σ).bind fun r2 => (if (r2 - a3) < a2 then some (0 : Int32) else some (1 : Int32)))))
set_option maxRecDepth 10000 in
theorem jX2_hasRange (G : js_G) (a1 : Int32) (a2 : Int32) (a3 : Int32) (σ : js_S) : js_J G shC mX2_hasRange (js_eI σ) 0 [some (.ref 18), some (.int a1), some (.int a2), some (.int a3)] [] σ (fX2_hasRange a1 a2 a3 σ) := by
  unfold fX2_hasRange
  refine js_iload_n dX2_hasRange_0 rfl rfl ?_
  refine js_if_lt 32 dX2_hasRange_1 rfl ?_ ?_
  · refine js_iconst dX2_hasRange_32 ki_0 ?_
    exact js_zret dX2_hasRange_33 rfl nb_0.1 rfl
  · refine js_iload_n dX2_hasRange_4 rfl rfl ?_
    refine js_if_lt 32 dX2_hasRange_5 rfl ?_ ?_
    · refine js_iconst dX2_hasRange_32 ki_0 ?_
      exact js_zret dX2_hasRange_33 rfl nb_0.1 rfl
    · refine js_iload_n dX2_hasRange_8 rfl rfl ?_
      refine js_aload_n dX2_hasRange_9 rfl rfl ?_
      refine js_iload_n dX2_hasRange_10 rfl rfl ?_
      refine js_callV_I (mj := mX2_length) [(.int a1)] [(.int a3)] dX2_hasRange_11 tw_719 cm_X2_length cv_X2_length rfl rfl rfl rfl rfl rfl (fun r h => qX2_length G a1 σ r h) (fun r1 => ?_)
      refine js_icmp_gt 32 dX2_hasRange_14 rfl ?_ ?_
      · refine js_iconst dX2_hasRange_32 ki_0 ?_
        exact js_zret dX2_hasRange_33 rfl nb_0.1 rfl
      · refine js_iload_n dX2_hasRange_17 rfl rfl ?_
        refine js_aload_n dX2_hasRange_18 rfl rfl ?_
        refine js_iload_n dX2_hasRange_19 rfl rfl ?_
        refine js_callV_I (mj := mX2_length) [(.int a1)] [(.int a2)] dX2_hasRange_20 tw_719 cm_X2_length cv_X2_length rfl rfl rfl rfl rfl rfl (fun r h => qX2_length G a1 σ r h) (fun r2 => ?_)
        refine js_iload_n dX2_hasRange_23 rfl rfl ?_
        refine js_isub dX2_hasRange_24 ?_
        refine js_icmp_gt 32 dX2_hasRange_25 rfl ?_ ?_
        · refine js_iconst dX2_hasRange_32 ki_0 ?_
          exact js_zret dX2_hasRange_33 rfl nb_0.1 rfl
        · refine js_iconst dX2_hasRange_28 ki_1 ?_
          refine js_goto 33 dX2_hasRange_29 rfl ?_
          exact js_zret dX2_hasRange_33 rfl nb_1.1 rfl

theorem qX2_hasRange (G : js_G) (a1 : Int32) (a2 : Int32) (a3 : Int32) (σ : js_S) (r : Int32) (h : fX2_hasRange a1 a2 a3 σ = some r) : js_Con G shC mX2_hasRange [(.ref 18), (.int a1), (.int a2), (.int a3)] σ ((js_eI σ) r) := js_con (mi := mX2_hasRange) 0 pn_X2 rfl (Nat.le_of_ble_eq_true rfl) (jX2_hasRange G a1 a2 a3 σ) r h
def fX2_number (a1 : Int32) (a2 : Int32) (σ : js_S) : Option Int64 := (fX2_hasRange a1 a2 (1 : Int32) σ).bind fun r1 => (if r1 = 0 then some (0 : Int64) else js_gd (js_ix ((a1 * (40 : Int32)) + a2) 160) (some (σ.2 21 (Int32.toNatClampNeg ((a1 * (40 : Int32)) + a2)))))
set_option maxRecDepth 10000 in
theorem jX2_number (G : js_G) (a1 : Int32) (a2 : Int32) (σ : js_S) : js_J G shC mX2_number (js_eL σ) 0 [some (.ref 18), some (.int a1), some (.int a2)] [] σ (fX2_number a1 a2 σ) := by
  unfold fX2_number
  refine js_aload_n dX2_number_0 rfl rfl ?_
  refine js_iload_n dX2_number_1 rfl rfl ?_
  refine js_iload_n dX2_number_2 rfl rfl ?_
  refine js_iconst dX2_number_3 ki_1 ?_
  refine js_callV_I (mj := mX2_hasRange) [(.int a1), (.int a2), (.int (1 : Int32))] [] dX2_number_4 tw_715 cm_X2_hasRange cv_X2_hasRange rfl rfl rfl rfl rfl rfl (fun r h => qX2_hasRange G a1 a2 (1 : Int32) σ r h) (fun r1 => ?_)
  refine js_if_eq 24 dX2_number_7 rfl ?_ ?_
  · refine js_lconst dX2_number_24 kl_0 ?_
    exact js_lret dX2_number_25 rfl rfl
  · refine js_aload_n dX2_number_10 rfl rfl ?_
    refine js_getR dX2_number_11 fl_X2_16 rfl rfl ?_
    refine js_iload_n dX2_number_14 rfl rfl ?_
    refine js_bipush dX2_number_15 kb_40 ?_
    refine js_imul dX2_number_17 ?_
    refine js_iload_n dX2_number_18 rfl rfl ?_
    refine js_iadd dX2_number_19 ?_
    refine js_lald dX2_number_20 rfl ?_
    refine js_goto 25 dX2_number_21 rfl ?_
    exact js_lret dX2_number_25 rfl rfl

theorem qX2_number (G : js_G) (a1 : Int32) (a2 : Int32) (σ : js_S) (r : Int64) (h : fX2_number a1 a2 σ = some r) : js_Con G shC mX2_number [(.ref 18), (.int a1), (.int a2)] σ ((js_eL σ) r) := js_con (mi := mX2_number) 0 pn_X2 rfl (Nat.le_of_ble_eq_true rfl) (jX2_number G a1 a2 σ) r h
def fX2_cut (a0 : Int32) (a1 : Int64) : Int64 := (if a0 = (8 : Int32) then (Int32.toInt64 (Int8.toInt32 (Int32.toInt8 (Int64.toInt32 a1)))) else (if a0 = (16 : Int32) then (Int32.toInt64 (Int16.toInt32 (Int32.toInt16 (Int64.toInt32 a1)))) else a1))
set_option maxRecDepth 10000 in
theorem jX2_cut (G : js_G) (a0 : Int32) (a1 : Int64) (σ : js_S) : js_J G shC mX2_cut (js_eL σ) 0 [some (.int a0), some (.long a1), none] [] σ (some (fX2_cut a0 a1)) := by
  unfold fX2_cut
  refine js_iload_n dX2_cut_0 rfl rfl ?_
  refine js_bipush dX2_cut_1 kb_8 ?_
  refine js_pi ?_
  refine js_icmp_ne 11 dX2_cut_3 rfl ?_ ?_
  · refine js_iload_n dX2_cut_11 rfl rfl ?_
    refine js_bipush dX2_cut_12 kb_16 ?_
    refine js_pi ?_
    refine js_icmp_ne 22 dX2_cut_14 rfl ?_ ?_
    · refine js_lload_n dX2_cut_22 rfl rfl ?_
      exact js_lret dX2_cut_23 rfl rfl
    · refine js_lload_n dX2_cut_17 rfl rfl ?_
      refine js_l2i dX2_cut_18 ?_
      refine js_i2s dX2_cut_19 ?_
      refine js_i2l dX2_cut_20 ?_
      exact js_lret dX2_cut_21 rfl rfl
  · refine js_lload_n dX2_cut_6 rfl rfl ?_
    refine js_l2i dX2_cut_7 ?_
    refine js_i2b dX2_cut_8 ?_
    refine js_i2l dX2_cut_9 ?_
    exact js_lret dX2_cut_10 rfl rfl

theorem qX2_cut (G : js_G) (a0 : Int32) (a1 : Int64) (σ : js_S) : js_Con G shC mX2_cut [(.int a0), (.long a1)] σ (some (.long (fX2_cut a0 a1)), σ) := js_con (mi := mX2_cut) (emb := (js_eL σ)) 0 pn_X2 rfl (Nat.le_of_ble_eq_true rfl) (jX2_cut G a0 a1 σ) _ rfl
def fX2_put (a1 : Int32) (a2 : Int32) (a3 : Int64) (σ : js_S) : Option js_S := (fX2_hasRange a1 a2 (1 : Int32) σ).bind fun r1 => (if r1 = 0 then some σ else (fX2_width a1 σ).bind fun r2 => js_gd (js_ix ((a1 * (40 : Int32)) + a2) 160) (some (js_sL σ 21 (Int32.toNatClampNeg ((a1 * (40 : Int32)) + a2)) (fX2_cut r2 a3))))
set_option maxRecDepth 10000 in
theorem jX2_put (G : js_G) (a1 : Int32) (a2 : Int32) (a3 : Int64) (σ : js_S) : js_J G shC mX2_put js_eV 0 [some (.ref 18), some (.int a1), some (.int a2), some (.long a3), none] [] σ (fX2_put a1 a2 a3 σ) := by
  unfold fX2_put
  refine js_aload_n dX2_put_0 rfl rfl ?_
  refine js_iload_n dX2_put_1 rfl rfl ?_
  refine js_iload_n dX2_put_2 rfl rfl ?_
  refine js_iconst dX2_put_3 ki_1 ?_
  refine js_callV_I (mj := mX2_hasRange) [(.int a1), (.int a2), (.int (1 : Int32))] [] dX2_put_4 tw_715 cm_X2_hasRange cv_X2_hasRange rfl rfl rfl rfl rfl rfl (fun r h => qX2_hasRange G a1 a2 (1 : Int32) σ r h) (fun r1 => ?_)
  refine js_if_eq 30 dX2_put_7 rfl ?_ ?_
  · exact js_vret dX2_put_30 rfl rfl
  · refine js_aload_n dX2_put_10 rfl rfl ?_
    refine js_getR dX2_put_11 fl_X2_16 rfl rfl ?_
    refine js_iload_n dX2_put_14 rfl rfl ?_
    refine js_bipush dX2_put_15 kb_40 ?_
    refine js_imul dX2_put_17 ?_
    refine js_iload_n dX2_put_18 rfl rfl ?_
    refine js_iadd dX2_put_19 ?_
    refine js_aload_n dX2_put_20 rfl rfl ?_
    refine js_iload_n dX2_put_21 rfl rfl ?_
    refine js_callV_I (mj := mX2_width) [(.int a1)] [(.int ((a1 * (40 : Int32)) + a2)), (.ref 21)] dX2_put_22 tw_702 cm_X2_width cv_X2_width rfl rfl rfl rfl rfl rfl (fun r h => qX2_width G a1 σ r h) (fun r2 => ?_)
    refine js_lload_n dX2_put_25 rfl rfl ?_
    refine js_callS_PL (mj := mX2_cut) [(.int r2), (.long a3)] [(.int ((a1 * (40 : Int32)) + a2)), (.ref 21)] dX2_put_26 tw_724 cm_X2_cut tw_725 rfl rfl rfl rfl (qX2_cut G r2 a3 σ) ?_
    refine js_last dX2_put_29 rfl ?_
    exact js_vret dX2_put_30 rfl rfl

theorem qX2_put (G : js_G) (a1 : Int32) (a2 : Int32) (a3 : Int64) (σ : js_S) (r : js_S) (h : fX2_put a1 a2 a3 σ = some r) : js_Con G shC mX2_put [(.ref 18), (.int a1), (.int a2), (.long a3)] σ (js_eV r) := js_con (mi := mX2_put) 0 pn_X2 rfl (Nat.le_of_ble_eq_true rfl) (jX2_put G a1 a2 a3 σ) r h
def fX7_write (a1 : Int32) (a2 : Int32) (a3 : Int64) (σ : js_S) : Option (Int64 × js_S) := (fX7_sheetFinding a1 σ).bind fun r1 => (if r1.1 = 0 then (fX2_length a1 r1.2).bind fun r2 => (if (fX7_isBelow a2 r2) = 0 then (fX7_found (-1000000001 : Int32) r1.2).bind fun r5 => some ((Int32.toInt64 r5.1), r5.2) else (fX2_number a1 a2 r1.2).bind fun r3 => (fX2_put a1 a2 a3 r1.2).bind fun r4 => some (r3, r4)) else some ((Int32.toInt64 r1.1), r1.2))
set_option maxRecDepth 10000 in
theorem jX7_write (G : js_G) (a1 : Int32) (a2 : Int32) (a3 : Int64) (σ : js_S) : js_J G shC mX7_write js_eWL 0 [some (.ref 0), some (.int a1), some (.int a2), some (.long a3), none, none, none, none] [] σ (fX7_write a1 a2 a3 σ) := by
  unfold fX7_write
  refine js_aload_n dX7_write_0 rfl rfl ?_
  refine js_iload_n dX7_write_1 rfl rfl ?_
  refine js_callV_W (mj := mX7_sheetFinding) [(.int a1)] [] dX7_write_2 tw_694 cm_X7_sheetFinding cv_X7_sheetFinding rfl rfl rfl rfl rfl rfl (fun r h => qX7_sheetFinding G a1 σ r h) (fun r1 => ?_)
  refine js_istore (lv' := [some (.ref 0), some (.int a1), some (.int a2), some (.long a3), none, some (.int r1.1), none, none]) dX7_write_5 rfl rfl rfl ?_
  refine js_iload dX7_write_7 rfl ?_
  refine js_if_eq 16 dX7_write_9 rfl ?_ ?_
  · refine js_iload_n dX7_write_16 rfl rfl ?_
    refine js_aload_n dX7_write_17 rfl rfl ?_
    refine js_getR dX7_write_18 fl_X7_54 rfl rfl ?_
    refine js_iload_n dX7_write_21 rfl rfl ?_
    refine js_callV_I (mj := mX2_length) [(.int a1)] [(.int a2)] dX7_write_22 tw_707 cm_X2_length cv_X2_length rfl rfl rfl rfl rfl rfl (fun r h => qX2_length G a1 r1.2 r h) (fun r2 => ?_)
    refine js_callS_P (mj := mX7_isBelow) [(.int a2), (.int r2)] [] dX7_write_25 tw_214 cm_X7_isBelow tw_215 rfl rfl rfl rfl (qX7_isBelow G a2 r2 r1.2) ?_
    refine js_if_ne 39 dX7_write_28 rfl ?_ ?_
    · refine js_aload_n dX7_write_39 rfl rfl ?_
      refine js_getR dX7_write_40 fl_X7_54 rfl rfl ?_
      refine js_iload_n dX7_write_43 rfl rfl ?_
      refine js_iload_n dX7_write_44 rfl rfl ?_
      refine js_callV_L (mj := mX2_number) [(.int a1), (.int a2)] [] dX7_write_45 tw_711 cm_X2_number cv_X2_number rfl rfl rfl rfl rfl rfl (fun r h => qX2_number G a1 a2 r1.2 r h) (fun r3 => ?_)
      refine js_lstore (lv' := [some (.ref 0), some (.int a1), some (.int a2), some (.long a3), none, some (.int r1.1), some (.long r3), none]) dX7_write_48 rfl rfl rfl ?_
      refine js_aload_n dX7_write_50 rfl rfl ?_
      refine js_getR dX7_write_51 fl_X7_54 rfl rfl ?_
      refine js_iload_n dX7_write_54 rfl rfl ?_
      refine js_iload_n dX7_write_55 rfl rfl ?_
      refine js_lload_n dX7_write_56 rfl rfl ?_
      refine js_callV_V (mj := mX2_put) [(.int a1), (.int a2), (.long a3)] [] dX7_write_57 tw_720 cm_X2_put cv_X2_put rfl rfl rfl rfl rfl rfl (fun r h => qX2_put G a1 a2 a3 r1.2 r h) (fun r4 => ?_)
      refine js_lload dX7_write_60 rfl ?_
      exact js_lret dX7_write_62 rfl rfl
    · refine js_aload_n dX7_write_31 rfl rfl ?_
      refine js_ldc dX7_write_32 tw_217 ?_
      refine js_callV_W (mj := mX7_found) [(.int (-1000000001 : Int32))] [] dX7_write_34 tw_218 cm_X7_found cv_X7_found rfl rfl rfl rfl rfl rfl (fun r h => qX7_found G (-1000000001 : Int32) r1.2 r h) (fun r5 => ?_)
      refine js_i2l dX7_write_37 ?_
      exact js_lret dX7_write_38 rfl rfl
  · refine js_iload dX7_write_12 rfl ?_
    refine js_i2l dX7_write_14 ?_
    exact js_lret dX7_write_15 rfl rfl

theorem qX7_write (G : js_G) (a1 : Int32) (a2 : Int32) (a3 : Int64) (σ : js_S) (r : (Int64 × js_S)) (h : fX7_write a1 a2 a3 σ = some r) : js_Con G shC mX7_write [(.ref 0), (.int a1), (.int a2), (.long a3)] σ (js_eWL r) := js_con (mi := mX7_write) 3 pn_X7 rfl (Nat.le_of_ble_eq_true rfl) (jX7_write G a1 a2 a3 σ) r h
def fX2_move (a1 : Int32) (a2 : Int32) (a3 : Int32) (a4 : Int32) (a5 : Int32) (σ : js_S) : Option js_S := (fX2_hasRange a1 a2 a5 σ).bind fun r1 => (if r1 = 0 then some σ else (fX2_hasRange a3 a4 a5 σ).bind fun r2 => (if r2 = 0 then some σ else js_gd (js_cpok ((a1 * (40 : Int32)) + a2) ((a3 * (40 : Int32)) + a4) a5 160 160) (some (js_cpL σ 21 21 (Int32.toNatClampNeg ((a1 * (40 : Int32)) + a2)) (Int32.toNatClampNeg ((a3 * (40 : Int32)) + a4)) (Int32.toNatClampNeg a5)))))
set_option maxRecDepth 10000 in
theorem jX2_move (G : js_G) (a1 : Int32) (a2 : Int32) (a3 : Int32) (a4 : Int32) (a5 : Int32) (σ : js_S) : js_J G shC mX2_move js_eV 0 [some (.ref 18), some (.int a1), some (.int a2), some (.int a3), some (.int a4), some (.int a5)] [] σ (fX2_move a1 a2 a3 a4 a5 σ) := by
  unfold fX2_move
  refine js_aload_n dX2_move_0 rfl rfl ?_
  refine js_iload_n dX2_move_1 rfl rfl ?_
  refine js_iload_n dX2_move_2 rfl rfl ?_
  refine js_iload dX2_move_3 rfl ?_
  refine js_callV_I (mj := mX2_hasRange) [(.int a1), (.int a2), (.int a5)] [] dX2_move_5 tw_715 cm_X2_hasRange cv_X2_hasRange rfl rfl rfl rfl rfl rfl (fun r h => qX2_hasRange G a1 a2 a5 σ r h) (fun r1 => ?_)
  refine js_if_eq 23 dX2_move_8 rfl ?_ ?_
  · exact js_vret dX2_move_23 rfl rfl
  · refine js_aload_n dX2_move_11 rfl rfl ?_
    refine js_iload_n dX2_move_12 rfl rfl ?_
    refine js_iload dX2_move_13 rfl ?_
    refine js_iload dX2_move_15 rfl ?_
    refine js_callV_I (mj := mX2_hasRange) [(.int a3), (.int a4), (.int a5)] [] dX2_move_17 tw_715 cm_X2_hasRange cv_X2_hasRange rfl rfl rfl rfl rfl rfl (fun r h => qX2_hasRange G a3 a4 a5 σ r h) (fun r2 => ?_)
    refine js_if_ne 24 dX2_move_20 rfl ?_ ?_
    · refine js_aload_n dX2_move_24 rfl rfl ?_
      refine js_getR dX2_move_25 fl_X2_16 rfl rfl ?_
      refine js_iload_n dX2_move_28 rfl rfl ?_
      refine js_bipush dX2_move_29 kb_40 ?_
      refine js_imul dX2_move_31 ?_
      refine js_iload_n dX2_move_32 rfl rfl ?_
      refine js_iadd dX2_move_33 ?_
      refine js_aload_n dX2_move_34 rfl rfl ?_
      refine js_getR dX2_move_35 fl_X2_16 rfl rfl ?_
      refine js_iload_n dX2_move_38 rfl rfl ?_
      refine js_bipush dX2_move_39 kb_40 ?_
      refine js_imul dX2_move_41 ?_
      refine js_iload dX2_move_42 rfl ?_
      refine js_iadd dX2_move_44 ?_
      refine js_iload dX2_move_45 rfl ?_
      refine js_copyL dX2_move_47 ⟨tw_737, tw_739, tw_738, tw_16⟩ rfl rfl rfl rfl ?_
      exact js_vret dX2_move_50 rfl rfl
    · exact js_vret dX2_move_23 rfl rfl

theorem qX2_move (G : js_G) (a1 : Int32) (a2 : Int32) (a3 : Int32) (a4 : Int32) (a5 : Int32) (σ : js_S) (r : js_S) (h : fX2_move a1 a2 a3 a4 a5 σ = some r) : js_Con G shC mX2_move [(.ref 18), (.int a1), (.int a2), (.int a3), (.int a4), (.int a5)] σ (js_eV r) := js_con (mi := mX2_move) 0 pn_X2 rfl (Nat.le_of_ble_eq_true rfl) (jX2_move G a1 a2 a3 a4 a5 σ) r h
def fX7_copy (a1 : Int32) (a2 : Int32) (a3 : Int32) (a4 : Int32) (a5 : Int32) (σ : js_S) : Option (Int32 × js_S) := (if (fX2_isSheet a1) = 0 then (fX7_found (-1000000001 : Int32) σ).bind fun r1 => some (r1.1, r1.2) else (if (fX2_isSheet a3) = 0 then (fX7_found (-1000000001 : Int32) σ).bind fun r14 => some (r14.1, r14.2) else (fX2_isMissing a1 σ).bind fun r2 => (if r2 = 0 then (fX2_isMissing a3 σ).bind fun r4 => (if r4 = 0 then (fX2_width a1 σ).bind fun r5 => (fX2_width a3 σ).bind fun r6 => (if r5 = r6 then (fX2_hasRange a1 a2 a5 σ).bind fun r7 => (if r7 = 0 then (fX7_found (-1000000001 : Int32) σ).bind fun r8 => some (r8.1, r8.2) else (fX2_hasRange a3 a4 a5 σ).bind fun r9 => (if r9 = 0 then (fX7_found (-1000000001 : Int32) σ).bind fun r11 => some (r11.1, r11.2) else (fX2_move a1 a2 a3 a4 a5 σ).bind fun r10 => some (a5, r10))) else (fX7_found (-1000000003 : Int32) σ).bind fun r12 => some (r12.1, r12.2)) else (fX7_found (-1000000006 : Int32) σ).bind fun r13 => some (r13.1, r13.2)) else (fX7_found (-1000000006 : Int32) σ).bind fun r3 => some (r3.1, r3.2))))
set_option maxRecDepth 10000 in
theorem jX7_copy (G : js_G) (a1 : Int32) (a2 : Int32) (a3 : Int32) (a4 : Int32) (a5 : Int32) (σ : js_S) : js_J G shC mX7_copy js_eW 0 [some (.ref 0), some (.int a1), some (.int a2), some (.int a3), some (.int a4), some (.int a5)] [] σ (fX7_copy a1 a2 a3 a4 a5 σ) := by
  unfold fX7_copy
  refine js_iload_n dX7_copy_0 rfl rfl ?_
  refine js_callS_P (mj := mX2_isSheet) [(.int a1)] [] dX7_copy_1 tw_678 cm_X2_isSheet tw_679 rfl rfl rfl rfl (qX2_isSheet G a1 σ) ?_
  refine js_if_eq 14 dX7_copy_4 rfl ?_ ?_
  · refine js_aload_n dX7_copy_14 rfl rfl ?_
    refine js_ldc dX7_copy_15 tw_217 ?_
    refine js_callV_W (mj := mX7_found) [(.int (-1000000001 : Int32))] [] dX7_copy_17 tw_218 cm_X7_found cv_X7_found rfl rfl rfl rfl rfl rfl (fun r h => qX7_found G (-1000000001 : Int32) σ r h) (fun r1 => ?_)
    exact js_iret dX7_copy_20 rfl rfl
  · refine js_iload_n dX7_copy_7 rfl rfl ?_
    refine js_callS_P (mj := mX2_isSheet) [(.int a3)] [] dX7_copy_8 tw_678 cm_X2_isSheet tw_679 rfl rfl rfl rfl (qX2_isSheet G a3 σ) ?_
    refine js_if_ne 21 dX7_copy_11 rfl ?_ ?_
    · refine js_aload_n dX7_copy_21 rfl rfl ?_
      refine js_getR dX7_copy_22 fl_X7_54 rfl rfl ?_
      refine js_iload_n dX7_copy_25 rfl rfl ?_
      refine js_callV_I (mj := mX2_isMissing) [(.int a1)] [] dX7_copy_26 tw_698 cm_X2_isMissing cv_X2_isMissing rfl rfl rfl rfl rfl rfl (fun r h => qX2_isMissing G a1 σ r h) (fun r2 => ?_)
      refine js_if_ne 43 dX7_copy_29 rfl ?_ ?_
      · refine js_aload_n dX7_copy_43 rfl rfl ?_
        refine js_ldcw dX7_copy_44 tw_706 ?_
        refine js_callV_W (mj := mX7_found) [(.int (-1000000006 : Int32))] [] dX7_copy_47 tw_218 cm_X7_found cv_X7_found rfl rfl rfl rfl rfl rfl (fun r h => qX7_found G (-1000000006 : Int32) σ r h) (fun r3 => ?_)
        exact js_iret dX7_copy_50 rfl rfl
      · refine js_aload_n dX7_copy_32 rfl rfl ?_
        refine js_getR dX7_copy_33 fl_X7_54 rfl rfl ?_
        refine js_iload_n dX7_copy_36 rfl rfl ?_
        refine js_callV_I (mj := mX2_isMissing) [(.int a3)] [] dX7_copy_37 tw_698 cm_X2_isMissing cv_X2_isMissing rfl rfl rfl rfl rfl rfl (fun r h => qX2_isMissing G a3 σ r h) (fun r4 => ?_)
        refine js_if_eq 51 dX7_copy_40 rfl ?_ ?_
        · refine js_aload_n dX7_copy_51 rfl rfl ?_
          refine js_getR dX7_copy_52 fl_X7_54 rfl rfl ?_
          refine js_iload_n dX7_copy_55 rfl rfl ?_
          refine js_callV_I (mj := mX2_width) [(.int a1)] [] dX7_copy_56 tw_731 cm_X2_width cv_X2_width rfl rfl rfl rfl rfl rfl (fun r h => qX2_width G a1 σ r h) (fun r5 => ?_)
          refine js_aload_n dX7_copy_59 rfl rfl ?_
          refine js_getR dX7_copy_60 fl_X7_54 rfl rfl ?_
          refine js_iload_n dX7_copy_63 rfl rfl ?_
          refine js_callV_I (mj := mX2_width) [(.int a3)] [(.int r5)] dX7_copy_64 tw_731 cm_X2_width cv_X2_width rfl rfl rfl rfl rfl rfl (fun r h => qX2_width G a3 σ r h) (fun r6 => ?_)
          refine js_icmp_eq 77 dX7_copy_67 rfl ?_ ?_
          · refine js_aload_n dX7_copy_77 rfl rfl ?_
            refine js_getR dX7_copy_78 fl_X7_54 rfl rfl ?_
            refine js_iload_n dX7_copy_81 rfl rfl ?_
            refine js_iload_n dX7_copy_82 rfl rfl ?_
            refine js_iload dX7_copy_83 rfl ?_
            refine js_callV_I (mj := mX2_hasRange) [(.int a1), (.int a2), (.int a5)] [] dX7_copy_85 tw_732 cm_X2_hasRange cv_X2_hasRange rfl rfl rfl rfl rfl rfl (fun r h => qX2_hasRange G a1 a2 a5 σ r h) (fun r7 => ?_)
            refine js_if_eq 106 dX7_copy_88 rfl ?_ ?_
            · refine js_aload_n dX7_copy_106 rfl rfl ?_
              refine js_ldc dX7_copy_107 tw_217 ?_
              refine js_callV_W (mj := mX7_found) [(.int (-1000000001 : Int32))] [] dX7_copy_109 tw_218 cm_X7_found cv_X7_found rfl rfl rfl rfl rfl rfl (fun r h => qX7_found G (-1000000001 : Int32) σ r h) (fun r8 => ?_)
              exact js_iret dX7_copy_112 rfl rfl
            · refine js_aload_n dX7_copy_91 rfl rfl ?_
              refine js_getR dX7_copy_92 fl_X7_54 rfl rfl ?_
              refine js_iload_n dX7_copy_95 rfl rfl ?_
              refine js_iload dX7_copy_96 rfl ?_
              refine js_iload dX7_copy_98 rfl ?_
              refine js_callV_I (mj := mX2_hasRange) [(.int a3), (.int a4), (.int a5)] [] dX7_copy_100 tw_732 cm_X2_hasRange cv_X2_hasRange rfl rfl rfl rfl rfl rfl (fun r h => qX2_hasRange G a3 a4 a5 σ r h) (fun r9 => ?_)
              refine js_if_ne 113 dX7_copy_103 rfl ?_ ?_
              · refine js_aload_n dX7_copy_113 rfl rfl ?_
                refine js_getR dX7_copy_114 fl_X7_54 rfl rfl ?_
                refine js_iload_n dX7_copy_117 rfl rfl ?_
                refine js_iload_n dX7_copy_118 rfl rfl ?_
                refine js_iload_n dX7_copy_119 rfl rfl ?_
                refine js_iload dX7_copy_120 rfl ?_
                refine js_iload dX7_copy_122 rfl ?_
                refine js_callV_V (mj := mX2_move) [(.int a1), (.int a2), (.int a3), (.int a4), (.int a5)] [] dX7_copy_124 tw_733 cm_X2_move cv_X2_move rfl rfl rfl rfl rfl rfl (fun r h => qX2_move G a1 a2 a3 a4 a5 σ r h) (fun r10 => ?_)
                refine js_iload dX7_copy_127 rfl ?_
                exact js_iret dX7_copy_129 rfl rfl
              · refine js_aload_n dX7_copy_106 rfl rfl ?_
                refine js_ldc dX7_copy_107 tw_217 ?_
                refine js_callV_W (mj := mX7_found) [(.int (-1000000001 : Int32))] [] dX7_copy_109 tw_218 cm_X7_found cv_X7_found rfl rfl rfl rfl rfl rfl (fun r h => qX7_found G (-1000000001 : Int32) σ r h) (fun r11 => ?_)
                exact js_iret dX7_copy_112 rfl rfl
          · refine js_aload_n dX7_copy_70 rfl rfl ?_
            refine js_ldc dX7_copy_71 tw_322 ?_
            refine js_callV_W (mj := mX7_found) [(.int (-1000000003 : Int32))] [] dX7_copy_73 tw_218 cm_X7_found cv_X7_found rfl rfl rfl rfl rfl rfl (fun r h => qX7_found G (-1000000003 : Int32) σ r h) (fun r12 => ?_)
            exact js_iret dX7_copy_76 rfl rfl
        · refine js_aload_n dX7_copy_43 rfl rfl ?_
          refine js_ldcw dX7_copy_44 tw_706 ?_
          refine js_callV_W (mj := mX7_found) [(.int (-1000000006 : Int32))] [] dX7_copy_47 tw_218 cm_X7_found cv_X7_found rfl rfl rfl rfl rfl rfl (fun r h => qX7_found G (-1000000006 : Int32) σ r h) (fun r13 => ?_)
          exact js_iret dX7_copy_50 rfl rfl
    · refine js_aload_n dX7_copy_14 rfl rfl ?_
      refine js_ldc dX7_copy_15 tw_217 ?_
      refine js_callV_W (mj := mX7_found) [(.int (-1000000001 : Int32))] [] dX7_copy_17 tw_218 cm_X7_found cv_X7_found rfl rfl rfl rfl rfl rfl (fun r h => qX7_found G (-1000000001 : Int32) σ r h) (fun r14 => ?_)
      exact js_iret dX7_copy_20 rfl rfl

theorem qX7_copy (G : js_G) (a1 : Int32) (a2 : Int32) (a3 : Int32) (a4 : Int32) (a5 : Int32) (σ : js_S) (r : (Int32 × js_S)) (h : fX7_copy a1 a2 a3 a4 a5 σ = some r) : js_Con G shC mX7_copy [(.ref 0), (.int a1), (.int a2), (.int a3), (.int a4), (.int a5)] σ (js_eW r) := js_con (mi := mX7_copy) 0 pn_X7 rfl (Nat.le_of_ble_eq_true rfl) (jX7_copy G a1 a2 a3 a4 a5 σ) r h
def fX7_sheetAndFlueFinding (a1 : Int32) (a2 : Int32) (σ : js_S) : Option (Int32 × js_S) := (fX7_sheetFinding a1 σ).bind fun r1 => (if r1.1 = 0 then (fX3_hasFlue a2 r1.2).bind fun r2 => (if r2 = 0 then (fX7_found (-1000000001 : Int32) r1.2).bind fun r3 => some (r3.1, r3.2) else some ((0 : Int32), r1.2)) else some (r1.1, r1.2))
set_option maxRecDepth 10000 in
theorem jX7_sheetAndFlueFinding (G : js_G) (a1 : Int32) (a2 : Int32) (σ : js_S) : js_J G shC mX7_sheetAndFlueFinding js_eW 0 [some (.ref 0), some (.int a1), some (.int a2), none] [] σ (fX7_sheetAndFlueFinding a1 a2 σ) := by
  unfold fX7_sheetAndFlueFinding
  refine js_aload_n dX7_sheetAndFlueFinding_0 rfl rfl ?_
  refine js_iload_n dX7_sheetAndFlueFinding_1 rfl rfl ?_
  refine js_callV_W (mj := mX7_sheetFinding) [(.int a1)] [] dX7_sheetAndFlueFinding_2 tw_694 cm_X7_sheetFinding cv_X7_sheetFinding rfl rfl rfl rfl rfl rfl (fun r h => qX7_sheetFinding G a1 σ r h) (fun r1 => ?_)
  refine js_istore_n (lv' := [some (.ref 0), some (.int a1), some (.int a2), some (.int r1.1)]) dX7_sheetAndFlueFinding_5 rfl rfl rfl rfl ?_
  refine js_iload_n dX7_sheetAndFlueFinding_6 rfl rfl ?_
  refine js_if_eq 12 dX7_sheetAndFlueFinding_7 rfl ?_ ?_
  · refine js_aload_n dX7_sheetAndFlueFinding_12 rfl rfl ?_
    refine js_getR dX7_sheetAndFlueFinding_13 fl_X7_10 rfl rfl ?_
    refine js_iload_n dX7_sheetAndFlueFinding_16 rfl rfl ?_
    refine js_callV_I (mj := mX3_hasFlue) [(.int a2)] [] dX7_sheetAndFlueFinding_17 tw_231 cm_X3_hasFlue cv_X3_hasFlue rfl rfl rfl rfl rfl rfl (fun r h => qX3_hasFlue G a2 r1.2 r h) (fun r2 => ?_)
    refine js_if_eq 27 dX7_sheetAndFlueFinding_20 rfl ?_ ?_
    · refine js_aload_n dX7_sheetAndFlueFinding_27 rfl rfl ?_
      refine js_ldc dX7_sheetAndFlueFinding_28 tw_217 ?_
      refine js_callV_W (mj := mX7_found) [(.int (-1000000001 : Int32))] [] dX7_sheetAndFlueFinding_30 tw_218 cm_X7_found cv_X7_found rfl rfl rfl rfl rfl rfl (fun r h => qX7_found G (-1000000001 : Int32) r1.2 r h) (fun r3 => ?_)
      exact js_iret dX7_sheetAndFlueFinding_33 rfl rfl
    · refine js_iconst dX7_sheetAndFlueFinding_23 ki_0 ?_
      refine js_goto 33 dX7_sheetAndFlueFinding_24 rfl ?_
      exact js_iret dX7_sheetAndFlueFinding_33 rfl rfl
  · refine js_iload_n dX7_sheetAndFlueFinding_10 rfl rfl ?_
    exact js_iret dX7_sheetAndFlueFinding_11 rfl rfl

theorem qX7_sheetAndFlueFinding (G : js_G) (a1 : Int32) (a2 : Int32) (σ : js_S) (r : (Int32 × js_S)) (h : fX7_sheetAndFlueFinding a1 a2 σ = some r) : js_Con G shC mX7_sheetAndFlueFinding [(.ref 0), (.int a1), (.int a2)] σ (js_eW r) := js_con (mi := mX7_sheetAndFlueFinding) 1 pn_X7 rfl (Nat.le_of_ble_eq_true rfl) (jX7_sheetAndFlueFinding G a1 a2 σ) r h
def fX7_lays_L19 (p1 : Int32) (p2 : Int32) : Nat → Int32 → Int32 → js_S → Option (Int32 × js_S)
  | 0, _, _, _ => none
  | n + 1, v4, v5, σ => (fX2_length p1 σ).bind fun r2 => (if r2 ≤ v5 then some (v4, σ) else (fX2_number p1 v5 σ).bind fun r3 => (if (lg_cmp r3 (0 : Int64)) < 0 then fX7_lays_L19 p1 p2 n v4 (v5 + (1 : Int32)) σ else (if (lg_cmp r3 (16 : Int64)) < 0 then (fX3_speak p2 (Int64.toInt32 r3) (5 : Int32) σ).bind fun r4 => (if r4.1 = (-1 : Int32) then fX7_lays_L19 p1 p2 n v4 (v5 + (1 : Int32)) r4.2 else fX7_lays_L19 p1 p2 n (v4 + (1 : Int32)) (v5 + (1 : Int32)) r4.2) else fX7_lays_L19 p1 p2 n v4 (v5 + (1 : Int32)) σ)))
set_option maxRecDepth 10000 in
theorem jX7_lays_L19 (G : js_G) (p1 : Int32) (p2 : Int32) : ∀ (n : Nat) (v4 : Int32) (v5 : Int32) (σ : js_S), js_J G shC mX7_lays js_eW 19 [some (.ref 0), some (.int p1), some (.int p2), none, some (.int v4), some (.int v5), none, none] [] σ (fX7_lays_L19 p1 p2 n v4 v5 σ) := by
  intro n
  induction n with
  | zero =>
    intros
    exact js_none
  | succ n ih1 =>
    intro v4 v5 σ
    rw [fX7_lays_L19]
    refine js_iload dX7_lays_19 rfl ?_
    refine js_aload_n dX7_lays_21 rfl rfl ?_
    refine js_getR dX7_lays_22 fl_X7_54 rfl rfl ?_
    refine js_iload_n dX7_lays_25 rfl rfl ?_
    refine js_callV_I (mj := mX2_length) [(.int p1)] [(.int v5)] dX7_lays_26 tw_707 cm_X2_length cv_X2_length rfl rfl rfl rfl rfl rfl (fun r h => qX2_length G p1 σ r h) (fun r2 => ?_)
    refine js_icmp_ge 88 dX7_lays_29 rfl ?_ ?_
    · refine js_iload dX7_lays_88 rfl ?_
      exact js_iret dX7_lays_90 rfl rfl
    · refine js_aload_n dX7_lays_32 rfl rfl ?_
      refine js_getR dX7_lays_33 fl_X7_54 rfl rfl ?_
      refine js_iload_n dX7_lays_36 rfl rfl ?_
      refine js_iload dX7_lays_37 rfl ?_
      refine js_callV_L (mj := mX2_number) [(.int p1), (.int v5)] [] dX7_lays_39 tw_711 cm_X2_number cv_X2_number rfl rfl rfl rfl rfl rfl (fun r h => qX2_number G p1 v5 σ r h) (fun r3 => ?_)
      refine js_lstore (lv' := [some (.ref 0), some (.int p1), some (.int p2), none, some (.int v4), some (.int v5), some (.long r3), none]) dX7_lays_42 rfl rfl rfl ?_
      refine js_lload dX7_lays_44 rfl ?_
      refine js_lconst dX7_lays_46 kl_0 ?_
      refine js_lcmp dX7_lays_47 ?_
      refine js_if_lt 82 dX7_lays_48 rfl ?_ ?_
      · refine js_iinc (v := (v5 + (1 : Int32))) (lv' := [some (.ref 0), some (.int p1), some (.int p2), none, some (.int v4), some (.int (v5 + (1 : Int32))), some (.long r3), none]) dX7_lays_82 rfl (kx_1 _) rfl rfl rfl ?_
        refine js_goto 19 dX7_lays_85 rfl ?_
        refine js_drop [true, true, true, false, true, true, false, false] (lv2 := [some (.ref 0), some (.int p1), some (.int p2), none, some (.int v4), some (.int (v5 + (1 : Int32))), none, none]) rfl ?_
        exact ih1 v4 (v5 + (1 : Int32)) σ
      · refine js_lload dX7_lays_51 rfl ?_
        refine js_ldc2 dX7_lays_53 tw_748 ?_
        refine js_lcmp dX7_lays_56 ?_
        refine js_if_lt 63 dX7_lays_57 rfl ?_ ?_
        · refine js_aload_n dX7_lays_63 rfl rfl ?_
          refine js_getR dX7_lays_64 fl_X7_10 rfl rfl ?_
          refine js_iload_n dX7_lays_67 rfl rfl ?_
          refine js_lload dX7_lays_68 rfl ?_
          refine js_l2i dX7_lays_70 ?_
          refine js_iconst dX7_lays_71 ki_5 ?_
          refine js_callV_W (mj := mX3_speak) [(.int p2), (.int (Int64.toInt32 r3)), (.int (5 : Int32))] [] dX7_lays_72 tw_347 cm_X3_speak cv_X3_speak rfl rfl rfl rfl rfl rfl (fun r h => qX3_speak G p2 (Int64.toInt32 r3) (5 : Int32) σ r h) (fun r4 => ?_)
          refine js_iconst dX7_lays_75 ki_m1 ?_
          refine js_icmp_eq 82 dX7_lays_76 rfl ?_ ?_
          · refine js_iinc (v := (v5 + (1 : Int32))) (lv' := [some (.ref 0), some (.int p1), some (.int p2), none, some (.int v4), some (.int (v5 + (1 : Int32))), some (.long r3), none]) dX7_lays_82 rfl (kx_1 _) rfl rfl rfl ?_
            refine js_goto 19 dX7_lays_85 rfl ?_
            refine js_drop [true, true, true, false, true, true, false, false] (lv2 := [some (.ref 0), some (.int p1), some (.int p2), none, some (.int v4), some (.int (v5 + (1 : Int32))), none, none]) rfl ?_
            exact ih1 v4 (v5 + (1 : Int32)) r4.2
          · refine js_iinc (v := (v4 + (1 : Int32))) (lv' := [some (.ref 0), some (.int p1), some (.int p2), none, some (.int (v4 + (1 : Int32))), some (.int v5), some (.long r3), none]) dX7_lays_79 rfl (kx_1 _) rfl rfl rfl ?_
            refine js_iinc (v := (v5 + (1 : Int32))) (lv' := [some (.ref 0), some (.int p1), some (.int p2), none, some (.int (v4 + (1 : Int32))), some (.int (v5 + (1 : Int32))), some (.long r3), none]) dX7_lays_82 rfl (kx_1 _) rfl rfl rfl ?_
            refine js_goto 19 dX7_lays_85 rfl ?_
            refine js_drop [true, true, true, false, true, true, false, false] (lv2 := [some (.ref 0), some (.int p1), some (.int p2), none, some (.int (v4 + (1 : Int32))), some (.int (v5 + (1 : Int32))), none, none]) rfl ?_
            exact ih1 (v4 + (1 : Int32)) (v5 + (1 : Int32)) r4.2
        · refine js_goto 82 dX7_lays_60 rfl ?_
          refine js_iinc (v := (v5 + (1 : Int32))) (lv' := [some (.ref 0), some (.int p1), some (.int p2), none, some (.int v4), some (.int (v5 + (1 : Int32))), some (.long r3), none]) dX7_lays_82 rfl (kx_1 _) rfl rfl rfl ?_
          refine js_goto 19 dX7_lays_85 rfl ?_
          refine js_drop [true, true, true, false, true, true, false, false] (lv2 := [some (.ref 0), some (.int p1), some (.int p2), none, some (.int v4), some (.int (v5 + (1 : Int32))), none, none]) rfl ?_
          exact ih1 v4 (v5 + (1 : Int32)) σ

def fX7_lays (a1 : Int32) (a2 : Int32) (σ : js_S) : Option (Int32 × js_S) := (fX7_sheetAndFlueFinding a1 a2 σ).bind fun r1 => (if r1.1 = 0 then fX7_lays_L19 a1 a2 js_FU (0 : Int32) (0 : Int32) r1.2 else some (r1.1, r1.2))
set_option maxRecDepth 10000 in
theorem jX7_lays (G : js_G) (a1 : Int32) (a2 : Int32) (σ : js_S) : js_J G shC mX7_lays js_eW 0 [some (.ref 0), some (.int a1), some (.int a2), none, none, none, none, none] [] σ (fX7_lays a1 a2 σ) := by
  unfold fX7_lays
  refine js_aload_n dX7_lays_0 rfl rfl ?_
  refine js_iload_n dX7_lays_1 rfl rfl ?_
  refine js_iload_n dX7_lays_2 rfl rfl ?_
  refine js_callV_W (mj := mX7_sheetAndFlueFinding) [(.int a1), (.int a2)] [] dX7_lays_3 tw_744 cm_X7_sheetAndFlueFinding cv_X7_sheetAndFlueFinding rfl rfl rfl rfl rfl rfl (fun r h => qX7_sheetAndFlueFinding G a1 a2 σ r h) (fun r1 => ?_)
  refine js_istore_n (lv' := [some (.ref 0), some (.int a1), some (.int a2), some (.int r1.1), none, none, none, none]) dX7_lays_6 rfl rfl rfl rfl ?_
  refine js_iload_n dX7_lays_7 rfl rfl ?_
  refine js_if_eq 13 dX7_lays_8 rfl ?_ ?_
  · refine js_iconst dX7_lays_13 ki_0 ?_
    refine js_istore (lv' := [some (.ref 0), some (.int a1), some (.int a2), some (.int r1.1), some (.int (0 : Int32)), none, none, none]) dX7_lays_14 rfl rfl rfl ?_
    refine js_iconst dX7_lays_16 ki_0 ?_
    refine js_istore (lv' := [some (.ref 0), some (.int a1), some (.int a2), some (.int r1.1), some (.int (0 : Int32)), some (.int (0 : Int32)), none, none]) dX7_lays_17 rfl rfl rfl ?_
    refine js_drop [true, true, true, false, true, true, false, false] (lv2 := [some (.ref 0), some (.int a1), some (.int a2), none, some (.int (0 : Int32)), some (.int (0 : Int32)), none, none]) rfl ?_
    exact jX7_lays_L19 G a1 a2  _ (0 : Int32) (0 : Int32) r1.2
  · refine js_iload_n dX7_lays_11 rfl rfl ?_
    exact js_iret dX7_lays_12 rfl rfl

theorem qX7_lays (G : js_G) (a1 : Int32) (a2 : Int32) (σ : js_S) (r : (Int32 × js_S)) (h : fX7_lays a1 a2 σ = some r) : js_Con G shC mX7_lays [(.ref 0), (.int a1), (.int a2)] σ (js_eW r) := js_con (mi := mX7_lays) 5 pn_X7 rfl (Nat.le_of_ble_eq_true rfl) (jX7_lays G a1 a2 σ) r h
def fX7_book_L33 (p1 : Int32) : Nat → Int32 → js_S → Option (Int32 × js_S)
  | 0, _, _ => none
  | n + 1, v4, σ => (fX2_length p1 σ).bind fun r3 => (if r3 ≤ v4 then some ((σ.1 11 0), σ) else (if (σ.1 11 0) ≤ v4 then (fX2_put p1 v4 (-1 : Int64) σ).bind fun r4 => fX7_book_L33 p1 n (v4 + (1 : Int32)) r4 else (fX0_word v4 σ).bind fun r5 => (fX2_put p1 v4 (Int32.toInt64 r5) σ).bind fun r6 => fX7_book_L33 p1 n (v4 + (1 : Int32)) r6))
set_option maxRecDepth 10000 in
theorem jX7_book_L33 (G : js_G) (p1 : Int32) : ∀ (n : Nat) (v4 : Int32) (σ : js_S), js_J G shC mX7_book js_eW 33 [some (.ref 0), some (.int p1), none, none, some (.int v4)] [] σ (fX7_book_L33 p1 n v4 σ) := by
  intro n
  induction n with
  | zero =>
    intros
    exact js_none
  | succ n ih1 =>
    intro v4 σ
    rw [fX7_book_L33]
    refine js_iload dX7_book_33 rfl ?_
    refine js_aload_n dX7_book_35 rfl rfl ?_
    refine js_getR dX7_book_36 fl_X7_54 rfl rfl ?_
    refine js_iload_n dX7_book_39 rfl rfl ?_
    refine js_callV_I (mj := mX2_length) [(.int p1)] [(.int v4)] dX7_book_40 tw_707 cm_X2_length cv_X2_length rfl rfl rfl rfl rfl rfl (fun r h => qX2_length G p1 σ r h) (fun r3 => ?_)
    refine js_icmp_ge 90 dX7_book_43 rfl ?_ ?_
    · refine js_aload_n dX7_book_90 rfl rfl ?_
      refine js_getR dX7_book_91 fl_X7_26 rfl rfl ?_
      refine js_getI dX7_book_94 fl_X7_193 rfl rfl ?_
      exact js_iret dX7_book_97 rfl rfl
    · refine js_aload_n dX7_book_46 rfl rfl ?_
      refine js_getR dX7_book_47 fl_X7_54 rfl rfl ?_
      refine js_iload_n dX7_book_50 rfl rfl ?_
      refine js_iload dX7_book_51 rfl ?_
      refine js_iload dX7_book_53 rfl ?_
      refine js_aload_n dX7_book_55 rfl rfl ?_
      refine js_getR dX7_book_56 fl_X7_26 rfl rfl ?_
      refine js_getI dX7_book_59 fl_X7_193 rfl rfl ?_
      refine js_icmp_ge 78 dX7_book_62 rfl ?_ ?_
      · refine js_ldc2 dX7_book_78 tw_753 ?_
        refine js_callV_V (mj := mX2_put) [(.int p1), (.int v4), (.long (-1 : Int64))] [] dX7_book_81 tw_720 cm_X2_put cv_X2_put rfl rfl rfl rfl rfl rfl (fun r h => qX2_put G p1 v4 (-1 : Int64) σ r h) (fun r4 => ?_)
        refine js_iinc (v := (v4 + (1 : Int32))) (lv' := [some (.ref 0), some (.int p1), none, none, some (.int (v4 + (1 : Int32)))]) dX7_book_84 rfl (kx_1 _) rfl rfl rfl ?_
        refine js_goto 33 dX7_book_87 rfl ?_
        exact ih1 (v4 + (1 : Int32)) r4
      · refine js_aload_n dX7_book_65 rfl rfl ?_
        refine js_getR dX7_book_66 fl_X7_26 rfl rfl ?_
        refine js_iload dX7_book_69 rfl ?_
        refine js_callV_I (mj := mX0_word) [(.int v4)] [(.int v4), (.int p1), (.ref 18)] dX7_book_71 tw_444 cm_X0_word cv_X0_word rfl rfl rfl rfl rfl rfl (fun r h => qX0_word G v4 σ r h) (fun r5 => ?_)
        refine js_i2l dX7_book_74 ?_
        refine js_goto 81 dX7_book_75 rfl ?_
        refine js_callV_V (mj := mX2_put) [(.int p1), (.int v4), (.long (Int32.toInt64 r5))] [] dX7_book_81 tw_720 cm_X2_put cv_X2_put rfl rfl rfl rfl rfl rfl (fun r h => qX2_put G p1 v4 (Int32.toInt64 r5) σ r h) (fun r6 => ?_)
        refine js_iinc (v := (v4 + (1 : Int32))) (lv' := [some (.ref 0), some (.int p1), none, none, some (.int (v4 + (1 : Int32)))]) dX7_book_84 rfl (kx_1 _) rfl rfl rfl ?_
        refine js_goto 33 dX7_book_87 rfl ?_
        exact ih1 (v4 + (1 : Int32)) r6

def fX7_book (a1 : Int32) (a2 : Int32) (σ : js_S) : Option (Int32 × js_S) := (fX7_sheetAndFlueFinding a1 a2 σ).bind fun r1 => (if r1.1 = 0 then (fX0_putUp a2 (7 : Int32) (9 : Int32) (0 : Int32) r1.2).bind fun r2 => fX7_book_L33 a1 js_FU (0 : Int32) r2 else some (r1.1, r1.2))
set_option maxRecDepth 10000 in
theorem jX7_book (G : js_G) (a1 : Int32) (a2 : Int32) (σ : js_S) : js_J G shC mX7_book js_eW 0 [some (.ref 0), some (.int a1), some (.int a2), none, none] [] σ (fX7_book a1 a2 σ) := by
  unfold fX7_book
  refine js_aload_n dX7_book_0 rfl rfl ?_
  refine js_iload_n dX7_book_1 rfl rfl ?_
  refine js_iload_n dX7_book_2 rfl rfl ?_
  refine js_callV_W (mj := mX7_sheetAndFlueFinding) [(.int a1), (.int a2)] [] dX7_book_3 tw_744 cm_X7_sheetAndFlueFinding cv_X7_sheetAndFlueFinding rfl rfl rfl rfl rfl rfl (fun r h => qX7_sheetAndFlueFinding G a1 a2 σ r h) (fun r1 => ?_)
  refine js_istore_n (lv' := [some (.ref 0), some (.int a1), some (.int a2), some (.int r1.1), none]) dX7_book_6 rfl rfl rfl rfl ?_
  refine js_iload_n dX7_book_7 rfl rfl ?_
  refine js_if_eq 13 dX7_book_8 rfl ?_ ?_
  · refine js_aload_n dX7_book_13 rfl rfl ?_
    refine js_getR dX7_book_14 fl_X7_26 rfl rfl ?_
    refine js_aload_n dX7_book_17 rfl rfl ?_
    refine js_getR dX7_book_18 fl_X7_10 rfl rfl ?_
    refine js_iload_n dX7_book_21 rfl rfl ?_
    refine js_bipush dX7_book_22 kb_7 ?_
    refine js_bipush dX7_book_24 kb_9 ?_
    refine js_iconst dX7_book_26 ki_0 ?_
    refine js_callV_V (mj := mX0_putUp) [(.ref 1), (.int a2), (.int (7 : Int32)), (.int (9 : Int32)), (.int (0 : Int32))] [] dX7_book_27 tw_428 cm_X0_putUp cv_X0_putUp rfl rfl rfl rfl rfl rfl (fun r h => qX0_putUp G a2 (7 : Int32) (9 : Int32) (0 : Int32) r1.2 r h) (fun r2 => ?_)
    refine js_iconst dX7_book_30 ki_0 ?_
    refine js_istore (lv' := [some (.ref 0), some (.int a1), some (.int a2), some (.int r1.1), some (.int (0 : Int32))]) dX7_book_31 rfl rfl rfl ?_
    refine js_drop [true, true, false, false, true] (lv2 := [some (.ref 0), some (.int a1), none, none, some (.int (0 : Int32))]) rfl ?_
    exact jX7_book_L33 G a1  _ (0 : Int32) r2
  · refine js_iload_n dX7_book_11 rfl rfl ?_
    exact js_iret dX7_book_12 rfl rfl

theorem qX7_book (G : js_G) (a1 : Int32) (a2 : Int32) (σ : js_S) (r : (Int32 × js_S)) (h : fX7_book a1 a2 σ = some r) : js_Con G shC mX7_book [(.ref 0), (.int a1), (.int a2)] σ (js_eW r) := js_con (mi := mX7_book) 2 pn_X7 rfl (Nat.le_of_ble_eq_true rfl) (jX7_book G a1 a2 σ) r h
def fX7_isJustBrought_L22 (p1 : Int32) (σ : js_S) : Nat → Int32 → Option Int32
  | 0, _ => none
  | n + 1, v2 => (if (σ.1 11 0) ≤ v2 then some (1 : Int32) else (fX2_number p1 v2 σ).bind fun r2 => (fX0_word v2 σ).bind fun r3 => (if (lg_cmp r2 (Int32.toInt64 r3)) = 0 then fX7_isJustBrought_L22 p1 σ n (v2 + (1 : Int32)) else some (0 : Int32)))
set_option maxRecDepth 10000 in
theorem jX7_isJustBrought_L22 (G : js_G) (p1 : Int32) (σ : js_S) : ∀ (n : Nat) (v2 : Int32), js_J G shC mX7_isJustBrought (js_eI σ) 22 [some (.ref 0), some (.int p1), some (.int v2)] [] σ (fX7_isJustBrought_L22 p1 σ n v2) := by
  intro n
  induction n with
  | zero =>
    intros
    exact js_none
  | succ n ih1 =>
    intro v2
    rw [fX7_isJustBrought_L22]
    refine js_iload_n dX7_isJustBrought_22 rfl rfl ?_
    refine js_aload_n dX7_isJustBrought_23 rfl rfl ?_
    refine js_getR dX7_isJustBrought_24 fl_X7_26 rfl rfl ?_
    refine js_getI dX7_isJustBrought_27 fl_X7_193 rfl rfl ?_
    refine js_icmp_ge 63 dX7_isJustBrought_30 rfl ?_ ?_
    · refine js_iconst dX7_isJustBrought_63 ki_1 ?_
      exact js_zret dX7_isJustBrought_64 rfl nb_1.1 rfl
    · refine js_aload_n dX7_isJustBrought_33 rfl rfl ?_
      refine js_getR dX7_isJustBrought_34 fl_X7_54 rfl rfl ?_
      refine js_iload_n dX7_isJustBrought_37 rfl rfl ?_
      refine js_iload_n dX7_isJustBrought_38 rfl rfl ?_
      refine js_callV_L (mj := mX2_number) [(.int p1), (.int v2)] [] dX7_isJustBrought_39 tw_711 cm_X2_number cv_X2_number rfl rfl rfl rfl rfl rfl (fun r h => qX2_number G p1 v2 σ r h) (fun r2 => ?_)
      refine js_aload_n dX7_isJustBrought_42 rfl rfl ?_
      refine js_getR dX7_isJustBrought_43 fl_X7_26 rfl rfl ?_
      refine js_iload_n dX7_isJustBrought_46 rfl rfl ?_
      refine js_callV_I (mj := mX0_word) [(.int v2)] [(.long r2)] dX7_isJustBrought_47 tw_444 cm_X0_word cv_X0_word rfl rfl rfl rfl rfl rfl (fun r h => qX0_word G v2 σ r h) (fun r3 => ?_)
      refine js_i2l dX7_isJustBrought_50 ?_
      refine js_lcmp dX7_isJustBrought_51 ?_
      refine js_if_eq 57 dX7_isJustBrought_52 rfl ?_ ?_
      · refine js_iinc (v := (v2 + (1 : Int32))) (lv' := [some (.ref 0), some (.int p1), some (.int (v2 + (1 : Int32)))]) dX7_isJustBrought_57 rfl (kx_1 _) rfl rfl rfl ?_
        refine js_goto 22 dX7_isJustBrought_60 rfl ?_
        exact ih1 (v2 + (1 : Int32))
      · refine js_iconst dX7_isJustBrought_55 ki_0 ?_
        exact js_zret dX7_isJustBrought_56 rfl nb_0.1 rfl

def fX7_isJustBrought (a1 : Int32) (σ : js_S) : Option Int32 := (fX2_length a1 σ).bind fun r1 => (if r1 = (σ.1 11 0) then fX7_isJustBrought_L22 a1 σ js_FU (0 : Int32) else some (0 : Int32))
set_option maxRecDepth 10000 in
theorem jX7_isJustBrought (G : js_G) (a1 : Int32) (σ : js_S) : js_J G shC mX7_isJustBrought (js_eI σ) 0 [some (.ref 0), some (.int a1), none] [] σ (fX7_isJustBrought a1 σ) := by
  unfold fX7_isJustBrought
  refine js_aload_n dX7_isJustBrought_0 rfl rfl ?_
  refine js_getR dX7_isJustBrought_1 fl_X7_54 rfl rfl ?_
  refine js_iload_n dX7_isJustBrought_4 rfl rfl ?_
  refine js_callV_I (mj := mX2_length) [(.int a1)] [] dX7_isJustBrought_5 tw_707 cm_X2_length cv_X2_length rfl rfl rfl rfl rfl rfl (fun r h => qX2_length G a1 σ r h) (fun r1 => ?_)
  refine js_aload_n dX7_isJustBrought_8 rfl rfl ?_
  refine js_getR dX7_isJustBrought_9 fl_X7_26 rfl rfl ?_
  refine js_getI dX7_isJustBrought_12 fl_X7_193 rfl rfl ?_
  refine js_icmp_eq 20 dX7_isJustBrought_15 rfl ?_ ?_
  · refine js_iconst dX7_isJustBrought_20 ki_0 ?_
    refine js_istore_n (lv' := [some (.ref 0), some (.int a1), some (.int (0 : Int32))]) dX7_isJustBrought_21 rfl rfl rfl rfl ?_
    exact jX7_isJustBrought_L22 G a1 σ  _ (0 : Int32)
  · refine js_iconst dX7_isJustBrought_18 ki_0 ?_
    exact js_zret dX7_isJustBrought_19 rfl nb_0.1 rfl

theorem qX7_isJustBrought (G : js_G) (a1 : Int32) (σ : js_S) (r : Int32) (h : fX7_isJustBrought a1 σ = some r) : js_Con G shC mX7_isJustBrought [(.ref 0), (.int a1)] σ ((js_eI σ) r) := js_con (mi := mX7_isJustBrought) 1 pn_X7 rfl (Nat.le_of_ble_eq_true rfl) (jX7_isJustBrought G a1 σ) r h
def fX7_read_L29 (k70 : Int32 → js_S → Option (Int32 × js_S)) (p1 : Int32) (p2 : Int32) (p5 : Int32) : Nat → Int32 → Int32 → js_S → Option (Int32 × js_S)
  | 0, _, _, _ => none
  | n + 1, v4, v6, σ => (if (9 : Int32) < v6 then k70 v4 σ else (fX0_putUp p2 p5 v6 (0 : Int32) σ).bind fun r2 => (fX7_isJustBrought p1 r2).bind fun r3 => (if r3 = 0 then fX7_read_L29 k70 p1 p2 p5 n v4 (v6 + (1 : Int32)) r2 else fX7_read_L29 k70 p1 p2 p5 n (v4 + (1 : Int32)) (v6 + (1 : Int32)) r2))
set_option maxRecDepth 10000 in
theorem jX7_read_L29 (G : js_G) (k70 : Int32 → js_S → Option (Int32 × js_S)) (p1 : Int32) (p2 : Int32) (p5 : Int32) (hk70 : ∀ (w4 : Int32) (σ : js_S), js_J G shC mX7_read js_eW 70 [some (.ref 0), some (.int p1), some (.int p2), none, some (.int w4), some (.int p5), none] [] σ (k70 w4 σ)) : ∀ (n : Nat) (v4 : Int32) (v6 : Int32) (σ : js_S), js_J G shC mX7_read js_eW 29 [some (.ref 0), some (.int p1), some (.int p2), none, some (.int v4), some (.int p5), some (.int v6)] [] σ (fX7_read_L29 k70 p1 p2 p5 n v4 v6 σ) := by
  intro n
  induction n with
  | zero =>
    intros
    exact js_none
  | succ n ih2 =>
    intro v4 v6 σ
    rw [fX7_read_L29]
    refine js_iload dX7_read_29 rfl ?_
    refine js_bipush dX7_read_31 kb_9 ?_
    refine js_icmp_gt 70 dX7_read_33 rfl ?_ ?_
    · refine js_drop [true, true, true, false, true, true, false] (lv2 := [some (.ref 0), some (.int p1), some (.int p2), none, some (.int v4), some (.int p5), none]) rfl ?_
      exact hk70 v4 σ
    · refine js_aload_n dX7_read_36 rfl rfl ?_
      refine js_getR dX7_read_37 fl_X7_26 rfl rfl ?_
      refine js_aload_n dX7_read_40 rfl rfl ?_
      refine js_getR dX7_read_41 fl_X7_10 rfl rfl ?_
      refine js_iload_n dX7_read_44 rfl rfl ?_
      refine js_iload dX7_read_45 rfl ?_
      refine js_iload dX7_read_47 rfl ?_
      refine js_iconst dX7_read_49 ki_0 ?_
      refine js_callV_V (mj := mX0_putUp) [(.ref 1), (.int p2), (.int p5), (.int v6), (.int (0 : Int32))] [] dX7_read_50 tw_428 cm_X0_putUp cv_X0_putUp rfl rfl rfl rfl rfl rfl (fun r h => qX0_putUp G p2 p5 v6 (0 : Int32) σ r h) (fun r2 => ?_)
      refine js_aload_n dX7_read_53 rfl rfl ?_
      refine js_iload_n dX7_read_54 rfl rfl ?_
      refine js_callV_I (mj := mX7_isJustBrought) [(.int p1)] [] dX7_read_55 tw_758 cm_X7_isJustBrought cv_X7_isJustBrought rfl rfl rfl rfl rfl rfl (fun r h => qX7_isJustBrought G p1 r2 r h) (fun r3 => ?_)
      refine js_if_eq 64 dX7_read_58 rfl ?_ ?_
      · refine js_iinc (v := (v6 + (1 : Int32))) (lv' := [some (.ref 0), some (.int p1), some (.int p2), none, some (.int v4), some (.int p5), some (.int (v6 + (1 : Int32)))]) dX7_read_64 rfl (kx_1 _) rfl rfl rfl ?_
        refine js_goto 29 dX7_read_67 rfl ?_
        exact ih2 v4 (v6 + (1 : Int32)) r2
      · refine js_iinc (v := (v4 + (1 : Int32))) (lv' := [some (.ref 0), some (.int p1), some (.int p2), none, some (.int (v4 + (1 : Int32))), some (.int p5), some (.int v6)]) dX7_read_61 rfl (kx_1 _) rfl rfl rfl ?_
        refine js_iinc (v := (v6 + (1 : Int32))) (lv' := [some (.ref 0), some (.int p1), some (.int p2), none, some (.int (v4 + (1 : Int32))), some (.int p5), some (.int (v6 + (1 : Int32)))]) dX7_read_64 rfl (kx_1 _) rfl rfl rfl ?_
        refine js_goto 29 dX7_read_67 rfl ?_
        exact ih2 (v4 + (1 : Int32)) (v6 + (1 : Int32)) r2

def fX7_read_L19 (p1 : Int32) (p2 : Int32) : Nat → Int32 → Int32 → js_S → Option (Int32 × js_S)
  | 0, _, _, _ => none
  | n + 1, v4, v5, σ => (if (8 : Int32) ≤ v5 then some (v4, σ) else fX7_read_L29 (fun w4 s5 => fX7_read_L19 p1 p2 n w4 (v5 + (1 : Int32)) s5) p1 p2 v5 js_FU v4 (1 : Int32) σ)
set_option maxRecDepth 10000 in
theorem jX7_read_L19 (G : js_G) (p1 : Int32) (p2 : Int32) : ∀ (n : Nat) (v4 : Int32) (v5 : Int32) (σ : js_S), js_J G shC mX7_read js_eW 19 [some (.ref 0), some (.int p1), some (.int p2), none, some (.int v4), some (.int v5), none] [] σ (fX7_read_L19 p1 p2 n v4 v5 σ) := by
  intro n
  induction n with
  | zero =>
    intros
    exact js_none
  | succ n ih1 =>
    intro v4 v5 σ
    rw [fX7_read_L19]
    refine js_iload dX7_read_19 rfl ?_
    refine js_bipush dX7_read_21 kb_8 ?_
    refine js_icmp_ge 76 dX7_read_23 rfl ?_ ?_
    · refine js_iload dX7_read_76 rfl ?_
      exact js_iret dX7_read_78 rfl rfl
    · refine js_iconst dX7_read_26 ki_1 ?_
      refine js_istore (lv' := [some (.ref 0), some (.int p1), some (.int p2), none, some (.int v4), some (.int v5), some (.int (1 : Int32))]) dX7_read_27 rfl rfl rfl ?_
      refine jX7_read_L29 G _ p1 p2 v5 (fun w4 s5 => ?_) _ v4 (1 : Int32) σ
      refine js_iinc (v := (v5 + (1 : Int32))) (lv' := [some (.ref 0), some (.int p1), some (.int p2), none, some (.int w4), some (.int (v5 + (1 : Int32))), none]) dX7_read_70 rfl (kx_1 _) rfl rfl rfl ?_
      refine js_goto 19 dX7_read_73 rfl ?_
      exact ih1 w4 (v5 + (1 : Int32)) s5

def fX7_read (a1 : Int32) (a2 : Int32) (σ : js_S) : Option (Int32 × js_S) := (fX7_sheetAndFlueFinding a1 a2 σ).bind fun r1 => (if r1.1 = 0 then fX7_read_L19 a1 a2 js_FU (0 : Int32) (0 : Int32) r1.2 else some (r1.1, r1.2))
set_option maxRecDepth 10000 in
theorem jX7_read (G : js_G) (a1 : Int32) (a2 : Int32) (σ : js_S) : js_J G shC mX7_read js_eW 0 [some (.ref 0), some (.int a1), some (.int a2), none, none, none, none] [] σ (fX7_read a1 a2 σ) := by
  unfold fX7_read
  refine js_aload_n dX7_read_0 rfl rfl ?_
  refine js_iload_n dX7_read_1 rfl rfl ?_
  refine js_iload_n dX7_read_2 rfl rfl ?_
  refine js_callV_W (mj := mX7_sheetAndFlueFinding) [(.int a1), (.int a2)] [] dX7_read_3 tw_744 cm_X7_sheetAndFlueFinding cv_X7_sheetAndFlueFinding rfl rfl rfl rfl rfl rfl (fun r h => qX7_sheetAndFlueFinding G a1 a2 σ r h) (fun r1 => ?_)
  refine js_istore_n (lv' := [some (.ref 0), some (.int a1), some (.int a2), some (.int r1.1), none, none, none]) dX7_read_6 rfl rfl rfl rfl ?_
  refine js_iload_n dX7_read_7 rfl rfl ?_
  refine js_if_eq 13 dX7_read_8 rfl ?_ ?_
  · refine js_iconst dX7_read_13 ki_0 ?_
    refine js_istore (lv' := [some (.ref 0), some (.int a1), some (.int a2), some (.int r1.1), some (.int (0 : Int32)), none, none]) dX7_read_14 rfl rfl rfl ?_
    refine js_iconst dX7_read_16 ki_0 ?_
    refine js_istore (lv' := [some (.ref 0), some (.int a1), some (.int a2), some (.int r1.1), some (.int (0 : Int32)), some (.int (0 : Int32)), none]) dX7_read_17 rfl rfl rfl ?_
    refine js_drop [true, true, true, false, true, true, false] (lv2 := [some (.ref 0), some (.int a1), some (.int a2), none, some (.int (0 : Int32)), some (.int (0 : Int32)), none]) rfl ?_
    exact jX7_read_L19 G a1 a2  _ (0 : Int32) (0 : Int32) r1.2
  · refine js_iload_n dX7_read_11 rfl rfl ?_
    exact js_iret dX7_read_12 rfl rfl

theorem qX7_read (G : js_G) (a1 : Int32) (a2 : Int32) (σ : js_S) (r : (Int32 × js_S)) (h : fX7_read a1 a2 σ = some r) : js_Con G shC mX7_read [(.ref 0), (.int a1), (.int a2)] σ (js_eW r) := js_con (mi := mX7_read) 4 pn_X7 rfl (Nat.le_of_ble_eq_true rfl) (jX7_read G a1 a2 σ) r h
def fX3_become (σ : js_S) : Option js_S := js_gd (js_cpok (0 : Int32) (0 : Int32) (6 : Int32) 6 6) (js_gd (js_cpok (0 : Int32) (0 : Int32) (48 : Int32) 48 48) (js_gd (js_cpok (0 : Int32) (0 : Int32) (288 : Int32) 288 288) (js_gd (js_cpok (0 : Int32) (0 : Int32) (288 : Int32) 288 288) (some (js_cpI (js_cpI (js_cpI (js_cpI (js_sI (js_sI (js_sI σ 6 0 (σ.1 1 0)) 6 1 ((js_sI σ 6 0 (σ.1 1 0)).1 1 1)) 6 2 ((js_sI (js_sI σ 6 0 (σ.1 1 0)) 6 1 ((js_sI σ 6 0 (σ.1 1 0)).1 1 1)).1 1 2)) 2 7 (Int32.toNatClampNeg (0 : Int32)) (Int32.toNatClampNeg (0 : Int32)) (Int32.toNatClampNeg (6 : Int32))) 3 8 (Int32.toNatClampNeg (0 : Int32)) (Int32.toNatClampNeg (0 : Int32)) (Int32.toNatClampNeg (48 : Int32))) 4 9 (Int32.toNatClampNeg (0 : Int32)) (Int32.toNatClampNeg (0 : Int32)) (Int32.toNatClampNeg (288 : Int32))) 5 10 (Int32.toNatClampNeg (0 : Int32)) (Int32.toNatClampNeg (0 : Int32)) (Int32.toNatClampNeg (288 : Int32)))))))
set_option maxRecDepth 10000 in
theorem jX3_become (G : js_G) (σ : js_S) : js_J G shC mX3_become js_eV 0 [some (.ref 6), some (.ref 1)] [] σ (fX3_become σ) := by
  unfold fX3_become
  refine js_aload_n dX3_become_0 rfl rfl ?_
  refine js_aload_n dX3_become_1 rfl rfl ?_
  refine js_getI dX3_become_2 fl_X3_9 rfl rfl ?_
  refine js_putI dX3_become_5 fp_X3_9 rfl rfl rfl rfl ?_
  refine js_aload_n dX3_become_8 rfl rfl ?_
  refine js_aload_n dX3_become_9 rfl rfl ?_
  refine js_getI dX3_become_10 fl_X3_15 rfl rfl ?_
  refine js_putI dX3_become_13 fp_X3_15 rfl rfl rfl rfl ?_
  refine js_aload_n dX3_become_16 rfl rfl ?_
  refine js_aload_n dX3_become_17 rfl rfl ?_
  refine js_getI dX3_become_18 fl_X3_18 rfl rfl ?_
  refine js_putI dX3_become_21 fp_X3_18 rfl rfl rfl rfl ?_
  refine js_aload_n dX3_become_24 rfl rfl ?_
  refine js_getR dX3_become_25 fl_X3_21 rfl rfl ?_
  refine js_iconst dX3_become_28 ki_0 ?_
  refine js_aload_n dX3_become_29 rfl rfl ?_
  refine js_getR dX3_become_30 fl_X3_21 rfl rfl ?_
  refine js_iconst dX3_become_33 ki_0 ?_
  refine js_aload_n dX3_become_34 rfl rfl ?_
  refine js_getR dX3_become_35 fl_X3_21 rfl rfl ?_
  refine js_alen (v := (6 : Int32)) dX3_become_38 rfl rfl ?_
  refine js_copyI dX3_become_39 ⟨tw_770, tw_739, tw_738, tw_16⟩ rfl rfl rfl rfl ?_
  refine js_aload_n dX3_become_42 rfl rfl ?_
  refine js_getR dX3_become_43 fl_X3_25 rfl rfl ?_
  refine js_iconst dX3_become_46 ki_0 ?_
  refine js_aload_n dX3_become_47 rfl rfl ?_
  refine js_getR dX3_become_48 fl_X3_25 rfl rfl ?_
  refine js_iconst dX3_become_51 ki_0 ?_
  refine js_aload_n dX3_become_52 rfl rfl ?_
  refine js_getR dX3_become_53 fl_X3_25 rfl rfl ?_
  refine js_alen (v := (48 : Int32)) dX3_become_56 rfl rfl ?_
  refine js_copyI dX3_become_57 ⟨tw_770, tw_739, tw_738, tw_16⟩ rfl rfl rfl rfl ?_
  refine js_aload_n dX3_become_60 rfl rfl ?_
  refine js_getR dX3_become_61 fl_X3_28 rfl rfl ?_
  refine js_iconst dX3_become_64 ki_0 ?_
  refine js_aload_n dX3_become_65 rfl rfl ?_
  refine js_getR dX3_become_66 fl_X3_28 rfl rfl ?_
  refine js_iconst dX3_become_69 ki_0 ?_
  refine js_aload_n dX3_become_70 rfl rfl ?_
  refine js_getR dX3_become_71 fl_X3_28 rfl rfl ?_
  refine js_alen (v := (288 : Int32)) dX3_become_74 rfl rfl ?_
  refine js_copyI dX3_become_75 ⟨tw_770, tw_739, tw_738, tw_16⟩ rfl rfl rfl rfl ?_
  refine js_aload_n dX3_become_78 rfl rfl ?_
  refine js_getR dX3_become_79 fl_X3_31 rfl rfl ?_
  refine js_iconst dX3_become_82 ki_0 ?_
  refine js_aload_n dX3_become_83 rfl rfl ?_
  refine js_getR dX3_become_84 fl_X3_31 rfl rfl ?_
  refine js_iconst dX3_become_87 ki_0 ?_
  refine js_aload_n dX3_become_88 rfl rfl ?_
  refine js_getR dX3_become_89 fl_X3_31 rfl rfl ?_
  refine js_alen (v := (288 : Int32)) dX3_become_92 rfl rfl ?_
  refine js_copyI dX3_become_93 ⟨tw_770, tw_739, tw_738, tw_16⟩ rfl rfl rfl rfl ?_
  exact js_vret dX3_become_96 rfl rfl

theorem qX3_become (G : js_G) (σ : js_S) (r : js_S) (h : fX3_become σ = some r) : js_Con G shC mX3_become [(.ref 6), (.ref 1)] σ (js_eV r) := js_con (mi := mX3_become) 0 pn_X3 rfl (Nat.le_of_ble_eq_true rfl) (jX3_become G σ) r h
def fX7_image (σ : js_S) : Option (Int32 × js_S) := (fX3_become σ).bind fun r1 => some ((1 : Int32), (js_sI r1 0 2 (1 : Int32)))
set_option maxRecDepth 10000 in
theorem jX7_image (G : js_G) (σ : js_S) : js_J G shC mX7_image js_eW 0 [some (.ref 0)] [] σ (fX7_image σ) := by
  unfold fX7_image
  refine js_aload_n dX7_image_0 rfl rfl ?_
  refine js_getR dX7_image_1 fl_X7_16 rfl rfl ?_
  refine js_aload_n dX7_image_4 rfl rfl ?_
  refine js_getR dX7_image_5 fl_X7_10 rfl rfl ?_
  refine js_callV_V (mj := mX3_become) [(.ref 1)] [] dX7_image_8 tw_766 cm_X3_become cv_X3_become rfl rfl rfl rfl rfl rfl (fun r h => qX3_become G σ r h) (fun r1 => ?_)
  refine js_aload_n dX7_image_11 rfl rfl ?_
  refine js_iconst dX7_image_12 ki_1 ?_
  refine js_putI dX7_image_13 fp_X7_19 rfl rfl nb_1.1 nb_1.2 ?_
  refine js_iconst dX7_image_16 ki_1 ?_
  exact js_iret dX7_image_17 rfl rfl

theorem qX7_image (G : js_G) (σ : js_S) (r : (Int32 × js_S)) (h : fX7_image σ = some r) : js_Con G shC mX7_image [(.ref 0)] σ (js_eW r) := js_con (mi := mX7_image) 0 pn_X7 rfl (Nat.le_of_ble_eq_true rfl) (jX7_image G σ) r h
def fX3_become_i1 (σ : js_S) : Option js_S := js_gd (js_cpok (0 : Int32) (0 : Int32) (6 : Int32) 6 6) (js_gd (js_cpok (0 : Int32) (0 : Int32) (48 : Int32) 48 48) (js_gd (js_cpok (0 : Int32) (0 : Int32) (288 : Int32) 288 288) (js_gd (js_cpok (0 : Int32) (0 : Int32) (288 : Int32) 288 288) (some (js_cpI (js_cpI (js_cpI (js_cpI (js_sI (js_sI (js_sI σ 1 0 (σ.1 6 0)) 1 1 ((js_sI σ 1 0 (σ.1 6 0)).1 6 1)) 1 2 ((js_sI (js_sI σ 1 0 (σ.1 6 0)) 1 1 ((js_sI σ 1 0 (σ.1 6 0)).1 6 1)).1 6 2)) 7 2 (Int32.toNatClampNeg (0 : Int32)) (Int32.toNatClampNeg (0 : Int32)) (Int32.toNatClampNeg (6 : Int32))) 8 3 (Int32.toNatClampNeg (0 : Int32)) (Int32.toNatClampNeg (0 : Int32)) (Int32.toNatClampNeg (48 : Int32))) 9 4 (Int32.toNatClampNeg (0 : Int32)) (Int32.toNatClampNeg (0 : Int32)) (Int32.toNatClampNeg (288 : Int32))) 10 5 (Int32.toNatClampNeg (0 : Int32)) (Int32.toNatClampNeg (0 : Int32)) (Int32.toNatClampNeg (288 : Int32)))))))
set_option maxRecDepth 10000 in
theorem jX3_become_i1 (G : js_G) (σ : js_S) : js_J G shC mX3_become js_eV 0 [some (.ref 1), some (.ref 6)] [] σ (fX3_become_i1 σ) := by
  unfold fX3_become_i1
  refine js_aload_n dX3_become_0 rfl rfl ?_
  refine js_aload_n dX3_become_1 rfl rfl ?_
  refine js_getI dX3_become_2 fl_X3_9 rfl rfl ?_
  refine js_putI dX3_become_5 fp_X3_9 rfl rfl rfl rfl ?_
  refine js_aload_n dX3_become_8 rfl rfl ?_
  refine js_aload_n dX3_become_9 rfl rfl ?_
  refine js_getI dX3_become_10 fl_X3_15 rfl rfl ?_
  refine js_putI dX3_become_13 fp_X3_15 rfl rfl rfl rfl ?_
  refine js_aload_n dX3_become_16 rfl rfl ?_
  refine js_aload_n dX3_become_17 rfl rfl ?_
  refine js_getI dX3_become_18 fl_X3_18 rfl rfl ?_
  refine js_putI dX3_become_21 fp_X3_18 rfl rfl rfl rfl ?_
  refine js_aload_n dX3_become_24 rfl rfl ?_
  refine js_getR dX3_become_25 fl_X3_21 rfl rfl ?_
  refine js_iconst dX3_become_28 ki_0 ?_
  refine js_aload_n dX3_become_29 rfl rfl ?_
  refine js_getR dX3_become_30 fl_X3_21 rfl rfl ?_
  refine js_iconst dX3_become_33 ki_0 ?_
  refine js_aload_n dX3_become_34 rfl rfl ?_
  refine js_getR dX3_become_35 fl_X3_21 rfl rfl ?_
  refine js_alen (v := (6 : Int32)) dX3_become_38 rfl rfl ?_
  refine js_copyI dX3_become_39 ⟨tw_770, tw_739, tw_738, tw_16⟩ rfl rfl rfl rfl ?_
  refine js_aload_n dX3_become_42 rfl rfl ?_
  refine js_getR dX3_become_43 fl_X3_25 rfl rfl ?_
  refine js_iconst dX3_become_46 ki_0 ?_
  refine js_aload_n dX3_become_47 rfl rfl ?_
  refine js_getR dX3_become_48 fl_X3_25 rfl rfl ?_
  refine js_iconst dX3_become_51 ki_0 ?_
  refine js_aload_n dX3_become_52 rfl rfl ?_
  refine js_getR dX3_become_53 fl_X3_25 rfl rfl ?_
  refine js_alen (v := (48 : Int32)) dX3_become_56 rfl rfl ?_
  refine js_copyI dX3_become_57 ⟨tw_770, tw_739, tw_738, tw_16⟩ rfl rfl rfl rfl ?_
  refine js_aload_n dX3_become_60 rfl rfl ?_
  refine js_getR dX3_become_61 fl_X3_28 rfl rfl ?_
  refine js_iconst dX3_become_64 ki_0 ?_
  refine js_aload_n dX3_become_65 rfl rfl ?_
  refine js_getR dX3_become_66 fl_X3_28 rfl rfl ?_
  refine js_iconst dX3_become_69 ki_0 ?_
  refine js_aload_n dX3_become_70 rfl rfl ?_
  refine js_getR dX3_become_71 fl_X3_28 rfl rfl ?_
  refine js_alen (v := (288 : Int32)) dX3_become_74 rfl rfl ?_
  refine js_copyI dX3_become_75 ⟨tw_770, tw_739, tw_738, tw_16⟩ rfl rfl rfl rfl ?_
  refine js_aload_n dX3_become_78 rfl rfl ?_
  refine js_getR dX3_become_79 fl_X3_31 rfl rfl ?_
  refine js_iconst dX3_become_82 ki_0 ?_
  refine js_aload_n dX3_become_83 rfl rfl ?_
  refine js_getR dX3_become_84 fl_X3_31 rfl rfl ?_
  refine js_iconst dX3_become_87 ki_0 ?_
  refine js_aload_n dX3_become_88 rfl rfl ?_
  refine js_getR dX3_become_89 fl_X3_31 rfl rfl ?_
  refine js_alen (v := (288 : Int32)) dX3_become_92 rfl rfl ?_
  refine js_copyI dX3_become_93 ⟨tw_770, tw_739, tw_738, tw_16⟩ rfl rfl rfl rfl ?_
  exact js_vret dX3_become_96 rfl rfl

theorem qX3_become_i1 (G : js_G) (σ : js_S) (r : js_S) (h : fX3_become_i1 σ = some r) : js_Con G shC mX3_become [(.ref 1), (.ref 6)] σ (js_eV r) := js_con (mi := mX3_become) 0 pn_X3 rfl (Nat.le_of_ble_eq_true rfl) (jX3_become_i1 G σ) r h
def fX7_undo (σ : js_S) : Option (Int32 × js_S) := (if (σ.1 0 2) = 0 then (fX7_found (-1000000004 : Int32) σ).bind fun r2 => some (r2.1, r2.2) else (fX3_become_i1 σ).bind fun r1 => some ((r1.1 1 2), r1))
set_option maxRecDepth 10000 in
theorem jX7_undo (G : js_G) (σ : js_S) : js_J G shC mX7_undo js_eW 0 [some (.ref 0)] [] σ (fX7_undo σ) := by
  unfold fX7_undo
  refine js_aload_n dX7_undo_0 rfl rfl ?_
  refine js_getI dX7_undo_1 fl_X7_19 rfl rfl ?_
  refine js_if_ne 14 dX7_undo_4 rfl ?_ ?_
  · refine js_aload_n dX7_undo_14 rfl rfl ?_
    refine js_getR dX7_undo_15 fl_X7_10 rfl rfl ?_
    refine js_aload_n dX7_undo_18 rfl rfl ?_
    refine js_getR dX7_undo_19 fl_X7_16 rfl rfl ?_
    refine js_callV_V (mj := mX3_become) [(.ref 6)] [] dX7_undo_22 tw_766 cm_X3_become cv_X3_become rfl rfl rfl rfl rfl rfl (fun r h => qX3_become_i1 G σ r h) (fun r1 => ?_)
    refine js_aload_n dX7_undo_25 rfl rfl ?_
    refine js_getR dX7_undo_26 fl_X7_10 rfl rfl ?_
    refine js_getI dX7_undo_29 fl_X7_74 rfl rfl ?_
    exact js_iret dX7_undo_32 rfl rfl
  · refine js_aload_n dX7_undo_7 rfl rfl ?_
    refine js_ldc dX7_undo_8 tw_295 ?_
    refine js_callV_W (mj := mX7_found) [(.int (-1000000004 : Int32))] [] dX7_undo_10 tw_218 cm_X7_found cv_X7_found rfl rfl rfl rfl rfl rfl (fun r h => qX7_found G (-1000000004 : Int32) σ r h) (fun r2 => ?_)
    exact js_iret dX7_undo_13 rfl rfl

theorem qX7_undo (G : js_G) (σ : js_S) (r : (Int32 × js_S)) (h : fX7_undo σ = some r) : js_Con G shC mX7_undo [(.ref 0)] σ (js_eW r) := js_con (mi := mX7_undo) 0 pn_X7 rfl (Nat.le_of_ble_eq_true rfl) (jX7_undo G σ) r h
def fX7_tear (σ : js_S) : Option (Int32 × js_S) := (if (σ.1 0 2) = 0 then some ((0 : Int32), (js_sI σ 0 2 (0 : Int32))) else some ((1 : Int32), (js_sI σ 0 2 (0 : Int32))))
set_option maxRecDepth 10000 in
theorem jX7_tear (G : js_G) (σ : js_S) : js_J G shC mX7_tear js_eW 0 [some (.ref 0), none] [] σ (fX7_tear σ) := by
  unfold fX7_tear
  refine js_aload_n dX7_tear_0 rfl rfl ?_
  refine js_getI dX7_tear_1 fl_X7_19 rfl rfl ?_
  refine js_if_eq 11 dX7_tear_4 rfl ?_ ?_
  · refine js_iconst dX7_tear_11 ki_0 ?_
    refine js_istore_n (lv' := [some (.ref 0), some (.int (0 : Int32))]) dX7_tear_12 rfl rfl rfl rfl ?_
    refine js_aload_n dX7_tear_13 rfl rfl ?_
    refine js_iconst dX7_tear_14 ki_0 ?_
    refine js_putI dX7_tear_15 fp_X7_19 rfl rfl nb_0.1 nb_0.2 ?_
    refine js_iload_n dX7_tear_18 rfl rfl ?_
    exact js_iret dX7_tear_19 rfl rfl
  · refine js_iconst dX7_tear_7 ki_1 ?_
    refine js_goto 12 dX7_tear_8 rfl ?_
    refine js_istore_n (lv' := [some (.ref 0), some (.int (1 : Int32))]) dX7_tear_12 rfl rfl rfl rfl ?_
    refine js_aload_n dX7_tear_13 rfl rfl ?_
    refine js_iconst dX7_tear_14 ki_0 ?_
    refine js_putI dX7_tear_15 fp_X7_19 rfl rfl nb_0.1 nb_0.2 ?_
    refine js_iload_n dX7_tear_18 rfl rfl ?_
    exact js_iret dX7_tear_19 rfl rfl

theorem qX7_tear (G : js_G) (σ : js_S) (r : (Int32 × js_S)) (h : fX7_tear σ = some r) : js_Con G shC mX7_tear [(.ref 0)] σ (js_eW r) := js_con (mi := mX7_tear) 1 pn_X7 rfl (Nat.le_of_ble_eq_true rfl) (jX7_tear G σ) r h
def fX3_fullBends_L14 (k47 : Int32 → Option Int32) (p2 : Int32) (σ : js_S) : Nat → Int32 → Int32 → Option Int32
  | 0, _, _ => none
  | n + 1, v1, v3 => (if (8 : Int32) ≤ v3 then k47 v1 else (fX3_height p2 v3 σ).bind fun r1 => (fX3_kindOf p2 σ).bind fun r2 => (if r1 < (fX1_holds r2 v3) then fX3_fullBends_L14 k47 p2 σ n v1 (v3 + (1 : Int32)) else fX3_fullBends_L14 k47 p2 σ n (v1 + (1 : Int32)) (v3 + (1 : Int32))))
set_option maxRecDepth 10000 in
theorem jX3_fullBends_L14 (G : js_G) (k47 : Int32 → Option Int32) (p2 : Int32) (σ : js_S) (hk47 : ∀ (w1 : Int32), js_J G shC mX3_fullBends (js_eI σ) 47 [some (.ref 1), some (.int w1), some (.int p2), none] [] σ (k47 w1)) : ∀ (n : Nat) (v1 : Int32) (v3 : Int32), js_J G shC mX3_fullBends (js_eI σ) 14 [some (.ref 1), some (.int v1), some (.int p2), some (.int v3)] [] σ (fX3_fullBends_L14 k47 p2 σ n v1 v3) := by
  intro n
  induction n with
  | zero =>
    intros
    exact js_none
  | succ n ih2 =>
    intro v1 v3
    rw [fX3_fullBends_L14]
    refine js_iload_n dX3_fullBends_14 rfl rfl ?_
    refine js_bipush dX3_fullBends_15 kb_8 ?_
    refine js_icmp_ge 47 dX3_fullBends_17 rfl ?_ ?_
    · refine js_drop [true, true, true, false] (lv2 := [some (.ref 1), some (.int v1), some (.int p2), none]) rfl ?_
      exact hk47 v1
    · refine js_aload_n dX3_fullBends_20 rfl rfl ?_
      refine js_iload_n dX3_fullBends_21 rfl rfl ?_
      refine js_iload_n dX3_fullBends_22 rfl rfl ?_
      refine js_callV_I (mj := mX3_height) [(.int p2), (.int v3)] [] dX3_fullBends_23 tw_244 cm_X3_height cv_X3_height rfl rfl rfl rfl rfl rfl (fun r h => qX3_height G p2 v3 σ r h) (fun r1 => ?_)
      refine js_aload_n dX3_fullBends_26 rfl rfl ?_
      refine js_iload_n dX3_fullBends_27 rfl rfl ?_
      refine js_callV_I (mj := mX3_kindOf) [(.int p2)] [(.int r1)] dX3_fullBends_28 tw_355 cm_X3_kindOf cv_X3_kindOf rfl rfl rfl rfl rfl rfl (fun r h => qX3_kindOf G p2 σ r h) (fun r2 => ?_)
      refine js_iload_n dX3_fullBends_31 rfl rfl ?_
      refine js_callS_P (mj := mX1_holds) [(.int r2), (.int v3)] [(.int r1)] dX3_fullBends_32 tw_365 cm_X1_holds tw_284 rfl rfl rfl rfl (qX1_holds G r2 v3 σ) ?_
      refine js_icmp_lt 41 dX3_fullBends_35 rfl ?_ ?_
      · refine js_iinc (v := (v3 + (1 : Int32))) (lv' := [some (.ref 1), some (.int v1), some (.int p2), some (.int (v3 + (1 : Int32)))]) dX3_fullBends_41 rfl (kx_1 _) rfl rfl rfl ?_
        refine js_goto 14 dX3_fullBends_44 rfl ?_
        exact ih2 v1 (v3 + (1 : Int32))
      · refine js_iinc (v := (v1 + (1 : Int32))) (lv' := [some (.ref 1), some (.int (v1 + (1 : Int32))), some (.int p2), some (.int v3)]) dX3_fullBends_38 rfl (kx_1 _) rfl rfl rfl ?_
        refine js_iinc (v := (v3 + (1 : Int32))) (lv' := [some (.ref 1), some (.int (v1 + (1 : Int32))), some (.int p2), some (.int (v3 + (1 : Int32)))]) dX3_fullBends_41 rfl (kx_1 _) rfl rfl rfl ?_
        refine js_goto 14 dX3_fullBends_44 rfl ?_
        exact ih2 (v1 + (1 : Int32)) (v3 + (1 : Int32))

def fX3_fullBends_L4 (σ : js_S) : Nat → Int32 → Int32 → Option Int32
  | 0, _, _ => none
  | n + 1, v1, v2 => (if (σ.1 1 2) ≤ v2 then some v1 else fX3_fullBends_L14 (fun w3 => fX3_fullBends_L4 σ n w3 (v2 + (1 : Int32))) v2 σ js_FU v1 (0 : Int32))
set_option maxRecDepth 10000 in
theorem jX3_fullBends_L4 (G : js_G) (σ : js_S) : ∀ (n : Nat) (v1 : Int32) (v2 : Int32), js_J G shC mX3_fullBends (js_eI σ) 4 [some (.ref 1), some (.int v1), some (.int v2), none] [] σ (fX3_fullBends_L4 σ n v1 v2) := by
  intro n
  induction n with
  | zero =>
    intros
    exact js_none
  | succ n ih1 =>
    intro v1 v2
    rw [fX3_fullBends_L4]
    refine js_iload_n dX3_fullBends_4 rfl rfl ?_
    refine js_aload_n dX3_fullBends_5 rfl rfl ?_
    refine js_getI dX3_fullBends_6 fl_X3_18 rfl rfl ?_
    refine js_icmp_ge 53 dX3_fullBends_9 rfl ?_ ?_
    · refine js_iload_n dX3_fullBends_53 rfl rfl ?_
      exact js_iret dX3_fullBends_54 rfl rfl
    · refine js_iconst dX3_fullBends_12 ki_0 ?_
      refine js_istore_n (lv' := [some (.ref 1), some (.int v1), some (.int v2), some (.int (0 : Int32))]) dX3_fullBends_13 rfl rfl rfl rfl ?_
      refine jX3_fullBends_L14 G _ v2 σ (fun w3 => ?_) _ v1 (0 : Int32)
      refine js_iinc (v := (v2 + (1 : Int32))) (lv' := [some (.ref 1), some (.int w3), some (.int (v2 + (1 : Int32))), none]) dX3_fullBends_47 rfl (kx_1 _) rfl rfl rfl ?_
      refine js_goto 4 dX3_fullBends_50 rfl ?_
      exact ih1 w3 (v2 + (1 : Int32))

def fX3_fullBends (σ : js_S) : Option Int32 := fX3_fullBends_L4 σ js_FU (0 : Int32) (0 : Int32)
set_option maxRecDepth 10000 in
theorem jX3_fullBends (G : js_G) (σ : js_S) : js_J G shC mX3_fullBends (js_eI σ) 0 [some (.ref 1), none, none, none] [] σ (fX3_fullBends σ) := by
  unfold fX3_fullBends
  refine js_iconst dX3_fullBends_0 ki_0 ?_
  refine js_istore_n (lv' := [some (.ref 1), some (.int (0 : Int32)), none, none]) dX3_fullBends_1 rfl rfl rfl rfl ?_
  refine js_iconst dX3_fullBends_2 ki_0 ?_
  refine js_istore_n (lv' := [some (.ref 1), some (.int (0 : Int32)), some (.int (0 : Int32)), none]) dX3_fullBends_3 rfl rfl rfl rfl ?_
  exact jX3_fullBends_L4 G σ  _ (0 : Int32) (0 : Int32)

theorem qX3_fullBends (G : js_G) (σ : js_S) (r : Int32) (h : fX3_fullBends σ = some r) : js_Con G shC mX3_fullBends [(.ref 1)] σ ((js_eI σ) r) := js_con (mi := mX3_fullBends) 3 pn_X3 rfl (Nat.le_of_ble_eq_true rfl) (jX3_fullBends G σ) r h
def fX7_count (a1 : Int32) (σ : js_S) : Option (Int32 × js_S) := (if a1 = (0 : Int32) then some ((σ.1 1 2), σ) else (if a1 = (1 : Int32) then some ((σ.1 15 0), σ) else (if a1 = (2 : Int32) then (fX3_layersOfCake (0 : Int32) σ).bind fun r7 => some (r7, σ) else (if a1 = (3 : Int32) then (fX3_fullBends σ).bind fun r6 => some (r6, σ) else (fX7_found (-1000000001 : Int32) σ).bind fun r1 => some (r1.1, r1.2)))))
set_option maxRecDepth 10000 in
theorem jX7_count (G : js_G) (a1 : Int32) (σ : js_S) : js_J G shC mX7_count js_eW 0 [some (.ref 0), some (.int a1)] [] σ (fX7_count a1 σ) := by
  unfold fX7_count
  refine js_iload_n dX7_count_0 rfl rfl ?_
  refine js_split (fun h2 => ?_) (fun h2 => ?_)
  · refine js_tabI (0 : Int32) (off := 31) 32 dX7_count_1 h2 (by decide) ?_
    refine js_aload_n dX7_count_32 rfl rfl ?_
    refine js_getR dX7_count_33 fl_X7_10 rfl rfl ?_
    refine js_getI dX7_count_36 fl_X7_74 rfl rfl ?_
    exact js_iret dX7_count_39 rfl rfl
  · refine js_split (fun h3 => ?_) (fun h3 => ?_)
    · refine js_tabI (1 : Int32) (off := 39) 40 dX7_count_1 h3 (by decide) ?_
      refine js_aload_n dX7_count_40 rfl rfl ?_
      refine js_getR dX7_count_41 fl_X7_40 rfl rfl ?_
      refine js_getI dX7_count_44 fl_X7_237 rfl rfl ?_
      exact js_iret dX7_count_47 rfl rfl
    · refine js_split (fun h4 => ?_) (fun h4 => ?_)
      · refine js_tabI (2 : Int32) (off := 47) 48 dX7_count_1 h4 (by decide) ?_
        refine js_aload_n dX7_count_48 rfl rfl ?_
        refine js_getR dX7_count_49 fl_X7_10 rfl rfl ?_
        refine js_iconst dX7_count_52 ki_0 ?_
        refine js_callV_I (mj := mX3_layersOfCake) [(.int (0 : Int32))] [] dX7_count_53 tw_387 cm_X3_layersOfCake cv_X3_layersOfCake rfl rfl rfl rfl rfl rfl (fun r h => qX3_layersOfCake G (0 : Int32) σ r h) (fun r7 => ?_)
        exact js_iret dX7_count_56 rfl rfl
      · refine js_split (fun h5 => ?_) (fun h5 => ?_)
        · refine js_tabI (3 : Int32) (off := 56) 57 dX7_count_1 h5 (by decide) ?_
          refine js_aload_n dX7_count_57 rfl rfl ?_
          refine js_getR dX7_count_58 fl_X7_10 rfl rfl ?_
          refine js_callV_I (mj := mX3_fullBends) [] [] dX7_count_61 tw_783 cm_X3_fullBends cv_X3_fullBends rfl rfl rfl rfl rfl rfl (fun r h => qX3_fullBends G σ r h) (fun r6 => ?_)
          exact js_iret dX7_count_64 rfl rfl
        · refine js_tabO 65 dX7_count_1 (by have eh2 := lv_neT h2 (k := (0 : Int32)) (a := 0) (by decide); have eh3 := lv_neT h3 (k := (1 : Int32)) (a := 1) (by decide); have eh4 := lv_neT h4 (k := (2 : Int32)) (a := 2) (by decide); have eh5 := lv_neT h5 (k := (3 : Int32)) (a := 3) (by decide); omega) rfl ?_
          refine js_aload_n dX7_count_65 rfl rfl ?_
          refine js_ldc dX7_count_66 tw_217 ?_
          refine js_callV_W (mj := mX7_found) [(.int (-1000000001 : Int32))] [] dX7_count_68 tw_218 cm_X7_found cv_X7_found rfl rfl rfl rfl rfl rfl (fun r h => qX7_found G (-1000000001 : Int32) σ r h) (fun r1 => ?_)
          exact js_iret dX7_count_71 rfl rfl

theorem qX7_count (G : js_G) (a1 : Int32) (σ : js_S) (r : (Int32 × js_S)) (h : fX7_count a1 σ = some r) : js_Con G shC mX7_count [(.ref 0), (.int a1)] σ (js_eW r) := js_con (mi := mX7_count) 0 pn_X7 rfl (Nat.le_of_ble_eq_true rfl) (jX7_count G a1 σ) r h
def fX7_status_L33 : Nat → Int32 → Int32 → js_S → Option (Int32 × js_S)
  | 0, _, _, _ => none
  | n + 1, v2, v3, σ => (if (7 : Int32) ≤ v3 then some (v2, σ) else js_gd (js_ix v3 7) (fX7_status_L33  n (v2 + (σ.1 22 (Int32.toNatClampNeg v3))) (v3 + (1 : Int32)) σ))
set_option maxRecDepth 10000 in
theorem jX7_status_L33 (G : js_G) : ∀ (n : Nat) (v2 : Int32) (v3 : Int32) (σ : js_S), js_J G shC mX7_status js_eW 33 [some (.ref 0), none, some (.int v2), some (.int v3)] [] σ (fX7_status_L33 n v2 v3 σ) := by
  intro n
  induction n with
  | zero =>
    intros
    exact js_none
  | succ n ih1 =>
    intro v2 v3 σ
    rw [fX7_status_L33]
    refine js_iload_n dX7_status_33 rfl rfl ?_
    refine js_bipush dX7_status_34 kb_7 ?_
    refine js_icmp_ge 54 dX7_status_36 rfl ?_ ?_
    · refine js_iload_n dX7_status_54 rfl rfl ?_
      exact js_iret dX7_status_55 rfl rfl
    · refine js_iload_n dX7_status_39 rfl rfl ?_
      refine js_aload_n dX7_status_40 rfl rfl ?_
      refine js_getR dX7_status_41 fl_X7_58 rfl rfl ?_
      refine js_iload_n dX7_status_44 rfl rfl ?_
      refine js_iald dX7_status_45 rfl ?_
      refine js_iadd dX7_status_46 ?_
      refine js_istore_n (lv' := [some (.ref 0), none, some (.int (v2 + (σ.1 22 (Int32.toNatClampNeg v3)))), some (.int v3)]) dX7_status_47 rfl rfl rfl rfl ?_
      refine js_iinc (v := (v3 + (1 : Int32))) (lv' := [some (.ref 0), none, some (.int (v2 + (σ.1 22 (Int32.toNatClampNeg v3)))), some (.int (v3 + (1 : Int32)))]) dX7_status_48 rfl (kx_1 _) rfl rfl rfl ?_
      refine js_goto 33 dX7_status_51 rfl ?_
      exact ih1 (v2 + (σ.1 22 (Int32.toNatClampNeg v3))) (v3 + (1 : Int32)) σ

def fX7_status (a1 : Int32) (σ : js_S) : Option (Int32 × js_S) := (if a1 < (-1 : Int32) then (fX7_found (-1000000001 : Int32) σ).bind fun r1 => some (r1.1, r1.2) else (if a1 < (7 : Int32) then (if a1 < 0 then fX7_status_L33 js_FU (0 : Int32) (0 : Int32) σ else js_gd (js_ix a1 7) (some ((σ.1 22 (Int32.toNatClampNeg a1)), σ))) else (fX7_found (-1000000001 : Int32) σ).bind fun r2 => some (r2.1, r2.2)))
set_option maxRecDepth 10000 in
theorem jX7_status (G : js_G) (a1 : Int32) (σ : js_S) : js_J G shC mX7_status js_eW 0 [some (.ref 0), some (.int a1), none, none] [] σ (fX7_status a1 σ) := by
  unfold fX7_status
  refine js_iload_n dX7_status_0 rfl rfl ?_
  refine js_iconst dX7_status_1 ki_m1 ?_
  refine js_icmp_lt 11 dX7_status_2 rfl ?_ ?_
  · refine js_aload_n dX7_status_11 rfl rfl ?_
    refine js_ldc dX7_status_12 tw_217 ?_
    refine js_callV_W (mj := mX7_found) [(.int (-1000000001 : Int32))] [] dX7_status_14 tw_218 cm_X7_found cv_X7_found rfl rfl rfl rfl rfl rfl (fun r h => qX7_found G (-1000000001 : Int32) σ r h) (fun r1 => ?_)
    exact js_iret dX7_status_17 rfl rfl
  · refine js_iload_n dX7_status_5 rfl rfl ?_
    refine js_bipush dX7_status_6 kb_7 ?_
    refine js_icmp_lt 18 dX7_status_8 rfl ?_ ?_
    · refine js_iload_n dX7_status_18 rfl rfl ?_
      refine js_if_lt 29 dX7_status_19 rfl ?_ ?_
      · refine js_iconst dX7_status_29 ki_0 ?_
        refine js_istore_n (lv' := [some (.ref 0), some (.int a1), some (.int (0 : Int32)), none]) dX7_status_30 rfl rfl rfl rfl ?_
        refine js_iconst dX7_status_31 ki_0 ?_
        refine js_istore_n (lv' := [some (.ref 0), some (.int a1), some (.int (0 : Int32)), some (.int (0 : Int32))]) dX7_status_32 rfl rfl rfl rfl ?_
        refine js_drop [true, false, true, true] (lv2 := [some (.ref 0), none, some (.int (0 : Int32)), some (.int (0 : Int32))]) rfl ?_
        exact jX7_status_L33 G  _ (0 : Int32) (0 : Int32) σ
      · refine js_aload_n dX7_status_22 rfl rfl ?_
        refine js_getR dX7_status_23 fl_X7_58 rfl rfl ?_
        refine js_iload_n dX7_status_26 rfl rfl ?_
        refine js_iald dX7_status_27 rfl ?_
        exact js_iret dX7_status_28 rfl rfl
    · refine js_aload_n dX7_status_11 rfl rfl ?_
      refine js_ldc dX7_status_12 tw_217 ?_
      refine js_callV_W (mj := mX7_found) [(.int (-1000000001 : Int32))] [] dX7_status_14 tw_218 cm_X7_found cv_X7_found rfl rfl rfl rfl rfl rfl (fun r h => qX7_found G (-1000000001 : Int32) σ r h) (fun r2 => ?_)
      exact js_iret dX7_status_17 rfl rfl

theorem qX7_status (G : js_G) (a1 : Int32) (σ : js_S) (r : (Int32 × js_S)) (h : fX7_status a1 σ = some r) : js_Con G shC mX7_status [(.ref 0), (.int a1)] σ (js_eW r) := js_con (mi := mX7_status) 2 pn_X7 rfl (Nat.le_of_ble_eq_true rfl) (jX7_status G a1 σ) r h
