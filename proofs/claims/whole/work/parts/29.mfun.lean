def fX8_house_L24 (k59 : Int32 → js_S → Option (Int32 × js_S)) : Nat → Int32 → js_S → Option (Int32 × js_S)
  | 0, _, _ => none
  | n + 1, v1, σ => (if (σ.1 0 13) = 0 then (fX8_byteAt (σ.1 0 10) σ).bind fun r4 => (if r4 = (59 : Int32) then (fX8_must (1 : Int32) σ).bind fun r5 => (fX8_item r5).bind fun r6 => fX8_house_L24 k59 n (v1 + (1 : Int32)) r6 else k59 v1 σ) else k59 v1 σ)
set_option maxRecDepth 10000 in
theorem jX8_house_L24 (G : js_G) (k59 : Int32 → js_S → Option (Int32 × js_S)) (hk59 : ∀ (w1 : Int32) (σ : js_S), js_J G shM mX8_house js_eW 59 [some (.ref 0), some (.int w1)] [] σ (k59 w1 σ)) : ∀ (n : Nat) (v1 : Int32) (σ : js_S), js_J G shM mX8_house js_eW 24 [some (.ref 0), some (.int v1)] [] σ (fX8_house_L24 k59 n v1 σ) := by
  intro n
  induction n with
  | zero =>
    intros
    exact js_none
  | succ n ih1 =>
    intro v1 σ
    rw [fX8_house_L24]
    refine js_aload_n dX8_house_24 rfl rfl ?_
    refine js_getI dX8_house_25 fl_X8_230 rfl rfl ?_
    refine js_if_ne 59 dX8_house_28 rfl ?_ ?_
    · exact hk59 v1 σ
    · refine js_aload_n dX8_house_31 rfl rfl ?_
      refine js_aload_n dX8_house_32 rfl rfl ?_
      refine js_getI dX8_house_33 fl_X8_218 rfl rfl ?_
      refine js_callV_I (mj := mX8_byteAt) [(.int (σ.1 0 10))] [] dX8_house_36 tw_1143 cm_X8_byteAt cv_X8_byteAt rfl rfl rfl rfl rfl rfl (fun r h => qX8_byteAt G (σ.1 0 10) σ r h) (fun r4 => ?_)
      refine js_bipush dX8_house_39 kb_59 ?_
      refine js_icmp_ne 59 dX8_house_41 rfl ?_ ?_
      · exact hk59 v1 σ
      · refine js_aload_n dX8_house_44 rfl rfl ?_
        refine js_iconst dX8_house_45 ki_1 ?_
        refine js_callV_V (mj := mX8_must) [(.int (1 : Int32))] [] dX8_house_46 tw_1181 cm_X8_must cv_X8_must rfl rfl rfl rfl rfl rfl (fun r h => qX8_must G (1 : Int32) σ r h) (fun r5 => ?_)
        refine js_aload_n dX8_house_49 rfl rfl ?_
        refine js_callV_V (mj := mX8_item) [] [] dX8_house_50 tw_1157 cm_X8_item cv_X8_item rfl rfl rfl rfl rfl rfl (fun r h => qX8_item G r5 r h) (fun r6 => ?_)
        refine js_iinc (v := (v1 + (1 : Int32))) (lv' := [some (.ref 0), some (.int (v1 + (1 : Int32)))]) dX8_house_53 rfl (kx_1 _) rfl rfl rfl ?_
        refine js_goto 24 dX8_house_56 rfl ?_
        exact ih1 (v1 + (1 : Int32)) r6

def fX8_house (σ : js_S) : Option (Int32 × js_S) := (fX8_saves σ).bind fun r1 => (fX8_token (js_sI (js_sI r1 0 13 (0 : Int32)) 0 11 (0 : Int32))).bind fun r2 => (fX8_item r2).bind fun r3 => fX8_house_L24 (fun w7 s8 => (if (s8.1 0 13) = 0 then (if (s8.1 0 9) ≤ (s8.1 0 10) then (if ((js_sI s8 0 13 (0 : Int32)).1 0 13) = 0 then (if ((js_sI (js_sI s8 0 13 (0 : Int32)) 0 9 (0 : Int32)).1 0 13) = 0 then some (w7, (js_sI (js_sI s8 0 13 (0 : Int32)) 0 9 (0 : Int32))) else some (((-1 : Int32) - ((js_sI (js_sI s8 0 13 (0 : Int32)) 0 9 (0 : Int32)).1 0 10)), (js_sI (js_sI s8 0 13 (0 : Int32)) 0 9 (0 : Int32)))) else (fX8_putsBack (js_sI s8 0 13 (0 : Int32))).bind fun r10 => (if ((js_sI r10 0 9 (0 : Int32)).1 0 13) = 0 then some (w7, (js_sI r10 0 9 (0 : Int32))) else some (((-1 : Int32) - ((js_sI r10 0 9 (0 : Int32)).1 0 10)), (js_sI r10 0 9 (0 : Int32))))) else (if ((js_sI s8 0 13 (1 : Int32)).1 0 13) = 0 then (if ((js_sI (js_sI s8 0 13 (1 : Int32)) 0 9 (0 : Int32)).1 0 13) = 0 then some (w7, (js_sI (js_sI s8 0 13 (1 : Int32)) 0 9 (0 : Int32))) else some (((-1 : Int32) - ((js_sI (js_sI s8 0 13 (1 : Int32)) 0 9 (0 : Int32)).1 0 10)), (js_sI (js_sI s8 0 13 (1 : Int32)) 0 9 (0 : Int32)))) else (fX8_putsBack (js_sI s8 0 13 (1 : Int32))).bind fun r11 => (if ((js_sI r11 0 9 (0 : Int32)).1 0 13) = 0 then some (w7, (js_sI r11 0 9 (0 : Int32))) else some (((-1 : Int32) - ((js_sI r11 0 9 (0 : Int32)).1 0 10)), (js_sI r11 0 9 (0 : Int32)))))) else (if ((js_sI s8 0 13 (1 : Int32)).1 0 13) = 0 then (if ((js_sI (js_sI s8 0 13 (1 : Int32)) 0 9 (0 : Int32)).1 0 13) = 0 then some (w7, (js_sI (js_sI s8 0 13 (1 : Int32)) 0 9 (0 : Int32))) else some (((-1 : Int32) - ((js_sI (js_sI s8 0 13 (1 : Int32)) 0 9 (0 : Int32)).1 0 10)), (js_sI (js_sI s8 0 13 (1 : Int32)) 0 9 (0 : Int32)))) else (fX8_putsBack (js_sI s8 0 13 (1 : Int32))).bind fun r9 => (if ((js_sI r9 0 9 (0 : Int32)).1 0 13) = 0 then some (w7, (js_sI r9 0 9 (0 : Int32))) else some (((-1 : Int32) - ((js_sI r9 0 9 (0 : Int32)).1 0 10)), (js_sI r9 0 9 (0 : Int32))))))) js_FU (1 : Int32) r3
set_option maxRecDepth 10000 in
theorem jX8_house (G : js_G) (σ : js_S) : js_J G shM mX8_house js_eW 0 [some (.ref 0), none] [] σ (fX8_house σ) := by
  unfold fX8_house
  refine js_aload_n dX8_house_0 rfl rfl ?_
  refine js_callV_V (mj := mX8_saves) [] [] dX8_house_1 tw_1135 cm_X8_saves cv_X8_saves rfl rfl rfl rfl rfl rfl (fun r h => qX8_saves G σ r h) (fun r1 => ?_)
  refine js_aload_n dX8_house_4 rfl rfl ?_
  refine js_iconst dX8_house_5 ki_0 ?_
  refine js_putI dX8_house_6 fp_X8_230 rfl rfl nb_0.1 nb_0.2 ?_
  refine js_aload_n dX8_house_9 rfl rfl ?_
  refine js_iconst dX8_house_10 ki_0 ?_
  refine js_putI dX8_house_11 fp_X8_215 rfl rfl rfl rfl ?_
  refine js_aload_n dX8_house_14 rfl rfl ?_
  refine js_callV_V (mj := mX8_token) [] [] dX8_house_15 tw_1139 cm_X8_token cv_X8_token rfl rfl rfl rfl rfl rfl (fun r h => qX8_token G (js_sI (js_sI r1 0 13 (0 : Int32)) 0 11 (0 : Int32)) r h) (fun r2 => ?_)
  refine js_iconst dX8_house_18 ki_1 ?_
  refine js_istore_n (lv' := [some (.ref 0), some (.int (1 : Int32))]) dX8_house_19 rfl rfl rfl rfl ?_
  refine js_aload_n dX8_house_20 rfl rfl ?_
  refine js_callV_V (mj := mX8_item) [] [] dX8_house_21 tw_1157 cm_X8_item cv_X8_item rfl rfl rfl rfl rfl rfl (fun r h => qX8_item G r2 r h) (fun r3 => ?_)
  refine jX8_house_L24 G _ (fun w7 s8 => ?_) _ (1 : Int32) r3
  refine js_aload_n dX8_house_59 rfl rfl ?_
  refine js_aload_n dX8_house_60 rfl rfl ?_
  refine js_getI dX8_house_61 fl_X8_230 rfl rfl ?_
  refine js_if_ne 78 dX8_house_64 rfl ?_ ?_
  · refine js_iconst dX8_house_78 ki_1 ?_
    refine js_goto 83 dX8_house_79 rfl ?_
    refine js_putI dX8_house_83 fp_X8_230 rfl rfl nb_1.1 nb_1.2 ?_
    refine js_aload_n dX8_house_86 rfl rfl ?_
    refine js_getI dX8_house_87 fl_X8_230 rfl rfl ?_
    refine js_if_eq 97 dX8_house_90 rfl ?_ ?_
    · refine js_aload_n dX8_house_97 rfl rfl ?_
      refine js_iconst dX8_house_98 ki_0 ?_
      refine js_putI dX8_house_99 fp_X8_204 rfl rfl rfl rfl ?_
      refine js_aload_n dX8_house_102 rfl rfl ?_
      refine js_getI dX8_house_103 fl_X8_230 rfl rfl ?_
      refine js_if_eq 118 dX8_house_106 rfl ?_ ?_
      · refine js_iload_n dX8_house_118 rfl rfl ?_
        exact js_iret dX8_house_119 rfl rfl
      · refine js_iconst dX8_house_109 ki_m1 ?_
        refine js_aload_n dX8_house_110 rfl rfl ?_
        refine js_getI dX8_house_111 fl_X8_218 rfl rfl ?_
        refine js_isub dX8_house_114 ?_
        refine js_goto 119 dX8_house_115 rfl ?_
        exact js_iret dX8_house_119 rfl rfl
    · refine js_aload_n dX8_house_93 rfl rfl ?_
      refine js_callV_V (mj := mX8_putsBack) [] [] dX8_house_94 tw_1206 cm_X8_putsBack cv_X8_putsBack rfl rfl rfl rfl rfl rfl (fun r h => qX8_putsBack G (js_sI s8 0 13 (1 : Int32)) r h) (fun r9 => ?_)
      refine js_aload_n dX8_house_97 rfl rfl ?_
      refine js_iconst dX8_house_98 ki_0 ?_
      refine js_putI dX8_house_99 fp_X8_204 rfl rfl rfl rfl ?_
      refine js_aload_n dX8_house_102 rfl rfl ?_
      refine js_getI dX8_house_103 fl_X8_230 rfl rfl ?_
      refine js_if_eq 118 dX8_house_106 rfl ?_ ?_
      · refine js_iload_n dX8_house_118 rfl rfl ?_
        exact js_iret dX8_house_119 rfl rfl
      · refine js_iconst dX8_house_109 ki_m1 ?_
        refine js_aload_n dX8_house_110 rfl rfl ?_
        refine js_getI dX8_house_111 fl_X8_218 rfl rfl ?_
        refine js_isub dX8_house_114 ?_
        refine js_goto 119 dX8_house_115 rfl ?_
        exact js_iret dX8_house_119 rfl rfl
  · refine js_aload_n dX8_house_67 rfl rfl ?_
    refine js_getI dX8_house_68 fl_X8_218 rfl rfl ?_
    refine js_aload_n dX8_house_71 rfl rfl ?_
    refine js_getI dX8_house_72 fl_X8_204 rfl rfl ?_
    refine js_icmp_ge 82 dX8_house_75 rfl ?_ ?_
    · refine js_iconst dX8_house_82 ki_0 ?_
      refine js_putI dX8_house_83 fp_X8_230 rfl rfl nb_0.1 nb_0.2 ?_
      refine js_aload_n dX8_house_86 rfl rfl ?_
      refine js_getI dX8_house_87 fl_X8_230 rfl rfl ?_
      refine js_if_eq 97 dX8_house_90 rfl ?_ ?_
      · refine js_aload_n dX8_house_97 rfl rfl ?_
        refine js_iconst dX8_house_98 ki_0 ?_
        refine js_putI dX8_house_99 fp_X8_204 rfl rfl rfl rfl ?_
        refine js_aload_n dX8_house_102 rfl rfl ?_
        refine js_getI dX8_house_103 fl_X8_230 rfl rfl ?_
        refine js_if_eq 118 dX8_house_106 rfl ?_ ?_
        · refine js_iload_n dX8_house_118 rfl rfl ?_
          exact js_iret dX8_house_119 rfl rfl
        · refine js_iconst dX8_house_109 ki_m1 ?_
          refine js_aload_n dX8_house_110 rfl rfl ?_
          refine js_getI dX8_house_111 fl_X8_218 rfl rfl ?_
          refine js_isub dX8_house_114 ?_
          refine js_goto 119 dX8_house_115 rfl ?_
          exact js_iret dX8_house_119 rfl rfl
      · refine js_aload_n dX8_house_93 rfl rfl ?_
        refine js_callV_V (mj := mX8_putsBack) [] [] dX8_house_94 tw_1206 cm_X8_putsBack cv_X8_putsBack rfl rfl rfl rfl rfl rfl (fun r h => qX8_putsBack G (js_sI s8 0 13 (0 : Int32)) r h) (fun r10 => ?_)
        refine js_aload_n dX8_house_97 rfl rfl ?_
        refine js_iconst dX8_house_98 ki_0 ?_
        refine js_putI dX8_house_99 fp_X8_204 rfl rfl rfl rfl ?_
        refine js_aload_n dX8_house_102 rfl rfl ?_
        refine js_getI dX8_house_103 fl_X8_230 rfl rfl ?_
        refine js_if_eq 118 dX8_house_106 rfl ?_ ?_
        · refine js_iload_n dX8_house_118 rfl rfl ?_
          exact js_iret dX8_house_119 rfl rfl
        · refine js_iconst dX8_house_109 ki_m1 ?_
          refine js_aload_n dX8_house_110 rfl rfl ?_
          refine js_getI dX8_house_111 fl_X8_218 rfl rfl ?_
          refine js_isub dX8_house_114 ?_
          refine js_goto 119 dX8_house_115 rfl ?_
          exact js_iret dX8_house_119 rfl rfl
    · refine js_iconst dX8_house_78 ki_1 ?_
      refine js_goto 83 dX8_house_79 rfl ?_
      refine js_putI dX8_house_83 fp_X8_230 rfl rfl nb_1.1 nb_1.2 ?_
      refine js_aload_n dX8_house_86 rfl rfl ?_
      refine js_getI dX8_house_87 fl_X8_230 rfl rfl ?_
      refine js_if_eq 97 dX8_house_90 rfl ?_ ?_
      · refine js_aload_n dX8_house_97 rfl rfl ?_
        refine js_iconst dX8_house_98 ki_0 ?_
        refine js_putI dX8_house_99 fp_X8_204 rfl rfl rfl rfl ?_
        refine js_aload_n dX8_house_102 rfl rfl ?_
        refine js_getI dX8_house_103 fl_X8_230 rfl rfl ?_
        refine js_if_eq 118 dX8_house_106 rfl ?_ ?_
        · refine js_iload_n dX8_house_118 rfl rfl ?_
          exact js_iret dX8_house_119 rfl rfl
        · refine js_iconst dX8_house_109 ki_m1 ?_
          refine js_aload_n dX8_house_110 rfl rfl ?_
          refine js_getI dX8_house_111 fl_X8_218 rfl rfl ?_
          refine js_isub dX8_house_114 ?_
          refine js_goto 119 dX8_house_115 rfl ?_
          exact js_iret dX8_house_119 rfl rfl
      · refine js_aload_n dX8_house_93 rfl rfl ?_
        refine js_callV_V (mj := mX8_putsBack) [] [] dX8_house_94 tw_1206 cm_X8_putsBack cv_X8_putsBack rfl rfl rfl rfl rfl rfl (fun r h => qX8_putsBack G (js_sI s8 0 13 (1 : Int32)) r h) (fun r11 => ?_)
        refine js_aload_n dX8_house_97 rfl rfl ?_
        refine js_iconst dX8_house_98 ki_0 ?_
        refine js_putI dX8_house_99 fp_X8_204 rfl rfl rfl rfl ?_
        refine js_aload_n dX8_house_102 rfl rfl ?_
        refine js_getI dX8_house_103 fl_X8_230 rfl rfl ?_
        refine js_if_eq 118 dX8_house_106 rfl ?_ ?_
        · refine js_iload_n dX8_house_118 rfl rfl ?_
          exact js_iret dX8_house_119 rfl rfl
        · refine js_iconst dX8_house_109 ki_m1 ?_
          refine js_aload_n dX8_house_110 rfl rfl ?_
          refine js_getI dX8_house_111 fl_X8_218 rfl rfl ?_
          refine js_isub dX8_house_114 ?_
          refine js_goto 119 dX8_house_115 rfl ?_
          exact js_iret dX8_house_119 rfl rfl

theorem qX8_house (G : js_G) (σ : js_S) (r : (Int32 × js_S)) (h : fX8_house σ = some r) : js_Con G shM mX8_house [(.ref 0)] σ (js_eW r) := js_con (mi := mX8_house) 1 pn_X8 rfl (Nat.le_of_ble_eq_true rfl) (jX8_house G σ) r h
def fX8_isOne (a0 : Int32) : Int32 := (fX8_in (Int32.toInt64 a0) (0 : Int64) (3 : Int64))
set_option maxRecDepth 10000 in
theorem jX8_isOne (G : js_G) (a0 : Int32) (σ : js_S) : js_J G shM mX8_isOne (js_eI σ) 0 [some (.int a0)] [] σ (some (fX8_isOne a0)) := by
  unfold fX8_isOne
  refine js_iload_n dX8_isOne_0 rfl rfl ?_
  refine js_i2l dX8_isOne_1 ?_
  refine js_lconst dX8_isOne_2 kl_0 ?_
  refine js_ldc2 dX8_isOne_3 tw_1217 ?_
  refine js_callS_P (mj := mX8_in) [(.long (Int32.toInt64 a0)), (.long (0 : Int64)), (.long (3 : Int64))] [] dX8_isOne_6 tw_860 cm_X8_in tw_861 rfl rfl rfl rfl (qX8_in G (Int32.toInt64 a0) (0 : Int64) (3 : Int64) σ) ?_
  exact js_zret dX8_isOne_9 rfl (js_nb (zX8_in (Int32.toInt64 a0) (0 : Int64) (3 : Int64))) rfl

theorem qX8_isOne (G : js_G) (a0 : Int32) (σ : js_S) : js_Con G shM mX8_isOne [(.int a0)] σ (some (.int (fX8_isOne a0)), σ) := js_con (mi := mX8_isOne) (emb := (js_eI σ)) 0 pn_X8 rfl (Nat.le_of_ble_eq_true rfl) (jX8_isOne G a0 σ) _ rfl
theorem zX8_isOne (a0 : Int32) : fX8_isOne a0 = 0 ∨ fX8_isOne a0 = 1 := by
  unfold fX8_isOne
  repeat' split
  all_goals first | exact Or.inl rfl | exact Or.inr rfl | exact zX8_in _ _ _
def fX8_sheet_L86 (p1 : Int32) : Nat → Int32 → js_S → Option (Int32 × js_S)
  | 0, _, _ => none
  | n + 1, v4, σ => (if (40 : Int32) ≤ v4 then js_gd (js_ix p1 4) (some ((σ.1 9 (Int32.toNatClampNeg p1)), σ)) else js_gd (js_ix (((40 : Int32) * p1) + v4) 160) (fX8_sheet_L86 p1 n (v4 + (1 : Int32)) (js_sL σ 10 (Int32.toNatClampNeg (((40 : Int32) * p1) + v4)) (0 : Int64))))
set_option maxRecDepth 10000 in
theorem jX8_sheet_L86 (G : js_G) (p1 : Int32) : ∀ (n : Nat) (v4 : Int32) (σ : js_S), js_J G shM mX8_sheet js_eW 86 [some (.ref 0), some (.int p1), none, none, some (.int v4)] [] σ (fX8_sheet_L86 p1 n v4 σ) := by
  intro n
  induction n with
  | zero =>
    intros
    exact js_none
  | succ n ih1 =>
    intro v4 σ
    rw [fX8_sheet_L86]
    refine js_iload dX8_sheet_86 rfl ?_
    refine js_bipush dX8_sheet_88 kb_40 ?_
    refine js_icmp_ge 112 dX8_sheet_90 rfl ?_ ?_
    · refine js_aload_n dX8_sheet_112 rfl rfl ?_
      refine js_getR dX8_sheet_113 fl_X8_34 rfl rfl ?_
      refine js_iload_n dX8_sheet_116 rfl rfl ?_
      refine js_iald dX8_sheet_117 rfl ?_
      exact js_iret dX8_sheet_118 rfl rfl
    · refine js_aload_n dX8_sheet_93 rfl rfl ?_
      refine js_getR dX8_sheet_94 fl_X8_37 rfl rfl ?_
      refine js_bipush dX8_sheet_97 kb_40 ?_
      refine js_iload_n dX8_sheet_99 rfl rfl ?_
      refine js_imul dX8_sheet_100 ?_
      refine js_iload dX8_sheet_101 rfl ?_
      refine js_iadd dX8_sheet_103 ?_
      refine js_lconst dX8_sheet_104 kl_0 ?_
      refine js_last dX8_sheet_105 rfl ?_
      refine js_iinc (v := (v4 + (1 : Int32))) (lv' := [some (.ref 0), some (.int p1), none, none, some (.int (v4 + (1 : Int32)))]) dX8_sheet_106 rfl (kx_1 _) rfl rfl rfl ?_
      refine js_goto 86 dX8_sheet_109 rfl ?_
      exact ih1 (v4 + (1 : Int32)) (js_sL σ 10 (Int32.toNatClampNeg (((40 : Int32) * p1) + v4)) (0 : Int64))

def fX8_sheet_L86_2 (p1 : Int32) : Nat → Int32 → js_S → Option (Int32 × js_S)
  | 0, _, _ => none
  | n + 1, v4, σ => (if (40 : Int32) ≤ v4 then js_gd (js_ix p1 4) (some ((σ.1 9 (Int32.toNatClampNeg p1)), σ)) else js_gd (js_ix (((40 : Int32) * p1) + v4) 160) (fX8_sheet_L86_2 p1 n (v4 + (1 : Int32)) (js_sL σ 10 (Int32.toNatClampNeg (((40 : Int32) * p1) + v4)) (0 : Int64))))
set_option maxRecDepth 10000 in
theorem jX8_sheet_L86_2 (G : js_G) (p1 : Int32) : ∀ (n : Nat) (v4 : Int32) (σ : js_S), js_J G shM mX8_sheet js_eW 86 [some (.ref 0), some (.int p1), none, none, some (.int v4)] [] σ (fX8_sheet_L86_2 p1 n v4 σ) := by
  intro n
  induction n with
  | zero =>
    intros
    exact js_none
  | succ n ih2 =>
    intro v4 σ
    rw [fX8_sheet_L86_2]
    refine js_iload dX8_sheet_86 rfl ?_
    refine js_bipush dX8_sheet_88 kb_40 ?_
    refine js_icmp_ge 112 dX8_sheet_90 rfl ?_ ?_
    · refine js_aload_n dX8_sheet_112 rfl rfl ?_
      refine js_getR dX8_sheet_113 fl_X8_34 rfl rfl ?_
      refine js_iload_n dX8_sheet_116 rfl rfl ?_
      refine js_iald dX8_sheet_117 rfl ?_
      exact js_iret dX8_sheet_118 rfl rfl
    · refine js_aload_n dX8_sheet_93 rfl rfl ?_
      refine js_getR dX8_sheet_94 fl_X8_37 rfl rfl ?_
      refine js_bipush dX8_sheet_97 kb_40 ?_
      refine js_iload_n dX8_sheet_99 rfl rfl ?_
      refine js_imul dX8_sheet_100 ?_
      refine js_iload dX8_sheet_101 rfl ?_
      refine js_iadd dX8_sheet_103 ?_
      refine js_lconst dX8_sheet_104 kl_0 ?_
      refine js_last dX8_sheet_105 rfl ?_
      refine js_iinc (v := (v4 + (1 : Int32))) (lv' := [some (.ref 0), some (.int p1), none, none, some (.int (v4 + (1 : Int32)))]) dX8_sheet_106 rfl (kx_1 _) rfl rfl rfl ?_
      refine js_goto 86 dX8_sheet_109 rfl ?_
      exact ih2 (v4 + (1 : Int32)) (js_sL σ 10 (Int32.toNatClampNeg (((40 : Int32) * p1) + v4)) (0 : Int64))

def fX8_sheet_L86_3 (p1 : Int32) : Nat → Int32 → js_S → Option (Int32 × js_S)
  | 0, _, _ => none
  | n + 1, v4, σ => (if (40 : Int32) ≤ v4 then js_gd (js_ix p1 4) (some ((σ.1 9 (Int32.toNatClampNeg p1)), σ)) else js_gd (js_ix (((40 : Int32) * p1) + v4) 160) (fX8_sheet_L86_3 p1 n (v4 + (1 : Int32)) (js_sL σ 10 (Int32.toNatClampNeg (((40 : Int32) * p1) + v4)) (0 : Int64))))
set_option maxRecDepth 10000 in
theorem jX8_sheet_L86_3 (G : js_G) (p1 : Int32) : ∀ (n : Nat) (v4 : Int32) (σ : js_S), js_J G shM mX8_sheet js_eW 86 [some (.ref 0), some (.int p1), none, none, some (.int v4)] [] σ (fX8_sheet_L86_3 p1 n v4 σ) := by
  intro n
  induction n with
  | zero =>
    intros
    exact js_none
  | succ n ih3 =>
    intro v4 σ
    rw [fX8_sheet_L86_3]
    refine js_iload dX8_sheet_86 rfl ?_
    refine js_bipush dX8_sheet_88 kb_40 ?_
    refine js_icmp_ge 112 dX8_sheet_90 rfl ?_ ?_
    · refine js_aload_n dX8_sheet_112 rfl rfl ?_
      refine js_getR dX8_sheet_113 fl_X8_34 rfl rfl ?_
      refine js_iload_n dX8_sheet_116 rfl rfl ?_
      refine js_iald dX8_sheet_117 rfl ?_
      exact js_iret dX8_sheet_118 rfl rfl
    · refine js_aload_n dX8_sheet_93 rfl rfl ?_
      refine js_getR dX8_sheet_94 fl_X8_37 rfl rfl ?_
      refine js_bipush dX8_sheet_97 kb_40 ?_
      refine js_iload_n dX8_sheet_99 rfl rfl ?_
      refine js_imul dX8_sheet_100 ?_
      refine js_iload dX8_sheet_101 rfl ?_
      refine js_iadd dX8_sheet_103 ?_
      refine js_lconst dX8_sheet_104 kl_0 ?_
      refine js_last dX8_sheet_105 rfl ?_
      refine js_iinc (v := (v4 + (1 : Int32))) (lv' := [some (.ref 0), some (.int p1), none, none, some (.int (v4 + (1 : Int32)))]) dX8_sheet_106 rfl (kx_1 _) rfl rfl rfl ?_
      refine js_goto 86 dX8_sheet_109 rfl ?_
      exact ih3 (v4 + (1 : Int32)) (js_sL σ 10 (Int32.toNatClampNeg (((40 : Int32) * p1) + v4)) (0 : Int64))

def fX8_sheet_L86_4 (p1 : Int32) : Nat → Int32 → js_S → Option (Int32 × js_S)
  | 0, _, _ => none
  | n + 1, v4, σ => (if (40 : Int32) ≤ v4 then js_gd (js_ix p1 4) (some ((σ.1 9 (Int32.toNatClampNeg p1)), σ)) else js_gd (js_ix (((40 : Int32) * p1) + v4) 160) (fX8_sheet_L86_4 p1 n (v4 + (1 : Int32)) (js_sL σ 10 (Int32.toNatClampNeg (((40 : Int32) * p1) + v4)) (0 : Int64))))
set_option maxRecDepth 10000 in
theorem jX8_sheet_L86_4 (G : js_G) (p1 : Int32) : ∀ (n : Nat) (v4 : Int32) (σ : js_S), js_J G shM mX8_sheet js_eW 86 [some (.ref 0), some (.int p1), none, none, some (.int v4)] [] σ (fX8_sheet_L86_4 p1 n v4 σ) := by
  intro n
  induction n with
  | zero =>
    intros
    exact js_none
  | succ n ih4 =>
    intro v4 σ
    rw [fX8_sheet_L86_4]
    refine js_iload dX8_sheet_86 rfl ?_
    refine js_bipush dX8_sheet_88 kb_40 ?_
    refine js_icmp_ge 112 dX8_sheet_90 rfl ?_ ?_
    · refine js_aload_n dX8_sheet_112 rfl rfl ?_
      refine js_getR dX8_sheet_113 fl_X8_34 rfl rfl ?_
      refine js_iload_n dX8_sheet_116 rfl rfl ?_
      refine js_iald dX8_sheet_117 rfl ?_
      exact js_iret dX8_sheet_118 rfl rfl
    · refine js_aload_n dX8_sheet_93 rfl rfl ?_
      refine js_getR dX8_sheet_94 fl_X8_37 rfl rfl ?_
      refine js_bipush dX8_sheet_97 kb_40 ?_
      refine js_iload_n dX8_sheet_99 rfl rfl ?_
      refine js_imul dX8_sheet_100 ?_
      refine js_iload dX8_sheet_101 rfl ?_
      refine js_iadd dX8_sheet_103 ?_
      refine js_lconst dX8_sheet_104 kl_0 ?_
      refine js_last dX8_sheet_105 rfl ?_
      refine js_iinc (v := (v4 + (1 : Int32))) (lv' := [some (.ref 0), some (.int p1), none, none, some (.int (v4 + (1 : Int32)))]) dX8_sheet_106 rfl (kx_1 _) rfl rfl rfl ?_
      refine js_goto 86 dX8_sheet_109 rfl ?_
      exact ih4 (v4 + (1 : Int32)) (js_sL σ 10 (Int32.toNatClampNeg (((40 : Int32) * p1) + v4)) (0 : Int64))

def fX8_sheet_L86_5 (p1 : Int32) : Nat → Int32 → js_S → Option (Int32 × js_S)
  | 0, _, _ => none
  | n + 1, v4, σ => (if (40 : Int32) ≤ v4 then js_gd (js_ix p1 4) (some ((σ.1 9 (Int32.toNatClampNeg p1)), σ)) else js_gd (js_ix (((40 : Int32) * p1) + v4) 160) (fX8_sheet_L86_5 p1 n (v4 + (1 : Int32)) (js_sL σ 10 (Int32.toNatClampNeg (((40 : Int32) * p1) + v4)) (0 : Int64))))
set_option maxRecDepth 10000 in
theorem jX8_sheet_L86_5 (G : js_G) (p1 : Int32) : ∀ (n : Nat) (v4 : Int32) (σ : js_S), js_J G shM mX8_sheet js_eW 86 [some (.ref 0), some (.int p1), none, none, some (.int v4)] [] σ (fX8_sheet_L86_5 p1 n v4 σ) := by
  intro n
  induction n with
  | zero =>
    intros
    exact js_none
  | succ n ih5 =>
    intro v4 σ
    rw [fX8_sheet_L86_5]
    refine js_iload dX8_sheet_86 rfl ?_
    refine js_bipush dX8_sheet_88 kb_40 ?_
    refine js_icmp_ge 112 dX8_sheet_90 rfl ?_ ?_
    · refine js_aload_n dX8_sheet_112 rfl rfl ?_
      refine js_getR dX8_sheet_113 fl_X8_34 rfl rfl ?_
      refine js_iload_n dX8_sheet_116 rfl rfl ?_
      refine js_iald dX8_sheet_117 rfl ?_
      exact js_iret dX8_sheet_118 rfl rfl
    · refine js_aload_n dX8_sheet_93 rfl rfl ?_
      refine js_getR dX8_sheet_94 fl_X8_37 rfl rfl ?_
      refine js_bipush dX8_sheet_97 kb_40 ?_
      refine js_iload_n dX8_sheet_99 rfl rfl ?_
      refine js_imul dX8_sheet_100 ?_
      refine js_iload dX8_sheet_101 rfl ?_
      refine js_iadd dX8_sheet_103 ?_
      refine js_lconst dX8_sheet_104 kl_0 ?_
      refine js_last dX8_sheet_105 rfl ?_
      refine js_iinc (v := (v4 + (1 : Int32))) (lv' := [some (.ref 0), some (.int p1), none, none, some (.int (v4 + (1 : Int32)))]) dX8_sheet_106 rfl (kx_1 _) rfl rfl rfl ?_
      refine js_goto 86 dX8_sheet_109 rfl ?_
      exact ih5 (v4 + (1 : Int32)) (js_sL σ 10 (Int32.toNatClampNeg (((40 : Int32) * p1) + v4)) (0 : Int64))

def fX8_sheet_L86_6 (p1 : Int32) : Nat → Int32 → js_S → Option (Int32 × js_S)
  | 0, _, _ => none
  | n + 1, v4, σ => (if (40 : Int32) ≤ v4 then js_gd (js_ix p1 4) (some ((σ.1 9 (Int32.toNatClampNeg p1)), σ)) else js_gd (js_ix (((40 : Int32) * p1) + v4) 160) (fX8_sheet_L86_6 p1 n (v4 + (1 : Int32)) (js_sL σ 10 (Int32.toNatClampNeg (((40 : Int32) * p1) + v4)) (0 : Int64))))
set_option maxRecDepth 10000 in
theorem jX8_sheet_L86_6 (G : js_G) (p1 : Int32) : ∀ (n : Nat) (v4 : Int32) (σ : js_S), js_J G shM mX8_sheet js_eW 86 [some (.ref 0), some (.int p1), none, none, some (.int v4)] [] σ (fX8_sheet_L86_6 p1 n v4 σ) := by
  intro n
  induction n with
  | zero =>
    intros
    exact js_none
  | succ n ih6 =>
    intro v4 σ
    rw [fX8_sheet_L86_6]
    refine js_iload dX8_sheet_86 rfl ?_
    refine js_bipush dX8_sheet_88 kb_40 ?_
    refine js_icmp_ge 112 dX8_sheet_90 rfl ?_ ?_
    · refine js_aload_n dX8_sheet_112 rfl rfl ?_
      refine js_getR dX8_sheet_113 fl_X8_34 rfl rfl ?_
      refine js_iload_n dX8_sheet_116 rfl rfl ?_
      refine js_iald dX8_sheet_117 rfl ?_
      exact js_iret dX8_sheet_118 rfl rfl
    · refine js_aload_n dX8_sheet_93 rfl rfl ?_
      refine js_getR dX8_sheet_94 fl_X8_37 rfl rfl ?_
      refine js_bipush dX8_sheet_97 kb_40 ?_
      refine js_iload_n dX8_sheet_99 rfl rfl ?_
      refine js_imul dX8_sheet_100 ?_
      refine js_iload dX8_sheet_101 rfl ?_
      refine js_iadd dX8_sheet_103 ?_
      refine js_lconst dX8_sheet_104 kl_0 ?_
      refine js_last dX8_sheet_105 rfl ?_
      refine js_iinc (v := (v4 + (1 : Int32))) (lv' := [some (.ref 0), some (.int p1), none, none, some (.int (v4 + (1 : Int32)))]) dX8_sheet_106 rfl (kx_1 _) rfl rfl rfl ?_
      refine js_goto 86 dX8_sheet_109 rfl ?_
      exact ih6 (v4 + (1 : Int32)) (js_sL σ 10 (Int32.toNatClampNeg (((40 : Int32) * p1) + v4)) (0 : Int64))

def fX8_sheet_L86_7 (p1 : Int32) : Nat → Int32 → js_S → Option (Int32 × js_S)
  | 0, _, _ => none
  | n + 1, v4, σ => (if (40 : Int32) ≤ v4 then js_gd (js_ix p1 4) (some ((σ.1 9 (Int32.toNatClampNeg p1)), σ)) else js_gd (js_ix (((40 : Int32) * p1) + v4) 160) (fX8_sheet_L86_7 p1 n (v4 + (1 : Int32)) (js_sL σ 10 (Int32.toNatClampNeg (((40 : Int32) * p1) + v4)) (0 : Int64))))
set_option maxRecDepth 10000 in
theorem jX8_sheet_L86_7 (G : js_G) (p1 : Int32) : ∀ (n : Nat) (v4 : Int32) (σ : js_S), js_J G shM mX8_sheet js_eW 86 [some (.ref 0), some (.int p1), none, none, some (.int v4)] [] σ (fX8_sheet_L86_7 p1 n v4 σ) := by
  intro n
  induction n with
  | zero =>
    intros
    exact js_none
  | succ n ih7 =>
    intro v4 σ
    rw [fX8_sheet_L86_7]
    refine js_iload dX8_sheet_86 rfl ?_
    refine js_bipush dX8_sheet_88 kb_40 ?_
    refine js_icmp_ge 112 dX8_sheet_90 rfl ?_ ?_
    · refine js_aload_n dX8_sheet_112 rfl rfl ?_
      refine js_getR dX8_sheet_113 fl_X8_34 rfl rfl ?_
      refine js_iload_n dX8_sheet_116 rfl rfl ?_
      refine js_iald dX8_sheet_117 rfl ?_
      exact js_iret dX8_sheet_118 rfl rfl
    · refine js_aload_n dX8_sheet_93 rfl rfl ?_
      refine js_getR dX8_sheet_94 fl_X8_37 rfl rfl ?_
      refine js_bipush dX8_sheet_97 kb_40 ?_
      refine js_iload_n dX8_sheet_99 rfl rfl ?_
      refine js_imul dX8_sheet_100 ?_
      refine js_iload dX8_sheet_101 rfl ?_
      refine js_iadd dX8_sheet_103 ?_
      refine js_lconst dX8_sheet_104 kl_0 ?_
      refine js_last dX8_sheet_105 rfl ?_
      refine js_iinc (v := (v4 + (1 : Int32))) (lv' := [some (.ref 0), some (.int p1), none, none, some (.int (v4 + (1 : Int32)))]) dX8_sheet_106 rfl (kx_1 _) rfl rfl rfl ?_
      refine js_goto 86 dX8_sheet_109 rfl ?_
      exact ih7 (v4 + (1 : Int32)) (js_sL σ 10 (Int32.toNatClampNeg (((40 : Int32) * p1) + v4)) (0 : Int64))

def fX8_sheet_L86_8 (p1 : Int32) : Nat → Int32 → js_S → Option (Int32 × js_S)
  | 0, _, _ => none
  | n + 1, v4, σ => (if (40 : Int32) ≤ v4 then js_gd (js_ix p1 4) (some ((σ.1 9 (Int32.toNatClampNeg p1)), σ)) else js_gd (js_ix (((40 : Int32) * p1) + v4) 160) (fX8_sheet_L86_8 p1 n (v4 + (1 : Int32)) (js_sL σ 10 (Int32.toNatClampNeg (((40 : Int32) * p1) + v4)) (0 : Int64))))
set_option maxRecDepth 10000 in
theorem jX8_sheet_L86_8 (G : js_G) (p1 : Int32) : ∀ (n : Nat) (v4 : Int32) (σ : js_S), js_J G shM mX8_sheet js_eW 86 [some (.ref 0), some (.int p1), none, none, some (.int v4)] [] σ (fX8_sheet_L86_8 p1 n v4 σ) := by
  intro n
  induction n with
  | zero =>
    intros
    exact js_none
  | succ n ih8 =>
    intro v4 σ
    rw [fX8_sheet_L86_8]
    refine js_iload dX8_sheet_86 rfl ?_
    refine js_bipush dX8_sheet_88 kb_40 ?_
    refine js_icmp_ge 112 dX8_sheet_90 rfl ?_ ?_
    · refine js_aload_n dX8_sheet_112 rfl rfl ?_
      refine js_getR dX8_sheet_113 fl_X8_34 rfl rfl ?_
      refine js_iload_n dX8_sheet_116 rfl rfl ?_
      refine js_iald dX8_sheet_117 rfl ?_
      exact js_iret dX8_sheet_118 rfl rfl
    · refine js_aload_n dX8_sheet_93 rfl rfl ?_
      refine js_getR dX8_sheet_94 fl_X8_37 rfl rfl ?_
      refine js_bipush dX8_sheet_97 kb_40 ?_
      refine js_iload_n dX8_sheet_99 rfl rfl ?_
      refine js_imul dX8_sheet_100 ?_
      refine js_iload dX8_sheet_101 rfl ?_
      refine js_iadd dX8_sheet_103 ?_
      refine js_lconst dX8_sheet_104 kl_0 ?_
      refine js_last dX8_sheet_105 rfl ?_
      refine js_iinc (v := (v4 + (1 : Int32))) (lv' := [some (.ref 0), some (.int p1), none, none, some (.int (v4 + (1 : Int32)))]) dX8_sheet_106 rfl (kx_1 _) rfl rfl rfl ?_
      refine js_goto 86 dX8_sheet_109 rfl ?_
      exact ih8 (v4 + (1 : Int32)) (js_sL σ 10 (Int32.toNatClampNeg (((40 : Int32) * p1) + v4)) (0 : Int64))

def fX8_sheet (a1 : Int32) (a2 : Int32) (a3 : Int32) (σ : js_S) : Option (Int32 × js_S) := (if (fX8_isOne a1) = 0 then (fX8_finds (-1000000001 : Int32) σ).bind fun r1 => some (r1.1, r1.2) else (if a2 = 0 then (if 0 ≤ a3 then (if a3 ≤ (40 : Int32) then js_gd (js_ix a1 4) ((if a2 = 0 then js_gd (js_ix a1 4) (fX8_sheet_L86_2 a1 js_FU (0 : Int32) (js_sI (js_sI σ 8 (Int32.toNatClampNeg a1) a2) 9 (Int32.toNatClampNeg a1) (0 : Int32))) else js_gd (js_ix a1 4) (fX8_sheet_L86 a1 js_FU (0 : Int32) (js_sI (js_sI σ 8 (Int32.toNatClampNeg a1) a2) 9 (Int32.toNatClampNeg a1) a3)))) else (fX8_finds (-1000000001 : Int32) σ).bind fun r2 => some (r2.1, r2.2)) else (fX8_finds (-1000000007 : Int32) σ).bind fun r3 => some (r3.1, r3.2)) else (if a2 = (8 : Int32) then (if 0 ≤ a3 then (if a3 ≤ (40 : Int32) then js_gd (js_ix a1 4) ((if a2 = 0 then js_gd (js_ix a1 4) (fX8_sheet_L86_4 a1 js_FU (0 : Int32) (js_sI (js_sI σ 8 (Int32.toNatClampNeg a1) a2) 9 (Int32.toNatClampNeg a1) (0 : Int32))) else js_gd (js_ix a1 4) (fX8_sheet_L86_3 a1 js_FU (0 : Int32) (js_sI (js_sI σ 8 (Int32.toNatClampNeg a1) a2) 9 (Int32.toNatClampNeg a1) a3)))) else (fX8_finds (-1000000001 : Int32) σ).bind fun r4 => some (r4.1, r4.2)) else (fX8_finds (-1000000007 : Int32) σ).bind fun r5 => some (r5.1, r5.2)) else (if a2 = (16 : Int32) then (if 0 ≤ a3 then (if a3 ≤ (40 : Int32) then js_gd (js_ix a1 4) ((if a2 = 0 then js_gd (js_ix a1 4) (fX8_sheet_L86_6 a1 js_FU (0 : Int32) (js_sI (js_sI σ 8 (Int32.toNatClampNeg a1) a2) 9 (Int32.toNatClampNeg a1) (0 : Int32))) else js_gd (js_ix a1 4) (fX8_sheet_L86_5 a1 js_FU (0 : Int32) (js_sI (js_sI σ 8 (Int32.toNatClampNeg a1) a2) 9 (Int32.toNatClampNeg a1) a3)))) else (fX8_finds (-1000000001 : Int32) σ).bind fun r6 => some (r6.1, r6.2)) else (fX8_finds (-1000000007 : Int32) σ).bind fun r7 => some (r7.1, r7.2)) else (if a2 = (64 : Int32) then (if 0 ≤ a3 then (if a3 ≤ (40 : Int32) then js_gd (js_ix a1 4) ((if a2 = 0 then js_gd (js_ix a1 4) (fX8_sheet_L86_8 a1 js_FU (0 : Int32) (js_sI (js_sI σ 8 (Int32.toNatClampNeg a1) a2) 9 (Int32.toNatClampNeg a1) (0 : Int32))) else js_gd (js_ix a1 4) (fX8_sheet_L86_7 a1 js_FU (0 : Int32) (js_sI (js_sI σ 8 (Int32.toNatClampNeg a1) a2) 9 (Int32.toNatClampNeg a1) a3)))) else (fX8_finds (-1000000001 : Int32) σ).bind fun r8 => some (r8.1, r8.2)) else (fX8_finds (-1000000007 : Int32) σ).bind fun r9 => some (r9.1, r9.2)) else (fX8_finds (-1000000001 : Int32) σ).bind fun r10 => some (r10.1, r10.2))))))
set_option maxRecDepth 10000 in
theorem jX8_sheet (G : js_G) (a1 : Int32) (a2 : Int32) (a3 : Int32) (σ : js_S) : js_J G shM mX8_sheet js_eW 0 [some (.ref 0), some (.int a1), some (.int a2), some (.int a3), none] [] σ (fX8_sheet a1 a2 a3 σ) := by
  unfold fX8_sheet
  refine js_iload_n dX8_sheet_0 rfl rfl ?_
  refine js_callS_P (mj := mX8_isOne) [(.int a1)] [] dX8_sheet_1 tw_1214 cm_X8_isOne tw_1215 rfl rfl rfl rfl (qX8_isOne G a1 σ) ?_
  refine js_if_eq 29 dX8_sheet_4 rfl ?_ ?_
  · refine js_aload_n dX8_sheet_29 rfl rfl ?_
    refine js_ldc dX8_sheet_30 tw_863 ?_
    refine js_callV_W (mj := mX8_finds) [(.int (-1000000001 : Int32))] [] dX8_sheet_32 tw_864 cm_X8_finds cv_X8_finds rfl rfl rfl rfl rfl rfl (fun r h => qX8_finds G (-1000000001 : Int32) σ r h) (fun r1 => ?_)
    exact js_iret dX8_sheet_35 rfl rfl
  · refine js_iload_n dX8_sheet_7 rfl rfl ?_
    refine js_if_eq 36 dX8_sheet_8 rfl ?_ ?_
    · refine js_iload_n dX8_sheet_36 rfl rfl ?_
      refine js_if_ge 48 dX8_sheet_37 rfl ?_ ?_
      · refine js_iload_n dX8_sheet_48 rfl rfl ?_
        refine js_bipush dX8_sheet_49 kb_40 ?_
        refine js_icmp_le 61 dX8_sheet_51 rfl ?_ ?_
        · refine js_aload_n dX8_sheet_61 rfl rfl ?_
          refine js_getR dX8_sheet_62 fl_X8_31 rfl rfl ?_
          refine js_iload_n dX8_sheet_65 rfl rfl ?_
          refine js_iload_n dX8_sheet_66 rfl rfl ?_
          refine js_iast dX8_sheet_67 rfl ?_
          refine js_aload_n dX8_sheet_68 rfl rfl ?_
          refine js_getR dX8_sheet_69 fl_X8_34 rfl rfl ?_
          refine js_iload_n dX8_sheet_72 rfl rfl ?_
          refine js_iload_n dX8_sheet_73 rfl rfl ?_
          refine js_if_ne 81 dX8_sheet_74 rfl ?_ ?_
          · refine js_iload_n dX8_sheet_81 rfl rfl ?_
            refine js_iast dX8_sheet_82 rfl ?_
            refine js_iconst dX8_sheet_83 ki_0 ?_
            refine js_istore (lv' := [some (.ref 0), some (.int a1), some (.int a2), some (.int a3), some (.int (0 : Int32))]) dX8_sheet_84 rfl rfl rfl ?_
            refine js_drop [true, true, false, false, true] (lv2 := [some (.ref 0), some (.int a1), none, none, some (.int (0 : Int32))]) rfl ?_
            exact jX8_sheet_L86 G a1  _ (0 : Int32) (js_sI (js_sI σ 8 (Int32.toNatClampNeg a1) a2) 9 (Int32.toNatClampNeg a1) a3)
          · refine js_iconst dX8_sheet_77 ki_0 ?_
            refine js_goto 82 dX8_sheet_78 rfl ?_
            refine js_iast dX8_sheet_82 rfl ?_
            refine js_iconst dX8_sheet_83 ki_0 ?_
            refine js_istore (lv' := [some (.ref 0), some (.int a1), some (.int a2), some (.int a3), some (.int (0 : Int32))]) dX8_sheet_84 rfl rfl rfl ?_
            refine js_drop [true, true, false, false, true] (lv2 := [some (.ref 0), some (.int a1), none, none, some (.int (0 : Int32))]) rfl ?_
            exact jX8_sheet_L86_2 G a1  _ (0 : Int32) (js_sI (js_sI σ 8 (Int32.toNatClampNeg a1) a2) 9 (Int32.toNatClampNeg a1) (0 : Int32))
        · refine js_aload_n dX8_sheet_54 rfl rfl ?_
          refine js_ldc dX8_sheet_55 tw_863 ?_
          refine js_callV_W (mj := mX8_finds) [(.int (-1000000001 : Int32))] [] dX8_sheet_57 tw_864 cm_X8_finds cv_X8_finds rfl rfl rfl rfl rfl rfl (fun r h => qX8_finds G (-1000000001 : Int32) σ r h) (fun r2 => ?_)
          exact js_iret dX8_sheet_60 rfl rfl
      · refine js_aload_n dX8_sheet_40 rfl rfl ?_
        refine js_ldcw dX8_sheet_41 tw_1218 ?_
        refine js_callV_W (mj := mX8_finds) [(.int (-1000000007 : Int32))] [] dX8_sheet_44 tw_864 cm_X8_finds cv_X8_finds rfl rfl rfl rfl rfl rfl (fun r h => qX8_finds G (-1000000007 : Int32) σ r h) (fun r3 => ?_)
        exact js_iret dX8_sheet_47 rfl rfl
    · refine js_iload_n dX8_sheet_11 rfl rfl ?_
      refine js_bipush dX8_sheet_12 kb_8 ?_
      refine js_icmp_eq 36 dX8_sheet_14 rfl ?_ ?_
      · refine js_iload_n dX8_sheet_36 rfl rfl ?_
        refine js_if_ge 48 dX8_sheet_37 rfl ?_ ?_
        · refine js_iload_n dX8_sheet_48 rfl rfl ?_
          refine js_bipush dX8_sheet_49 kb_40 ?_
          refine js_icmp_le 61 dX8_sheet_51 rfl ?_ ?_
          · refine js_aload_n dX8_sheet_61 rfl rfl ?_
            refine js_getR dX8_sheet_62 fl_X8_31 rfl rfl ?_
            refine js_iload_n dX8_sheet_65 rfl rfl ?_
            refine js_iload_n dX8_sheet_66 rfl rfl ?_
            refine js_iast dX8_sheet_67 rfl ?_
            refine js_aload_n dX8_sheet_68 rfl rfl ?_
            refine js_getR dX8_sheet_69 fl_X8_34 rfl rfl ?_
            refine js_iload_n dX8_sheet_72 rfl rfl ?_
            refine js_iload_n dX8_sheet_73 rfl rfl ?_
            refine js_if_ne 81 dX8_sheet_74 rfl ?_ ?_
            · refine js_iload_n dX8_sheet_81 rfl rfl ?_
              refine js_iast dX8_sheet_82 rfl ?_
              refine js_iconst dX8_sheet_83 ki_0 ?_
              refine js_istore (lv' := [some (.ref 0), some (.int a1), some (.int a2), some (.int a3), some (.int (0 : Int32))]) dX8_sheet_84 rfl rfl rfl ?_
              refine js_drop [true, true, false, false, true] (lv2 := [some (.ref 0), some (.int a1), none, none, some (.int (0 : Int32))]) rfl ?_
              exact jX8_sheet_L86_3 G a1  _ (0 : Int32) (js_sI (js_sI σ 8 (Int32.toNatClampNeg a1) a2) 9 (Int32.toNatClampNeg a1) a3)
            · refine js_iconst dX8_sheet_77 ki_0 ?_
              refine js_goto 82 dX8_sheet_78 rfl ?_
              refine js_iast dX8_sheet_82 rfl ?_
              refine js_iconst dX8_sheet_83 ki_0 ?_
              refine js_istore (lv' := [some (.ref 0), some (.int a1), some (.int a2), some (.int a3), some (.int (0 : Int32))]) dX8_sheet_84 rfl rfl rfl ?_
              refine js_drop [true, true, false, false, true] (lv2 := [some (.ref 0), some (.int a1), none, none, some (.int (0 : Int32))]) rfl ?_
              exact jX8_sheet_L86_4 G a1  _ (0 : Int32) (js_sI (js_sI σ 8 (Int32.toNatClampNeg a1) a2) 9 (Int32.toNatClampNeg a1) (0 : Int32))
          · refine js_aload_n dX8_sheet_54 rfl rfl ?_
            refine js_ldc dX8_sheet_55 tw_863 ?_
            refine js_callV_W (mj := mX8_finds) [(.int (-1000000001 : Int32))] [] dX8_sheet_57 tw_864 cm_X8_finds cv_X8_finds rfl rfl rfl rfl rfl rfl (fun r h => qX8_finds G (-1000000001 : Int32) σ r h) (fun r4 => ?_)
            exact js_iret dX8_sheet_60 rfl rfl
        · refine js_aload_n dX8_sheet_40 rfl rfl ?_
          refine js_ldcw dX8_sheet_41 tw_1218 ?_
          refine js_callV_W (mj := mX8_finds) [(.int (-1000000007 : Int32))] [] dX8_sheet_44 tw_864 cm_X8_finds cv_X8_finds rfl rfl rfl rfl rfl rfl (fun r h => qX8_finds G (-1000000007 : Int32) σ r h) (fun r5 => ?_)
          exact js_iret dX8_sheet_47 rfl rfl
      · refine js_iload_n dX8_sheet_17 rfl rfl ?_
        refine js_bipush dX8_sheet_18 kb_16 ?_
        refine js_icmp_eq 36 dX8_sheet_20 rfl ?_ ?_
        · refine js_iload_n dX8_sheet_36 rfl rfl ?_
          refine js_if_ge 48 dX8_sheet_37 rfl ?_ ?_
          · refine js_iload_n dX8_sheet_48 rfl rfl ?_
            refine js_bipush dX8_sheet_49 kb_40 ?_
            refine js_icmp_le 61 dX8_sheet_51 rfl ?_ ?_
            · refine js_aload_n dX8_sheet_61 rfl rfl ?_
              refine js_getR dX8_sheet_62 fl_X8_31 rfl rfl ?_
              refine js_iload_n dX8_sheet_65 rfl rfl ?_
              refine js_iload_n dX8_sheet_66 rfl rfl ?_
              refine js_iast dX8_sheet_67 rfl ?_
              refine js_aload_n dX8_sheet_68 rfl rfl ?_
              refine js_getR dX8_sheet_69 fl_X8_34 rfl rfl ?_
              refine js_iload_n dX8_sheet_72 rfl rfl ?_
              refine js_iload_n dX8_sheet_73 rfl rfl ?_
              refine js_if_ne 81 dX8_sheet_74 rfl ?_ ?_
              · refine js_iload_n dX8_sheet_81 rfl rfl ?_
                refine js_iast dX8_sheet_82 rfl ?_
                refine js_iconst dX8_sheet_83 ki_0 ?_
                refine js_istore (lv' := [some (.ref 0), some (.int a1), some (.int a2), some (.int a3), some (.int (0 : Int32))]) dX8_sheet_84 rfl rfl rfl ?_
                refine js_drop [true, true, false, false, true] (lv2 := [some (.ref 0), some (.int a1), none, none, some (.int (0 : Int32))]) rfl ?_
                exact jX8_sheet_L86_5 G a1  _ (0 : Int32) (js_sI (js_sI σ 8 (Int32.toNatClampNeg a1) a2) 9 (Int32.toNatClampNeg a1) a3)
              · refine js_iconst dX8_sheet_77 ki_0 ?_
                refine js_goto 82 dX8_sheet_78 rfl ?_
                refine js_iast dX8_sheet_82 rfl ?_
                refine js_iconst dX8_sheet_83 ki_0 ?_
                refine js_istore (lv' := [some (.ref 0), some (.int a1), some (.int a2), some (.int a3), some (.int (0 : Int32))]) dX8_sheet_84 rfl rfl rfl ?_
                refine js_drop [true, true, false, false, true] (lv2 := [some (.ref 0), some (.int a1), none, none, some (.int (0 : Int32))]) rfl ?_
                exact jX8_sheet_L86_6 G a1  _ (0 : Int32) (js_sI (js_sI σ 8 (Int32.toNatClampNeg a1) a2) 9 (Int32.toNatClampNeg a1) (0 : Int32))
            · refine js_aload_n dX8_sheet_54 rfl rfl ?_
              refine js_ldc dX8_sheet_55 tw_863 ?_
              refine js_callV_W (mj := mX8_finds) [(.int (-1000000001 : Int32))] [] dX8_sheet_57 tw_864 cm_X8_finds cv_X8_finds rfl rfl rfl rfl rfl rfl (fun r h => qX8_finds G (-1000000001 : Int32) σ r h) (fun r6 => ?_)
              exact js_iret dX8_sheet_60 rfl rfl
          · refine js_aload_n dX8_sheet_40 rfl rfl ?_
            refine js_ldcw dX8_sheet_41 tw_1218 ?_
            refine js_callV_W (mj := mX8_finds) [(.int (-1000000007 : Int32))] [] dX8_sheet_44 tw_864 cm_X8_finds cv_X8_finds rfl rfl rfl rfl rfl rfl (fun r h => qX8_finds G (-1000000007 : Int32) σ r h) (fun r7 => ?_)
            exact js_iret dX8_sheet_47 rfl rfl
        · refine js_iload_n dX8_sheet_23 rfl rfl ?_
          refine js_bipush dX8_sheet_24 kb_64 ?_
          refine js_icmp_eq 36 dX8_sheet_26 rfl ?_ ?_
          · refine js_iload_n dX8_sheet_36 rfl rfl ?_
            refine js_if_ge 48 dX8_sheet_37 rfl ?_ ?_
            · refine js_iload_n dX8_sheet_48 rfl rfl ?_
              refine js_bipush dX8_sheet_49 kb_40 ?_
              refine js_icmp_le 61 dX8_sheet_51 rfl ?_ ?_
              · refine js_aload_n dX8_sheet_61 rfl rfl ?_
                refine js_getR dX8_sheet_62 fl_X8_31 rfl rfl ?_
                refine js_iload_n dX8_sheet_65 rfl rfl ?_
                refine js_iload_n dX8_sheet_66 rfl rfl ?_
                refine js_iast dX8_sheet_67 rfl ?_
                refine js_aload_n dX8_sheet_68 rfl rfl ?_
                refine js_getR dX8_sheet_69 fl_X8_34 rfl rfl ?_
                refine js_iload_n dX8_sheet_72 rfl rfl ?_
                refine js_iload_n dX8_sheet_73 rfl rfl ?_
                refine js_if_ne 81 dX8_sheet_74 rfl ?_ ?_
                · refine js_iload_n dX8_sheet_81 rfl rfl ?_
                  refine js_iast dX8_sheet_82 rfl ?_
                  refine js_iconst dX8_sheet_83 ki_0 ?_
                  refine js_istore (lv' := [some (.ref 0), some (.int a1), some (.int a2), some (.int a3), some (.int (0 : Int32))]) dX8_sheet_84 rfl rfl rfl ?_
                  refine js_drop [true, true, false, false, true] (lv2 := [some (.ref 0), some (.int a1), none, none, some (.int (0 : Int32))]) rfl ?_
                  exact jX8_sheet_L86_7 G a1  _ (0 : Int32) (js_sI (js_sI σ 8 (Int32.toNatClampNeg a1) a2) 9 (Int32.toNatClampNeg a1) a3)
                · refine js_iconst dX8_sheet_77 ki_0 ?_
                  refine js_goto 82 dX8_sheet_78 rfl ?_
                  refine js_iast dX8_sheet_82 rfl ?_
                  refine js_iconst dX8_sheet_83 ki_0 ?_
                  refine js_istore (lv' := [some (.ref 0), some (.int a1), some (.int a2), some (.int a3), some (.int (0 : Int32))]) dX8_sheet_84 rfl rfl rfl ?_
                  refine js_drop [true, true, false, false, true] (lv2 := [some (.ref 0), some (.int a1), none, none, some (.int (0 : Int32))]) rfl ?_
                  exact jX8_sheet_L86_8 G a1  _ (0 : Int32) (js_sI (js_sI σ 8 (Int32.toNatClampNeg a1) a2) 9 (Int32.toNatClampNeg a1) (0 : Int32))
              · refine js_aload_n dX8_sheet_54 rfl rfl ?_
                refine js_ldc dX8_sheet_55 tw_863 ?_
                refine js_callV_W (mj := mX8_finds) [(.int (-1000000001 : Int32))] [] dX8_sheet_57 tw_864 cm_X8_finds cv_X8_finds rfl rfl rfl rfl rfl rfl (fun r h => qX8_finds G (-1000000001 : Int32) σ r h) (fun r8 => ?_)
                exact js_iret dX8_sheet_60 rfl rfl
            · refine js_aload_n dX8_sheet_40 rfl rfl ?_
              refine js_ldcw dX8_sheet_41 tw_1218 ?_
              refine js_callV_W (mj := mX8_finds) [(.int (-1000000007 : Int32))] [] dX8_sheet_44 tw_864 cm_X8_finds cv_X8_finds rfl rfl rfl rfl rfl rfl (fun r h => qX8_finds G (-1000000007 : Int32) σ r h) (fun r9 => ?_)
              exact js_iret dX8_sheet_47 rfl rfl
          · refine js_aload_n dX8_sheet_29 rfl rfl ?_
            refine js_ldc dX8_sheet_30 tw_863 ?_
            refine js_callV_W (mj := mX8_finds) [(.int (-1000000001 : Int32))] [] dX8_sheet_32 tw_864 cm_X8_finds cv_X8_finds rfl rfl rfl rfl rfl rfl (fun r h => qX8_finds G (-1000000001 : Int32) σ r h) (fun r10 => ?_)
            exact js_iret dX8_sheet_35 rfl rfl

theorem qX8_sheet (G : js_G) (a1 : Int32) (a2 : Int32) (a3 : Int32) (σ : js_S) (r : (Int32 × js_S)) (h : fX8_sheet a1 a2 a3 σ = some r) : js_Con G shM mX8_sheet [(.ref 0), (.int a1), (.int a2), (.int a3)] σ (js_eW r) := js_con (mi := mX8_sheet) 1 pn_X8 rfl (Nat.le_of_ble_eq_true rfl) (jX8_sheet G a1 a2 a3 σ) r h
def fX8_wrongSheet (a1 : Int32) (σ : js_S) : Option Int32 := (if (fX8_isOne a1) = 0 then some (-1000000001 : Int32) else js_gd (js_ix a1 4) ((if (σ.1 8 (Int32.toNatClampNeg a1)) = 0 then some (-1000000006 : Int32) else some (0 : Int32))))
set_option maxRecDepth 10000 in
theorem jX8_wrongSheet (G : js_G) (a1 : Int32) (σ : js_S) : js_J G shM mX8_wrongSheet (js_eI σ) 0 [some (.ref 0), some (.int a1)] [] σ (fX8_wrongSheet a1 σ) := by
  unfold fX8_wrongSheet
  refine js_iload_n dX8_wrongSheet_0 rfl rfl ?_
  refine js_callS_P (mj := mX8_isOne) [(.int a1)] [] dX8_wrongSheet_1 tw_1214 cm_X8_isOne tw_1215 rfl rfl rfl rfl (qX8_isOne G a1 σ) ?_
  refine js_if_ne 12 dX8_wrongSheet_4 rfl ?_ ?_
  · refine js_aload_n dX8_wrongSheet_12 rfl rfl ?_
    refine js_getR dX8_wrongSheet_13 fl_X8_31 rfl rfl ?_
    refine js_iload_n dX8_wrongSheet_16 rfl rfl ?_
    refine js_iald dX8_wrongSheet_17 rfl ?_
    refine js_if_ne 27 dX8_wrongSheet_18 rfl ?_ ?_
    · refine js_iconst dX8_wrongSheet_27 ki_0 ?_
      exact js_iret dX8_wrongSheet_28 rfl rfl
    · refine js_ldcw dX8_wrongSheet_21 tw_1227 ?_
      refine js_goto 28 dX8_wrongSheet_24 rfl ?_
      exact js_iret dX8_wrongSheet_28 rfl rfl
  · refine js_ldc dX8_wrongSheet_7 tw_863 ?_
    refine js_goto 28 dX8_wrongSheet_9 rfl ?_
    exact js_iret dX8_wrongSheet_28 rfl rfl

theorem qX8_wrongSheet (G : js_G) (a1 : Int32) (σ : js_S) (r : Int32) (h : fX8_wrongSheet a1 σ = some r) : js_Con G shM mX8_wrongSheet [(.ref 0), (.int a1)] σ ((js_eI σ) r) := js_con (mi := mX8_wrongSheet) 0 pn_X8 rfl (Nat.le_of_ble_eq_true rfl) (jX8_wrongSheet G a1 σ) r h
def fX8_narrowed (a0 : Int32) (a1 : Int64) : Int64 := (if a0 = (8 : Int32) then (Int32.toInt64 (Int8.toInt32 (Int32.toInt8 (Int64.toInt32 a1)))) else (if a0 = (16 : Int32) then (Int32.toInt64 (Int16.toInt32 (Int32.toInt16 (Int64.toInt32 a1)))) else a1))
set_option maxRecDepth 10000 in
theorem jX8_narrowed (G : js_G) (a0 : Int32) (a1 : Int64) (σ : js_S) : js_J G shM mX8_narrowed (js_eL σ) 0 [some (.int a0), some (.long a1), none] [] σ (some (fX8_narrowed a0 a1)) := by
  unfold fX8_narrowed
  refine js_iload_n dX8_narrowed_0 rfl rfl ?_
  refine js_bipush dX8_narrowed_1 kb_8 ?_
  refine js_pi ?_
  refine js_icmp_ne 13 dX8_narrowed_3 rfl ?_ ?_
  · refine js_iload_n dX8_narrowed_13 rfl rfl ?_
    refine js_bipush dX8_narrowed_14 kb_16 ?_
    refine js_pi ?_
    refine js_icmp_ne 26 dX8_narrowed_16 rfl ?_ ?_
    · refine js_lload_n dX8_narrowed_26 rfl rfl ?_
      exact js_lret dX8_narrowed_27 rfl rfl
    · refine js_lload_n dX8_narrowed_19 rfl rfl ?_
      refine js_l2i dX8_narrowed_20 ?_
      refine js_i2s dX8_narrowed_21 ?_
      refine js_i2l dX8_narrowed_22 ?_
      refine js_goto 27 dX8_narrowed_23 rfl ?_
      exact js_lret dX8_narrowed_27 rfl rfl
  · refine js_lload_n dX8_narrowed_6 rfl rfl ?_
    refine js_l2i dX8_narrowed_7 ?_
    refine js_i2b dX8_narrowed_8 ?_
    refine js_i2l dX8_narrowed_9 ?_
    refine js_goto 27 dX8_narrowed_10 rfl ?_
    exact js_lret dX8_narrowed_27 rfl rfl

theorem qX8_narrowed (G : js_G) (a0 : Int32) (a1 : Int64) (σ : js_S) : js_Con G shM mX8_narrowed [(.int a0), (.long a1)] σ (some (.long (fX8_narrowed a0 a1)), σ) := js_con (mi := mX8_narrowed) (emb := (js_eL σ)) 0 pn_X8 rfl (Nat.le_of_ble_eq_true rfl) (jX8_narrowed G a0 a1 σ) _ rfl
def fX8_write (a1 : Int32) (a2 : Int32) (a3 : Int64) (σ : js_S) : Option (Int64 × js_S) := (fX8_wrongSheet a1 σ).bind fun r1 => (if r1 = 0 then js_gd (js_ix a1 4) ((if (fX8_in (Int32.toInt64 a2) (0 : Int64) (Int32.toInt64 ((σ.1 9 (Int32.toNatClampNeg a1)) - (1 : Int32)))) = 0 then (fX8_finds (-1000000001 : Int32) σ).bind fun r2 => some ((Int32.toInt64 r2.1), r2.2) else js_gd (js_ix (((40 : Int32) * a1) + a2) 160) (js_gd (js_ix a1 4) (js_gd (js_ix (((40 : Int32) * a1) + a2) 160) (some ((σ.2 10 (Int32.toNatClampNeg (((40 : Int32) * a1) + a2))), (js_sL σ 10 (Int32.toNatClampNeg (((40 : Int32) * a1) + a2)) (fX8_narrowed (σ.1 8 (Int32.toNatClampNeg a1)) a3)))))))) else (fX8_finds r1 σ).bind fun r3 => some ((Int32.toInt64 r3.1), r3.2))
set_option maxRecDepth 10000 in
theorem jX8_write (G : js_G) (a1 : Int32) (a2 : Int32) (a3 : Int64) (σ : js_S) : js_J G shM mX8_write js_eWL 0 [some (.ref 0), some (.int a1), some (.int a2), some (.long a3), none, none, none, none] [] σ (fX8_write a1 a2 a3 σ) := by
  unfold fX8_write
  refine js_aload_n dX8_write_0 rfl rfl ?_
  refine js_iload_n dX8_write_1 rfl rfl ?_
  refine js_callV_I (mj := mX8_wrongSheet) [(.int a1)] [] dX8_write_2 tw_1223 cm_X8_wrongSheet cv_X8_wrongSheet rfl rfl rfl rfl rfl rfl (fun r h => qX8_wrongSheet G a1 σ r h) (fun r1 => ?_)
  refine js_istore (lv' := [some (.ref 0), some (.int a1), some (.int a2), some (.long a3), none, some (.int r1), none, none]) dX8_write_5 rfl rfl rfl ?_
  refine js_iload dX8_write_7 rfl ?_
  refine js_if_eq 20 dX8_write_9 rfl ?_ ?_
  · refine js_iload_n dX8_write_20 rfl rfl ?_
    refine js_i2l dX8_write_21 ?_
    refine js_lconst dX8_write_22 kl_0 ?_
    refine js_aload_n dX8_write_23 rfl rfl ?_
    refine js_getR dX8_write_24 fl_X8_34 rfl rfl ?_
    refine js_iload_n dX8_write_27 rfl rfl ?_
    refine js_iald dX8_write_28 rfl ?_
    refine js_iconst dX8_write_29 ki_1 ?_
    refine js_isub dX8_write_30 ?_
    refine js_i2l dX8_write_31 ?_
    refine js_callS_P (mj := mX8_in) [(.long (Int32.toInt64 a2)), (.long (0 : Int64)), (.long (Int32.toInt64 ((σ.1 9 (Int32.toNatClampNeg a1)) - (1 : Int32))))] [] dX8_write_32 tw_860 cm_X8_in tw_861 rfl rfl rfl rfl (qX8_in G (Int32.toInt64 a2) (0 : Int64) (Int32.toInt64 ((σ.1 9 (Int32.toNatClampNeg a1)) - (1 : Int32))) σ) ?_
    refine js_if_ne 46 dX8_write_35 rfl ?_ ?_
    · refine js_aload_n dX8_write_46 rfl rfl ?_
      refine js_getR dX8_write_47 fl_X8_37 rfl rfl ?_
      refine js_bipush dX8_write_50 kb_40 ?_
      refine js_iload_n dX8_write_52 rfl rfl ?_
      refine js_imul dX8_write_53 ?_
      refine js_iload_n dX8_write_54 rfl rfl ?_
      refine js_iadd dX8_write_55 ?_
      refine js_lald dX8_write_56 rfl ?_
      refine js_lstore (lv' := [some (.ref 0), some (.int a1), some (.int a2), some (.long a3), none, some (.int r1), some (.long (σ.2 10 (Int32.toNatClampNeg (((40 : Int32) * a1) + a2)))), none]) dX8_write_57 rfl rfl rfl ?_
      refine js_aload_n dX8_write_59 rfl rfl ?_
      refine js_getR dX8_write_60 fl_X8_37 rfl rfl ?_
      refine js_bipush dX8_write_63 kb_40 ?_
      refine js_iload_n dX8_write_65 rfl rfl ?_
      refine js_imul dX8_write_66 ?_
      refine js_iload_n dX8_write_67 rfl rfl ?_
      refine js_iadd dX8_write_68 ?_
      refine js_aload_n dX8_write_69 rfl rfl ?_
      refine js_getR dX8_write_70 fl_X8_31 rfl rfl ?_
      refine js_iload_n dX8_write_73 rfl rfl ?_
      refine js_iald dX8_write_74 rfl ?_
      refine js_lload_n dX8_write_75 rfl rfl ?_
      refine js_callS_PL (mj := mX8_narrowed) [(.int (σ.1 8 (Int32.toNatClampNeg a1))), (.long a3)] [(.int (((40 : Int32) * a1) + a2)), (.ref 10)] dX8_write_76 tw_1228 cm_X8_narrowed tw_1229 rfl rfl rfl rfl (qX8_narrowed G (σ.1 8 (Int32.toNatClampNeg a1)) a3 σ) ?_
      refine js_last dX8_write_79 rfl ?_
      refine js_lload dX8_write_80 rfl ?_
      exact js_lret dX8_write_82 rfl rfl
    · refine js_aload_n dX8_write_38 rfl rfl ?_
      refine js_ldc dX8_write_39 tw_863 ?_
      refine js_callV_W (mj := mX8_finds) [(.int (-1000000001 : Int32))] [] dX8_write_41 tw_864 cm_X8_finds cv_X8_finds rfl rfl rfl rfl rfl rfl (fun r h => qX8_finds G (-1000000001 : Int32) σ r h) (fun r2 => ?_)
      refine js_i2l dX8_write_44 ?_
      exact js_lret dX8_write_45 rfl rfl
  · refine js_aload_n dX8_write_12 rfl rfl ?_
    refine js_iload dX8_write_13 rfl ?_
    refine js_callV_W (mj := mX8_finds) [(.int r1)] [] dX8_write_15 tw_864 cm_X8_finds cv_X8_finds rfl rfl rfl rfl rfl rfl (fun r h => qX8_finds G r1 σ r h) (fun r3 => ?_)
    refine js_i2l dX8_write_18 ?_
    exact js_lret dX8_write_19 rfl rfl

theorem qX8_write (G : js_G) (a1 : Int32) (a2 : Int32) (a3 : Int64) (σ : js_S) (r : (Int64 × js_S)) (h : fX8_write a1 a2 a3 σ = some r) : js_Con G shM mX8_write [(.ref 0), (.int a1), (.int a2), (.long a3)] σ (js_eWL r) := js_con (mi := mX8_write) 3 pn_X8 rfl (Nat.le_of_ble_eq_true rfl) (jX8_write G a1 a2 a3 σ) r h
def fX8_copy_L120 (k154 : js_S → Option (Int32 × js_S)) (p1 : Int32) (p2 : Int32) (p3 : Int32) (p4 : Int32) (p5 : Int32) : Nat → Int32 → js_S → Option (Int32 × js_S)
  | 0, _, _ => none
  | n + 1, v6, σ => (if p5 ≤ v6 then k154 σ else js_gd (js_ix ((((40 : Int32) * p1) + p2) + v6) 160) (js_gd (js_ix v6 40) (fX8_copy_L120 k154 p1 p2 p3 p4 p5 n (v6 + (1 : Int32)) (js_sL σ 11 (Int32.toNatClampNeg v6) (σ.2 10 (Int32.toNatClampNeg ((((40 : Int32) * p1) + p2) + v6)))))))
set_option maxRecDepth 10000 in
theorem jX8_copy_L120 (G : js_G) (k154 : js_S → Option (Int32 × js_S)) (p1 : Int32) (p2 : Int32) (p3 : Int32) (p4 : Int32) (p5 : Int32) (hk154 : ∀  (σ : js_S), js_J G shM mX8_copy js_eW 154 [some (.ref 0), none, none, some (.int p3), some (.int p4), some (.int p5), none] [] σ (k154 σ)) : ∀ (n : Nat) (v6 : Int32) (σ : js_S), js_J G shM mX8_copy js_eW 120 [some (.ref 0), some (.int p1), some (.int p2), some (.int p3), some (.int p4), some (.int p5), some (.int v6)] [] σ (fX8_copy_L120 k154 p1 p2 p3 p4 p5 n v6 σ) := by
  intro n
  induction n with
  | zero =>
    intros
    exact js_none
  | succ n ih1 =>
    intro v6 σ
    rw [fX8_copy_L120]
    refine js_iload dX8_copy_120 rfl ?_
    refine js_iload dX8_copy_122 rfl ?_
    refine js_icmp_ge 154 dX8_copy_124 rfl ?_ ?_
    · refine js_drop [true, false, false, true, true, true, false] (lv2 := [some (.ref 0), none, none, some (.int p3), some (.int p4), some (.int p5), none]) rfl ?_
      exact hk154 σ
    · refine js_aload_n dX8_copy_127 rfl rfl ?_
      refine js_getR dX8_copy_128 fl_X8_41 rfl rfl ?_
      refine js_iload dX8_copy_131 rfl ?_
      refine js_aload_n dX8_copy_133 rfl rfl ?_
      refine js_getR dX8_copy_134 fl_X8_37 rfl rfl ?_
      refine js_bipush dX8_copy_137 kb_40 ?_
      refine js_iload_n dX8_copy_139 rfl rfl ?_
      refine js_imul dX8_copy_140 ?_
      refine js_iload_n dX8_copy_141 rfl rfl ?_
      refine js_iadd dX8_copy_142 ?_
      refine js_iload dX8_copy_143 rfl ?_
      refine js_iadd dX8_copy_145 ?_
      refine js_lald dX8_copy_146 rfl ?_
      refine js_last dX8_copy_147 rfl ?_
      refine js_iinc (v := (v6 + (1 : Int32))) (lv' := [some (.ref 0), some (.int p1), some (.int p2), some (.int p3), some (.int p4), some (.int p5), some (.int (v6 + (1 : Int32)))]) dX8_copy_148 rfl (kx_1 _) rfl rfl rfl ?_
      refine js_goto 120 dX8_copy_151 rfl ?_
      exact ih1 (v6 + (1 : Int32)) (js_sL σ 11 (Int32.toNatClampNeg v6) (σ.2 10 (Int32.toNatClampNeg ((((40 : Int32) * p1) + p2) + v6))))

def fX8_copy_L157 (p3 : Int32) (p4 : Int32) (p5 : Int32) : Nat → Int32 → js_S → Option (Int32 × js_S)
  | 0, _, _ => none
  | n + 1, v6, σ => (if p5 ≤ v6 then some (p5, σ) else js_gd (js_ix v6 40) (js_gd (js_ix ((((40 : Int32) * p3) + p4) + v6) 160) (fX8_copy_L157 p3 p4 p5 n (v6 + (1 : Int32)) (js_sL σ 10 (Int32.toNatClampNeg ((((40 : Int32) * p3) + p4) + v6)) (σ.2 11 (Int32.toNatClampNeg v6))))))
set_option maxRecDepth 10000 in
theorem jX8_copy_L157 (G : js_G) (p3 : Int32) (p4 : Int32) (p5 : Int32) : ∀ (n : Nat) (v6 : Int32) (σ : js_S), js_J G shM mX8_copy js_eW 157 [some (.ref 0), none, none, some (.int p3), some (.int p4), some (.int p5), some (.int v6)] [] σ (fX8_copy_L157 p3 p4 p5 n v6 σ) := by
  intro n
  induction n with
  | zero =>
    intros
    exact js_none
  | succ n ih2 =>
    intro v6 σ
    rw [fX8_copy_L157]
    refine js_iload dX8_copy_157 rfl ?_
    refine js_iload dX8_copy_159 rfl ?_
    refine js_icmp_ge 192 dX8_copy_161 rfl ?_ ?_
    · refine js_iload dX8_copy_192 rfl ?_
      exact js_iret dX8_copy_194 rfl rfl
    · refine js_aload_n dX8_copy_164 rfl rfl ?_
      refine js_getR dX8_copy_165 fl_X8_37 rfl rfl ?_
      refine js_bipush dX8_copy_168 kb_40 ?_
      refine js_iload_n dX8_copy_170 rfl rfl ?_
      refine js_imul dX8_copy_171 ?_
      refine js_iload dX8_copy_172 rfl ?_
      refine js_iadd dX8_copy_174 ?_
      refine js_iload dX8_copy_175 rfl ?_
      refine js_iadd dX8_copy_177 ?_
      refine js_aload_n dX8_copy_178 rfl rfl ?_
      refine js_getR dX8_copy_179 fl_X8_41 rfl rfl ?_
      refine js_iload dX8_copy_182 rfl ?_
      refine js_lald dX8_copy_184 rfl ?_
      refine js_last dX8_copy_185 rfl ?_
      refine js_iinc (v := (v6 + (1 : Int32))) (lv' := [some (.ref 0), none, none, some (.int p3), some (.int p4), some (.int p5), some (.int (v6 + (1 : Int32)))]) dX8_copy_186 rfl (kx_1 _) rfl rfl rfl ?_
      refine js_goto 157 dX8_copy_189 rfl ?_
      exact ih2 (v6 + (1 : Int32)) (js_sL σ 10 (Int32.toNatClampNeg ((((40 : Int32) * p3) + p4) + v6)) (σ.2 11 (Int32.toNatClampNeg v6)))

def fX8_copy (a1 : Int32) (a2 : Int32) (a3 : Int32) (a4 : Int32) (a5 : Int32) (σ : js_S) : Option (Int32 × js_S) := (if (fX8_isOne a1) = 0 then (fX8_finds (-1000000001 : Int32) σ).bind fun r1 => some (r1.1, r1.2) else (if (fX8_isOne a3) = 0 then (fX8_finds (-1000000001 : Int32) σ).bind fun r11 => some (r11.1, r11.2) else js_gd (js_ix a1 4) ((if (σ.1 8 (Int32.toNatClampNeg a1)) = 0 then (fX8_finds (-1000000006 : Int32) σ).bind fun r2 => some (r2.1, r2.2) else js_gd (js_ix a3 4) ((if (σ.1 8 (Int32.toNatClampNeg a3)) = 0 then (fX8_finds (-1000000006 : Int32) σ).bind fun r10 => some (r10.1, r10.2) else js_gd (js_ix a1 4) (js_gd (js_ix a3 4) ((if (σ.1 8 (Int32.toNatClampNeg a1)) = (σ.1 8 (Int32.toNatClampNeg a3)) then (if a2 < 0 then (fX8_finds (-1000000001 : Int32) σ).bind fun r3 => some (r3.1, r3.2) else (if a4 < 0 then (fX8_finds (-1000000001 : Int32) σ).bind fun r4 => some (r4.1, r4.2) else (if a5 < 0 then (fX8_finds (-1000000001 : Int32) σ).bind fun r5 => some (r5.1, r5.2) else js_gd (js_ix a1 4) ((if ((σ.1 9 (Int32.toNatClampNeg a1)) - a2) < a5 then (fX8_finds (-1000000001 : Int32) σ).bind fun r6 => some (r6.1, r6.2) else js_gd (js_ix a3 4) ((if a5 ≤ ((σ.1 9 (Int32.toNatClampNeg a3)) - a4) then fX8_copy_L120 (fun s7 => fX8_copy_L157 a3 a4 a5 js_FU (0 : Int32) s7) a1 a2 a3 a4 a5 js_FU (0 : Int32) σ else (fX8_finds (-1000000001 : Int32) σ).bind fun r8 => some (r8.1, r8.2)))))))) else (fX8_finds (-1000000003 : Int32) σ).bind fun r9 => some (r9.1, r9.2))))))))))
set_option maxRecDepth 10000 in
theorem jX8_copy (G : js_G) (a1 : Int32) (a2 : Int32) (a3 : Int32) (a4 : Int32) (a5 : Int32) (σ : js_S) : js_J G shM mX8_copy js_eW 0 [some (.ref 0), some (.int a1), some (.int a2), some (.int a3), some (.int a4), some (.int a5), none] [] σ (fX8_copy a1 a2 a3 a4 a5 σ) := by
  unfold fX8_copy
  refine js_iload_n dX8_copy_0 rfl rfl ?_
  refine js_callS_P (mj := mX8_isOne) [(.int a1)] [] dX8_copy_1 tw_1214 cm_X8_isOne tw_1215 rfl rfl rfl rfl (qX8_isOne G a1 σ) ?_
  refine js_if_eq 14 dX8_copy_4 rfl ?_ ?_
  · refine js_aload_n dX8_copy_14 rfl rfl ?_
    refine js_ldc dX8_copy_15 tw_863 ?_
    refine js_callV_W (mj := mX8_finds) [(.int (-1000000001 : Int32))] [] dX8_copy_17 tw_864 cm_X8_finds cv_X8_finds rfl rfl rfl rfl rfl rfl (fun r h => qX8_finds G (-1000000001 : Int32) σ r h) (fun r1 => ?_)
    exact js_iret dX8_copy_20 rfl rfl
  · refine js_iload_n dX8_copy_7 rfl rfl ?_
    refine js_callS_P (mj := mX8_isOne) [(.int a3)] [] dX8_copy_8 tw_1214 cm_X8_isOne tw_1215 rfl rfl rfl rfl (qX8_isOne G a3 σ) ?_
    refine js_if_ne 21 dX8_copy_11 rfl ?_ ?_
    · refine js_aload_n dX8_copy_21 rfl rfl ?_
      refine js_getR dX8_copy_22 fl_X8_31 rfl rfl ?_
      refine js_iload_n dX8_copy_25 rfl rfl ?_
      refine js_iald dX8_copy_26 rfl ?_
      refine js_if_eq 39 dX8_copy_27 rfl ?_ ?_
      · refine js_aload_n dX8_copy_39 rfl rfl ?_
        refine js_ldcw dX8_copy_40 tw_1227 ?_
        refine js_callV_W (mj := mX8_finds) [(.int (-1000000006 : Int32))] [] dX8_copy_43 tw_864 cm_X8_finds cv_X8_finds rfl rfl rfl rfl rfl rfl (fun r h => qX8_finds G (-1000000006 : Int32) σ r h) (fun r2 => ?_)
        exact js_iret dX8_copy_46 rfl rfl
      · refine js_aload_n dX8_copy_30 rfl rfl ?_
        refine js_getR dX8_copy_31 fl_X8_31 rfl rfl ?_
        refine js_iload_n dX8_copy_34 rfl rfl ?_
        refine js_iald dX8_copy_35 rfl ?_
        refine js_if_ne 47 dX8_copy_36 rfl ?_ ?_
        · refine js_aload_n dX8_copy_47 rfl rfl ?_
          refine js_getR dX8_copy_48 fl_X8_31 rfl rfl ?_
          refine js_iload_n dX8_copy_51 rfl rfl ?_
          refine js_iald dX8_copy_52 rfl ?_
          refine js_aload_n dX8_copy_53 rfl rfl ?_
          refine js_getR dX8_copy_54 fl_X8_31 rfl rfl ?_
          refine js_iload_n dX8_copy_57 rfl rfl ?_
          refine js_iald dX8_copy_58 rfl ?_
          refine js_icmp_eq 69 dX8_copy_59 rfl ?_ ?_
          · refine js_iload_n dX8_copy_69 rfl rfl ?_
            refine js_if_lt 110 dX8_copy_70 rfl ?_ ?_
            · refine js_aload_n dX8_copy_110 rfl rfl ?_
              refine js_ldc dX8_copy_111 tw_863 ?_
              refine js_callV_W (mj := mX8_finds) [(.int (-1000000001 : Int32))] [] dX8_copy_113 tw_864 cm_X8_finds cv_X8_finds rfl rfl rfl rfl rfl rfl (fun r h => qX8_finds G (-1000000001 : Int32) σ r h) (fun r3 => ?_)
              exact js_iret dX8_copy_116 rfl rfl
            · refine js_iload dX8_copy_73 rfl ?_
              refine js_if_lt 110 dX8_copy_75 rfl ?_ ?_
              · refine js_aload_n dX8_copy_110 rfl rfl ?_
                refine js_ldc dX8_copy_111 tw_863 ?_
                refine js_callV_W (mj := mX8_finds) [(.int (-1000000001 : Int32))] [] dX8_copy_113 tw_864 cm_X8_finds cv_X8_finds rfl rfl rfl rfl rfl rfl (fun r h => qX8_finds G (-1000000001 : Int32) σ r h) (fun r4 => ?_)
                exact js_iret dX8_copy_116 rfl rfl
              · refine js_iload dX8_copy_78 rfl ?_
                refine js_if_lt 110 dX8_copy_80 rfl ?_ ?_
                · refine js_aload_n dX8_copy_110 rfl rfl ?_
                  refine js_ldc dX8_copy_111 tw_863 ?_
                  refine js_callV_W (mj := mX8_finds) [(.int (-1000000001 : Int32))] [] dX8_copy_113 tw_864 cm_X8_finds cv_X8_finds rfl rfl rfl rfl rfl rfl (fun r h => qX8_finds G (-1000000001 : Int32) σ r h) (fun r5 => ?_)
                  exact js_iret dX8_copy_116 rfl rfl
                · refine js_iload dX8_copy_83 rfl ?_
                  refine js_aload_n dX8_copy_85 rfl rfl ?_
                  refine js_getR dX8_copy_86 fl_X8_34 rfl rfl ?_
                  refine js_iload_n dX8_copy_89 rfl rfl ?_
                  refine js_iald dX8_copy_90 rfl ?_
                  refine js_iload_n dX8_copy_91 rfl rfl ?_
                  refine js_isub dX8_copy_92 ?_
                  refine js_icmp_gt 110 dX8_copy_93 rfl ?_ ?_
                  · refine js_aload_n dX8_copy_110 rfl rfl ?_
                    refine js_ldc dX8_copy_111 tw_863 ?_
                    refine js_callV_W (mj := mX8_finds) [(.int (-1000000001 : Int32))] [] dX8_copy_113 tw_864 cm_X8_finds cv_X8_finds rfl rfl rfl rfl rfl rfl (fun r h => qX8_finds G (-1000000001 : Int32) σ r h) (fun r6 => ?_)
                    exact js_iret dX8_copy_116 rfl rfl
                  · refine js_iload dX8_copy_96 rfl ?_
                    refine js_aload_n dX8_copy_98 rfl rfl ?_
                    refine js_getR dX8_copy_99 fl_X8_34 rfl rfl ?_
                    refine js_iload_n dX8_copy_102 rfl rfl ?_
                    refine js_iald dX8_copy_103 rfl ?_
                    refine js_iload dX8_copy_104 rfl ?_
                    refine js_isub dX8_copy_106 ?_
                    refine js_icmp_le 117 dX8_copy_107 rfl ?_ ?_
                    · refine js_iconst dX8_copy_117 ki_0 ?_
                      refine js_istore (lv' := [some (.ref 0), some (.int a1), some (.int a2), some (.int a3), some (.int a4), some (.int a5), some (.int (0 : Int32))]) dX8_copy_118 rfl rfl rfl ?_
                      refine jX8_copy_L120 G _ a1 a2 a3 a4 a5 (fun s7 => ?_) _ (0 : Int32) σ
                      refine js_iconst dX8_copy_154 ki_0 ?_
                      refine js_istore (lv' := [some (.ref 0), none, none, some (.int a3), some (.int a4), some (.int a5), some (.int (0 : Int32))]) dX8_copy_155 rfl rfl rfl ?_
                      exact jX8_copy_L157 G a3 a4 a5  _ (0 : Int32) s7
                    · refine js_aload_n dX8_copy_110 rfl rfl ?_
                      refine js_ldc dX8_copy_111 tw_863 ?_
                      refine js_callV_W (mj := mX8_finds) [(.int (-1000000001 : Int32))] [] dX8_copy_113 tw_864 cm_X8_finds cv_X8_finds rfl rfl rfl rfl rfl rfl (fun r h => qX8_finds G (-1000000001 : Int32) σ r h) (fun r8 => ?_)
                      exact js_iret dX8_copy_116 rfl rfl
          · refine js_aload_n dX8_copy_62 rfl rfl ?_
            refine js_ldc dX8_copy_63 tw_949 ?_
            refine js_callV_W (mj := mX8_finds) [(.int (-1000000003 : Int32))] [] dX8_copy_65 tw_864 cm_X8_finds cv_X8_finds rfl rfl rfl rfl rfl rfl (fun r h => qX8_finds G (-1000000003 : Int32) σ r h) (fun r9 => ?_)
            exact js_iret dX8_copy_68 rfl rfl
        · refine js_aload_n dX8_copy_39 rfl rfl ?_
          refine js_ldcw dX8_copy_40 tw_1227 ?_
          refine js_callV_W (mj := mX8_finds) [(.int (-1000000006 : Int32))] [] dX8_copy_43 tw_864 cm_X8_finds cv_X8_finds rfl rfl rfl rfl rfl rfl (fun r h => qX8_finds G (-1000000006 : Int32) σ r h) (fun r10 => ?_)
          exact js_iret dX8_copy_46 rfl rfl
    · refine js_aload_n dX8_copy_14 rfl rfl ?_
      refine js_ldc dX8_copy_15 tw_863 ?_
      refine js_callV_W (mj := mX8_finds) [(.int (-1000000001 : Int32))] [] dX8_copy_17 tw_864 cm_X8_finds cv_X8_finds rfl rfl rfl rfl rfl rfl (fun r h => qX8_finds G (-1000000001 : Int32) σ r h) (fun r11 => ?_)
      exact js_iret dX8_copy_20 rfl rfl

theorem qX8_copy (G : js_G) (a1 : Int32) (a2 : Int32) (a3 : Int32) (a4 : Int32) (a5 : Int32) (σ : js_S) (r : (Int32 × js_S)) (h : fX8_copy a1 a2 a3 a4 a5 σ = some r) : js_Con G shM mX8_copy [(.ref 0), (.int a1), (.int a2), (.int a3), (.int a4), (.int a5)] σ (js_eW r) := js_con (mi := mX8_copy) 1 pn_X8 rfl (Nat.le_of_ble_eq_true rfl) (jX8_copy G a1 a2 a3 a4 a5 σ) r h
def fX8_wrongFlue (a1 : Int32) (a2 : Int32) (σ : js_S) : Option Int32 := (fX8_wrongSheet a1 σ).bind fun r1 => (if r1 = 0 then (fX8_isFlue a2 σ).bind fun r2 => (if r2 = 0 then some (-1000000001 : Int32) else some (0 : Int32)) else some r1)
set_option maxRecDepth 10000 in
theorem jX8_wrongFlue (G : js_G) (a1 : Int32) (a2 : Int32) (σ : js_S) : js_J G shM mX8_wrongFlue (js_eI σ) 0 [some (.ref 0), some (.int a1), some (.int a2), none] [] σ (fX8_wrongFlue a1 a2 σ) := by
  unfold fX8_wrongFlue
  refine js_aload_n dX8_wrongFlue_0 rfl rfl ?_
  refine js_iload_n dX8_wrongFlue_1 rfl rfl ?_
  refine js_callV_I (mj := mX8_wrongSheet) [(.int a1)] [] dX8_wrongFlue_2 tw_1223 cm_X8_wrongSheet cv_X8_wrongSheet rfl rfl rfl rfl rfl rfl (fun r h => qX8_wrongSheet G a1 σ r h) (fun r1 => ?_)
  refine js_istore_n (lv' := [some (.ref 0), some (.int a1), some (.int a2), some (.int r1)]) dX8_wrongFlue_5 rfl rfl rfl rfl ?_
  refine js_iload_n dX8_wrongFlue_6 rfl rfl ?_
  refine js_if_eq 14 dX8_wrongFlue_7 rfl ?_ ?_
  · refine js_aload_n dX8_wrongFlue_14 rfl rfl ?_
    refine js_iload_n dX8_wrongFlue_15 rfl rfl ?_
    refine js_callV_I (mj := mX8_isFlue) [(.int a2)] [] dX8_wrongFlue_16 tw_880 cm_X8_isFlue cv_X8_isFlue rfl rfl rfl rfl rfl rfl (fun r h => qX8_isFlue G a2 σ r h) (fun r2 => ?_)
    refine js_if_eq 26 dX8_wrongFlue_19 rfl ?_ ?_
    · refine js_ldc dX8_wrongFlue_26 tw_863 ?_
      exact js_iret dX8_wrongFlue_28 rfl rfl
    · refine js_iconst dX8_wrongFlue_22 ki_0 ?_
      refine js_goto 28 dX8_wrongFlue_23 rfl ?_
      exact js_iret dX8_wrongFlue_28 rfl rfl
  · refine js_iload_n dX8_wrongFlue_10 rfl rfl ?_
    refine js_goto 28 dX8_wrongFlue_11 rfl ?_
    exact js_iret dX8_wrongFlue_28 rfl rfl

theorem qX8_wrongFlue (G : js_G) (a1 : Int32) (a2 : Int32) (σ : js_S) (r : Int32) (h : fX8_wrongFlue a1 a2 σ = some r) : js_Con G shM mX8_wrongFlue [(.ref 0), (.int a1), (.int a2)] σ ((js_eI σ) r) := js_con (mi := mX8_wrongFlue) 1 pn_X8 rfl (Nat.le_of_ble_eq_true rfl) (jX8_wrongFlue G a1 a2 σ) r h
def fX8_lays_L23 (p1 : Int32) (p2 : Int32) : Nat → Int32 → Int32 → js_S → Option (Int32 × js_S)
  | 0, _, _, _ => none
  | n + 1, v4, v5, σ => js_gd (js_ix p1 4) ((if (σ.1 9 (Int32.toNatClampNeg p1)) ≤ v5 then some (v4, σ) else js_gd (js_ix (((40 : Int32) * p1) + v5) 160) ((if (fX8_in (σ.2 10 (Int32.toNatClampNeg (((40 : Int32) * p1) + v5))) (0 : Int64) (15 : Int64)) = 0 then fX8_lays_L23 p1 p2 n (v4 + (0 : Int32)) (v5 + (1 : Int32)) σ else js_gd (js_ix (((40 : Int32) * p1) + v5) 160) ((fX8_says p2 (Int64.toInt32 (σ.2 10 (Int32.toNatClampNeg (((40 : Int32) * p1) + v5)))) (5 : Int32) σ).bind fun r2 => (if r2.1 < 0 then fX8_lays_L23 p1 p2 n (v4 + (0 : Int32)) (v5 + (1 : Int32)) r2.2 else fX8_lays_L23 p1 p2 n (v4 + (1 : Int32)) (v5 + (1 : Int32)) r2.2))))))
set_option maxRecDepth 10000 in
theorem jX8_lays_L23 (G : js_G) (p1 : Int32) (p2 : Int32) : ∀ (n : Nat) (v4 : Int32) (v5 : Int32) (σ : js_S), js_J G shM mX8_lays js_eW 23 [some (.ref 0), some (.int p1), some (.int p2), none, some (.int v4), some (.int v5), none] [] σ (fX8_lays_L23 p1 p2 n v4 v5 σ) := by
  intro n
  induction n with
  | zero =>
    intros
    exact js_none
  | succ n ih1 =>
    intro v4 v5 σ
    rw [fX8_lays_L23]
    refine js_iload dX8_lays_23 rfl ?_
    refine js_aload_n dX8_lays_25 rfl rfl ?_
    refine js_getR dX8_lays_26 fl_X8_34 rfl rfl ?_
    refine js_iload_n dX8_lays_29 rfl rfl ?_
    refine js_iald dX8_lays_30 rfl ?_
    refine js_icmp_ge 98 dX8_lays_31 rfl ?_ ?_
    · refine js_iload dX8_lays_98 rfl ?_
      exact js_iret dX8_lays_100 rfl rfl
    · refine js_aload_n dX8_lays_34 rfl rfl ?_
      refine js_getR dX8_lays_35 fl_X8_37 rfl rfl ?_
      refine js_bipush dX8_lays_38 kb_40 ?_
      refine js_iload_n dX8_lays_40 rfl rfl ?_
      refine js_imul dX8_lays_41 ?_
      refine js_iload dX8_lays_42 rfl ?_
      refine js_iadd dX8_lays_44 ?_
      refine js_lald dX8_lays_45 rfl ?_
      refine js_lconst dX8_lays_46 kl_0 ?_
      refine js_ldc2 dX8_lays_47 tw_962 ?_
      refine js_callS_P (mj := mX8_in) [(.long (σ.2 10 (Int32.toNatClampNeg (((40 : Int32) * p1) + v5)))), (.long (0 : Int64)), (.long (15 : Int64))] [] dX8_lays_50 tw_860 cm_X8_in tw_861 rfl rfl rfl rfl (qX8_in G (σ.2 10 (Int32.toNatClampNeg (((40 : Int32) * p1) + v5))) (0 : Int64) (15 : Int64) σ) ?_
      refine js_istore (lv' := [some (.ref 0), some (.int p1), some (.int p2), none, some (.int v4), some (.int v5), some (.int (fX8_in (σ.2 10 (Int32.toNatClampNeg (((40 : Int32) * p1) + v5))) (0 : Int64) (15 : Int64)))]) dX8_lays_53 rfl rfl rfl ?_
      refine js_iload dX8_lays_55 rfl ?_
      refine js_iload dX8_lays_57 rfl ?_
      refine js_if_eq 88 dX8_lays_59 rfl ?_ ?_
      · refine js_iconst dX8_lays_88 ki_0 ?_
        refine js_iadd dX8_lays_89 ?_
        refine js_istore (lv' := [some (.ref 0), some (.int p1), some (.int p2), none, some (.int (v4 + (0 : Int32))), some (.int v5), some (.int (fX8_in (σ.2 10 (Int32.toNatClampNeg (((40 : Int32) * p1) + v5))) (0 : Int64) (15 : Int64)))]) dX8_lays_90 rfl rfl rfl ?_
        refine js_iinc (v := (v5 + (1 : Int32))) (lv' := [some (.ref 0), some (.int p1), some (.int p2), none, some (.int (v4 + (0 : Int32))), some (.int (v5 + (1 : Int32))), some (.int (fX8_in (σ.2 10 (Int32.toNatClampNeg (((40 : Int32) * p1) + v5))) (0 : Int64) (15 : Int64)))]) dX8_lays_92 rfl (kx_1 _) rfl rfl rfl ?_
        refine js_goto 23 dX8_lays_95 rfl ?_
        refine js_drop [true, true, true, false, true, true, false] (lv2 := [some (.ref 0), some (.int p1), some (.int p2), none, some (.int (v4 + (0 : Int32))), some (.int (v5 + (1 : Int32))), none]) rfl ?_
        exact ih1 (v4 + (0 : Int32)) (v5 + (1 : Int32)) σ
      · refine js_aload_n dX8_lays_62 rfl rfl ?_
        refine js_iload_n dX8_lays_63 rfl rfl ?_
        refine js_aload_n dX8_lays_64 rfl rfl ?_
        refine js_getR dX8_lays_65 fl_X8_37 rfl rfl ?_
        refine js_bipush dX8_lays_68 kb_40 ?_
        refine js_iload_n dX8_lays_70 rfl rfl ?_
        refine js_imul dX8_lays_71 ?_
        refine js_iload dX8_lays_72 rfl ?_
        refine js_iadd dX8_lays_74 ?_
        refine js_lald dX8_lays_75 rfl ?_
        refine js_l2i dX8_lays_76 ?_
        refine js_iconst dX8_lays_77 ki_5 ?_
        refine js_callV_W (mj := mX8_says) [(.int p2), (.int (Int64.toInt32 (σ.2 10 (Int32.toNatClampNeg (((40 : Int32) * p1) + v5))))), (.int (5 : Int32))] [(.int v4)] dX8_lays_78 tw_974 cm_X8_says cv_X8_says rfl rfl rfl rfl rfl rfl (fun r h => qX8_says G p2 (Int64.toInt32 (σ.2 10 (Int32.toNatClampNeg (((40 : Int32) * p1) + v5)))) (5 : Int32) σ r h) (fun r2 => ?_)
        refine js_if_lt 88 dX8_lays_81 rfl ?_ ?_
        · refine js_iconst dX8_lays_88 ki_0 ?_
          refine js_iadd dX8_lays_89 ?_
          refine js_istore (lv' := [some (.ref 0), some (.int p1), some (.int p2), none, some (.int (v4 + (0 : Int32))), some (.int v5), some (.int (fX8_in (σ.2 10 (Int32.toNatClampNeg (((40 : Int32) * p1) + v5))) (0 : Int64) (15 : Int64)))]) dX8_lays_90 rfl rfl rfl ?_
          refine js_iinc (v := (v5 + (1 : Int32))) (lv' := [some (.ref 0), some (.int p1), some (.int p2), none, some (.int (v4 + (0 : Int32))), some (.int (v5 + (1 : Int32))), some (.int (fX8_in (σ.2 10 (Int32.toNatClampNeg (((40 : Int32) * p1) + v5))) (0 : Int64) (15 : Int64)))]) dX8_lays_92 rfl (kx_1 _) rfl rfl rfl ?_
          refine js_goto 23 dX8_lays_95 rfl ?_
          refine js_drop [true, true, true, false, true, true, false] (lv2 := [some (.ref 0), some (.int p1), some (.int p2), none, some (.int (v4 + (0 : Int32))), some (.int (v5 + (1 : Int32))), none]) rfl ?_
          exact ih1 (v4 + (0 : Int32)) (v5 + (1 : Int32)) r2.2
        · refine js_iconst dX8_lays_84 ki_1 ?_
          refine js_goto 89 dX8_lays_85 rfl ?_
          refine js_iadd dX8_lays_89 ?_
          refine js_istore (lv' := [some (.ref 0), some (.int p1), some (.int p2), none, some (.int (v4 + (1 : Int32))), some (.int v5), some (.int (fX8_in (σ.2 10 (Int32.toNatClampNeg (((40 : Int32) * p1) + v5))) (0 : Int64) (15 : Int64)))]) dX8_lays_90 rfl rfl rfl ?_
          refine js_iinc (v := (v5 + (1 : Int32))) (lv' := [some (.ref 0), some (.int p1), some (.int p2), none, some (.int (v4 + (1 : Int32))), some (.int (v5 + (1 : Int32))), some (.int (fX8_in (σ.2 10 (Int32.toNatClampNeg (((40 : Int32) * p1) + v5))) (0 : Int64) (15 : Int64)))]) dX8_lays_92 rfl (kx_1 _) rfl rfl rfl ?_
          refine js_goto 23 dX8_lays_95 rfl ?_
          refine js_drop [true, true, true, false, true, true, false] (lv2 := [some (.ref 0), some (.int p1), some (.int p2), none, some (.int (v4 + (1 : Int32))), some (.int (v5 + (1 : Int32))), none]) rfl ?_
          exact ih1 (v4 + (1 : Int32)) (v5 + (1 : Int32)) r2.2

def fX8_lays (a1 : Int32) (a2 : Int32) (σ : js_S) : Option (Int32 × js_S) := (fX8_wrongFlue a1 a2 σ).bind fun r1 => (if r1 = 0 then fX8_lays_L23 a1 a2 js_FU (0 : Int32) (0 : Int32) σ else (fX8_finds r1 σ).bind fun r3 => some (r3.1, r3.2))
set_option maxRecDepth 10000 in
theorem jX8_lays (G : js_G) (a1 : Int32) (a2 : Int32) (σ : js_S) : js_J G shM mX8_lays js_eW 0 [some (.ref 0), some (.int a1), some (.int a2), none, none, none, none] [] σ (fX8_lays a1 a2 σ) := by
  unfold fX8_lays
  refine js_aload_n dX8_lays_0 rfl rfl ?_
  refine js_iload_n dX8_lays_1 rfl rfl ?_
  refine js_iload_n dX8_lays_2 rfl rfl ?_
  refine js_callV_I (mj := mX8_wrongFlue) [(.int a1), (.int a2)] [] dX8_lays_3 tw_1239 cm_X8_wrongFlue cv_X8_wrongFlue rfl rfl rfl rfl rfl rfl (fun r h => qX8_wrongFlue G a1 a2 σ r h) (fun r1 => ?_)
  refine js_istore_n (lv' := [some (.ref 0), some (.int a1), some (.int a2), some (.int r1), none, none, none]) dX8_lays_6 rfl rfl rfl rfl ?_
  refine js_iload_n dX8_lays_7 rfl rfl ?_
  refine js_if_eq 17 dX8_lays_8 rfl ?_ ?_
  · refine js_iconst dX8_lays_17 ki_0 ?_
    refine js_istore (lv' := [some (.ref 0), some (.int a1), some (.int a2), some (.int r1), some (.int (0 : Int32)), none, none]) dX8_lays_18 rfl rfl rfl ?_
    refine js_iconst dX8_lays_20 ki_0 ?_
    refine js_istore (lv' := [some (.ref 0), some (.int a1), some (.int a2), some (.int r1), some (.int (0 : Int32)), some (.int (0 : Int32)), none]) dX8_lays_21 rfl rfl rfl ?_
    refine js_drop [true, true, true, false, true, true, false] (lv2 := [some (.ref 0), some (.int a1), some (.int a2), none, some (.int (0 : Int32)), some (.int (0 : Int32)), none]) rfl ?_
    exact jX8_lays_L23 G a1 a2  _ (0 : Int32) (0 : Int32) σ
  · refine js_aload_n dX8_lays_11 rfl rfl ?_
    refine js_iload_n dX8_lays_12 rfl rfl ?_
    refine js_callV_W (mj := mX8_finds) [(.int r1)] [] dX8_lays_13 tw_864 cm_X8_finds cv_X8_finds rfl rfl rfl rfl rfl rfl (fun r h => qX8_finds G r1 σ r h) (fun r3 => ?_)
    exact js_iret dX8_lays_16 rfl rfl

theorem qX8_lays (G : js_G) (a1 : Int32) (a2 : Int32) (σ : js_S) (r : (Int32 × js_S)) (h : fX8_lays a1 a2 σ = some r) : js_Con G shM mX8_lays [(.ref 0), (.int a1), (.int a2)] σ (js_eW r) := js_con (mi := mX8_lays) 4 pn_X8 rfl (Nat.le_of_ble_eq_true rfl) (jX8_lays G a1 a2 σ) r h
def fX8_book_L29 (p1 : Int32) : Nat → Int32 → js_S → Option (Int32 × js_S)
  | 0, _, _ => none
  | n + 1, v4, σ => js_gd (js_ix p1 4) ((if (σ.1 9 (Int32.toNatClampNeg p1)) ≤ v4 then some ((σ.1 0 7), σ) else (if (σ.1 0 7) ≤ v4 then js_gd (js_ix (((40 : Int32) * p1) + v4) 160) (fX8_book_L29 p1 n (v4 + (1 : Int32)) (js_sL σ 10 (Int32.toNatClampNeg (((40 : Int32) * p1) + v4)) (-1 : Int64))) else js_gd (js_ix v4 48) (js_gd (js_ix (((40 : Int32) * p1) + v4) 160) (fX8_book_L29 p1 n (v4 + (1 : Int32)) (js_sL σ 10 (Int32.toNatClampNeg (((40 : Int32) * p1) + v4)) (Int32.toInt64 (σ.1 6 (Int32.toNatClampNeg v4)))))))))
set_option maxRecDepth 10000 in
theorem jX8_book_L29 (G : js_G) (p1 : Int32) : ∀ (n : Nat) (v4 : Int32) (σ : js_S), js_J G shM mX8_book js_eW 29 [some (.ref 0), some (.int p1), none, none, some (.int v4)] [] σ (fX8_book_L29 p1 n v4 σ) := by
  intro n
  induction n with
  | zero =>
    intros
    exact js_none
  | succ n ih1 =>
    intro v4 σ
    rw [fX8_book_L29]
    refine js_iload dX8_book_29 rfl ?_
    refine js_aload_n dX8_book_31 rfl rfl ?_
    refine js_getR dX8_book_32 fl_X8_34 rfl rfl ?_
    refine js_iload_n dX8_book_35 rfl rfl ?_
    refine js_iald dX8_book_36 rfl ?_
    refine js_icmp_ge 81 dX8_book_37 rfl ?_ ?_
    · refine js_aload_n dX8_book_81 rfl rfl ?_
      refine js_getI dX8_book_82 fl_X8_167 rfl rfl ?_
      exact js_iret dX8_book_85 rfl rfl
    · refine js_aload_n dX8_book_40 rfl rfl ?_
      refine js_getR dX8_book_41 fl_X8_37 rfl rfl ?_
      refine js_bipush dX8_book_44 kb_40 ?_
      refine js_iload_n dX8_book_46 rfl rfl ?_
      refine js_imul dX8_book_47 ?_
      refine js_iload dX8_book_48 rfl ?_
      refine js_iadd dX8_book_50 ?_
      refine js_iload dX8_book_51 rfl ?_
      refine js_aload_n dX8_book_53 rfl rfl ?_
      refine js_getI dX8_book_54 fl_X8_167 rfl rfl ?_
      refine js_icmp_ge 71 dX8_book_57 rfl ?_ ?_
      · refine js_ldc2 dX8_book_71 tw_1247 ?_
        refine js_last dX8_book_74 rfl ?_
        refine js_iinc (v := (v4 + (1 : Int32))) (lv' := [some (.ref 0), some (.int p1), none, none, some (.int (v4 + (1 : Int32)))]) dX8_book_75 rfl (kx_1 _) rfl rfl rfl ?_
        refine js_goto 29 dX8_book_78 rfl ?_
        exact ih1 (v4 + (1 : Int32)) (js_sL σ 10 (Int32.toNatClampNeg (((40 : Int32) * p1) + v4)) (-1 : Int64))
      · refine js_aload_n dX8_book_60 rfl rfl ?_
        refine js_getR dX8_book_61 fl_X8_25 rfl rfl ?_
        refine js_iload dX8_book_64 rfl ?_
        refine js_iald dX8_book_66 rfl ?_
        refine js_i2l dX8_book_67 ?_
        refine js_goto 74 dX8_book_68 rfl ?_
        refine js_last dX8_book_74 rfl ?_
        refine js_iinc (v := (v4 + (1 : Int32))) (lv' := [some (.ref 0), some (.int p1), none, none, some (.int (v4 + (1 : Int32)))]) dX8_book_75 rfl (kx_1 _) rfl rfl rfl ?_
        refine js_goto 29 dX8_book_78 rfl ?_
        exact ih1 (v4 + (1 : Int32)) (js_sL σ 10 (Int32.toNatClampNeg (((40 : Int32) * p1) + v4)) (Int32.toInt64 (σ.1 6 (Int32.toNatClampNeg v4))))

def fX8_book (a1 : Int32) (a2 : Int32) (σ : js_S) : Option (Int32 × js_S) := (fX8_wrongFlue a1 a2 σ).bind fun r1 => (if r1 = 0 then (fX8_brings a2 (7 : Int32) (9 : Int32) σ).bind fun r2 => fX8_book_L29 a1 js_FU (0 : Int32) r2 else (fX8_finds r1 σ).bind fun r3 => some (r3.1, r3.2))
set_option maxRecDepth 10000 in
theorem jX8_book (G : js_G) (a1 : Int32) (a2 : Int32) (σ : js_S) : js_J G shM mX8_book js_eW 0 [some (.ref 0), some (.int a1), some (.int a2), none, none] [] σ (fX8_book a1 a2 σ) := by
  unfold fX8_book
  refine js_aload_n dX8_book_0 rfl rfl ?_
  refine js_iload_n dX8_book_1 rfl rfl ?_
  refine js_iload_n dX8_book_2 rfl rfl ?_
  refine js_callV_I (mj := mX8_wrongFlue) [(.int a1), (.int a2)] [] dX8_book_3 tw_1239 cm_X8_wrongFlue cv_X8_wrongFlue rfl rfl rfl rfl rfl rfl (fun r h => qX8_wrongFlue G a1 a2 σ r h) (fun r1 => ?_)
  refine js_istore_n (lv' := [some (.ref 0), some (.int a1), some (.int a2), some (.int r1), none]) dX8_book_6 rfl rfl rfl rfl ?_
  refine js_iload_n dX8_book_7 rfl rfl ?_
  refine js_if_eq 17 dX8_book_8 rfl ?_ ?_
  · refine js_aload_n dX8_book_17 rfl rfl ?_
    refine js_iload_n dX8_book_18 rfl rfl ?_
    refine js_bipush dX8_book_19 kb_7 ?_
    refine js_bipush dX8_book_21 kb_9 ?_
    refine js_callV_V (mj := mX8_brings) [(.int a2), (.int (7 : Int32)), (.int (9 : Int32))] [] dX8_book_23 tw_1051 cm_X8_brings cv_X8_brings rfl rfl rfl rfl rfl rfl (fun r h => qX8_brings G a2 (7 : Int32) (9 : Int32) σ r h) (fun r2 => ?_)
    refine js_iconst dX8_book_26 ki_0 ?_
    refine js_istore (lv' := [some (.ref 0), some (.int a1), some (.int a2), some (.int r1), some (.int (0 : Int32))]) dX8_book_27 rfl rfl rfl ?_
    refine js_drop [true, true, false, false, true] (lv2 := [some (.ref 0), some (.int a1), none, none, some (.int (0 : Int32))]) rfl ?_
    exact jX8_book_L29 G a1  _ (0 : Int32) r2
  · refine js_aload_n dX8_book_11 rfl rfl ?_
    refine js_iload_n dX8_book_12 rfl rfl ?_
    refine js_callV_W (mj := mX8_finds) [(.int r1)] [] dX8_book_13 tw_864 cm_X8_finds cv_X8_finds rfl rfl rfl rfl rfl rfl (fun r h => qX8_finds G r1 σ r h) (fun r3 => ?_)
    exact js_iret dX8_book_16 rfl rfl

theorem qX8_book (G : js_G) (a1 : Int32) (a2 : Int32) (σ : js_S) (r : (Int32 × js_S)) (h : fX8_book a1 a2 σ = some r) : js_Con G shM mX8_book [(.ref 0), (.int a1), (.int a2)] σ (js_eW r) := js_con (mi := mX8_book) 2 pn_X8 rfl (Nat.le_of_ble_eq_true rfl) (jX8_book G a1 a2 σ) r h
def fX8_isBook_L21 (p1 : Int32) (σ : js_S) : Nat → Int32 → Int32 → Option Int32
  | 0, _, _ => none
  | n + 1, v2, v3 => (if (σ.1 0 7) ≤ v3 then js_gd (js_b01 v2) (some v2) else (if v2 = 0 then js_gd (js_b01 v2) (some v2) else js_gd (js_ix (((40 : Int32) * p1) + v3) 160) (js_gd (js_ix v3 48) ((if (lg_cmp (σ.2 10 (Int32.toNatClampNeg (((40 : Int32) * p1) + v3))) (Int32.toInt64 (σ.1 6 (Int32.toNatClampNeg v3)))) = 0 then fX8_isBook_L21 p1 σ n (1 : Int32) (v3 + (1 : Int32)) else fX8_isBook_L21 p1 σ n (0 : Int32) (v3 + (1 : Int32)))))))
set_option maxRecDepth 10000 in
theorem jX8_isBook_L21 (G : js_G) (p1 : Int32) (σ : js_S) : ∀ (n : Nat) (v2 : Int32) (v3 : Int32), js_J G shM mX8_isBook (js_eI σ) 21 [some (.ref 0), some (.int p1), some (.int v2), some (.int v3)] [] σ (fX8_isBook_L21 p1 σ n v2 v3) := by
  intro n
  induction n with
  | zero =>
    intros
    exact js_none
  | succ n ih1 =>
    intro v2 v3
    rw [fX8_isBook_L21]
    refine js_iload_n dX8_isBook_21 rfl rfl ?_
    refine js_aload_n dX8_isBook_22 rfl rfl ?_
    refine js_getI dX8_isBook_23 fl_X8_167 rfl rfl ?_
    refine js_icmp_ge 67 dX8_isBook_26 rfl ?_ ?_
    · refine js_iload_n dX8_isBook_67 rfl rfl ?_
      exact js_zrg dX8_isBook_68 rfl rfl
    · refine js_iload_n dX8_isBook_29 rfl rfl ?_
      refine js_if_eq 67 dX8_isBook_30 rfl ?_ ?_
      · refine js_iload_n dX8_isBook_67 rfl rfl ?_
        exact js_zrg dX8_isBook_68 rfl rfl
      · refine js_aload_n dX8_isBook_33 rfl rfl ?_
        refine js_getR dX8_isBook_34 fl_X8_37 rfl rfl ?_
        refine js_bipush dX8_isBook_37 kb_40 ?_
        refine js_iload_n dX8_isBook_39 rfl rfl ?_
        refine js_imul dX8_isBook_40 ?_
        refine js_iload_n dX8_isBook_41 rfl rfl ?_
        refine js_iadd dX8_isBook_42 ?_
        refine js_lald dX8_isBook_43 rfl ?_
        refine js_aload_n dX8_isBook_44 rfl rfl ?_
        refine js_getR dX8_isBook_45 fl_X8_25 rfl rfl ?_
        refine js_iload_n dX8_isBook_48 rfl rfl ?_
        refine js_iald dX8_isBook_49 rfl ?_
        refine js_i2l dX8_isBook_50 ?_
        refine js_lcmp dX8_isBook_51 ?_
        refine js_if_ne 59 dX8_isBook_52 rfl ?_ ?_
        · refine js_iconst dX8_isBook_59 ki_0 ?_
          refine js_istore_n (lv' := [some (.ref 0), some (.int p1), some (.int (0 : Int32)), some (.int v3)]) dX8_isBook_60 rfl rfl rfl rfl ?_
          refine js_iinc (v := (v3 + (1 : Int32))) (lv' := [some (.ref 0), some (.int p1), some (.int (0 : Int32)), some (.int (v3 + (1 : Int32)))]) dX8_isBook_61 rfl (kx_1 _) rfl rfl rfl ?_
          refine js_goto 21 dX8_isBook_64 rfl ?_
          exact ih1 (0 : Int32) (v3 + (1 : Int32))
        · refine js_iconst dX8_isBook_55 ki_1 ?_
          refine js_goto 60 dX8_isBook_56 rfl ?_
          refine js_istore_n (lv' := [some (.ref 0), some (.int p1), some (.int (1 : Int32)), some (.int v3)]) dX8_isBook_60 rfl rfl rfl rfl ?_
          refine js_iinc (v := (v3 + (1 : Int32))) (lv' := [some (.ref 0), some (.int p1), some (.int (1 : Int32)), some (.int (v3 + (1 : Int32)))]) dX8_isBook_61 rfl (kx_1 _) rfl rfl rfl ?_
          refine js_goto 21 dX8_isBook_64 rfl ?_
          exact ih1 (1 : Int32) (v3 + (1 : Int32))

def fX8_isBook_L21_2 (p1 : Int32) (σ : js_S) : Nat → Int32 → Int32 → Option Int32
  | 0, _, _ => none
  | n + 1, v2, v3 => (if (σ.1 0 7) ≤ v3 then js_gd (js_b01 v2) (some v2) else (if v2 = 0 then js_gd (js_b01 v2) (some v2) else js_gd (js_ix (((40 : Int32) * p1) + v3) 160) (js_gd (js_ix v3 48) ((if (lg_cmp (σ.2 10 (Int32.toNatClampNeg (((40 : Int32) * p1) + v3))) (Int32.toInt64 (σ.1 6 (Int32.toNatClampNeg v3)))) = 0 then fX8_isBook_L21_2 p1 σ n (1 : Int32) (v3 + (1 : Int32)) else fX8_isBook_L21_2 p1 σ n (0 : Int32) (v3 + (1 : Int32)))))))
set_option maxRecDepth 10000 in
theorem jX8_isBook_L21_2 (G : js_G) (p1 : Int32) (σ : js_S) : ∀ (n : Nat) (v2 : Int32) (v3 : Int32), js_J G shM mX8_isBook (js_eI σ) 21 [some (.ref 0), some (.int p1), some (.int v2), some (.int v3)] [] σ (fX8_isBook_L21_2 p1 σ n v2 v3) := by
  intro n
  induction n with
  | zero =>
    intros
    exact js_none
  | succ n ih2 =>
    intro v2 v3
    rw [fX8_isBook_L21_2]
    refine js_iload_n dX8_isBook_21 rfl rfl ?_
    refine js_aload_n dX8_isBook_22 rfl rfl ?_
    refine js_getI dX8_isBook_23 fl_X8_167 rfl rfl ?_
    refine js_icmp_ge 67 dX8_isBook_26 rfl ?_ ?_
    · refine js_iload_n dX8_isBook_67 rfl rfl ?_
      exact js_zrg dX8_isBook_68 rfl rfl
    · refine js_iload_n dX8_isBook_29 rfl rfl ?_
      refine js_if_eq 67 dX8_isBook_30 rfl ?_ ?_
      · refine js_iload_n dX8_isBook_67 rfl rfl ?_
        exact js_zrg dX8_isBook_68 rfl rfl
      · refine js_aload_n dX8_isBook_33 rfl rfl ?_
        refine js_getR dX8_isBook_34 fl_X8_37 rfl rfl ?_
        refine js_bipush dX8_isBook_37 kb_40 ?_
        refine js_iload_n dX8_isBook_39 rfl rfl ?_
        refine js_imul dX8_isBook_40 ?_
        refine js_iload_n dX8_isBook_41 rfl rfl ?_
        refine js_iadd dX8_isBook_42 ?_
        refine js_lald dX8_isBook_43 rfl ?_
        refine js_aload_n dX8_isBook_44 rfl rfl ?_
        refine js_getR dX8_isBook_45 fl_X8_25 rfl rfl ?_
        refine js_iload_n dX8_isBook_48 rfl rfl ?_
        refine js_iald dX8_isBook_49 rfl ?_
        refine js_i2l dX8_isBook_50 ?_
        refine js_lcmp dX8_isBook_51 ?_
        refine js_if_ne 59 dX8_isBook_52 rfl ?_ ?_
        · refine js_iconst dX8_isBook_59 ki_0 ?_
          refine js_istore_n (lv' := [some (.ref 0), some (.int p1), some (.int (0 : Int32)), some (.int v3)]) dX8_isBook_60 rfl rfl rfl rfl ?_
          refine js_iinc (v := (v3 + (1 : Int32))) (lv' := [some (.ref 0), some (.int p1), some (.int (0 : Int32)), some (.int (v3 + (1 : Int32)))]) dX8_isBook_61 rfl (kx_1 _) rfl rfl rfl ?_
          refine js_goto 21 dX8_isBook_64 rfl ?_
          exact ih2 (0 : Int32) (v3 + (1 : Int32))
        · refine js_iconst dX8_isBook_55 ki_1 ?_
          refine js_goto 60 dX8_isBook_56 rfl ?_
          refine js_istore_n (lv' := [some (.ref 0), some (.int p1), some (.int (1 : Int32)), some (.int v3)]) dX8_isBook_60 rfl rfl rfl rfl ?_
          refine js_iinc (v := (v3 + (1 : Int32))) (lv' := [some (.ref 0), some (.int p1), some (.int (1 : Int32)), some (.int (v3 + (1 : Int32)))]) dX8_isBook_61 rfl (kx_1 _) rfl rfl rfl ?_
          refine js_goto 21 dX8_isBook_64 rfl ?_
          exact ih2 (1 : Int32) (v3 + (1 : Int32))

def fX8_isBook (a1 : Int32) (σ : js_S) : Option Int32 := js_gd (js_ix a1 4) ((if (σ.1 0 7) = (σ.1 9 (Int32.toNatClampNeg a1)) then fX8_isBook_L21_2 a1 σ js_FU (1 : Int32) (0 : Int32) else fX8_isBook_L21 a1 σ js_FU (0 : Int32) (0 : Int32)))
set_option maxRecDepth 10000 in
theorem jX8_isBook (G : js_G) (a1 : Int32) (σ : js_S) : js_J G shM mX8_isBook (js_eI σ) 0 [some (.ref 0), some (.int a1), none, none] [] σ (fX8_isBook a1 σ) := by
  unfold fX8_isBook
  refine js_aload_n dX8_isBook_0 rfl rfl ?_
  refine js_getI dX8_isBook_1 fl_X8_167 rfl rfl ?_
  refine js_aload_n dX8_isBook_4 rfl rfl ?_
  refine js_getR dX8_isBook_5 fl_X8_34 rfl rfl ?_
  refine js_iload_n dX8_isBook_8 rfl rfl ?_
  refine js_iald dX8_isBook_9 rfl ?_
  refine js_icmp_ne 17 dX8_isBook_10 rfl ?_ ?_
  · refine js_iconst dX8_isBook_17 ki_0 ?_
    refine js_istore_n (lv' := [some (.ref 0), some (.int a1), some (.int (0 : Int32)), none]) dX8_isBook_18 rfl rfl rfl rfl ?_
    refine js_iconst dX8_isBook_19 ki_0 ?_
    refine js_istore_n (lv' := [some (.ref 0), some (.int a1), some (.int (0 : Int32)), some (.int (0 : Int32))]) dX8_isBook_20 rfl rfl rfl rfl ?_
    exact jX8_isBook_L21 G a1 σ  _ (0 : Int32) (0 : Int32)
  · refine js_iconst dX8_isBook_13 ki_1 ?_
    refine js_goto 18 dX8_isBook_14 rfl ?_
    refine js_istore_n (lv' := [some (.ref 0), some (.int a1), some (.int (1 : Int32)), none]) dX8_isBook_18 rfl rfl rfl rfl ?_
    refine js_iconst dX8_isBook_19 ki_0 ?_
    refine js_istore_n (lv' := [some (.ref 0), some (.int a1), some (.int (1 : Int32)), some (.int (0 : Int32))]) dX8_isBook_20 rfl rfl rfl rfl ?_
    exact jX8_isBook_L21_2 G a1 σ  _ (1 : Int32) (0 : Int32)

theorem qX8_isBook (G : js_G) (a1 : Int32) (σ : js_S) (r : Int32) (h : fX8_isBook a1 σ = some r) : js_Con G shM mX8_isBook [(.ref 0), (.int a1)] σ ((js_eI σ) r) := js_con (mi := mX8_isBook) 2 pn_X8 rfl (Nat.le_of_ble_eq_true rfl) (jX8_isBook G a1 σ) r h
def fX8_read_L23 (p1 : Int32) (p2 : Int32) : Nat → Int32 → Int32 → js_S → Option (Int32 × js_S)
  | 0, _, _, _ => none
  | n + 1, v4, v5, σ => (if (72 : Int32) ≤ v5 then some (v4, σ) else (fX8_brings p2 (v5 / (9 : Int32)) ((1 : Int32) + (v5 - v5 / (9 : Int32) * (9 : Int32))) σ).bind fun r2 => (fX8_isBook p1 r2).bind fun r3 => (if r3 = 0 then fX8_read_L23 p1 p2 n (v4 + (0 : Int32)) (v5 + (1 : Int32)) r2 else fX8_read_L23 p1 p2 n (v4 + (1 : Int32)) (v5 + (1 : Int32)) r2))
set_option maxRecDepth 10000 in
theorem jX8_read_L23 (G : js_G) (p1 : Int32) (p2 : Int32) : ∀ (n : Nat) (v4 : Int32) (v5 : Int32) (σ : js_S), js_J G shM mX8_read js_eW 23 [some (.ref 0), some (.int p1), some (.int p2), none, some (.int v4), some (.int v5)] [] σ (fX8_read_L23 p1 p2 n v4 v5 σ) := by
  intro n
  induction n with
  | zero =>
    intros
    exact js_none
  | succ n ih1 =>
    intro v4 v5 σ
    rw [fX8_read_L23]
    refine js_iload dX8_read_23 rfl ?_
    refine js_bipush dX8_read_25 kb_72 ?_
    refine js_icmp_ge 71 dX8_read_27 rfl ?_ ?_
    · refine js_iload dX8_read_71 rfl ?_
      exact js_iret dX8_read_73 rfl rfl
    · refine js_aload_n dX8_read_30 rfl rfl ?_
      refine js_iload_n dX8_read_31 rfl rfl ?_
      refine js_iload dX8_read_32 rfl ?_
      refine js_bipush dX8_read_34 kb_9 ?_
      refine js_idiv dX8_read_36 (by decide) ?_
      refine js_iconst dX8_read_37 ki_1 ?_
      refine js_iload dX8_read_38 rfl ?_
      refine js_bipush dX8_read_40 kb_9 ?_
      refine js_irem dX8_read_42 (by decide) ?_
      refine js_iadd dX8_read_43 ?_
      refine js_callV_V (mj := mX8_brings) [(.int p2), (.int (v5 / (9 : Int32))), (.int ((1 : Int32) + (v5 - v5 / (9 : Int32) * (9 : Int32))))] [] dX8_read_44 tw_1051 cm_X8_brings cv_X8_brings rfl rfl rfl rfl rfl rfl (fun r h => qX8_brings G p2 (v5 / (9 : Int32)) ((1 : Int32) + (v5 - v5 / (9 : Int32) * (9 : Int32))) σ r h) (fun r2 => ?_)
      refine js_iload dX8_read_47 rfl ?_
      refine js_aload_n dX8_read_49 rfl rfl ?_
      refine js_iload_n dX8_read_50 rfl rfl ?_
      refine js_callV_I (mj := mX8_isBook) [(.int p1)] [(.int v4)] dX8_read_51 tw_1252 cm_X8_isBook cv_X8_isBook rfl rfl rfl rfl rfl rfl (fun r h => qX8_isBook G p1 r2 r h) (fun r3 => ?_)
      refine js_if_eq 61 dX8_read_54 rfl ?_ ?_
      · refine js_iconst dX8_read_61 ki_0 ?_
        refine js_iadd dX8_read_62 ?_
        refine js_istore (lv' := [some (.ref 0), some (.int p1), some (.int p2), none, some (.int (v4 + (0 : Int32))), some (.int v5)]) dX8_read_63 rfl rfl rfl ?_
        refine js_iinc (v := (v5 + (1 : Int32))) (lv' := [some (.ref 0), some (.int p1), some (.int p2), none, some (.int (v4 + (0 : Int32))), some (.int (v5 + (1 : Int32)))]) dX8_read_65 rfl (kx_1 _) rfl rfl rfl ?_
        refine js_goto 23 dX8_read_68 rfl ?_
        exact ih1 (v4 + (0 : Int32)) (v5 + (1 : Int32)) r2
      · refine js_iconst dX8_read_57 ki_1 ?_
        refine js_goto 62 dX8_read_58 rfl ?_
        refine js_iadd dX8_read_62 ?_
        refine js_istore (lv' := [some (.ref 0), some (.int p1), some (.int p2), none, some (.int (v4 + (1 : Int32))), some (.int v5)]) dX8_read_63 rfl rfl rfl ?_
        refine js_iinc (v := (v5 + (1 : Int32))) (lv' := [some (.ref 0), some (.int p1), some (.int p2), none, some (.int (v4 + (1 : Int32))), some (.int (v5 + (1 : Int32)))]) dX8_read_65 rfl (kx_1 _) rfl rfl rfl ?_
        refine js_goto 23 dX8_read_68 rfl ?_
        exact ih1 (v4 + (1 : Int32)) (v5 + (1 : Int32)) r2

def fX8_read (a1 : Int32) (a2 : Int32) (σ : js_S) : Option (Int32 × js_S) := (fX8_wrongFlue a1 a2 σ).bind fun r1 => (if r1 = 0 then fX8_read_L23 a1 a2 js_FU (0 : Int32) (0 : Int32) σ else (fX8_finds r1 σ).bind fun r4 => some (r4.1, r4.2))
set_option maxRecDepth 10000 in
theorem jX8_read (G : js_G) (a1 : Int32) (a2 : Int32) (σ : js_S) : js_J G shM mX8_read js_eW 0 [some (.ref 0), some (.int a1), some (.int a2), none, none, none] [] σ (fX8_read a1 a2 σ) := by
  unfold fX8_read
  refine js_aload_n dX8_read_0 rfl rfl ?_
  refine js_iload_n dX8_read_1 rfl rfl ?_
  refine js_iload_n dX8_read_2 rfl rfl ?_
  refine js_callV_I (mj := mX8_wrongFlue) [(.int a1), (.int a2)] [] dX8_read_3 tw_1239 cm_X8_wrongFlue cv_X8_wrongFlue rfl rfl rfl rfl rfl rfl (fun r h => qX8_wrongFlue G a1 a2 σ r h) (fun r1 => ?_)
  refine js_istore_n (lv' := [some (.ref 0), some (.int a1), some (.int a2), some (.int r1), none, none]) dX8_read_6 rfl rfl rfl rfl ?_
  refine js_iload_n dX8_read_7 rfl rfl ?_
  refine js_if_eq 17 dX8_read_8 rfl ?_ ?_
  · refine js_iconst dX8_read_17 ki_0 ?_
    refine js_istore (lv' := [some (.ref 0), some (.int a1), some (.int a2), some (.int r1), some (.int (0 : Int32)), none]) dX8_read_18 rfl rfl rfl ?_
    refine js_iconst dX8_read_20 ki_0 ?_
    refine js_istore (lv' := [some (.ref 0), some (.int a1), some (.int a2), some (.int r1), some (.int (0 : Int32)), some (.int (0 : Int32))]) dX8_read_21 rfl rfl rfl ?_
    refine js_drop [true, true, true, false, true, true] (lv2 := [some (.ref 0), some (.int a1), some (.int a2), none, some (.int (0 : Int32)), some (.int (0 : Int32))]) rfl ?_
    exact jX8_read_L23 G a1 a2  _ (0 : Int32) (0 : Int32) σ
  · refine js_aload_n dX8_read_11 rfl rfl ?_
    refine js_iload_n dX8_read_12 rfl rfl ?_
    refine js_callV_W (mj := mX8_finds) [(.int r1)] [] dX8_read_13 tw_864 cm_X8_finds cv_X8_finds rfl rfl rfl rfl rfl rfl (fun r h => qX8_finds G r1 σ r h) (fun r4 => ?_)
    exact js_iret dX8_read_16 rfl rfl

theorem qX8_read (G : js_G) (a1 : Int32) (a2 : Int32) (σ : js_S) (r : (Int32 × js_S)) (h : fX8_read a1 a2 σ = some r) : js_Con G shM mX8_read [(.ref 0), (.int a1), (.int a2)] σ (js_eW r) := js_con (mi := mX8_read) 3 pn_X8 rfl (Nat.le_of_ble_eq_true rfl) (jX8_read G a1 a2 σ) r h
def fX8_image_L2 : Nat → Int32 → js_S → Option (Int32 × js_S)
  | 0, _, _ => none
  | n + 1, v1, σ => (if (633 : Int32) ≤ v1 then some ((1 : Int32), (js_sI σ 0 5 (1 : Int32))) else js_gd (js_ix v1 633) (js_gd (js_ix v1 633) (fX8_image_L2  n (v1 + (1 : Int32)) (js_sI σ 2 (Int32.toNatClampNeg v1) (σ.1 1 (Int32.toNatClampNeg v1))))))
set_option maxRecDepth 10000 in
theorem jX8_image_L2 (G : js_G) : ∀ (n : Nat) (v1 : Int32) (σ : js_S), js_J G shM mX8_image js_eW 2 [some (.ref 0), some (.int v1)] [] σ (fX8_image_L2 n v1 σ) := by
  intro n
  induction n with
  | zero =>
    intros
    exact js_none
  | succ n ih1 =>
    intro v1 σ
    rw [fX8_image_L2]
    refine js_iload_n dX8_image_2 rfl rfl ?_
    refine js_sipush dX8_image_3 ks_633 ?_
    refine js_icmp_ge 27 dX8_image_6 rfl ?_ ?_
    · refine js_aload_n dX8_image_27 rfl rfl ?_
      refine js_iconst dX8_image_28 ki_1 ?_
      refine js_putI dX8_image_29 fp_X8_325 rfl rfl nb_1.1 nb_1.2 ?_
      refine js_iconst dX8_image_32 ki_1 ?_
      exact js_iret dX8_image_33 rfl rfl
    · refine js_aload_n dX8_image_9 rfl rfl ?_
      refine js_getR dX8_image_10 fl_X8_13 rfl rfl ?_
      refine js_iload_n dX8_image_13 rfl rfl ?_
      refine js_aload_n dX8_image_14 rfl rfl ?_
      refine js_getR dX8_image_15 fl_X8_7 rfl rfl ?_
      refine js_iload_n dX8_image_18 rfl rfl ?_
      refine js_iald dX8_image_19 rfl ?_
      refine js_iast dX8_image_20 rfl ?_
      refine js_iinc (v := (v1 + (1 : Int32))) (lv' := [some (.ref 0), some (.int (v1 + (1 : Int32)))]) dX8_image_21 rfl (kx_1 _) rfl rfl rfl ?_
      refine js_goto 2 dX8_image_24 rfl ?_
      exact ih1 (v1 + (1 : Int32)) (js_sI σ 2 (Int32.toNatClampNeg v1) (σ.1 1 (Int32.toNatClampNeg v1)))

def fX8_image (σ : js_S) : Option (Int32 × js_S) := fX8_image_L2 js_FU (0 : Int32) σ
set_option maxRecDepth 10000 in
theorem jX8_image (G : js_G) (σ : js_S) : js_J G shM mX8_image js_eW 0 [some (.ref 0), none] [] σ (fX8_image σ) := by
  unfold fX8_image
  refine js_iconst dX8_image_0 ki_0 ?_
  refine js_istore_n (lv' := [some (.ref 0), some (.int (0 : Int32))]) dX8_image_1 rfl rfl rfl rfl ?_
  exact jX8_image_L2 G  _ (0 : Int32) σ

theorem qX8_image (G : js_G) (σ : js_S) (r : (Int32 × js_S)) (h : fX8_image σ = some r) : js_Con G shM mX8_image [(.ref 0)] σ (js_eW r) := js_con (mi := mX8_image) 1 pn_X8 rfl (Nat.le_of_ble_eq_true rfl) (jX8_image G σ) r h
def fX8_undo_L16 : Nat → Int32 → js_S → Option (Int32 × js_S)
  | 0, _, _ => none
  | n + 1, v1, σ => (if (633 : Int32) ≤ v1 then js_gd (js_ix (0 : Int32) 633) (some ((σ.1 1 (Int32.toNatClampNeg (0 : Int32))), σ)) else js_gd (js_ix v1 633) (js_gd (js_ix v1 633) (fX8_undo_L16  n (v1 + (1 : Int32)) (js_sI σ 1 (Int32.toNatClampNeg v1) (σ.1 2 (Int32.toNatClampNeg v1))))))
set_option maxRecDepth 10000 in
theorem jX8_undo_L16 (G : js_G) : ∀ (n : Nat) (v1 : Int32) (σ : js_S), js_J G shM mX8_undo js_eW 16 [some (.ref 0), some (.int v1)] [] σ (fX8_undo_L16 n v1 σ) := by
  intro n
  induction n with
  | zero =>
    intros
    exact js_none
  | succ n ih1 =>
    intro v1 σ
    rw [fX8_undo_L16]
    refine js_iload_n dX8_undo_16 rfl rfl ?_
    refine js_sipush dX8_undo_17 ks_633 ?_
    refine js_icmp_ge 41 dX8_undo_20 rfl ?_ ?_
    · refine js_aload_n dX8_undo_41 rfl rfl ?_
      refine js_getR dX8_undo_42 fl_X8_7 rfl rfl ?_
      refine js_iconst dX8_undo_45 ki_0 ?_
      refine js_iald dX8_undo_46 rfl ?_
      exact js_iret dX8_undo_47 rfl rfl
    · refine js_aload_n dX8_undo_23 rfl rfl ?_
      refine js_getR dX8_undo_24 fl_X8_7 rfl rfl ?_
      refine js_iload_n dX8_undo_27 rfl rfl ?_
      refine js_aload_n dX8_undo_28 rfl rfl ?_
      refine js_getR dX8_undo_29 fl_X8_13 rfl rfl ?_
      refine js_iload_n dX8_undo_32 rfl rfl ?_
      refine js_iald dX8_undo_33 rfl ?_
      refine js_iast dX8_undo_34 rfl ?_
      refine js_iinc (v := (v1 + (1 : Int32))) (lv' := [some (.ref 0), some (.int (v1 + (1 : Int32)))]) dX8_undo_35 rfl (kx_1 _) rfl rfl rfl ?_
      refine js_goto 16 dX8_undo_38 rfl ?_
      exact ih1 (v1 + (1 : Int32)) (js_sI σ 1 (Int32.toNatClampNeg v1) (σ.1 2 (Int32.toNatClampNeg v1)))

def fX8_undo (σ : js_S) : Option (Int32 × js_S) := (if (σ.1 0 5) = 0 then (fX8_finds (-1000000004 : Int32) σ).bind fun r1 => some (r1.1, r1.2) else fX8_undo_L16 js_FU (0 : Int32) σ)
set_option maxRecDepth 10000 in
theorem jX8_undo (G : js_G) (σ : js_S) : js_J G shM mX8_undo js_eW 0 [some (.ref 0), none] [] σ (fX8_undo σ) := by
  unfold fX8_undo
  refine js_aload_n dX8_undo_0 rfl rfl ?_
  refine js_getI dX8_undo_1 fl_X8_325 rfl rfl ?_
  refine js_if_ne 14 dX8_undo_4 rfl ?_ ?_
  · refine js_iconst dX8_undo_14 ki_0 ?_
    refine js_istore_n (lv' := [some (.ref 0), some (.int (0 : Int32))]) dX8_undo_15 rfl rfl rfl rfl ?_
    exact jX8_undo_L16 G  _ (0 : Int32) σ
  · refine js_aload_n dX8_undo_7 rfl rfl ?_
    refine js_ldc dX8_undo_8 tw_933 ?_
    refine js_callV_W (mj := mX8_finds) [(.int (-1000000004 : Int32))] [] dX8_undo_10 tw_864 cm_X8_finds cv_X8_finds rfl rfl rfl rfl rfl rfl (fun r h => qX8_finds G (-1000000004 : Int32) σ r h) (fun r1 => ?_)
    exact js_iret dX8_undo_13 rfl rfl

theorem qX8_undo (G : js_G) (σ : js_S) (r : (Int32 × js_S)) (h : fX8_undo σ = some r) : js_Con G shM mX8_undo [(.ref 0)] σ (js_eW r) := js_con (mi := mX8_undo) 1 pn_X8 rfl (Nat.le_of_ble_eq_true rfl) (jX8_undo G σ) r h
def fX8_tear (σ : js_S) : Option (Int32 × js_S) := (if (σ.1 0 5) = 0 then some ((0 : Int32), (js_sI σ 0 5 (0 : Int32))) else some ((1 : Int32), (js_sI σ 0 5 (0 : Int32))))
set_option maxRecDepth 10000 in
theorem jX8_tear (G : js_G) (σ : js_S) : js_J G shM mX8_tear js_eW 0 [some (.ref 0), none] [] σ (fX8_tear σ) := by
  unfold fX8_tear
  refine js_aload_n dX8_tear_0 rfl rfl ?_
  refine js_getI dX8_tear_1 fl_X8_325 rfl rfl ?_
  refine js_if_eq 11 dX8_tear_4 rfl ?_ ?_
  · refine js_iconst dX8_tear_11 ki_0 ?_
    refine js_istore_n (lv' := [some (.ref 0), some (.int (0 : Int32))]) dX8_tear_12 rfl rfl rfl rfl ?_
    refine js_aload_n dX8_tear_13 rfl rfl ?_
    refine js_iconst dX8_tear_14 ki_0 ?_
    refine js_putI dX8_tear_15 fp_X8_325 rfl rfl nb_0.1 nb_0.2 ?_
    refine js_iload_n dX8_tear_18 rfl rfl ?_
    exact js_iret dX8_tear_19 rfl rfl
  · refine js_iconst dX8_tear_7 ki_1 ?_
    refine js_goto 12 dX8_tear_8 rfl ?_
    refine js_istore_n (lv' := [some (.ref 0), some (.int (1 : Int32))]) dX8_tear_12 rfl rfl rfl rfl ?_
    refine js_aload_n dX8_tear_13 rfl rfl ?_
    refine js_iconst dX8_tear_14 ki_0 ?_
    refine js_putI dX8_tear_15 fp_X8_325 rfl rfl nb_0.1 nb_0.2 ?_
    refine js_iload_n dX8_tear_18 rfl rfl ?_
    exact js_iret dX8_tear_19 rfl rfl

theorem qX8_tear (G : js_G) (σ : js_S) (r : (Int32 × js_S)) (h : fX8_tear σ = some r) : js_Con G shM mX8_tear [(.ref 0)] σ (js_eW r) := js_con (mi := mX8_tear) 1 pn_X8 rfl (Nat.le_of_ble_eq_true rfl) (jX8_tear G σ) r h
def fX8_fullOnes_L4 (σ : js_S) : Nat → Int32 → Int32 → Option Int32
  | 0, _, _ => none
  | n + 1, v1, v2 => js_gd (js_ix (0 : Int32) 633) ((if ((8 : Int32) * (σ.1 1 (Int32.toNatClampNeg (0 : Int32)))) ≤ v2 then some v1 else (fX8_isFull (v2 / (8 : Int32)) (v2 - v2 / (8 : Int32) * (8 : Int32)) σ).bind fun r1 => (if r1 = 0 then fX8_fullOnes_L4 σ n (v1 + (0 : Int32)) (v2 + (1 : Int32)) else fX8_fullOnes_L4 σ n (v1 + (1 : Int32)) (v2 + (1 : Int32)))))
set_option maxRecDepth 10000 in
theorem jX8_fullOnes_L4 (G : js_G) (σ : js_S) : ∀ (n : Nat) (v1 : Int32) (v2 : Int32), js_J G shM mX8_fullOnes (js_eI σ) 4 [some (.ref 0), some (.int v1), some (.int v2)] [] σ (fX8_fullOnes_L4 σ n v1 v2) := by
  intro n
  induction n with
  | zero =>
    intros
    exact js_none
  | succ n ih1 =>
    intro v1 v2
    rw [fX8_fullOnes_L4]
    refine js_iload_n dX8_fullOnes_4 rfl rfl ?_
    refine js_bipush dX8_fullOnes_5 kb_8 ?_
    refine js_aload_n dX8_fullOnes_7 rfl rfl ?_
    refine js_getR dX8_fullOnes_8 fl_X8_7 rfl rfl ?_
    refine js_iconst dX8_fullOnes_11 ki_0 ?_
    refine js_iald dX8_fullOnes_12 rfl ?_
    refine js_imul dX8_fullOnes_13 ?_
    refine js_icmp_ge 46 dX8_fullOnes_14 rfl ?_ ?_
    · refine js_iload_n dX8_fullOnes_46 rfl rfl ?_
      exact js_iret dX8_fullOnes_47 rfl rfl
    · refine js_iload_n dX8_fullOnes_17 rfl rfl ?_
      refine js_aload_n dX8_fullOnes_18 rfl rfl ?_
      refine js_iload_n dX8_fullOnes_19 rfl rfl ?_
      refine js_bipush dX8_fullOnes_20 kb_8 ?_
      refine js_idiv dX8_fullOnes_22 (by decide) ?_
      refine js_iload_n dX8_fullOnes_23 rfl rfl ?_
      refine js_bipush dX8_fullOnes_24 kb_8 ?_
      refine js_irem dX8_fullOnes_26 (by decide) ?_
      refine js_callV_I (mj := mX8_isFull) [(.int (v2 / (8 : Int32))), (.int (v2 - v2 / (8 : Int32) * (8 : Int32)))] [(.int v1)] dX8_fullOnes_27 tw_982 cm_X8_isFull cv_X8_isFull rfl rfl rfl rfl rfl rfl (fun r h => qX8_isFull G (v2 / (8 : Int32)) (v2 - v2 / (8 : Int32) * (8 : Int32)) σ r h) (fun r1 => ?_)
      refine js_if_eq 37 dX8_fullOnes_30 rfl ?_ ?_
      · refine js_iconst dX8_fullOnes_37 ki_0 ?_
        refine js_iadd dX8_fullOnes_38 ?_
        refine js_istore_n (lv' := [some (.ref 0), some (.int (v1 + (0 : Int32))), some (.int v2)]) dX8_fullOnes_39 rfl rfl rfl rfl ?_
        refine js_iinc (v := (v2 + (1 : Int32))) (lv' := [some (.ref 0), some (.int (v1 + (0 : Int32))), some (.int (v2 + (1 : Int32)))]) dX8_fullOnes_40 rfl (kx_1 _) rfl rfl rfl ?_
        refine js_goto 4 dX8_fullOnes_43 rfl ?_
        exact ih1 (v1 + (0 : Int32)) (v2 + (1 : Int32))
      · refine js_iconst dX8_fullOnes_33 ki_1 ?_
        refine js_goto 38 dX8_fullOnes_34 rfl ?_
        refine js_iadd dX8_fullOnes_38 ?_
        refine js_istore_n (lv' := [some (.ref 0), some (.int (v1 + (1 : Int32))), some (.int v2)]) dX8_fullOnes_39 rfl rfl rfl rfl ?_
        refine js_iinc (v := (v2 + (1 : Int32))) (lv' := [some (.ref 0), some (.int (v1 + (1 : Int32))), some (.int (v2 + (1 : Int32)))]) dX8_fullOnes_40 rfl (kx_1 _) rfl rfl rfl ?_
        refine js_goto 4 dX8_fullOnes_43 rfl ?_
        exact ih1 (v1 + (1 : Int32)) (v2 + (1 : Int32))

def fX8_fullOnes (σ : js_S) : Option Int32 := fX8_fullOnes_L4 σ js_FU (0 : Int32) (0 : Int32)
set_option maxRecDepth 10000 in
theorem jX8_fullOnes (G : js_G) (σ : js_S) : js_J G shM mX8_fullOnes (js_eI σ) 0 [some (.ref 0), none, none] [] σ (fX8_fullOnes σ) := by
  unfold fX8_fullOnes
  refine js_iconst dX8_fullOnes_0 ki_0 ?_
  refine js_istore_n (lv' := [some (.ref 0), some (.int (0 : Int32)), none]) dX8_fullOnes_1 rfl rfl rfl rfl ?_
  refine js_iconst dX8_fullOnes_2 ki_0 ?_
  refine js_istore_n (lv' := [some (.ref 0), some (.int (0 : Int32)), some (.int (0 : Int32))]) dX8_fullOnes_3 rfl rfl rfl rfl ?_
  exact jX8_fullOnes_L4 G σ  _ (0 : Int32) (0 : Int32)

theorem qX8_fullOnes (G : js_G) (σ : js_S) (r : Int32) (h : fX8_fullOnes σ = some r) : js_Con G shM mX8_fullOnes [(.ref 0)] σ ((js_eI σ) r) := js_con (mi := mX8_fullOnes) 2 pn_X8 rfl (Nat.le_of_ble_eq_true rfl) (jX8_fullOnes G σ) r h
def fX8_count (a1 : Int32) (σ : js_S) : Option (Int32 × js_S) := (if a1 = (0 : Int32) then js_gd (js_ix (0 : Int32) 633) (some ((σ.1 1 (Int32.toNatClampNeg (0 : Int32))), σ)) else (if a1 = (1 : Int32) then some ((σ.1 0 9), σ) else (if a1 = (2 : Int32) then (fX8_withCake (0 : Int32) σ).bind fun r7 => some (r7, σ) else (if a1 = (3 : Int32) then (fX8_fullOnes σ).bind fun r6 => some (r6, σ) else (fX8_finds (-1000000001 : Int32) σ).bind fun r1 => some (r1.1, r1.2)))))
set_option maxRecDepth 10000 in
theorem jX8_count (G : js_G) (a1 : Int32) (σ : js_S) : js_J G shM mX8_count js_eW 0 [some (.ref 0), some (.int a1)] [] σ (fX8_count a1 σ) := by
  unfold fX8_count
  refine js_iload_n dX8_count_0 rfl rfl ?_
  refine js_split (fun h2 => ?_) (fun h2 => ?_)
  · refine js_tabI (0 : Int32) (off := 31) 32 dX8_count_1 h2 (by decide) ?_
    refine js_aload_n dX8_count_32 rfl rfl ?_
    refine js_getR dX8_count_33 fl_X8_7 rfl rfl ?_
    refine js_iconst dX8_count_36 ki_0 ?_
    refine js_iald dX8_count_37 rfl ?_
    exact js_iret dX8_count_38 rfl rfl
  · refine js_split (fun h3 => ?_) (fun h3 => ?_)
    · refine js_tabI (1 : Int32) (off := 38) 39 dX8_count_1 h3 (by decide) ?_
      refine js_aload_n dX8_count_39 rfl rfl ?_
      refine js_getI dX8_count_40 fl_X8_204 rfl rfl ?_
      exact js_iret dX8_count_43 rfl rfl
    · refine js_split (fun h4 => ?_) (fun h4 => ?_)
      · refine js_tabI (2 : Int32) (off := 43) 44 dX8_count_1 h4 (by decide) ?_
        refine js_aload_n dX8_count_44 rfl rfl ?_
        refine js_iconst dX8_count_45 ki_0 ?_
        refine js_callV_I (mj := mX8_withCake) [(.int (0 : Int32))] [] dX8_count_46 tw_1008 cm_X8_withCake cv_X8_withCake rfl rfl rfl rfl rfl rfl (fun r h => qX8_withCake G (0 : Int32) σ r h) (fun r7 => ?_)
        exact js_iret dX8_count_49 rfl rfl
      · refine js_split (fun h5 => ?_) (fun h5 => ?_)
        · refine js_tabI (3 : Int32) (off := 49) 50 dX8_count_1 h5 (by decide) ?_
          refine js_aload_n dX8_count_50 rfl rfl ?_
          refine js_callV_I (mj := mX8_fullOnes) [] [] dX8_count_51 tw_1272 cm_X8_fullOnes cv_X8_fullOnes rfl rfl rfl rfl rfl rfl (fun r h => qX8_fullOnes G σ r h) (fun r6 => ?_)
          exact js_iret dX8_count_54 rfl rfl
        · refine js_tabO 55 dX8_count_1 (by have eh2 := lv_neT h2 (k := (0 : Int32)) (a := 0) (by decide); have eh3 := lv_neT h3 (k := (1 : Int32)) (a := 1) (by decide); have eh4 := lv_neT h4 (k := (2 : Int32)) (a := 2) (by decide); have eh5 := lv_neT h5 (k := (3 : Int32)) (a := 3) (by decide); omega) rfl ?_
          refine js_aload_n dX8_count_55 rfl rfl ?_
          refine js_ldc dX8_count_56 tw_863 ?_
          refine js_callV_W (mj := mX8_finds) [(.int (-1000000001 : Int32))] [] dX8_count_58 tw_864 cm_X8_finds cv_X8_finds rfl rfl rfl rfl rfl rfl (fun r h => qX8_finds G (-1000000001 : Int32) σ r h) (fun r1 => ?_)
          exact js_iret dX8_count_61 rfl rfl

theorem qX8_count (G : js_G) (a1 : Int32) (σ : js_S) (r : (Int32 × js_S)) (h : fX8_count a1 σ = some r) : js_Con G shM mX8_count [(.ref 0), (.int a1)] σ (js_eW r) := js_con (mi := mX8_count) 0 pn_X8 rfl (Nat.le_of_ble_eq_true rfl) (jX8_count G a1 σ) r h
def fX8_status_L25 (p1 : Int32) : Nat → Int32 → Int32 → js_S → Option (Int32 × js_S)
  | 0, _, _, _ => none
  | n + 1, v2, v3, σ => (if (7 : Int32) ≤ v3 then some (v2, σ) else (if p1 < 0 then js_gd (js_ix v3 7) (fX8_status_L25 p1 n (v2 + (σ.1 5 (Int32.toNatClampNeg v3))) (v3 + (1 : Int32)) σ) else (if v3 = p1 then js_gd (js_ix v3 7) (fX8_status_L25 p1 n (v2 + (σ.1 5 (Int32.toNatClampNeg v3))) (v3 + (1 : Int32)) σ) else fX8_status_L25 p1 n (v2 + (0 : Int32)) (v3 + (1 : Int32)) σ)))
set_option maxRecDepth 10000 in
theorem jX8_status_L25 (G : js_G) (p1 : Int32) : ∀ (n : Nat) (v2 : Int32) (v3 : Int32) (σ : js_S), js_J G shM mX8_status js_eW 25 [some (.ref 0), some (.int p1), some (.int v2), some (.int v3)] [] σ (fX8_status_L25 p1 n v2 v3 σ) := by
  intro n
  induction n with
  | zero =>
    intros
    exact js_none
  | succ n ih1 =>
    intro v2 v3 σ
    rw [fX8_status_L25]
    refine js_iload_n dX8_status_25 rfl rfl ?_
    refine js_bipush dX8_status_26 kb_7 ?_
    refine js_icmp_ge 59 dX8_status_28 rfl ?_ ?_
    · refine js_iload_n dX8_status_59 rfl rfl ?_
      exact js_iret dX8_status_60 rfl rfl
    · refine js_iload_n dX8_status_31 rfl rfl ?_
      refine js_iload_n dX8_status_32 rfl rfl ?_
      refine js_if_lt 41 dX8_status_33 rfl ?_ ?_
      · refine js_aload_n dX8_status_41 rfl rfl ?_
        refine js_getR dX8_status_42 fl_X8_22 rfl rfl ?_
        refine js_iload_n dX8_status_45 rfl rfl ?_
        refine js_iald dX8_status_46 rfl ?_
        refine js_goto 51 dX8_status_47 rfl ?_
        refine js_iadd dX8_status_51 ?_
        refine js_istore_n (lv' := [some (.ref 0), some (.int p1), some (.int (v2 + (σ.1 5 (Int32.toNatClampNeg v3)))), some (.int v3)]) dX8_status_52 rfl rfl rfl rfl ?_
        refine js_iinc (v := (v3 + (1 : Int32))) (lv' := [some (.ref 0), some (.int p1), some (.int (v2 + (σ.1 5 (Int32.toNatClampNeg v3)))), some (.int (v3 + (1 : Int32)))]) dX8_status_53 rfl (kx_1 _) rfl rfl rfl ?_
        refine js_goto 25 dX8_status_56 rfl ?_
        exact ih1 (v2 + (σ.1 5 (Int32.toNatClampNeg v3))) (v3 + (1 : Int32)) σ
      · refine js_iload_n dX8_status_36 rfl rfl ?_
        refine js_iload_n dX8_status_37 rfl rfl ?_
        refine js_icmp_ne 50 dX8_status_38 rfl ?_ ?_
        · refine js_iconst dX8_status_50 ki_0 ?_
          refine js_iadd dX8_status_51 ?_
          refine js_istore_n (lv' := [some (.ref 0), some (.int p1), some (.int (v2 + (0 : Int32))), some (.int v3)]) dX8_status_52 rfl rfl rfl rfl ?_
          refine js_iinc (v := (v3 + (1 : Int32))) (lv' := [some (.ref 0), some (.int p1), some (.int (v2 + (0 : Int32))), some (.int (v3 + (1 : Int32)))]) dX8_status_53 rfl (kx_1 _) rfl rfl rfl ?_
          refine js_goto 25 dX8_status_56 rfl ?_
          exact ih1 (v2 + (0 : Int32)) (v3 + (1 : Int32)) σ
        · refine js_aload_n dX8_status_41 rfl rfl ?_
          refine js_getR dX8_status_42 fl_X8_22 rfl rfl ?_
          refine js_iload_n dX8_status_45 rfl rfl ?_
          refine js_iald dX8_status_46 rfl ?_
          refine js_goto 51 dX8_status_47 rfl ?_
          refine js_iadd dX8_status_51 ?_
          refine js_istore_n (lv' := [some (.ref 0), some (.int p1), some (.int (v2 + (σ.1 5 (Int32.toNatClampNeg v3)))), some (.int v3)]) dX8_status_52 rfl rfl rfl rfl ?_
          refine js_iinc (v := (v3 + (1 : Int32))) (lv' := [some (.ref 0), some (.int p1), some (.int (v2 + (σ.1 5 (Int32.toNatClampNeg v3)))), some (.int (v3 + (1 : Int32)))]) dX8_status_53 rfl (kx_1 _) rfl rfl rfl ?_
          refine js_goto 25 dX8_status_56 rfl ?_
          exact ih1 (v2 + (σ.1 5 (Int32.toNatClampNeg v3))) (v3 + (1 : Int32)) σ

def fX8_status (a1 : Int32) (σ : js_S) : Option (Int32 × js_S) := (if (fX8_in (Int32.toInt64 a1) (-1 : Int64) (6 : Int64)) = 0 then (fX8_finds (-1000000001 : Int32) σ).bind fun r1 => some (r1.1, r1.2) else fX8_status_L25 a1 js_FU (0 : Int32) (0 : Int32) σ)
set_option maxRecDepth 10000 in
theorem jX8_status (G : js_G) (a1 : Int32) (σ : js_S) : js_J G shM mX8_status js_eW 0 [some (.ref 0), some (.int a1), none, none] [] σ (fX8_status a1 σ) := by
  unfold fX8_status
  refine js_iload_n dX8_status_0 rfl rfl ?_
  refine js_i2l dX8_status_1 ?_
  refine js_ldc2 dX8_status_2 tw_1247 ?_
  refine js_ldc2 dX8_status_5 tw_1280 ?_
  refine js_callS_P (mj := mX8_in) [(.long (Int32.toInt64 a1)), (.long (-1 : Int64)), (.long (6 : Int64))] [] dX8_status_8 tw_860 cm_X8_in tw_861 rfl rfl rfl rfl (qX8_in G (Int32.toInt64 a1) (-1 : Int64) (6 : Int64) σ) ?_
  refine js_if_ne 21 dX8_status_11 rfl ?_ ?_
  · refine js_iconst dX8_status_21 ki_0 ?_
    refine js_istore_n (lv' := [some (.ref 0), some (.int a1), some (.int (0 : Int32)), none]) dX8_status_22 rfl rfl rfl rfl ?_
    refine js_iconst dX8_status_23 ki_0 ?_
    refine js_istore_n (lv' := [some (.ref 0), some (.int a1), some (.int (0 : Int32)), some (.int (0 : Int32))]) dX8_status_24 rfl rfl rfl rfl ?_
    exact jX8_status_L25 G a1  _ (0 : Int32) (0 : Int32) σ
  · refine js_aload_n dX8_status_14 rfl rfl ?_
    refine js_ldc dX8_status_15 tw_863 ?_
    refine js_callV_W (mj := mX8_finds) [(.int (-1000000001 : Int32))] [] dX8_status_17 tw_864 cm_X8_finds cv_X8_finds rfl rfl rfl rfl rfl rfl (fun r h => qX8_finds G (-1000000001 : Int32) σ r h) (fun r1 => ?_)
    exact js_iret dX8_status_20 rfl rfl

theorem qX8_status (G : js_G) (a1 : Int32) (σ : js_S) (r : (Int32 × js_S)) (h : fX8_status a1 σ = some r) : js_Con G shM mX8_status [(.ref 0), (.int a1)] σ (js_eW r) := js_con (mi := mX8_status) 2 pn_X8 rfl (Nat.le_of_ble_eq_true rfl) (jX8_status G a1 σ) r h
