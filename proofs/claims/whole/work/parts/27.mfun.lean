def fX8_say (a1 : Int32) (a2 : Int32) (a3 : Int32) (σ : js_S) : Option (Int32 × js_S) := (fX8_isFlue a1 σ).bind fun r1 => (if r1 = 0 then (fX8_finds (-1000000001 : Int32) σ).bind fun r2 => some (r2.1, r2.2) else (if (fX8_isWord a2) = 0 then (fX8_finds (-1000000001 : Int32) σ).bind fun r3 => some (r3.1, r3.2) else (if (fX8_isVoice a3) = 0 then (fX8_finds (-1000000001 : Int32) σ).bind fun r4 => some (r4.1, r4.2) else (fX8_says a1 a2 a3 σ).bind fun r5 => some (r5.1, r5.2))))
set_option maxRecDepth 10000 in
theorem jX8_say (G : js_G) (a1 : Int32) (a2 : Int32) (a3 : Int32) (σ : js_S) : js_J G shM mX8_say js_eW 0 [some (.ref 0), some (.int a1), some (.int a2), some (.int a3)] [] σ (fX8_say a1 a2 a3 σ) := by
  unfold fX8_say
  refine js_aload_n dX8_say_0 rfl rfl ?_
  refine js_iload_n dX8_say_1 rfl rfl ?_
  refine js_callV_I (mj := mX8_isFlue) [(.int a1)] [] dX8_say_2 tw_880 cm_X8_isFlue cv_X8_isFlue rfl rfl rfl rfl rfl rfl (fun r h => qX8_isFlue G a1 σ r h) (fun r1 => ?_)
  refine js_if_eq 32 dX8_say_5 rfl ?_ ?_
  · refine js_aload_n dX8_say_32 rfl rfl ?_
    refine js_ldc dX8_say_33 tw_863 ?_
    refine js_callV_W (mj := mX8_finds) [(.int (-1000000001 : Int32))] [] dX8_say_35 tw_864 cm_X8_finds cv_X8_finds rfl rfl rfl rfl rfl rfl (fun r h => qX8_finds G (-1000000001 : Int32) σ r h) (fun r2 => ?_)
    exact js_iret dX8_say_38 rfl rfl
  · refine js_iload_n dX8_say_8 rfl rfl ?_
    refine js_callS_P (mj := mX8_isWord) [(.int a2)] [] dX8_say_9 tw_959 cm_X8_isWord tw_960 rfl rfl rfl rfl (qX8_isWord G a2 σ) ?_
    refine js_if_eq 32 dX8_say_12 rfl ?_ ?_
    · refine js_aload_n dX8_say_32 rfl rfl ?_
      refine js_ldc dX8_say_33 tw_863 ?_
      refine js_callV_W (mj := mX8_finds) [(.int (-1000000001 : Int32))] [] dX8_say_35 tw_864 cm_X8_finds cv_X8_finds rfl rfl rfl rfl rfl rfl (fun r h => qX8_finds G (-1000000001 : Int32) σ r h) (fun r3 => ?_)
      exact js_iret dX8_say_38 rfl rfl
    · refine js_iload_n dX8_say_15 rfl rfl ?_
      refine js_callS_P (mj := mX8_isVoice) [(.int a3)] [] dX8_say_16 tw_963 cm_X8_isVoice tw_964 rfl rfl rfl rfl (qX8_isVoice G a3 σ) ?_
      refine js_if_eq 32 dX8_say_19 rfl ?_ ?_
      · refine js_aload_n dX8_say_32 rfl rfl ?_
        refine js_ldc dX8_say_33 tw_863 ?_
        refine js_callV_W (mj := mX8_finds) [(.int (-1000000001 : Int32))] [] dX8_say_35 tw_864 cm_X8_finds cv_X8_finds rfl rfl rfl rfl rfl rfl (fun r h => qX8_finds G (-1000000001 : Int32) σ r h) (fun r4 => ?_)
        exact js_iret dX8_say_38 rfl rfl
      · refine js_aload_n dX8_say_22 rfl rfl ?_
        refine js_iload_n dX8_say_23 rfl rfl ?_
        refine js_iload_n dX8_say_24 rfl rfl ?_
        refine js_iload_n dX8_say_25 rfl rfl ?_
        refine js_callV_W (mj := mX8_says) [(.int a1), (.int a2), (.int a3)] [] dX8_say_26 tw_974 cm_X8_says cv_X8_says rfl rfl rfl rfl rfl rfl (fun r h => qX8_says G a1 a2 a3 σ r h) (fun r5 => ?_)
        refine js_goto 38 dX8_say_29 rfl ?_
        exact js_iret dX8_say_38 rfl rfl

theorem qX8_say (G : js_G) (a1 : Int32) (a2 : Int32) (a3 : Int32) (σ : js_S) (r : (Int32 × js_S)) (h : fX8_say a1 a2 a3 σ = some r) : js_Con G shM mX8_say [(.ref 0), (.int a1), (.int a2), (.int a3)] σ (js_eW r) := js_con (mi := mX8_say) 0 pn_X8 rfl (Nat.le_of_ble_eq_true rfl) (jX8_say G a1 a2 a3 σ) r h
def fX8_cake (a1 : Int32) (a2 : Int32) (a3 : Int32) (a4 : Int32) (σ : js_S) : Option (Int32 × js_S) := (fX8_isFlue a1 σ).bind fun r1 => (if r1 = 0 then (fX8_finds (-1000000001 : Int32) σ).bind fun r2 => some (r2.1, r2.2) else (if (fX8_isBend a2) = 0 then (fX8_finds (-1000000001 : Int32) σ).bind fun r3 => some (r3.1, r3.2) else (if (fX8_in (Int32.toInt64 a4) (0 : Int64) (9 : Int64)) = 0 then (fX8_finds (-1000000001 : Int32) σ).bind fun r7 => some (r7.1, r7.2) else (fX8_layers a1 a2 σ).bind fun r4 => (if (fX8_in (Int32.toInt64 a3) (0 : Int64) (Int32.toInt64 (r4 - (1 : Int32)))) = 0 then (fX8_finds (-1000000004 : Int32) σ).bind fun r5 => some (r5.1, r5.2) else (fX8_becomes ((345 : Int32) + (fX8_spot a1 a2 ((r4 - (1 : Int32)) - a3))) a4 σ).bind fun r6 => some (r6.1, r6.2)))))
set_option maxRecDepth 10000 in
theorem jX8_cake (G : js_G) (a1 : Int32) (a2 : Int32) (a3 : Int32) (a4 : Int32) (σ : js_S) : js_J G shM mX8_cake js_eW 0 [some (.ref 0), some (.int a1), some (.int a2), some (.int a3), some (.int a4), none] [] σ (fX8_cake a1 a2 a3 a4 σ) := by
  unfold fX8_cake
  refine js_aload_n dX8_cake_0 rfl rfl ?_
  refine js_iload_n dX8_cake_1 rfl rfl ?_
  refine js_callV_I (mj := mX8_isFlue) [(.int a1)] [] dX8_cake_2 tw_880 cm_X8_isFlue cv_X8_isFlue rfl rfl rfl rfl rfl rfl (fun r h => qX8_isFlue G a1 σ r h) (fun r1 => ?_)
  refine js_if_eq 28 dX8_cake_5 rfl ?_ ?_
  · refine js_aload_n dX8_cake_28 rfl rfl ?_
    refine js_ldc dX8_cake_29 tw_863 ?_
    refine js_callV_W (mj := mX8_finds) [(.int (-1000000001 : Int32))] [] dX8_cake_31 tw_864 cm_X8_finds cv_X8_finds rfl rfl rfl rfl rfl rfl (fun r h => qX8_finds G (-1000000001 : Int32) σ r h) (fun r2 => ?_)
    exact js_iret dX8_cake_34 rfl rfl
  · refine js_iload_n dX8_cake_8 rfl rfl ?_
    refine js_callS_P (mj := mX8_isBend) [(.int a2)] [] dX8_cake_9 tw_920 cm_X8_isBend tw_921 rfl rfl rfl rfl (qX8_isBend G a2 σ) ?_
    refine js_if_eq 28 dX8_cake_12 rfl ?_ ?_
    · refine js_aload_n dX8_cake_28 rfl rfl ?_
      refine js_ldc dX8_cake_29 tw_863 ?_
      refine js_callV_W (mj := mX8_finds) [(.int (-1000000001 : Int32))] [] dX8_cake_31 tw_864 cm_X8_finds cv_X8_finds rfl rfl rfl rfl rfl rfl (fun r h => qX8_finds G (-1000000001 : Int32) σ r h) (fun r3 => ?_)
      exact js_iret dX8_cake_34 rfl rfl
    · refine js_iload dX8_cake_15 rfl ?_
      refine js_i2l dX8_cake_17 ?_
      refine js_lconst dX8_cake_18 kl_0 ?_
      refine js_ldc2 dX8_cake_19 tw_954 ?_
      refine js_callS_P (mj := mX8_in) [(.long (Int32.toInt64 a4)), (.long (0 : Int64)), (.long (9 : Int64))] [] dX8_cake_22 tw_860 cm_X8_in tw_861 rfl rfl rfl rfl (qX8_in G (Int32.toInt64 a4) (0 : Int64) (9 : Int64) σ) ?_
      refine js_if_ne 35 dX8_cake_25 rfl ?_ ?_
      · refine js_aload_n dX8_cake_35 rfl rfl ?_
        refine js_iload_n dX8_cake_36 rfl rfl ?_
        refine js_iload_n dX8_cake_37 rfl rfl ?_
        refine js_callV_I (mj := mX8_layers) [(.int a1), (.int a2)] [] dX8_cake_38 tw_893 cm_X8_layers cv_X8_layers rfl rfl rfl rfl rfl rfl (fun r h => qX8_layers G a1 a2 σ r h) (fun r4 => ?_)
        refine js_istore (lv' := [some (.ref 0), some (.int a1), some (.int a2), some (.int a3), some (.int a4), some (.int r4)]) dX8_cake_41 rfl rfl rfl ?_
        refine js_iload_n dX8_cake_43 rfl rfl ?_
        refine js_i2l dX8_cake_44 ?_
        refine js_lconst dX8_cake_45 kl_0 ?_
        refine js_iload dX8_cake_46 rfl ?_
        refine js_iconst dX8_cake_48 ki_1 ?_
        refine js_isub dX8_cake_49 ?_
        refine js_i2l dX8_cake_50 ?_
        refine js_callS_P (mj := mX8_in) [(.long (Int32.toInt64 a3)), (.long (0 : Int64)), (.long (Int32.toInt64 (r4 - (1 : Int32))))] [] dX8_cake_51 tw_860 cm_X8_in tw_861 rfl rfl rfl rfl (qX8_in G (Int32.toInt64 a3) (0 : Int64) (Int32.toInt64 (r4 - (1 : Int32))) σ) ?_
        refine js_if_eq 81 dX8_cake_54 rfl ?_ ?_
        · refine js_aload_n dX8_cake_81 rfl rfl ?_
          refine js_ldc dX8_cake_82 tw_933 ?_
          refine js_callV_W (mj := mX8_finds) [(.int (-1000000004 : Int32))] [] dX8_cake_84 tw_864 cm_X8_finds cv_X8_finds rfl rfl rfl rfl rfl rfl (fun r h => qX8_finds G (-1000000004 : Int32) σ r h) (fun r5 => ?_)
          exact js_iret dX8_cake_87 rfl rfl
        · refine js_aload_n dX8_cake_57 rfl rfl ?_
          refine js_sipush dX8_cake_58 ks_345 ?_
          refine js_iload_n dX8_cake_61 rfl rfl ?_
          refine js_iload_n dX8_cake_62 rfl rfl ?_
          refine js_iload dX8_cake_63 rfl ?_
          refine js_iconst dX8_cake_65 ki_1 ?_
          refine js_isub dX8_cake_66 ?_
          refine js_iload_n dX8_cake_67 rfl rfl ?_
          refine js_isub dX8_cake_68 ?_
          refine js_callS_P (mj := mX8_spot) [(.int a1), (.int a2), (.int ((r4 - (1 : Int32)) - a3))] [(.int (345 : Int32)), (.ref 0)] dX8_cake_69 tw_905 cm_X8_spot tw_906 rfl rfl rfl rfl (qX8_spot G a1 a2 ((r4 - (1 : Int32)) - a3) σ) ?_
          refine js_iadd dX8_cake_72 ?_
          refine js_iload dX8_cake_73 rfl ?_
          refine js_callV_W (mj := mX8_becomes) [(.int ((345 : Int32) + (fX8_spot a1 a2 ((r4 - (1 : Int32)) - a3)))), (.int a4)] [] dX8_cake_75 tw_938 cm_X8_becomes cv_X8_becomes rfl rfl rfl rfl rfl rfl (fun r h => qX8_becomes G ((345 : Int32) + (fX8_spot a1 a2 ((r4 - (1 : Int32)) - a3))) a4 σ r h) (fun r6 => ?_)
          refine js_goto 87 dX8_cake_78 rfl ?_
          exact js_iret dX8_cake_87 rfl rfl
      · refine js_aload_n dX8_cake_28 rfl rfl ?_
        refine js_ldc dX8_cake_29 tw_863 ?_
        refine js_callV_W (mj := mX8_finds) [(.int (-1000000001 : Int32))] [] dX8_cake_31 tw_864 cm_X8_finds cv_X8_finds rfl rfl rfl rfl rfl rfl (fun r h => qX8_finds G (-1000000001 : Int32) σ r h) (fun r7 => ?_)
        exact js_iret dX8_cake_34 rfl rfl

theorem qX8_cake (G : js_G) (a1 : Int32) (a2 : Int32) (a3 : Int32) (a4 : Int32) (σ : js_S) (r : (Int32 × js_S)) (h : fX8_cake a1 a2 a3 a4 σ = some r) : js_Con G shM mX8_cake [(.ref 0), (.int a1), (.int a2), (.int a3), (.int a4)] σ (js_eW r) := js_con (mi := mX8_cake) 1 pn_X8 rfl (Nat.le_of_ble_eq_true rfl) (jX8_cake G a1 a2 a3 a4 σ) r h
def fX8_day_L26 (k92 : js_S → Option js_S) (p1 : Int32) (p2 : Int32) : Nat → Int32 → js_S → Option js_S
  | 0, _, _ => none
  | n + 1, v3, σ => js_gd (js_ix ((9 : Int32) + p1) 633) ((if (σ.1 1 (Int32.toNatClampNeg ((9 : Int32) + p1))) ≤ v3 then k92 σ else js_gd (js_ix (((345 : Int32) + ((6 : Int32) * p1)) + v3) 633) ((if ((σ.1 1 (Int32.toNatClampNeg (((345 : Int32) + ((6 : Int32) * p1)) + v3))) + p2) ≤ (9 : Int32) then js_gd (js_ix (((345 : Int32) + ((6 : Int32) * p1)) + v3) 633) (js_gd (js_ix (((345 : Int32) + ((6 : Int32) * p1)) + v3) 633) (fX8_day_L26 k92 p1 p2 n (v3 + (1 : Int32)) (js_sI σ 1 (Int32.toNatClampNeg (((345 : Int32) + ((6 : Int32) * p1)) + v3)) ((σ.1 1 (Int32.toNatClampNeg (((345 : Int32) + ((6 : Int32) * p1)) + v3))) + p2)))) else js_gd (js_ix (((345 : Int32) + ((6 : Int32) * p1)) + v3) 633) (fX8_day_L26 k92 p1 p2 n (v3 + (1 : Int32)) (js_sI σ 1 (Int32.toNatClampNeg (((345 : Int32) + ((6 : Int32) * p1)) + v3)) (9 : Int32)))))))
set_option maxRecDepth 10000 in
theorem jX8_day_L26 (G : js_G) (k92 : js_S → Option js_S) (p1 : Int32) (p2 : Int32) (hk92 : ∀  (σ : js_S), js_J G shM mX8_day js_eV 92 [some (.ref 0), some (.int p1), none, none, none] [] σ (k92 σ)) : ∀ (n : Nat) (v3 : Int32) (σ : js_S), js_J G shM mX8_day js_eV 26 [some (.ref 0), some (.int p1), some (.int p2), some (.int v3), none] [] σ (fX8_day_L26 k92 p1 p2 n v3 σ) := by
  intro n
  induction n with
  | zero =>
    intros
    exact js_none
  | succ n ih2 =>
    intro v3 σ
    rw [fX8_day_L26]
    refine js_iload_n dX8_day_26 rfl rfl ?_
    refine js_aload_n dX8_day_27 rfl rfl ?_
    refine js_getR dX8_day_28 fl_X8_7 rfl rfl ?_
    refine js_bipush dX8_day_31 kb_9 ?_
    refine js_iload_n dX8_day_33 rfl rfl ?_
    refine js_iadd dX8_day_34 ?_
    refine js_iald dX8_day_35 rfl ?_
    refine js_icmp_ge 92 dX8_day_36 rfl ?_ ?_
    · refine js_drop [true, true, false, false, false] (lv2 := [some (.ref 0), some (.int p1), none, none, none]) rfl ?_
      exact hk92 σ
    · refine js_sipush dX8_day_39 ks_345 ?_
      refine js_bipush dX8_day_42 kb_6 ?_
      refine js_iload_n dX8_day_44 rfl rfl ?_
      refine js_imul dX8_day_45 ?_
      refine js_iadd dX8_day_46 ?_
      refine js_iload_n dX8_day_47 rfl rfl ?_
      refine js_iadd dX8_day_48 ?_
      refine js_istore (lv' := [some (.ref 0), some (.int p1), some (.int p2), some (.int v3), some (.int (((345 : Int32) + ((6 : Int32) * p1)) + v3))]) dX8_day_49 rfl rfl rfl ?_
      refine js_aload_n dX8_day_51 rfl rfl ?_
      refine js_getR dX8_day_52 fl_X8_7 rfl rfl ?_
      refine js_iload dX8_day_55 rfl ?_
      refine js_aload_n dX8_day_57 rfl rfl ?_
      refine js_getR dX8_day_58 fl_X8_7 rfl rfl ?_
      refine js_iload dX8_day_61 rfl ?_
      refine js_iald dX8_day_63 rfl ?_
      refine js_iload_n dX8_day_64 rfl rfl ?_
      refine js_iadd dX8_day_65 ?_
      refine js_bipush dX8_day_66 kb_9 ?_
      refine js_icmp_le 76 dX8_day_68 rfl ?_ ?_
      · refine js_aload_n dX8_day_76 rfl rfl ?_
        refine js_getR dX8_day_77 fl_X8_7 rfl rfl ?_
        refine js_iload dX8_day_80 rfl ?_
        refine js_iald dX8_day_82 rfl ?_
        refine js_iload_n dX8_day_83 rfl rfl ?_
        refine js_iadd dX8_day_84 ?_
        refine js_iast dX8_day_85 rfl ?_
        refine js_iinc (v := (v3 + (1 : Int32))) (lv' := [some (.ref 0), some (.int p1), some (.int p2), some (.int (v3 + (1 : Int32))), some (.int (((345 : Int32) + ((6 : Int32) * p1)) + v3))]) dX8_day_86 rfl (kx_1 _) rfl rfl rfl ?_
        refine js_goto 26 dX8_day_89 rfl ?_
        refine js_drop [true, true, true, true, false] (lv2 := [some (.ref 0), some (.int p1), some (.int p2), some (.int (v3 + (1 : Int32))), none]) rfl ?_
        exact ih2 (v3 + (1 : Int32)) (js_sI σ 1 (Int32.toNatClampNeg (((345 : Int32) + ((6 : Int32) * p1)) + v3)) ((σ.1 1 (Int32.toNatClampNeg (((345 : Int32) + ((6 : Int32) * p1)) + v3))) + p2))
      · refine js_bipush dX8_day_71 kb_9 ?_
        refine js_goto 85 dX8_day_73 rfl ?_
        refine js_iast dX8_day_85 rfl ?_
        refine js_iinc (v := (v3 + (1 : Int32))) (lv' := [some (.ref 0), some (.int p1), some (.int p2), some (.int (v3 + (1 : Int32))), some (.int (((345 : Int32) + ((6 : Int32) * p1)) + v3))]) dX8_day_86 rfl (kx_1 _) rfl rfl rfl ?_
        refine js_goto 26 dX8_day_89 rfl ?_
        refine js_drop [true, true, true, true, false] (lv2 := [some (.ref 0), some (.int p1), some (.int p2), some (.int (v3 + (1 : Int32))), none]) rfl ?_
        exact ih2 (v3 + (1 : Int32)) (js_sI σ 1 (Int32.toNatClampNeg (((345 : Int32) + ((6 : Int32) * p1)) + v3)) (9 : Int32))

def fX8_day_L2 : Nat → Int32 → js_S → Option js_S
  | 0, _, _ => none
  | n + 1, v1, σ => js_gd (js_ix (0 : Int32) 633) ((if ((8 : Int32) * (σ.1 1 (Int32.toNatClampNeg (0 : Int32)))) ≤ v1 then js_gd (js_ix (1 : Int32) 633) (js_gd (js_ix (1 : Int32) 633) (some (js_sI σ 1 (Int32.toNatClampNeg (1 : Int32)) ((σ.1 1 (Int32.toNatClampNeg (1 : Int32))) + (1 : Int32))))) else (fX8_cakes (v1 / (8 : Int32)) σ).bind fun r1 => fX8_day_L26 (fun s2 => fX8_day_L2  n (v1 + (1 : Int32)) s2) v1 r1 js_FU (0 : Int32) σ))
set_option maxRecDepth 10000 in
theorem jX8_day_L2 (G : js_G) : ∀ (n : Nat) (v1 : Int32) (σ : js_S), js_J G shM mX8_day js_eV 2 [some (.ref 0), some (.int v1), none, none, none] [] σ (fX8_day_L2 n v1 σ) := by
  intro n
  induction n with
  | zero =>
    intros
    exact js_none
  | succ n ih1 =>
    intro v1 σ
    rw [fX8_day_L2]
    refine js_iload_n dX8_day_2 rfl rfl ?_
    refine js_bipush dX8_day_3 kb_8 ?_
    refine js_aload_n dX8_day_5 rfl rfl ?_
    refine js_getR dX8_day_6 fl_X8_7 rfl rfl ?_
    refine js_iconst dX8_day_9 ki_0 ?_
    refine js_iald dX8_day_10 rfl ?_
    refine js_imul dX8_day_11 ?_
    refine js_icmp_ge 98 dX8_day_12 rfl ?_ ?_
    · refine js_aload_n dX8_day_98 rfl rfl ?_
      refine js_getR dX8_day_99 fl_X8_7 rfl rfl ?_
      refine js_iconst dX8_day_102 ki_1 ?_
      refine js_dup2 dX8_day_103 rfl rfl ?_
      refine js_iald dX8_day_104 rfl ?_
      refine js_iconst dX8_day_105 ki_1 ?_
      refine js_iadd dX8_day_106 ?_
      refine js_iast dX8_day_107 rfl ?_
      exact js_vret dX8_day_108 rfl rfl
    · refine js_aload_n dX8_day_15 rfl rfl ?_
      refine js_iload_n dX8_day_16 rfl rfl ?_
      refine js_bipush dX8_day_17 kb_8 ?_
      refine js_idiv dX8_day_19 (by decide) ?_
      refine js_callV_I (mj := mX8_cakes) [(.int (v1 / (8 : Int32)))] [] dX8_day_20 tw_912 cm_X8_cakes cv_X8_cakes rfl rfl rfl rfl rfl rfl (fun r h => qX8_cakes G (v1 / (8 : Int32)) σ r h) (fun r1 => ?_)
      refine js_istore_n (lv' := [some (.ref 0), some (.int v1), some (.int r1), none, none]) dX8_day_23 rfl rfl rfl rfl ?_
      refine js_iconst dX8_day_24 ki_0 ?_
      refine js_istore_n (lv' := [some (.ref 0), some (.int v1), some (.int r1), some (.int (0 : Int32)), none]) dX8_day_25 rfl rfl rfl rfl ?_
      refine jX8_day_L26 G _ v1 r1 (fun s2 => ?_) _ (0 : Int32) σ
      refine js_iinc (v := (v1 + (1 : Int32))) (lv' := [some (.ref 0), some (.int (v1 + (1 : Int32))), none, none, none]) dX8_day_92 rfl (kx_1 _) rfl rfl rfl ?_
      refine js_goto 2 dX8_day_95 rfl ?_
      exact ih1 (v1 + (1 : Int32)) s2

def fX8_day (σ : js_S) : Option js_S := fX8_day_L2 js_FU (0 : Int32) σ
set_option maxRecDepth 10000 in
theorem jX8_day (G : js_G) (σ : js_S) : js_J G shM mX8_day js_eV 0 [some (.ref 0), none, none, none, none] [] σ (fX8_day σ) := by
  unfold fX8_day
  refine js_iconst dX8_day_0 ki_0 ?_
  refine js_istore_n (lv' := [some (.ref 0), some (.int (0 : Int32)), none, none, none]) dX8_day_1 rfl rfl rfl rfl ?_
  exact jX8_day_L2 G  _ (0 : Int32) σ

theorem qX8_day (G : js_G) (σ : js_S) (r : js_S) (h : fX8_day σ = some r) : js_Con G shM mX8_day [(.ref 0)] σ (js_eV r) := js_con (mi := mX8_day) 4 pn_X8 rfl (Nat.le_of_ble_eq_true rfl) (jX8_day G σ) r h
def fX8_goesOn_L2 (p1 : Int32) : Nat → Int32 → js_S → Option js_S
  | 0, _, _ => none
  | n + 1, v2, σ => (if p1 ≤ v2 then some σ else (fX8_day σ).bind fun r1 => fX8_goesOn_L2 p1 n (v2 + (1 : Int32)) r1)
set_option maxRecDepth 10000 in
theorem jX8_goesOn_L2 (G : js_G) (p1 : Int32) : ∀ (n : Nat) (v2 : Int32) (σ : js_S), js_J G shM mX8_goesOn js_eV 2 [some (.ref 0), some (.int p1), some (.int v2)] [] σ (fX8_goesOn_L2 p1 n v2 σ) := by
  intro n
  induction n with
  | zero =>
    intros
    exact js_none
  | succ n ih1 =>
    intro v2 σ
    rw [fX8_goesOn_L2]
    refine js_iload_n dX8_goesOn_2 rfl rfl ?_
    refine js_iload_n dX8_goesOn_3 rfl rfl ?_
    refine js_icmp_ge 17 dX8_goesOn_4 rfl ?_ ?_
    · exact js_vret dX8_goesOn_17 rfl rfl
    · refine js_aload_n dX8_goesOn_7 rfl rfl ?_
      refine js_callV_V (mj := mX8_day) [] [] dX8_goesOn_8 tw_1004 cm_X8_day cv_X8_day rfl rfl rfl rfl rfl rfl (fun r h => qX8_day G σ r h) (fun r1 => ?_)
      refine js_iinc (v := (v2 + (1 : Int32))) (lv' := [some (.ref 0), some (.int p1), some (.int (v2 + (1 : Int32)))]) dX8_goesOn_11 rfl (kx_1 _) rfl rfl rfl ?_
      refine js_goto 2 dX8_goesOn_14 rfl ?_
      exact ih1 (v2 + (1 : Int32)) r1

def fX8_goesOn (a1 : Int32) (σ : js_S) : Option js_S := fX8_goesOn_L2 a1 js_FU (0 : Int32) σ
set_option maxRecDepth 10000 in
theorem jX8_goesOn (G : js_G) (a1 : Int32) (σ : js_S) : js_J G shM mX8_goesOn js_eV 0 [some (.ref 0), some (.int a1), none] [] σ (fX8_goesOn a1 σ) := by
  unfold fX8_goesOn
  refine js_iconst dX8_goesOn_0 ki_0 ?_
  refine js_istore_n (lv' := [some (.ref 0), some (.int a1), some (.int (0 : Int32))]) dX8_goesOn_1 rfl rfl rfl rfl ?_
  exact jX8_goesOn_L2 G a1  _ (0 : Int32) σ

theorem qX8_goesOn (G : js_G) (a1 : Int32) (σ : js_S) (r : js_S) (h : fX8_goesOn a1 σ = some r) : js_Con G shM mX8_goesOn [(.ref 0), (.int a1)] σ (js_eV r) := js_con (mi := mX8_goesOn) 1 pn_X8 rfl (Nat.le_of_ble_eq_true rfl) (jX8_goesOn G a1 σ) r h
def fX8_withCake_L20 (k68 : Int32 → Option Int32) (p1 : Int32) (p3 : Int32) (σ : js_S) : Nat → Int32 → Int32 → Option Int32
  | 0, _, _ => none
  | n + 1, v2, v4 => js_gd (js_ix ((9 : Int32) + p3) 633) ((if (σ.1 1 (Int32.toNatClampNeg ((9 : Int32) + p3))) ≤ v4 then k68 v2 else js_gd (js_ix (((345 : Int32) + ((6 : Int32) * p3)) + v4) 633) ((if (σ.1 1 (Int32.toNatClampNeg (((345 : Int32) + ((6 : Int32) * p3)) + v4))) = p1 then fX8_withCake_L20 k68 p1 p3 σ n (v2 + (1 : Int32)) (v4 + (1 : Int32)) else fX8_withCake_L20 k68 p1 p3 σ n (v2 + (0 : Int32)) (v4 + (1 : Int32))))))
set_option maxRecDepth 10000 in
theorem jX8_withCake_L20 (G : js_G) (k68 : Int32 → Option Int32) (p1 : Int32) (p3 : Int32) (σ : js_S) (hk68 : ∀ (w2 : Int32), js_J G shM mX8_withCake (js_eI σ) 68 [some (.ref 0), some (.int p1), some (.int w2), some (.int p3), none] [] σ (k68 w2)) : ∀ (n : Nat) (v2 : Int32) (v4 : Int32), js_J G shM mX8_withCake (js_eI σ) 20 [some (.ref 0), some (.int p1), some (.int v2), some (.int p3), some (.int v4)] [] σ (fX8_withCake_L20 k68 p1 p3 σ n v2 v4) := by
  intro n
  induction n with
  | zero =>
    intros
    exact js_none
  | succ n ih2 =>
    intro v2 v4
    rw [fX8_withCake_L20]
    refine js_iload dX8_withCake_20 rfl ?_
    refine js_aload_n dX8_withCake_22 rfl rfl ?_
    refine js_getR dX8_withCake_23 fl_X8_7 rfl rfl ?_
    refine js_bipush dX8_withCake_26 kb_9 ?_
    refine js_iload_n dX8_withCake_28 rfl rfl ?_
    refine js_iadd dX8_withCake_29 ?_
    refine js_iald dX8_withCake_30 rfl ?_
    refine js_icmp_ge 68 dX8_withCake_31 rfl ?_ ?_
    · refine js_drop [true, true, true, true, false] (lv2 := [some (.ref 0), some (.int p1), some (.int v2), some (.int p3), none]) rfl ?_
      exact hk68 v2
    · refine js_iload_n dX8_withCake_34 rfl rfl ?_
      refine js_aload_n dX8_withCake_35 rfl rfl ?_
      refine js_getR dX8_withCake_36 fl_X8_7 rfl rfl ?_
      refine js_sipush dX8_withCake_39 ks_345 ?_
      refine js_bipush dX8_withCake_42 kb_6 ?_
      refine js_iload_n dX8_withCake_44 rfl rfl ?_
      refine js_imul dX8_withCake_45 ?_
      refine js_iadd dX8_withCake_46 ?_
      refine js_iload dX8_withCake_47 rfl ?_
      refine js_iadd dX8_withCake_49 ?_
      refine js_iald dX8_withCake_50 rfl ?_
      refine js_iload_n dX8_withCake_51 rfl rfl ?_
      refine js_icmp_ne 59 dX8_withCake_52 rfl ?_ ?_
      · refine js_iconst dX8_withCake_59 ki_0 ?_
        refine js_iadd dX8_withCake_60 ?_
        refine js_istore_n (lv' := [some (.ref 0), some (.int p1), some (.int (v2 + (0 : Int32))), some (.int p3), some (.int v4)]) dX8_withCake_61 rfl rfl rfl rfl ?_
        refine js_iinc (v := (v4 + (1 : Int32))) (lv' := [some (.ref 0), some (.int p1), some (.int (v2 + (0 : Int32))), some (.int p3), some (.int (v4 + (1 : Int32)))]) dX8_withCake_62 rfl (kx_1 _) rfl rfl rfl ?_
        refine js_goto 20 dX8_withCake_65 rfl ?_
        exact ih2 (v2 + (0 : Int32)) (v4 + (1 : Int32))
      · refine js_iconst dX8_withCake_55 ki_1 ?_
        refine js_goto 60 dX8_withCake_56 rfl ?_
        refine js_iadd dX8_withCake_60 ?_
        refine js_istore_n (lv' := [some (.ref 0), some (.int p1), some (.int (v2 + (1 : Int32))), some (.int p3), some (.int v4)]) dX8_withCake_61 rfl rfl rfl rfl ?_
        refine js_iinc (v := (v4 + (1 : Int32))) (lv' := [some (.ref 0), some (.int p1), some (.int (v2 + (1 : Int32))), some (.int p3), some (.int (v4 + (1 : Int32)))]) dX8_withCake_62 rfl (kx_1 _) rfl rfl rfl ?_
        refine js_goto 20 dX8_withCake_65 rfl ?_
        exact ih2 (v2 + (1 : Int32)) (v4 + (1 : Int32))

def fX8_withCake_L4 (p1 : Int32) (σ : js_S) : Nat → Int32 → Int32 → Option Int32
  | 0, _, _ => none
  | n + 1, v2, v3 => js_gd (js_ix (0 : Int32) 633) ((if ((8 : Int32) * (σ.1 1 (Int32.toNatClampNeg (0 : Int32)))) ≤ v3 then some v2 else fX8_withCake_L20 (fun w1 => fX8_withCake_L4 p1 σ n w1 (v3 + (1 : Int32))) p1 v3 σ js_FU v2 (0 : Int32)))
set_option maxRecDepth 10000 in
theorem jX8_withCake_L4 (G : js_G) (p1 : Int32) (σ : js_S) : ∀ (n : Nat) (v2 : Int32) (v3 : Int32), js_J G shM mX8_withCake (js_eI σ) 4 [some (.ref 0), some (.int p1), some (.int v2), some (.int v3), none] [] σ (fX8_withCake_L4 p1 σ n v2 v3) := by
  intro n
  induction n with
  | zero =>
    intros
    exact js_none
  | succ n ih1 =>
    intro v2 v3
    rw [fX8_withCake_L4]
    refine js_iload_n dX8_withCake_4 rfl rfl ?_
    refine js_bipush dX8_withCake_5 kb_8 ?_
    refine js_aload_n dX8_withCake_7 rfl rfl ?_
    refine js_getR dX8_withCake_8 fl_X8_7 rfl rfl ?_
    refine js_iconst dX8_withCake_11 ki_0 ?_
    refine js_iald dX8_withCake_12 rfl ?_
    refine js_imul dX8_withCake_13 ?_
    refine js_icmp_ge 74 dX8_withCake_14 rfl ?_ ?_
    · refine js_iload_n dX8_withCake_74 rfl rfl ?_
      exact js_iret dX8_withCake_75 rfl rfl
    · refine js_iconst dX8_withCake_17 ki_0 ?_
      refine js_istore (lv' := [some (.ref 0), some (.int p1), some (.int v2), some (.int v3), some (.int (0 : Int32))]) dX8_withCake_18 rfl rfl rfl ?_
      refine jX8_withCake_L20 G _ p1 v3 σ (fun w1 => ?_) _ v2 (0 : Int32)
      refine js_iinc (v := (v3 + (1 : Int32))) (lv' := [some (.ref 0), some (.int p1), some (.int w1), some (.int (v3 + (1 : Int32))), none]) dX8_withCake_68 rfl (kx_1 _) rfl rfl rfl ?_
      refine js_goto 4 dX8_withCake_71 rfl ?_
      exact ih1 w1 (v3 + (1 : Int32))

def fX8_withCake (a1 : Int32) (σ : js_S) : Option Int32 := fX8_withCake_L4 a1 σ js_FU (0 : Int32) (0 : Int32)
set_option maxRecDepth 10000 in
theorem jX8_withCake (G : js_G) (a1 : Int32) (σ : js_S) : js_J G shM mX8_withCake (js_eI σ) 0 [some (.ref 0), some (.int a1), none, none, none] [] σ (fX8_withCake a1 σ) := by
  unfold fX8_withCake
  refine js_iconst dX8_withCake_0 ki_0 ?_
  refine js_istore_n (lv' := [some (.ref 0), some (.int a1), some (.int (0 : Int32)), none, none]) dX8_withCake_1 rfl rfl rfl rfl ?_
  refine js_iconst dX8_withCake_2 ki_0 ?_
  refine js_istore_n (lv' := [some (.ref 0), some (.int a1), some (.int (0 : Int32)), some (.int (0 : Int32)), none]) dX8_withCake_3 rfl rfl rfl rfl ?_
  exact jX8_withCake_L4 G a1 σ  _ (0 : Int32) (0 : Int32)

theorem qX8_withCake (G : js_G) (a1 : Int32) (σ : js_S) (r : Int32) (h : fX8_withCake a1 σ = some r) : js_Con G shM mX8_withCake [(.ref 0), (.int a1)] σ ((js_eI σ) r) := js_con (mi := mX8_withCake) 3 pn_X8 rfl (Nat.le_of_ble_eq_true rfl) (jX8_withCake G a1 σ) r h
def fX8_days (a1 : Int32) (σ : js_S) : Option (Int32 × js_S) := (if (fX8_in (Int32.toInt64 a1) (1 : Int64) (60 : Int64)) = 0 then (fX8_finds (-1000000001 : Int32) σ).bind fun r4 => some (r4.1, r4.2) else js_gd (js_ix (1 : Int32) 633) ((if ((σ.1 1 (Int32.toNatClampNeg (1 : Int32))) + a1) ≤ (9999 : Int32) then (fX8_goesOn a1 σ).bind fun r1 => (fX8_withCake (9 : Int32) r1).bind fun r2 => some (r2, r1) else (fX8_finds (-1000000005 : Int32) σ).bind fun r3 => some (r3.1, r3.2))))
set_option maxRecDepth 10000 in
theorem jX8_days (G : js_G) (a1 : Int32) (σ : js_S) : js_J G shM mX8_days js_eW 0 [some (.ref 0), some (.int a1)] [] σ (fX8_days a1 σ) := by
  unfold fX8_days
  refine js_iload_n dX8_days_0 rfl rfl ?_
  refine js_i2l dX8_days_1 ?_
  refine js_lconst dX8_days_2 kl_1 ?_
  refine js_ldc2 dX8_days_3 tw_998 ?_
  refine js_callS_P (mj := mX8_in) [(.long (Int32.toInt64 a1)), (.long (1 : Int64)), (.long (60 : Int64))] [] dX8_days_6 tw_860 cm_X8_in tw_861 rfl rfl rfl rfl (qX8_in G (Int32.toInt64 a1) (1 : Int64) (60 : Int64) σ) ?_
  refine js_if_ne 19 dX8_days_9 rfl ?_ ?_
  · refine js_aload_n dX8_days_19 rfl rfl ?_
    refine js_getR dX8_days_20 fl_X8_7 rfl rfl ?_
    refine js_iconst dX8_days_23 ki_1 ?_
    refine js_iald dX8_days_24 rfl ?_
    refine js_iload_n dX8_days_25 rfl rfl ?_
    refine js_iadd dX8_days_26 ?_
    refine js_sipush dX8_days_27 ks_9999 ?_
    refine js_icmp_le 40 dX8_days_30 rfl ?_ ?_
    · refine js_aload_n dX8_days_40 rfl rfl ?_
      refine js_iload_n dX8_days_41 rfl rfl ?_
      refine js_callV_V (mj := mX8_goesOn) [(.int a1)] [] dX8_days_42 tw_1000 cm_X8_goesOn cv_X8_goesOn rfl rfl rfl rfl rfl rfl (fun r h => qX8_goesOn G a1 σ r h) (fun r1 => ?_)
      refine js_aload_n dX8_days_45 rfl rfl ?_
      refine js_bipush dX8_days_46 kb_9 ?_
      refine js_callV_I (mj := mX8_withCake) [(.int (9 : Int32))] [] dX8_days_48 tw_1008 cm_X8_withCake cv_X8_withCake rfl rfl rfl rfl rfl rfl (fun r h => qX8_withCake G (9 : Int32) r1 r h) (fun r2 => ?_)
      exact js_iret dX8_days_51 rfl rfl
    · refine js_aload_n dX8_days_33 rfl rfl ?_
      refine js_ldc dX8_days_34 tw_999 ?_
      refine js_callV_W (mj := mX8_finds) [(.int (-1000000005 : Int32))] [] dX8_days_36 tw_864 cm_X8_finds cv_X8_finds rfl rfl rfl rfl rfl rfl (fun r h => qX8_finds G (-1000000005 : Int32) σ r h) (fun r3 => ?_)
      exact js_iret dX8_days_39 rfl rfl
  · refine js_aload_n dX8_days_12 rfl rfl ?_
    refine js_ldc dX8_days_13 tw_863 ?_
    refine js_callV_W (mj := mX8_finds) [(.int (-1000000001 : Int32))] [] dX8_days_15 tw_864 cm_X8_finds cv_X8_finds rfl rfl rfl rfl rfl rfl (fun r h => qX8_finds G (-1000000001 : Int32) σ r h) (fun r4 => ?_)
    exact js_iret dX8_days_18 rfl rfl

theorem qX8_days (G : js_G) (a1 : Int32) (σ : js_S) (r : (Int32 × js_S)) (h : fX8_days a1 σ = some r) : js_Con G shM mX8_days [(.ref 0), (.int a1)] σ (js_eW r) := js_con (mi := mX8_days) 0 pn_X8 rfl (Nat.le_of_ble_eq_true rfl) (jX8_days G a1 σ) r h
def fX8_cakeAll_L4 (σ : js_S) : Nat → Int32 → Int32 → Option Int32
  | 0, _, _ => none
  | n + 1, v1, v2 => (if (9 : Int32) < v2 then some v1 else (fX8_withCake v2 σ).bind fun r1 => fX8_cakeAll_L4 σ n (v1 + (v2 * r1)) (v2 + (1 : Int32)))
set_option maxRecDepth 10000 in
theorem jX8_cakeAll_L4 (G : js_G) (σ : js_S) : ∀ (n : Nat) (v1 : Int32) (v2 : Int32), js_J G shM mX8_cakeAll (js_eI σ) 4 [some (.ref 0), some (.int v1), some (.int v2)] [] σ (fX8_cakeAll_L4 σ n v1 v2) := by
  intro n
  induction n with
  | zero =>
    intros
    exact js_none
  | succ n ih1 =>
    intro v1 v2
    rw [fX8_cakeAll_L4]
    refine js_iload_n dX8_cakeAll_4 rfl rfl ?_
    refine js_bipush dX8_cakeAll_5 kb_9 ?_
    refine js_icmp_gt 26 dX8_cakeAll_7 rfl ?_ ?_
    · refine js_iload_n dX8_cakeAll_26 rfl rfl ?_
      exact js_iret dX8_cakeAll_27 rfl rfl
    · refine js_iload_n dX8_cakeAll_10 rfl rfl ?_
      refine js_iload_n dX8_cakeAll_11 rfl rfl ?_
      refine js_aload_n dX8_cakeAll_12 rfl rfl ?_
      refine js_iload_n dX8_cakeAll_13 rfl rfl ?_
      refine js_callV_I (mj := mX8_withCake) [(.int v2)] [(.int v2), (.int v1)] dX8_cakeAll_14 tw_1008 cm_X8_withCake cv_X8_withCake rfl rfl rfl rfl rfl rfl (fun r h => qX8_withCake G v2 σ r h) (fun r1 => ?_)
      refine js_imul dX8_cakeAll_17 ?_
      refine js_iadd dX8_cakeAll_18 ?_
      refine js_istore_n (lv' := [some (.ref 0), some (.int (v1 + (v2 * r1))), some (.int v2)]) dX8_cakeAll_19 rfl rfl rfl rfl ?_
      refine js_iinc (v := (v2 + (1 : Int32))) (lv' := [some (.ref 0), some (.int (v1 + (v2 * r1))), some (.int (v2 + (1 : Int32)))]) dX8_cakeAll_20 rfl (kx_1 _) rfl rfl rfl ?_
      refine js_goto 4 dX8_cakeAll_23 rfl ?_
      exact ih1 (v1 + (v2 * r1)) (v2 + (1 : Int32))

def fX8_cakeAll (σ : js_S) : Option Int32 := fX8_cakeAll_L4 σ js_FU (0 : Int32) (1 : Int32)
set_option maxRecDepth 10000 in
theorem jX8_cakeAll (G : js_G) (σ : js_S) : js_J G shM mX8_cakeAll (js_eI σ) 0 [some (.ref 0), none, none] [] σ (fX8_cakeAll σ) := by
  unfold fX8_cakeAll
  refine js_iconst dX8_cakeAll_0 ki_0 ?_
  refine js_istore_n (lv' := [some (.ref 0), some (.int (0 : Int32)), none]) dX8_cakeAll_1 rfl rfl rfl rfl ?_
  refine js_iconst dX8_cakeAll_2 ki_1 ?_
  refine js_istore_n (lv' := [some (.ref 0), some (.int (0 : Int32)), some (.int (1 : Int32))]) dX8_cakeAll_3 rfl rfl rfl rfl ?_
  exact jX8_cakeAll_L4 G σ  _ (0 : Int32) (1 : Int32)

theorem qX8_cakeAll (G : js_G) (σ : js_S) (r : Int32) (h : fX8_cakeAll σ = some r) : js_Con G shM mX8_cakeAll [(.ref 0)] σ ((js_eI σ) r) := js_con (mi := mX8_cakeAll) 2 pn_X8 rfl (Nat.le_of_ble_eq_true rfl) (jX8_cakeAll G σ) r h
def fX8_wordsAll_L4 (σ : js_S) : Nat → Int32 → Int32 → Option Int32
  | 0, _, _ => none
  | n + 1, v1, v2 => js_gd (js_ix (0 : Int32) 633) ((if (σ.1 1 (Int32.toNatClampNeg (0 : Int32))) ≤ v2 then some v1 else (fX8_wordsOf v2 σ).bind fun r1 => fX8_wordsAll_L4 σ n (v1 ||| r1) (v2 + (1 : Int32))))
set_option maxRecDepth 10000 in
theorem jX8_wordsAll_L4 (G : js_G) (σ : js_S) : ∀ (n : Nat) (v1 : Int32) (v2 : Int32), js_J G shM mX8_wordsAll (js_eI σ) 4 [some (.ref 0), some (.int v1), some (.int v2)] [] σ (fX8_wordsAll_L4 σ n v1 v2) := by
  intro n
  induction n with
  | zero =>
    intros
    exact js_none
  | succ n ih1 =>
    intro v1 v2
    rw [fX8_wordsAll_L4]
    refine js_iload_n dX8_wordsAll_4 rfl rfl ?_
    refine js_aload_n dX8_wordsAll_5 rfl rfl ?_
    refine js_getR dX8_wordsAll_6 fl_X8_7 rfl rfl ?_
    refine js_iconst dX8_wordsAll_9 ki_0 ?_
    refine js_iald dX8_wordsAll_10 rfl ?_
    refine js_icmp_ge 28 dX8_wordsAll_11 rfl ?_ ?_
    · refine js_iload_n dX8_wordsAll_28 rfl rfl ?_
      exact js_iret dX8_wordsAll_29 rfl rfl
    · refine js_iload_n dX8_wordsAll_14 rfl rfl ?_
      refine js_aload_n dX8_wordsAll_15 rfl rfl ?_
      refine js_iload_n dX8_wordsAll_16 rfl rfl ?_
      refine js_callV_I (mj := mX8_wordsOf) [(.int v2)] [(.int v1)] dX8_wordsAll_17 tw_897 cm_X8_wordsOf cv_X8_wordsOf rfl rfl rfl rfl rfl rfl (fun r h => qX8_wordsOf G v2 σ r h) (fun r1 => ?_)
      refine js_ior dX8_wordsAll_20 ?_
      refine js_istore_n (lv' := [some (.ref 0), some (.int (v1 ||| r1)), some (.int v2)]) dX8_wordsAll_21 rfl rfl rfl rfl ?_
      refine js_iinc (v := (v2 + (1 : Int32))) (lv' := [some (.ref 0), some (.int (v1 ||| r1)), some (.int (v2 + (1 : Int32)))]) dX8_wordsAll_22 rfl (kx_1 _) rfl rfl rfl ?_
      refine js_goto 4 dX8_wordsAll_25 rfl ?_
      exact ih1 (v1 ||| r1) (v2 + (1 : Int32))

def fX8_wordsAll (σ : js_S) : Option Int32 := fX8_wordsAll_L4 σ js_FU (0 : Int32) (0 : Int32)
set_option maxRecDepth 10000 in
theorem jX8_wordsAll (G : js_G) (σ : js_S) : js_J G shM mX8_wordsAll (js_eI σ) 0 [some (.ref 0), none, none] [] σ (fX8_wordsAll σ) := by
  unfold fX8_wordsAll
  refine js_iconst dX8_wordsAll_0 ki_0 ?_
  refine js_istore_n (lv' := [some (.ref 0), some (.int (0 : Int32)), none]) dX8_wordsAll_1 rfl rfl rfl rfl ?_
  refine js_iconst dX8_wordsAll_2 ki_0 ?_
  refine js_istore_n (lv' := [some (.ref 0), some (.int (0 : Int32)), some (.int (0 : Int32))]) dX8_wordsAll_3 rfl rfl rfl rfl ?_
  exact jX8_wordsAll_L4 G σ  _ (0 : Int32) (0 : Int32)

theorem qX8_wordsAll (G : js_G) (σ : js_S) (r : Int32) (h : fX8_wordsAll σ = some r) : js_Con G shM mX8_wordsAll [(.ref 0)] σ ((js_eI σ) r) := js_con (mi := mX8_wordsAll) 2 pn_X8 rfl (Nat.le_of_ble_eq_true rfl) (jX8_wordsAll G σ) r h
def fX8_layersAll_L4 (σ : js_S) : Nat → Int32 → Int32 → Option Int32
  | 0, _, _ => none
  | n + 1, v1, v2 => js_gd (js_ix (0 : Int32) 633) ((if (σ.1 1 (Int32.toNatClampNeg (0 : Int32))) ≤ v2 then some v1 else (fX8_layersOf v2 σ).bind fun r1 => fX8_layersAll_L4 σ n (v1 + r1) (v2 + (1 : Int32))))
set_option maxRecDepth 10000 in
theorem jX8_layersAll_L4 (G : js_G) (σ : js_S) : ∀ (n : Nat) (v1 : Int32) (v2 : Int32), js_J G shM mX8_layersAll (js_eI σ) 4 [some (.ref 0), some (.int v1), some (.int v2)] [] σ (fX8_layersAll_L4 σ n v1 v2) := by
  intro n
  induction n with
  | zero =>
    intros
    exact js_none
  | succ n ih1 =>
    intro v1 v2
    rw [fX8_layersAll_L4]
    refine js_iload_n dX8_layersAll_4 rfl rfl ?_
    refine js_aload_n dX8_layersAll_5 rfl rfl ?_
    refine js_getR dX8_layersAll_6 fl_X8_7 rfl rfl ?_
    refine js_iconst dX8_layersAll_9 ki_0 ?_
    refine js_iald dX8_layersAll_10 rfl ?_
    refine js_icmp_ge 28 dX8_layersAll_11 rfl ?_ ?_
    · refine js_iload_n dX8_layersAll_28 rfl rfl ?_
      exact js_iret dX8_layersAll_29 rfl rfl
    · refine js_iload_n dX8_layersAll_14 rfl rfl ?_
      refine js_aload_n dX8_layersAll_15 rfl rfl ?_
      refine js_iload_n dX8_layersAll_16 rfl rfl ?_
      refine js_callV_I (mj := mX8_layersOf) [(.int v2)] [(.int v1)] dX8_layersAll_17 tw_889 cm_X8_layersOf cv_X8_layersOf rfl rfl rfl rfl rfl rfl (fun r h => qX8_layersOf G v2 σ r h) (fun r1 => ?_)
      refine js_iadd dX8_layersAll_20 ?_
      refine js_istore_n (lv' := [some (.ref 0), some (.int (v1 + r1)), some (.int v2)]) dX8_layersAll_21 rfl rfl rfl rfl ?_
      refine js_iinc (v := (v2 + (1 : Int32))) (lv' := [some (.ref 0), some (.int (v1 + r1)), some (.int (v2 + (1 : Int32)))]) dX8_layersAll_22 rfl (kx_1 _) rfl rfl rfl ?_
      refine js_goto 4 dX8_layersAll_25 rfl ?_
      exact ih1 (v1 + r1) (v2 + (1 : Int32))

def fX8_layersAll (σ : js_S) : Option Int32 := fX8_layersAll_L4 σ js_FU (0 : Int32) (0 : Int32)
set_option maxRecDepth 10000 in
theorem jX8_layersAll (G : js_G) (σ : js_S) : js_J G shM mX8_layersAll (js_eI σ) 0 [some (.ref 0), none, none] [] σ (fX8_layersAll σ) := by
  unfold fX8_layersAll
  refine js_iconst dX8_layersAll_0 ki_0 ?_
  refine js_istore_n (lv' := [some (.ref 0), some (.int (0 : Int32)), none]) dX8_layersAll_1 rfl rfl rfl rfl ?_
  refine js_iconst dX8_layersAll_2 ki_0 ?_
  refine js_istore_n (lv' := [some (.ref 0), some (.int (0 : Int32)), some (.int (0 : Int32))]) dX8_layersAll_3 rfl rfl rfl rfl ?_
  exact jX8_layersAll_L4 G σ  _ (0 : Int32) (0 : Int32)

theorem qX8_layersAll (G : js_G) (σ : js_S) (r : Int32) (h : fX8_layersAll σ = some r) : js_Con G shM mX8_layersAll [(.ref 0)] σ ((js_eI σ) r) := js_con (mi := mX8_layersAll) 2 pn_X8 rfl (Nat.le_of_ble_eq_true rfl) (jX8_layersAll G σ) r h
def fX8_now (a1 : Int32) (σ : js_S) : Option (Int32 × js_S) := (if a1 = (0 : Int32) then js_gd (js_ix (1 : Int32) 633) (some ((σ.1 1 (Int32.toNatClampNeg (1 : Int32))), σ)) else (if a1 = (1 : Int32) then js_gd (js_ix (2 : Int32) 633) (some ((σ.1 1 (Int32.toNatClampNeg (2 : Int32))), σ)) else (if a1 = (2 : Int32) then (fX8_layersAll σ).bind fun r9 => some (r9, σ) else (if a1 = (3 : Int32) then (fX8_wordsAll σ).bind fun r8 => some (r8, σ) else (if a1 = (4 : Int32) then (fX8_cakeAll σ).bind fun r7 => some (r7, σ) else (fX8_finds (-1000000001 : Int32) σ).bind fun r1 => some (r1.1, r1.2))))))
set_option maxRecDepth 10000 in
theorem jX8_now (G : js_G) (a1 : Int32) (σ : js_S) : js_J G shM mX8_now js_eW 0 [some (.ref 0), some (.int a1)] [] σ (fX8_now a1 σ) := by
  unfold fX8_now
  refine js_iload_n dX8_now_0 rfl rfl ?_
  refine js_split (fun h2 => ?_) (fun h2 => ?_)
  · refine js_tabI (0 : Int32) (off := 35) 36 dX8_now_1 h2 (by decide) ?_
    refine js_aload_n dX8_now_36 rfl rfl ?_
    refine js_getR dX8_now_37 fl_X8_7 rfl rfl ?_
    refine js_iconst dX8_now_40 ki_1 ?_
    refine js_iald dX8_now_41 rfl ?_
    exact js_iret dX8_now_42 rfl rfl
  · refine js_split (fun h3 => ?_) (fun h3 => ?_)
    · refine js_tabI (1 : Int32) (off := 42) 43 dX8_now_1 h3 (by decide) ?_
      refine js_aload_n dX8_now_43 rfl rfl ?_
      refine js_getR dX8_now_44 fl_X8_7 rfl rfl ?_
      refine js_iconst dX8_now_47 ki_2 ?_
      refine js_iald dX8_now_48 rfl ?_
      exact js_iret dX8_now_49 rfl rfl
    · refine js_split (fun h4 => ?_) (fun h4 => ?_)
      · refine js_tabI (2 : Int32) (off := 49) 50 dX8_now_1 h4 (by decide) ?_
        refine js_aload_n dX8_now_50 rfl rfl ?_
        refine js_callV_I (mj := mX8_layersAll) [] [] dX8_now_51 tw_1016 cm_X8_layersAll cv_X8_layersAll rfl rfl rfl rfl rfl rfl (fun r h => qX8_layersAll G σ r h) (fun r9 => ?_)
        exact js_iret dX8_now_54 rfl rfl
      · refine js_split (fun h5 => ?_) (fun h5 => ?_)
        · refine js_tabI (3 : Int32) (off := 54) 55 dX8_now_1 h5 (by decide) ?_
          refine js_aload_n dX8_now_55 rfl rfl ?_
          refine js_callV_I (mj := mX8_wordsAll) [] [] dX8_now_56 tw_1020 cm_X8_wordsAll cv_X8_wordsAll rfl rfl rfl rfl rfl rfl (fun r h => qX8_wordsAll G σ r h) (fun r8 => ?_)
          exact js_iret dX8_now_59 rfl rfl
        · refine js_split (fun h6 => ?_) (fun h6 => ?_)
          · refine js_tabI (4 : Int32) (off := 59) 60 dX8_now_1 h6 (by decide) ?_
            refine js_aload_n dX8_now_60 rfl rfl ?_
            refine js_callV_I (mj := mX8_cakeAll) [] [] dX8_now_61 tw_1024 cm_X8_cakeAll cv_X8_cakeAll rfl rfl rfl rfl rfl rfl (fun r h => qX8_cakeAll G σ r h) (fun r7 => ?_)
            exact js_iret dX8_now_64 rfl rfl
          · refine js_tabO 65 dX8_now_1 (by have eh2 := lv_neT h2 (k := (0 : Int32)) (a := 0) (by decide); have eh3 := lv_neT h3 (k := (1 : Int32)) (a := 1) (by decide); have eh4 := lv_neT h4 (k := (2 : Int32)) (a := 2) (by decide); have eh5 := lv_neT h5 (k := (3 : Int32)) (a := 3) (by decide); have eh6 := lv_neT h6 (k := (4 : Int32)) (a := 4) (by decide); omega) rfl ?_
            refine js_aload_n dX8_now_65 rfl rfl ?_
            refine js_ldc dX8_now_66 tw_863 ?_
            refine js_callV_W (mj := mX8_finds) [(.int (-1000000001 : Int32))] [] dX8_now_68 tw_864 cm_X8_finds cv_X8_finds rfl rfl rfl rfl rfl rfl (fun r h => qX8_finds G (-1000000001 : Int32) σ r h) (fun r1 => ?_)
            exact js_iret dX8_now_71 rfl rfl

theorem qX8_now (G : js_G) (a1 : Int32) (σ : js_S) (r : (Int32 × js_S)) (h : fX8_now a1 σ = some r) : js_Con G shM mX8_now [(.ref 0), (.int a1)] σ (js_eW r) := js_con (mi := mX8_now) 0 pn_X8 rfl (Nat.le_of_ble_eq_true rfl) (jX8_now G a1 σ) r h
def fX8_isStrength (a0 : Int32) : Int32 := (fX8_in (Int32.toInt64 a0) (1 : Int64) (9 : Int64))
set_option maxRecDepth 10000 in
theorem jX8_isStrength (G : js_G) (a0 : Int32) (σ : js_S) : js_J G shM mX8_isStrength (js_eI σ) 0 [some (.int a0)] [] σ (some (fX8_isStrength a0)) := by
  unfold fX8_isStrength
  refine js_iload_n dX8_isStrength_0 rfl rfl ?_
  refine js_i2l dX8_isStrength_1 ?_
  refine js_lconst dX8_isStrength_2 kl_1 ?_
  refine js_ldc2 dX8_isStrength_3 tw_954 ?_
  refine js_callS_P (mj := mX8_in) [(.long (Int32.toInt64 a0)), (.long (1 : Int64)), (.long (9 : Int64))] [] dX8_isStrength_6 tw_860 cm_X8_in tw_861 rfl rfl rfl rfl (qX8_in G (Int32.toInt64 a0) (1 : Int64) (9 : Int64) σ) ?_
  exact js_zret dX8_isStrength_9 rfl (js_nb (zX8_in (Int32.toInt64 a0) (1 : Int64) (9 : Int64))) rfl

theorem qX8_isStrength (G : js_G) (a0 : Int32) (σ : js_S) : js_Con G shM mX8_isStrength [(.int a0)] σ (some (.int (fX8_isStrength a0)), σ) := js_con (mi := mX8_isStrength) (emb := (js_eI σ)) 0 pn_X8 rfl (Nat.le_of_ble_eq_true rfl) (jX8_isStrength G a0 σ) _ rfl
theorem zX8_isStrength (a0 : Int32) : fX8_isStrength a0 = 0 ∨ fX8_isStrength a0 = 1 := by
  unfold fX8_isStrength
  repeat' split
  all_goals first | exact Or.inl rfl | exact Or.inr rfl | exact zX8_in _ _ _
def fX8_isBrush (a1 : Int32) (a2 : Int32) (a3 : Int32) (σ : js_S) : Option Int32 := (fX8_isFlue a1 σ).bind fun r1 => (if r1 = 0 then some (0 : Int32) else (if (fX8_isBend a2) = 0 then some (0 : Int32) else (if (fX8_isStrength a3) = 0 then some (0 : Int32) else some (1 : Int32))))
set_option maxRecDepth 10000 in
theorem jX8_isBrush (G : js_G) (a1 : Int32) (a2 : Int32) (a3 : Int32) (σ : js_S) : js_J G shM mX8_isBrush (js_eI σ) 0 [some (.ref 0), some (.int a1), some (.int a2), some (.int a3)] [] σ (fX8_isBrush a1 a2 a3 σ) := by
  unfold fX8_isBrush
  refine js_aload_n dX8_isBrush_0 rfl rfl ?_
  refine js_iload_n dX8_isBrush_1 rfl rfl ?_
  refine js_callV_I (mj := mX8_isFlue) [(.int a1)] [] dX8_isBrush_2 tw_880 cm_X8_isFlue cv_X8_isFlue rfl rfl rfl rfl rfl rfl (fun r h => qX8_isFlue G a1 σ r h) (fun r1 => ?_)
  refine js_if_eq 26 dX8_isBrush_5 rfl ?_ ?_
  · refine js_iconst dX8_isBrush_26 ki_0 ?_
    exact js_zret dX8_isBrush_27 rfl nb_0.1 rfl
  · refine js_iload_n dX8_isBrush_8 rfl rfl ?_
    refine js_callS_P (mj := mX8_isBend) [(.int a2)] [] dX8_isBrush_9 tw_920 cm_X8_isBend tw_921 rfl rfl rfl rfl (qX8_isBend G a2 σ) ?_
    refine js_if_eq 26 dX8_isBrush_12 rfl ?_ ?_
    · refine js_iconst dX8_isBrush_26 ki_0 ?_
      exact js_zret dX8_isBrush_27 rfl nb_0.1 rfl
    · refine js_iload_n dX8_isBrush_15 rfl rfl ?_
      refine js_callS_P (mj := mX8_isStrength) [(.int a3)] [] dX8_isBrush_16 tw_1036 cm_X8_isStrength tw_1037 rfl rfl rfl rfl (qX8_isStrength G a3 σ) ?_
      refine js_if_eq 26 dX8_isBrush_19 rfl ?_ ?_
      · refine js_iconst dX8_isBrush_26 ki_0 ?_
        exact js_zret dX8_isBrush_27 rfl nb_0.1 rfl
      · refine js_iconst dX8_isBrush_22 ki_1 ?_
        refine js_goto 27 dX8_isBrush_23 rfl ?_
        exact js_zret dX8_isBrush_27 rfl nb_1.1 rfl

theorem qX8_isBrush (G : js_G) (a1 : Int32) (a2 : Int32) (a3 : Int32) (σ : js_S) (r : Int32) (h : fX8_isBrush a1 a2 a3 σ = some r) : js_Con G shM mX8_isBrush [(.ref 0), (.int a1), (.int a2), (.int a3)] σ ((js_eI σ) r) := js_con (mi := mX8_isBrush) 0 pn_X8 rfl (Nat.le_of_ble_eq_true rfl) (jX8_isBrush G a1 a2 a3 σ) r h
def fX8_loose_L3 (p1 : Int32) (p2 : Int32) (p3 : Int32) (σ : js_S) : Nat → Int32 → Option Int32
  | 0, _ => none
  | n + 1, v4 => (fX8_layers p1 p2 σ).bind fun r1 => (if r1 ≤ v4 then some v4 else (fX8_layers p1 p2 σ).bind fun r2 => js_gd (js_ix ((345 : Int32) + (fX8_spot p1 p2 ((r2 - (1 : Int32)) - v4))) 633) ((if p3 ≤ (σ.1 1 (Int32.toNatClampNeg ((345 : Int32) + (fX8_spot p1 p2 ((r2 - (1 : Int32)) - v4))))) then some v4 else fX8_loose_L3 p1 p2 p3 σ n (v4 + (1 : Int32)))))
set_option maxRecDepth 10000 in
theorem jX8_loose_L3 (G : js_G) (p1 : Int32) (p2 : Int32) (p3 : Int32) (σ : js_S) : ∀ (n : Nat) (v4 : Int32), js_J G shM mX8_loose (js_eI σ) 3 [some (.ref 0), some (.int p1), some (.int p2), some (.int p3), some (.int v4)] [] σ (fX8_loose_L3 p1 p2 p3 σ n v4) := by
  intro n
  induction n with
  | zero =>
    intros
    exact js_none
  | succ n ih1 =>
    intro v4
    rw [fX8_loose_L3]
    refine js_iload dX8_loose_3 rfl ?_
    refine js_aload_n dX8_loose_5 rfl rfl ?_
    refine js_iload_n dX8_loose_6 rfl rfl ?_
    refine js_iload_n dX8_loose_7 rfl rfl ?_
    refine js_callV_I (mj := mX8_layers) [(.int p1), (.int p2)] [(.int v4)] dX8_loose_8 tw_893 cm_X8_layers cv_X8_layers rfl rfl rfl rfl rfl rfl (fun r h => qX8_layers G p1 p2 σ r h) (fun r1 => ?_)
    refine js_icmp_ge 49 dX8_loose_11 rfl ?_ ?_
    · refine js_iload dX8_loose_49 rfl ?_
      exact js_iret dX8_loose_51 rfl rfl
    · refine js_aload_n dX8_loose_14 rfl rfl ?_
      refine js_getR dX8_loose_15 fl_X8_7 rfl rfl ?_
      refine js_sipush dX8_loose_18 ks_345 ?_
      refine js_iload_n dX8_loose_21 rfl rfl ?_
      refine js_iload_n dX8_loose_22 rfl rfl ?_
      refine js_aload_n dX8_loose_23 rfl rfl ?_
      refine js_iload_n dX8_loose_24 rfl rfl ?_
      refine js_iload_n dX8_loose_25 rfl rfl ?_
      refine js_callV_I (mj := mX8_layers) [(.int p1), (.int p2)] [(.int p2), (.int p1), (.int (345 : Int32)), (.ref 1)] dX8_loose_26 tw_893 cm_X8_layers cv_X8_layers rfl rfl rfl rfl rfl rfl (fun r h => qX8_layers G p1 p2 σ r h) (fun r2 => ?_)
      refine js_iconst dX8_loose_29 ki_1 ?_
      refine js_isub dX8_loose_30 ?_
      refine js_iload dX8_loose_31 rfl ?_
      refine js_isub dX8_loose_33 ?_
      refine js_callS_P (mj := mX8_spot) [(.int p1), (.int p2), (.int ((r2 - (1 : Int32)) - v4))] [(.int (345 : Int32)), (.ref 1)] dX8_loose_34 tw_905 cm_X8_spot tw_906 rfl rfl rfl rfl (qX8_spot G p1 p2 ((r2 - (1 : Int32)) - v4) σ) ?_
      refine js_iadd dX8_loose_37 ?_
      refine js_iald dX8_loose_38 rfl ?_
      refine js_iload_n dX8_loose_39 rfl rfl ?_
      refine js_icmp_ge 49 dX8_loose_40 rfl ?_ ?_
      · refine js_iload dX8_loose_49 rfl ?_
        exact js_iret dX8_loose_51 rfl rfl
      · refine js_iinc (v := (v4 + (1 : Int32))) (lv' := [some (.ref 0), some (.int p1), some (.int p2), some (.int p3), some (.int (v4 + (1 : Int32)))]) dX8_loose_43 rfl (kx_1 _) rfl rfl rfl ?_
        refine js_goto 3 dX8_loose_46 rfl ?_
        exact ih1 (v4 + (1 : Int32))

def fX8_loose (a1 : Int32) (a2 : Int32) (a3 : Int32) (σ : js_S) : Option Int32 := fX8_loose_L3 a1 a2 a3 σ js_FU (0 : Int32)
set_option maxRecDepth 10000 in
theorem jX8_loose (G : js_G) (a1 : Int32) (a2 : Int32) (a3 : Int32) (σ : js_S) : js_J G shM mX8_loose (js_eI σ) 0 [some (.ref 0), some (.int a1), some (.int a2), some (.int a3), none] [] σ (fX8_loose a1 a2 a3 σ) := by
  unfold fX8_loose
  refine js_iconst dX8_loose_0 ki_0 ?_
  refine js_istore (lv' := [some (.ref 0), some (.int a1), some (.int a2), some (.int a3), some (.int (0 : Int32))]) dX8_loose_1 rfl rfl rfl ?_
  exact jX8_loose_L3 G a1 a2 a3 σ  _ (0 : Int32)

theorem qX8_loose (G : js_G) (a1 : Int32) (a2 : Int32) (a3 : Int32) (σ : js_S) (r : Int32) (h : fX8_loose a1 a2 a3 σ = some r) : js_Con G shM mX8_loose [(.ref 0), (.int a1), (.int a2), (.int a3)] σ ((js_eI σ) r) := js_con (mi := mX8_loose) 1 pn_X8 rfl (Nat.le_of_ble_eq_true rfl) (jX8_loose G a1 a2 a3 σ) r h
def fX8_sweep_L23 (p1 : Int32) (p2 : Int32) (p3 : Int32) : Nat → Int32 → Int32 → js_S → Option (Int32 × js_S)
  | 0, _, _, _ => none
  | n + 1, v4, v5, σ => (if p2 < v5 then some (v4, σ) else (fX8_loose p1 v5 p3 σ).bind fun r2 => js_gd (js_ix ((9 : Int32) + (fX8_place p1 v5)) 633) (js_gd (js_ix ((9 : Int32) + (fX8_place p1 v5)) 633) (fX8_sweep_L23 p1 p2 p3 n (v4 + r2) (v5 + (1 : Int32)) (js_sI σ 1 (Int32.toNatClampNeg ((9 : Int32) + (fX8_place p1 v5))) ((σ.1 1 (Int32.toNatClampNeg ((9 : Int32) + (fX8_place p1 v5)))) - r2)))))
set_option maxRecDepth 10000 in
theorem jX8_sweep_L23 (G : js_G) (p1 : Int32) (p2 : Int32) (p3 : Int32) : ∀ (n : Nat) (v4 : Int32) (v5 : Int32) (σ : js_S), js_J G shM mX8_sweep js_eW 23 [some (.ref 0), some (.int p1), some (.int p2), some (.int p3), some (.int v4), some (.int v5), none] [] σ (fX8_sweep_L23 p1 p2 p3 n v4 v5 σ) := by
  intro n
  induction n with
  | zero =>
    intros
    exact js_none
  | succ n ih1 =>
    intro v4 v5 σ
    rw [fX8_sweep_L23]
    refine js_iload dX8_sweep_23 rfl ?_
    refine js_iload_n dX8_sweep_25 rfl rfl ?_
    refine js_icmp_gt 71 dX8_sweep_26 rfl ?_ ?_
    · refine js_iload dX8_sweep_71 rfl ?_
      exact js_iret dX8_sweep_73 rfl rfl
    · refine js_aload_n dX8_sweep_29 rfl rfl ?_
      refine js_iload_n dX8_sweep_30 rfl rfl ?_
      refine js_iload dX8_sweep_31 rfl ?_
      refine js_iload_n dX8_sweep_33 rfl rfl ?_
      refine js_callV_I (mj := mX8_loose) [(.int p1), (.int v5), (.int p3)] [] dX8_sweep_34 tw_1039 cm_X8_loose cv_X8_loose rfl rfl rfl rfl rfl rfl (fun r h => qX8_loose G p1 v5 p3 σ r h) (fun r2 => ?_)
      refine js_istore (lv' := [some (.ref 0), some (.int p1), some (.int p2), some (.int p3), some (.int v4), some (.int v5), some (.int r2)]) dX8_sweep_37 rfl rfl rfl ?_
      refine js_aload_n dX8_sweep_39 rfl rfl ?_
      refine js_getR dX8_sweep_40 fl_X8_7 rfl rfl ?_
      refine js_bipush dX8_sweep_43 kb_9 ?_
      refine js_iload_n dX8_sweep_45 rfl rfl ?_
      refine js_iload dX8_sweep_46 rfl ?_
      refine js_callS_P (mj := mX8_place) [(.int p1), (.int v5)] [(.int (9 : Int32)), (.ref 1)] dX8_sweep_48 tw_873 cm_X8_place tw_874 rfl rfl rfl rfl (qX8_place G p1 v5 σ) ?_
      refine js_iadd dX8_sweep_51 ?_
      refine js_dup2 dX8_sweep_52 rfl rfl ?_
      refine js_iald dX8_sweep_53 rfl ?_
      refine js_iload dX8_sweep_54 rfl ?_
      refine js_isub dX8_sweep_56 ?_
      refine js_iast dX8_sweep_57 rfl ?_
      refine js_iload dX8_sweep_58 rfl ?_
      refine js_iload dX8_sweep_60 rfl ?_
      refine js_iadd dX8_sweep_62 ?_
      refine js_istore (lv' := [some (.ref 0), some (.int p1), some (.int p2), some (.int p3), some (.int (v4 + r2)), some (.int v5), some (.int r2)]) dX8_sweep_63 rfl rfl rfl ?_
      refine js_iinc (v := (v5 + (1 : Int32))) (lv' := [some (.ref 0), some (.int p1), some (.int p2), some (.int p3), some (.int (v4 + r2)), some (.int (v5 + (1 : Int32))), some (.int r2)]) dX8_sweep_65 rfl (kx_1 _) rfl rfl rfl ?_
      refine js_goto 23 dX8_sweep_68 rfl ?_
      refine js_drop [true, true, true, true, true, true, false] (lv2 := [some (.ref 0), some (.int p1), some (.int p2), some (.int p3), some (.int (v4 + r2)), some (.int (v5 + (1 : Int32))), none]) rfl ?_
      exact ih1 (v4 + r2) (v5 + (1 : Int32)) (js_sI σ 1 (Int32.toNatClampNeg ((9 : Int32) + (fX8_place p1 v5))) ((σ.1 1 (Int32.toNatClampNeg ((9 : Int32) + (fX8_place p1 v5)))) - r2))

def fX8_sweep (a1 : Int32) (a2 : Int32) (a3 : Int32) (σ : js_S) : Option (Int32 × js_S) := (fX8_isBrush a1 a2 a3 σ).bind fun r1 => (if r1 = 0 then (fX8_finds (-1000000001 : Int32) σ).bind fun r3 => some (r3.1, r3.2) else fX8_sweep_L23 a1 a2 a3 js_FU (0 : Int32) (0 : Int32) σ)
set_option maxRecDepth 10000 in
theorem jX8_sweep (G : js_G) (a1 : Int32) (a2 : Int32) (a3 : Int32) (σ : js_S) : js_J G shM mX8_sweep js_eW 0 [some (.ref 0), some (.int a1), some (.int a2), some (.int a3), none, none, none] [] σ (fX8_sweep a1 a2 a3 σ) := by
  unfold fX8_sweep
  refine js_aload_n dX8_sweep_0 rfl rfl ?_
  refine js_iload_n dX8_sweep_1 rfl rfl ?_
  refine js_iload_n dX8_sweep_2 rfl rfl ?_
  refine js_iload_n dX8_sweep_3 rfl rfl ?_
  refine js_callV_I (mj := mX8_isBrush) [(.int a1), (.int a2), (.int a3)] [] dX8_sweep_4 tw_1032 cm_X8_isBrush cv_X8_isBrush rfl rfl rfl rfl rfl rfl (fun r h => qX8_isBrush G a1 a2 a3 σ r h) (fun r1 => ?_)
  refine js_if_ne 17 dX8_sweep_7 rfl ?_ ?_
  · refine js_iconst dX8_sweep_17 ki_0 ?_
    refine js_istore (lv' := [some (.ref 0), some (.int a1), some (.int a2), some (.int a3), some (.int (0 : Int32)), none, none]) dX8_sweep_18 rfl rfl rfl ?_
    refine js_iconst dX8_sweep_20 ki_0 ?_
    refine js_istore (lv' := [some (.ref 0), some (.int a1), some (.int a2), some (.int a3), some (.int (0 : Int32)), some (.int (0 : Int32)), none]) dX8_sweep_21 rfl rfl rfl ?_
    exact jX8_sweep_L23 G a1 a2 a3  _ (0 : Int32) (0 : Int32) σ
  · refine js_aload_n dX8_sweep_10 rfl rfl ?_
    refine js_ldc dX8_sweep_11 tw_863 ?_
    refine js_callV_W (mj := mX8_finds) [(.int (-1000000001 : Int32))] [] dX8_sweep_13 tw_864 cm_X8_finds cv_X8_finds rfl rfl rfl rfl rfl rfl (fun r h => qX8_finds G (-1000000001 : Int32) σ r h) (fun r3 => ?_)
    exact js_iret dX8_sweep_16 rfl rfl

theorem qX8_sweep (G : js_G) (a1 : Int32) (a2 : Int32) (a3 : Int32) (σ : js_S) (r : (Int32 × js_S)) (h : fX8_sweep a1 a2 a3 σ = some r) : js_Con G shM mX8_sweep [(.ref 0), (.int a1), (.int a2), (.int a3)] σ (js_eW r) := js_con (mi := mX8_sweep) 3 pn_X8 rfl (Nat.le_of_ble_eq_true rfl) (jX8_sweep G a1 a2 a3 σ) r h
def fX8_brings_L27 (k85 : js_S → Option js_S) (p1 : Int32) (p2 : Int32) (p3 : Int32) (p4 : Int32) (p5 : Int32) : Nat → Int32 → js_S → Option js_S
  | 0, _, _ => none
  | n + 1, v6, σ => (if p5 ≤ v6 then k85 σ else (fX8_layers p1 p4 σ).bind fun r2 => js_gd (js_ix ((57 : Int32) + (fX8_spot p1 p4 ((r2 - (1 : Int32)) - v6))) 633) (js_gd (js_ix (σ.1 0 7) 48) (fX8_brings_L27 k85 p1 p2 p3 p4 p5 n (v6 + (1 : Int32)) (js_sI (js_sI σ 6 (Int32.toNatClampNeg (σ.1 0 7)) (σ.1 1 (Int32.toNatClampNeg ((57 : Int32) + (fX8_spot p1 p4 ((r2 - (1 : Int32)) - v6)))))) 0 7 (((js_sI σ 6 (Int32.toNatClampNeg (σ.1 0 7)) (σ.1 1 (Int32.toNatClampNeg ((57 : Int32) + (fX8_spot p1 p4 ((r2 - (1 : Int32)) - v6)))))).1 0 7) + (1 : Int32))))))
set_option maxRecDepth 10000 in
theorem jX8_brings_L27 (G : js_G) (k85 : js_S → Option js_S) (p1 : Int32) (p2 : Int32) (p3 : Int32) (p4 : Int32) (p5 : Int32) (hk85 : ∀  (σ : js_S), js_J G shM mX8_brings js_eV 85 [some (.ref 0), some (.int p1), some (.int p2), some (.int p3), some (.int p4), none, none] [] σ (k85 σ)) : ∀ (n : Nat) (v6 : Int32) (σ : js_S), js_J G shM mX8_brings js_eV 27 [some (.ref 0), some (.int p1), some (.int p2), some (.int p3), some (.int p4), some (.int p5), some (.int v6)] [] σ (fX8_brings_L27 k85 p1 p2 p3 p4 p5 n v6 σ) := by
  intro n
  induction n with
  | zero =>
    intros
    exact js_none
  | succ n ih2 =>
    intro v6 σ
    rw [fX8_brings_L27]
    refine js_iload dX8_brings_27 rfl ?_
    refine js_iload dX8_brings_29 rfl ?_
    refine js_icmp_ge 85 dX8_brings_31 rfl ?_ ?_
    · refine js_drop [true, true, true, true, true, false, false] (lv2 := [some (.ref 0), some (.int p1), some (.int p2), some (.int p3), some (.int p4), none, none]) rfl ?_
      exact hk85 σ
    · refine js_aload_n dX8_brings_34 rfl rfl ?_
      refine js_getR dX8_brings_35 fl_X8_25 rfl rfl ?_
      refine js_aload_n dX8_brings_38 rfl rfl ?_
      refine js_getI dX8_brings_39 fl_X8_167 rfl rfl ?_
      refine js_aload_n dX8_brings_42 rfl rfl ?_
      refine js_getR dX8_brings_43 fl_X8_7 rfl rfl ?_
      refine js_bipush dX8_brings_46 kb_57 ?_
      refine js_iload_n dX8_brings_48 rfl rfl ?_
      refine js_iload dX8_brings_49 rfl ?_
      refine js_aload_n dX8_brings_51 rfl rfl ?_
      refine js_iload_n dX8_brings_52 rfl rfl ?_
      refine js_iload dX8_brings_53 rfl ?_
      refine js_callV_I (mj := mX8_layers) [(.int p1), (.int p4)] [(.int p4), (.int p1), (.int (57 : Int32)), (.ref 1), (.int (σ.1 0 7)), (.ref 6)] dX8_brings_55 tw_893 cm_X8_layers cv_X8_layers rfl rfl rfl rfl rfl rfl (fun r h => qX8_layers G p1 p4 σ r h) (fun r2 => ?_)
      refine js_iconst dX8_brings_58 ki_1 ?_
      refine js_isub dX8_brings_59 ?_
      refine js_iload dX8_brings_60 rfl ?_
      refine js_isub dX8_brings_62 ?_
      refine js_callS_P (mj := mX8_spot) [(.int p1), (.int p4), (.int ((r2 - (1 : Int32)) - v6))] [(.int (57 : Int32)), (.ref 1), (.int (σ.1 0 7)), (.ref 6)] dX8_brings_63 tw_905 cm_X8_spot tw_906 rfl rfl rfl rfl (qX8_spot G p1 p4 ((r2 - (1 : Int32)) - v6) σ) ?_
      refine js_iadd dX8_brings_66 ?_
      refine js_iald dX8_brings_67 rfl ?_
      refine js_iast dX8_brings_68 rfl ?_
      refine js_aload_n dX8_brings_69 rfl rfl ?_
      refine js_dup dX8_brings_70 rfl ?_
      refine js_getI dX8_brings_71 fl_X8_167 rfl rfl ?_
      refine js_iconst dX8_brings_74 ki_1 ?_
      refine js_iadd dX8_brings_75 ?_
      refine js_putI dX8_brings_76 fp_X8_167 rfl rfl rfl rfl ?_
      refine js_iinc (v := (v6 + (1 : Int32))) (lv' := [some (.ref 0), some (.int p1), some (.int p2), some (.int p3), some (.int p4), some (.int p5), some (.int (v6 + (1 : Int32)))]) dX8_brings_79 rfl (kx_1 _) rfl rfl rfl ?_
      refine js_goto 27 dX8_brings_82 rfl ?_
      exact ih2 (v6 + (1 : Int32)) (js_sI (js_sI σ 6 (Int32.toNatClampNeg (σ.1 0 7)) (σ.1 1 (Int32.toNatClampNeg ((57 : Int32) + (fX8_spot p1 p4 ((r2 - (1 : Int32)) - v6)))))) 0 7 (((js_sI σ 6 (Int32.toNatClampNeg (σ.1 0 7)) (σ.1 1 (Int32.toNatClampNeg ((57 : Int32) + (fX8_spot p1 p4 ((r2 - (1 : Int32)) - v6)))))).1 0 7) + (1 : Int32)))

def fX8_brings_L8 (p1 : Int32) (p2 : Int32) (p3 : Int32) : Nat → Int32 → js_S → Option js_S
  | 0, _, _ => none
  | n + 1, v4, σ => (if p2 < v4 then some σ else (fX8_loose p1 v4 p3 σ).bind fun r1 => fX8_brings_L27 (fun s3 => fX8_brings_L8 p1 p2 p3 n (v4 + (1 : Int32)) s3) p1 p2 p3 v4 r1 js_FU (0 : Int32) σ)
set_option maxRecDepth 10000 in
theorem jX8_brings_L8 (G : js_G) (p1 : Int32) (p2 : Int32) (p3 : Int32) : ∀ (n : Nat) (v4 : Int32) (σ : js_S), js_J G shM mX8_brings js_eV 8 [some (.ref 0), some (.int p1), some (.int p2), some (.int p3), some (.int v4), none, none] [] σ (fX8_brings_L8 p1 p2 p3 n v4 σ) := by
  intro n
  induction n with
  | zero =>
    intros
    exact js_none
  | succ n ih1 =>
    intro v4 σ
    rw [fX8_brings_L8]
    refine js_iload dX8_brings_8 rfl ?_
    refine js_iload_n dX8_brings_10 rfl rfl ?_
    refine js_icmp_gt 91 dX8_brings_11 rfl ?_ ?_
    · exact js_vret dX8_brings_91 rfl rfl
    · refine js_aload_n dX8_brings_14 rfl rfl ?_
      refine js_iload_n dX8_brings_15 rfl rfl ?_
      refine js_iload dX8_brings_16 rfl ?_
      refine js_iload_n dX8_brings_18 rfl rfl ?_
      refine js_callV_I (mj := mX8_loose) [(.int p1), (.int v4), (.int p3)] [] dX8_brings_19 tw_1039 cm_X8_loose cv_X8_loose rfl rfl rfl rfl rfl rfl (fun r h => qX8_loose G p1 v4 p3 σ r h) (fun r1 => ?_)
      refine js_istore (lv' := [some (.ref 0), some (.int p1), some (.int p2), some (.int p3), some (.int v4), some (.int r1), none]) dX8_brings_22 rfl rfl rfl ?_
      refine js_iconst dX8_brings_24 ki_0 ?_
      refine js_istore (lv' := [some (.ref 0), some (.int p1), some (.int p2), some (.int p3), some (.int v4), some (.int r1), some (.int (0 : Int32))]) dX8_brings_25 rfl rfl rfl ?_
      refine jX8_brings_L27 G _ p1 p2 p3 v4 r1 (fun s3 => ?_) _ (0 : Int32) σ
      refine js_iinc (v := (v4 + (1 : Int32))) (lv' := [some (.ref 0), some (.int p1), some (.int p2), some (.int p3), some (.int (v4 + (1 : Int32))), none, none]) dX8_brings_85 rfl (kx_1 _) rfl rfl rfl ?_
      refine js_goto 8 dX8_brings_88 rfl ?_
      exact ih1 (v4 + (1 : Int32)) s3

def fX8_brings (a1 : Int32) (a2 : Int32) (a3 : Int32) (σ : js_S) : Option js_S := fX8_brings_L8 a1 a2 a3 js_FU (0 : Int32) (js_sI σ 0 7 (0 : Int32))
set_option maxRecDepth 10000 in
theorem jX8_brings (G : js_G) (a1 : Int32) (a2 : Int32) (a3 : Int32) (σ : js_S) : js_J G shM mX8_brings js_eV 0 [some (.ref 0), some (.int a1), some (.int a2), some (.int a3), none, none, none] [] σ (fX8_brings a1 a2 a3 σ) := by
  unfold fX8_brings
  refine js_aload_n dX8_brings_0 rfl rfl ?_
  refine js_iconst dX8_brings_1 ki_0 ?_
  refine js_putI dX8_brings_2 fp_X8_167 rfl rfl rfl rfl ?_
  refine js_iconst dX8_brings_5 ki_0 ?_
  refine js_istore (lv' := [some (.ref 0), some (.int a1), some (.int a2), some (.int a3), some (.int (0 : Int32)), none, none]) dX8_brings_6 rfl rfl rfl ?_
  exact jX8_brings_L8 G a1 a2 a3  _ (0 : Int32) (js_sI σ 0 7 (0 : Int32))

theorem qX8_brings (G : js_G) (a1 : Int32) (a2 : Int32) (a3 : Int32) (σ : js_S) (r : js_S) (h : fX8_brings a1 a2 a3 σ = some r) : js_Con G shM mX8_brings [(.ref 0), (.int a1), (.int a2), (.int a3)] σ (js_eV r) := js_con (mi := mX8_brings) 3 pn_X8 rfl (Nat.le_of_ble_eq_true rfl) (jX8_brings G a1 a2 a3 σ) r h
def fX8_broughtBy_L13 : Nat → Int32 → Int32 → js_S → Option (Int32 × js_S)
  | 0, _, _, _ => none
  | n + 1, v4, v5, σ => (if (σ.1 0 7) ≤ v5 then some (v4, σ) else js_gd (js_ix v5 48) (fX8_broughtBy_L13  n (v4 ||| ((1 : Int32) <<< ((σ.1 6 (Int32.toNatClampNeg v5)) &&& 31))) (v5 + (1 : Int32)) σ))
set_option maxRecDepth 10000 in
theorem jX8_broughtBy_L13 (G : js_G) : ∀ (n : Nat) (v4 : Int32) (v5 : Int32) (σ : js_S), js_J G shM mX8_broughtBy js_eW 13 [some (.ref 0), none, none, none, some (.int v4), some (.int v5)] [] σ (fX8_broughtBy_L13 n v4 v5 σ) := by
  intro n
  induction n with
  | zero =>
    intros
    exact js_none
  | succ n ih1 =>
    intro v4 v5 σ
    rw [fX8_broughtBy_L13]
    refine js_iload dX8_broughtBy_13 rfl ?_
    refine js_aload_n dX8_broughtBy_15 rfl rfl ?_
    refine js_getI dX8_broughtBy_16 fl_X8_167 rfl rfl ?_
    refine js_icmp_ge 42 dX8_broughtBy_19 rfl ?_ ?_
    · refine js_iload dX8_broughtBy_42 rfl ?_
      exact js_iret dX8_broughtBy_44 rfl rfl
    · refine js_iload dX8_broughtBy_22 rfl ?_
      refine js_iconst dX8_broughtBy_24 ki_1 ?_
      refine js_aload_n dX8_broughtBy_25 rfl rfl ?_
      refine js_getR dX8_broughtBy_26 fl_X8_25 rfl rfl ?_
      refine js_iload dX8_broughtBy_29 rfl ?_
      refine js_iald dX8_broughtBy_31 rfl ?_
      refine js_ishl dX8_broughtBy_32 ?_
      refine js_ior dX8_broughtBy_33 ?_
      refine js_istore (lv' := [some (.ref 0), none, none, none, some (.int (v4 ||| ((1 : Int32) <<< ((σ.1 6 (Int32.toNatClampNeg v5)) &&& 31)))), some (.int v5)]) dX8_broughtBy_34 rfl rfl rfl ?_
      refine js_iinc (v := (v5 + (1 : Int32))) (lv' := [some (.ref 0), none, none, none, some (.int (v4 ||| ((1 : Int32) <<< ((σ.1 6 (Int32.toNatClampNeg v5)) &&& 31)))), some (.int (v5 + (1 : Int32)))]) dX8_broughtBy_36 rfl (kx_1 _) rfl rfl rfl ?_
      refine js_goto 13 dX8_broughtBy_39 rfl ?_
      exact ih1 (v4 ||| ((1 : Int32) <<< ((σ.1 6 (Int32.toNatClampNeg v5)) &&& 31))) (v5 + (1 : Int32)) σ

def fX8_broughtBy (a1 : Int32) (a2 : Int32) (a3 : Int32) (σ : js_S) : Option (Int32 × js_S) := (fX8_brings a1 a2 a3 σ).bind fun r1 => fX8_broughtBy_L13 js_FU (0 : Int32) (0 : Int32) r1
set_option maxRecDepth 10000 in
theorem jX8_broughtBy (G : js_G) (a1 : Int32) (a2 : Int32) (a3 : Int32) (σ : js_S) : js_J G shM mX8_broughtBy js_eW 0 [some (.ref 0), some (.int a1), some (.int a2), some (.int a3), none, none] [] σ (fX8_broughtBy a1 a2 a3 σ) := by
  unfold fX8_broughtBy
  refine js_aload_n dX8_broughtBy_0 rfl rfl ?_
  refine js_iload_n dX8_broughtBy_1 rfl rfl ?_
  refine js_iload_n dX8_broughtBy_2 rfl rfl ?_
  refine js_iload_n dX8_broughtBy_3 rfl rfl ?_
  refine js_callV_V (mj := mX8_brings) [(.int a1), (.int a2), (.int a3)] [] dX8_broughtBy_4 tw_1051 cm_X8_brings cv_X8_brings rfl rfl rfl rfl rfl rfl (fun r h => qX8_brings G a1 a2 a3 σ r h) (fun r1 => ?_)
  refine js_iconst dX8_broughtBy_7 ki_0 ?_
  refine js_istore (lv' := [some (.ref 0), some (.int a1), some (.int a2), some (.int a3), some (.int (0 : Int32)), none]) dX8_broughtBy_8 rfl rfl rfl ?_
  refine js_iconst dX8_broughtBy_10 ki_0 ?_
  refine js_istore (lv' := [some (.ref 0), some (.int a1), some (.int a2), some (.int a3), some (.int (0 : Int32)), some (.int (0 : Int32))]) dX8_broughtBy_11 rfl rfl rfl ?_
  refine js_drop [true, false, false, false, true, true] (lv2 := [some (.ref 0), none, none, none, some (.int (0 : Int32)), some (.int (0 : Int32))]) rfl ?_
  exact jX8_broughtBy_L13 G  _ (0 : Int32) (0 : Int32) r1

theorem qX8_broughtBy (G : js_G) (a1 : Int32) (a2 : Int32) (a3 : Int32) (σ : js_S) (r : (Int32 × js_S)) (h : fX8_broughtBy a1 a2 a3 σ = some r) : js_Con G shM mX8_broughtBy [(.ref 0), (.int a1), (.int a2), (.int a3)] σ (js_eW r) := js_con (mi := mX8_broughtBy) 2 pn_X8 rfl (Nat.le_of_ble_eq_true rfl) (jX8_broughtBy G a1 a2 a3 σ) r h
def fX8_brought (a1 : Int32) (a2 : Int32) (a3 : Int32) (σ : js_S) : Option (Int32 × js_S) := (fX8_isBrush a1 a2 a3 σ).bind fun r1 => (if r1 = 0 then (fX8_finds (-1000000001 : Int32) σ).bind fun r2 => some (r2.1, r2.2) else (fX8_broughtBy a1 a2 a3 σ).bind fun r3 => some (r3.1, r3.2))
set_option maxRecDepth 10000 in
theorem jX8_brought (G : js_G) (a1 : Int32) (a2 : Int32) (a3 : Int32) (σ : js_S) : js_J G shM mX8_brought js_eW 0 [some (.ref 0), some (.int a1), some (.int a2), some (.int a3)] [] σ (fX8_brought a1 a2 a3 σ) := by
  unfold fX8_brought
  refine js_aload_n dX8_brought_0 rfl rfl ?_
  refine js_iload_n dX8_brought_1 rfl rfl ?_
  refine js_iload_n dX8_brought_2 rfl rfl ?_
  refine js_iload_n dX8_brought_3 rfl rfl ?_
  refine js_callV_I (mj := mX8_isBrush) [(.int a1), (.int a2), (.int a3)] [] dX8_brought_4 tw_1032 cm_X8_isBrush cv_X8_isBrush rfl rfl rfl rfl rfl rfl (fun r h => qX8_isBrush G a1 a2 a3 σ r h) (fun r1 => ?_)
  refine js_if_eq 20 dX8_brought_7 rfl ?_ ?_
  · refine js_aload_n dX8_brought_20 rfl rfl ?_
    refine js_ldc dX8_brought_21 tw_863 ?_
    refine js_callV_W (mj := mX8_finds) [(.int (-1000000001 : Int32))] [] dX8_brought_23 tw_864 cm_X8_finds cv_X8_finds rfl rfl rfl rfl rfl rfl (fun r h => qX8_finds G (-1000000001 : Int32) σ r h) (fun r2 => ?_)
    exact js_iret dX8_brought_26 rfl rfl
  · refine js_aload_n dX8_brought_10 rfl rfl ?_
    refine js_iload_n dX8_brought_11 rfl rfl ?_
    refine js_iload_n dX8_brought_12 rfl rfl ?_
    refine js_iload_n dX8_brought_13 rfl rfl ?_
    refine js_callV_W (mj := mX8_broughtBy) [(.int a1), (.int a2), (.int a3)] [] dX8_brought_14 tw_1047 cm_X8_broughtBy cv_X8_broughtBy rfl rfl rfl rfl rfl rfl (fun r h => qX8_broughtBy G a1 a2 a3 σ r h) (fun r3 => ?_)
    refine js_goto 26 dX8_brought_17 rfl ?_
    exact js_iret dX8_brought_26 rfl rfl

theorem qX8_brought (G : js_G) (a1 : Int32) (a2 : Int32) (a3 : Int32) (σ : js_S) (r : (Int32 × js_S)) (h : fX8_brought a1 a2 a3 σ = some r) : js_Con G shM mX8_brought [(.ref 0), (.int a1), (.int a2), (.int a3)] σ (js_eW r) := js_con (mi := mX8_brought) 0 pn_X8 rfl (Nat.le_of_ble_eq_true rfl) (jX8_brought G a1 a2 a3 σ) r h
def fX8_order (a1 : Int32) (a2 : Int32) (a3 : Int32) (a4 : Int32) (σ : js_S) : Option (Int32 × js_S) := (fX8_isBrush a1 a2 a3 σ).bind fun r1 => (if r1 = 0 then (fX8_finds (-1000000001 : Int32) σ).bind fun r2 => some (r2.1, r2.2) else (if 0 ≤ a4 then (fX8_brings a1 a2 a3 σ).bind fun r3 => (if (r3.1 0 7) ≤ a4 then (fX8_finds (-1000000004 : Int32) r3).bind fun r4 => some (r4.1, r4.2) else js_gd (js_ix a4 48) (some ((r3.1 6 (Int32.toNatClampNeg a4)), r3))) else (fX8_finds (-1000000001 : Int32) σ).bind fun r5 => some (r5.1, r5.2)))
set_option maxRecDepth 10000 in
theorem jX8_order (G : js_G) (a1 : Int32) (a2 : Int32) (a3 : Int32) (a4 : Int32) (σ : js_S) : js_J G shM mX8_order js_eW 0 [some (.ref 0), some (.int a1), some (.int a2), some (.int a3), some (.int a4)] [] σ (fX8_order a1 a2 a3 a4 σ) := by
  unfold fX8_order
  refine js_aload_n dX8_order_0 rfl rfl ?_
  refine js_iload_n dX8_order_1 rfl rfl ?_
  refine js_iload_n dX8_order_2 rfl rfl ?_
  refine js_iload_n dX8_order_3 rfl rfl ?_
  refine js_callV_I (mj := mX8_isBrush) [(.int a1), (.int a2), (.int a3)] [] dX8_order_4 tw_1032 cm_X8_isBrush cv_X8_isBrush rfl rfl rfl rfl rfl rfl (fun r h => qX8_isBrush G a1 a2 a3 σ r h) (fun r1 => ?_)
  refine js_if_eq 15 dX8_order_7 rfl ?_ ?_
  · refine js_aload_n dX8_order_15 rfl rfl ?_
    refine js_ldc dX8_order_16 tw_863 ?_
    refine js_callV_W (mj := mX8_finds) [(.int (-1000000001 : Int32))] [] dX8_order_18 tw_864 cm_X8_finds cv_X8_finds rfl rfl rfl rfl rfl rfl (fun r h => qX8_finds G (-1000000001 : Int32) σ r h) (fun r2 => ?_)
    exact js_iret dX8_order_21 rfl rfl
  · refine js_iload dX8_order_10 rfl ?_
    refine js_if_ge 22 dX8_order_12 rfl ?_ ?_
    · refine js_aload_n dX8_order_22 rfl rfl ?_
      refine js_iload_n dX8_order_23 rfl rfl ?_
      refine js_iload_n dX8_order_24 rfl rfl ?_
      refine js_iload_n dX8_order_25 rfl rfl ?_
      refine js_callV_V (mj := mX8_brings) [(.int a1), (.int a2), (.int a3)] [] dX8_order_26 tw_1051 cm_X8_brings cv_X8_brings rfl rfl rfl rfl rfl rfl (fun r h => qX8_brings G a1 a2 a3 σ r h) (fun r3 => ?_)
      refine js_iload dX8_order_29 rfl ?_
      refine js_aload_n dX8_order_31 rfl rfl ?_
      refine js_getI dX8_order_32 fl_X8_167 rfl rfl ?_
      refine js_icmp_ge 48 dX8_order_35 rfl ?_ ?_
      · refine js_aload_n dX8_order_48 rfl rfl ?_
        refine js_ldc dX8_order_49 tw_933 ?_
        refine js_callV_W (mj := mX8_finds) [(.int (-1000000004 : Int32))] [] dX8_order_51 tw_864 cm_X8_finds cv_X8_finds rfl rfl rfl rfl rfl rfl (fun r h => qX8_finds G (-1000000004 : Int32) r3 r h) (fun r4 => ?_)
        exact js_iret dX8_order_54 rfl rfl
      · refine js_aload_n dX8_order_38 rfl rfl ?_
        refine js_getR dX8_order_39 fl_X8_25 rfl rfl ?_
        refine js_iload dX8_order_42 rfl ?_
        refine js_iald dX8_order_44 rfl ?_
        refine js_goto 54 dX8_order_45 rfl ?_
        exact js_iret dX8_order_54 rfl rfl
    · refine js_aload_n dX8_order_15 rfl rfl ?_
      refine js_ldc dX8_order_16 tw_863 ?_
      refine js_callV_W (mj := mX8_finds) [(.int (-1000000001 : Int32))] [] dX8_order_18 tw_864 cm_X8_finds cv_X8_finds rfl rfl rfl rfl rfl rfl (fun r h => qX8_finds G (-1000000001 : Int32) σ r h) (fun r5 => ?_)
      exact js_iret dX8_order_21 rfl rfl

theorem qX8_order (G : js_G) (a1 : Int32) (a2 : Int32) (a3 : Int32) (a4 : Int32) (σ : js_S) (r : (Int32 × js_S)) (h : fX8_order a1 a2 a3 a4 σ = some r) : js_Con G shM mX8_order [(.ref 0), (.int a1), (.int a2), (.int a3), (.int a4)] σ (js_eW r) := js_con (mi := mX8_order) 0 pn_X8 rfl (Nat.le_of_ble_eq_true rfl) (jX8_order G a1 a2 a3 a4 σ) r h
def fX8_laysAside_L2 : Nat → Int32 → js_S → Option js_S
  | 0, _, _ => none
  | n + 1, v1, σ => (if (633 : Int32) ≤ v1 then some σ else js_gd (js_ix v1 633) (js_gd (js_ix v1 633) (fX8_laysAside_L2  n (v1 + (1 : Int32)) (js_sI σ 4 (Int32.toNatClampNeg v1) (σ.1 1 (Int32.toNatClampNeg v1))))))
set_option maxRecDepth 10000 in
theorem jX8_laysAside_L2 (G : js_G) : ∀ (n : Nat) (v1 : Int32) (σ : js_S), js_J G shM mX8_laysAside js_eV 2 [some (.ref 0), some (.int v1)] [] σ (fX8_laysAside_L2 n v1 σ) := by
  intro n
  induction n with
  | zero =>
    intros
    exact js_none
  | succ n ih1 =>
    intro v1 σ
    rw [fX8_laysAside_L2]
    refine js_iload_n dX8_laysAside_2 rfl rfl ?_
    refine js_sipush dX8_laysAside_3 ks_633 ?_
    refine js_icmp_ge 27 dX8_laysAside_6 rfl ?_ ?_
    · exact js_vret dX8_laysAside_27 rfl rfl
    · refine js_aload_n dX8_laysAside_9 rfl rfl ?_
      refine js_getR dX8_laysAside_10 fl_X8_19 rfl rfl ?_
      refine js_iload_n dX8_laysAside_13 rfl rfl ?_
      refine js_aload_n dX8_laysAside_14 rfl rfl ?_
      refine js_getR dX8_laysAside_15 fl_X8_7 rfl rfl ?_
      refine js_iload_n dX8_laysAside_18 rfl rfl ?_
      refine js_iald dX8_laysAside_19 rfl ?_
      refine js_iast dX8_laysAside_20 rfl ?_
      refine js_iinc (v := (v1 + (1 : Int32))) (lv' := [some (.ref 0), some (.int (v1 + (1 : Int32)))]) dX8_laysAside_21 rfl (kx_1 _) rfl rfl rfl ?_
      refine js_goto 2 dX8_laysAside_24 rfl ?_
      exact ih1 (v1 + (1 : Int32)) (js_sI σ 4 (Int32.toNatClampNeg v1) (σ.1 1 (Int32.toNatClampNeg v1)))

def fX8_laysAside (σ : js_S) : Option js_S := fX8_laysAside_L2 js_FU (0 : Int32) σ
set_option maxRecDepth 10000 in
theorem jX8_laysAside (G : js_G) (σ : js_S) : js_J G shM mX8_laysAside js_eV 0 [some (.ref 0), none] [] σ (fX8_laysAside σ) := by
  unfold fX8_laysAside
  refine js_iconst dX8_laysAside_0 ki_0 ?_
  refine js_istore_n (lv' := [some (.ref 0), some (.int (0 : Int32))]) dX8_laysAside_1 rfl rfl rfl rfl ?_
  exact jX8_laysAside_L2 G  _ (0 : Int32) σ

theorem qX8_laysAside (G : js_G) (σ : js_S) (r : js_S) (h : fX8_laysAside σ = some r) : js_Con G shM mX8_laysAside [(.ref 0)] σ (js_eV r) := js_con (mi := mX8_laysAside) 1 pn_X8 rfl (Nat.le_of_ble_eq_true rfl) (jX8_laysAside G σ) r h
def fX8_takesBack_L2 (p1 : Int32) : Nat → Int32 → js_S → Option (Int32 × js_S)
  | 0, _, _ => none
  | n + 1, v2, σ => (if (633 : Int32) ≤ v2 then some (p1, σ) else js_gd (js_ix v2 633) (js_gd (js_ix v2 633) (fX8_takesBack_L2 p1 n (v2 + (1 : Int32)) (js_sI σ 1 (Int32.toNatClampNeg v2) (σ.1 4 (Int32.toNatClampNeg v2))))))
set_option maxRecDepth 10000 in
theorem jX8_takesBack_L2 (G : js_G) (p1 : Int32) : ∀ (n : Nat) (v2 : Int32) (σ : js_S), js_J G shM mX8_takesBack js_eW 2 [some (.ref 0), some (.int p1), some (.int v2)] [] σ (fX8_takesBack_L2 p1 n v2 σ) := by
  intro n
  induction n with
  | zero =>
    intros
    exact js_none
  | succ n ih1 =>
    intro v2 σ
    rw [fX8_takesBack_L2]
    refine js_iload_n dX8_takesBack_2 rfl rfl ?_
    refine js_sipush dX8_takesBack_3 ks_633 ?_
    refine js_icmp_ge 27 dX8_takesBack_6 rfl ?_ ?_
    · refine js_iload_n dX8_takesBack_27 rfl rfl ?_
      exact js_iret dX8_takesBack_28 rfl rfl
    · refine js_aload_n dX8_takesBack_9 rfl rfl ?_
      refine js_getR dX8_takesBack_10 fl_X8_7 rfl rfl ?_
      refine js_iload_n dX8_takesBack_13 rfl rfl ?_
      refine js_aload_n dX8_takesBack_14 rfl rfl ?_
      refine js_getR dX8_takesBack_15 fl_X8_19 rfl rfl ?_
      refine js_iload_n dX8_takesBack_18 rfl rfl ?_
      refine js_iald dX8_takesBack_19 rfl ?_
      refine js_iast dX8_takesBack_20 rfl ?_
      refine js_iinc (v := (v2 + (1 : Int32))) (lv' := [some (.ref 0), some (.int p1), some (.int (v2 + (1 : Int32)))]) dX8_takesBack_21 rfl (kx_1 _) rfl rfl rfl ?_
      refine js_goto 2 dX8_takesBack_24 rfl ?_
      exact ih1 (v2 + (1 : Int32)) (js_sI σ 1 (Int32.toNatClampNeg v2) (σ.1 4 (Int32.toNatClampNeg v2)))

def fX8_takesBack (a1 : Int32) (σ : js_S) : Option (Int32 × js_S) := fX8_takesBack_L2 a1 js_FU (0 : Int32) σ
set_option maxRecDepth 10000 in
theorem jX8_takesBack (G : js_G) (a1 : Int32) (σ : js_S) : js_J G shM mX8_takesBack js_eW 0 [some (.ref 0), some (.int a1), none] [] σ (fX8_takesBack a1 σ) := by
  unfold fX8_takesBack
  refine js_iconst dX8_takesBack_0 ki_0 ?_
  refine js_istore_n (lv' := [some (.ref 0), some (.int a1), some (.int (0 : Int32))]) dX8_takesBack_1 rfl rfl rfl rfl ?_
  exact jX8_takesBack_L2 G a1  _ (0 : Int32) σ

theorem qX8_takesBack (G : js_G) (a1 : Int32) (σ : js_S) (r : (Int32 × js_S)) (h : fX8_takesBack a1 σ = some r) : js_Con G shM mX8_takesBack [(.ref 0), (.int a1)] σ (js_eW r) := js_con (mi := mX8_takesBack) 1 pn_X8 rfl (Nat.le_of_ble_eq_true rfl) (jX8_takesBack G a1 σ) r h
def fX8_on (a1 : Int32) (a2 : Int32) (a3 : Int32) (a4 : Int32) (σ : js_S) : Option (Int32 × js_S) := (fX8_isBrush a1 a2 a3 σ).bind fun r1 => (if r1 = 0 then (fX8_finds (-1000000001 : Int32) σ).bind fun r2 => some (r2.1, r2.2) else (if (fX8_in (Int32.toInt64 a4) (0 : Int64) (60 : Int64)) = 0 then (fX8_finds (-1000000001 : Int32) σ).bind fun r7 => some (r7.1, r7.2) else (fX8_laysAside σ).bind fun r3 => (fX8_goesOn a4 r3).bind fun r4 => (fX8_brings a1 a2 a3 r4).bind fun r5 => (fX8_takesBack (r5.1 0 7) r5).bind fun r6 => some (r6.1, r6.2)))
set_option maxRecDepth 10000 in
theorem jX8_on (G : js_G) (a1 : Int32) (a2 : Int32) (a3 : Int32) (a4 : Int32) (σ : js_S) : js_J G shM mX8_on js_eW 0 [some (.ref 0), some (.int a1), some (.int a2), some (.int a3), some (.int a4)] [] σ (fX8_on a1 a2 a3 a4 σ) := by
  unfold fX8_on
  refine js_aload_n dX8_on_0 rfl rfl ?_
  refine js_iload_n dX8_on_1 rfl rfl ?_
  refine js_iload_n dX8_on_2 rfl rfl ?_
  refine js_iload_n dX8_on_3 rfl rfl ?_
  refine js_callV_I (mj := mX8_isBrush) [(.int a1), (.int a2), (.int a3)] [] dX8_on_4 tw_1032 cm_X8_isBrush cv_X8_isBrush rfl rfl rfl rfl rfl rfl (fun r h => qX8_isBrush G a1 a2 a3 σ r h) (fun r1 => ?_)
  refine js_if_eq 23 dX8_on_7 rfl ?_ ?_
  · refine js_aload_n dX8_on_23 rfl rfl ?_
    refine js_ldc dX8_on_24 tw_863 ?_
    refine js_callV_W (mj := mX8_finds) [(.int (-1000000001 : Int32))] [] dX8_on_26 tw_864 cm_X8_finds cv_X8_finds rfl rfl rfl rfl rfl rfl (fun r h => qX8_finds G (-1000000001 : Int32) σ r h) (fun r2 => ?_)
    exact js_iret dX8_on_29 rfl rfl
  · refine js_iload dX8_on_10 rfl ?_
    refine js_i2l dX8_on_12 ?_
    refine js_lconst dX8_on_13 kl_0 ?_
    refine js_ldc2 dX8_on_14 tw_998 ?_
    refine js_callS_P (mj := mX8_in) [(.long (Int32.toInt64 a4)), (.long (0 : Int64)), (.long (60 : Int64))] [] dX8_on_17 tw_860 cm_X8_in tw_861 rfl rfl rfl rfl (qX8_in G (Int32.toInt64 a4) (0 : Int64) (60 : Int64) σ) ?_
    refine js_if_ne 30 dX8_on_20 rfl ?_ ?_
    · refine js_aload_n dX8_on_30 rfl rfl ?_
      refine js_callV_V (mj := mX8_laysAside) [] [] dX8_on_31 tw_1063 cm_X8_laysAside cv_X8_laysAside rfl rfl rfl rfl rfl rfl (fun r h => qX8_laysAside G σ r h) (fun r3 => ?_)
      refine js_aload_n dX8_on_34 rfl rfl ?_
      refine js_iload dX8_on_35 rfl ?_
      refine js_callV_V (mj := mX8_goesOn) [(.int a4)] [] dX8_on_37 tw_1000 cm_X8_goesOn cv_X8_goesOn rfl rfl rfl rfl rfl rfl (fun r h => qX8_goesOn G a4 r3 r h) (fun r4 => ?_)
      refine js_aload_n dX8_on_40 rfl rfl ?_
      refine js_iload_n dX8_on_41 rfl rfl ?_
      refine js_iload_n dX8_on_42 rfl rfl ?_
      refine js_iload_n dX8_on_43 rfl rfl ?_
      refine js_callV_V (mj := mX8_brings) [(.int a1), (.int a2), (.int a3)] [] dX8_on_44 tw_1051 cm_X8_brings cv_X8_brings rfl rfl rfl rfl rfl rfl (fun r h => qX8_brings G a1 a2 a3 r4 r h) (fun r5 => ?_)
      refine js_aload_n dX8_on_47 rfl rfl ?_
      refine js_aload_n dX8_on_48 rfl rfl ?_
      refine js_getI dX8_on_49 fl_X8_167 rfl rfl ?_
      refine js_callV_W (mj := mX8_takesBack) [(.int (r5.1 0 7))] [] dX8_on_52 tw_1067 cm_X8_takesBack cv_X8_takesBack rfl rfl rfl rfl rfl rfl (fun r h => qX8_takesBack G (r5.1 0 7) r5 r h) (fun r6 => ?_)
      exact js_iret dX8_on_55 rfl rfl
    · refine js_aload_n dX8_on_23 rfl rfl ?_
      refine js_ldc dX8_on_24 tw_863 ?_
      refine js_callV_W (mj := mX8_finds) [(.int (-1000000001 : Int32))] [] dX8_on_26 tw_864 cm_X8_finds cv_X8_finds rfl rfl rfl rfl rfl rfl (fun r h => qX8_finds G (-1000000001 : Int32) σ r h) (fun r7 => ?_)
      exact js_iret dX8_on_29 rfl rfl

theorem qX8_on (G : js_G) (a1 : Int32) (a2 : Int32) (a3 : Int32) (a4 : Int32) (σ : js_S) (r : (Int32 × js_S)) (h : fX8_on a1 a2 a3 a4 σ = some r) : js_Con G shM mX8_on [(.ref 0), (.int a1), (.int a2), (.int a3), (.int a4)] σ (js_eW r) := js_con (mi := mX8_on) 0 pn_X8 rfl (Nat.le_of_ble_eq_true rfl) (jX8_on G a1 a2 a3 a4 σ) r h
def fX8_areWords (a0 : Int32) : Int32 := (fX8_in (Int32.toInt64 a0) (0 : Int64) (65535 : Int64))
set_option maxRecDepth 10000 in
theorem jX8_areWords (G : js_G) (a0 : Int32) (σ : js_S) : js_J G shM mX8_areWords (js_eI σ) 0 [some (.int a0)] [] σ (some (fX8_areWords a0)) := by
  unfold fX8_areWords
  refine js_iload_n dX8_areWords_0 rfl rfl ?_
  refine js_i2l dX8_areWords_1 ?_
  refine js_lconst dX8_areWords_2 kl_0 ?_
  refine js_ldc2 dX8_areWords_3 tw_1078 ?_
  refine js_callS_P (mj := mX8_in) [(.long (Int32.toInt64 a0)), (.long (0 : Int64)), (.long (65535 : Int64))] [] dX8_areWords_6 tw_860 cm_X8_in tw_861 rfl rfl rfl rfl (qX8_in G (Int32.toInt64 a0) (0 : Int64) (65535 : Int64) σ) ?_
  exact js_zret dX8_areWords_9 rfl (js_nb (zX8_in (Int32.toInt64 a0) (0 : Int64) (65535 : Int64))) rfl

theorem qX8_areWords (G : js_G) (a0 : Int32) (σ : js_S) : js_Con G shM mX8_areWords [(.int a0)] σ (some (.int (fX8_areWords a0)), σ) := js_con (mi := mX8_areWords) (emb := (js_eI σ)) 0 pn_X8 rfl (Nat.le_of_ble_eq_true rfl) (jX8_areWords G a0 σ) _ rfl
theorem zX8_areWords (a0 : Int32) : fX8_areWords a0 = 0 ∨ fX8_areWords a0 = 1 := by
  unfold fX8_areWords
  repeat' split
  all_goals first | exact Or.inl rfl | exact Or.inr rfl | exact zX8_in _ _ _
def fX8_reach_L32 (p1 : Int32) (p2 : Int32) (p3 : Int32) : Nat → Int32 → js_S → Option (Int32 × js_S)
  | 0, _, _ => none
  | n + 1, v4, σ => (if (8 : Int32) ≤ v4 then (fX8_finds (-1000000004 : Int32) σ).bind fun r4 => some (r4.1, r4.2) else (fX8_broughtBy p1 v4 p3 σ).bind fun r5 => (if (p2 &&& (r5.1 ^^^ (-1 : Int32))) = 0 then some (v4, r5.2) else fX8_reach_L32 p1 p2 p3 n (v4 + (1 : Int32)) r5.2))
set_option maxRecDepth 10000 in
theorem jX8_reach_L32 (G : js_G) (p1 : Int32) (p2 : Int32) (p3 : Int32) : ∀ (n : Nat) (v4 : Int32) (σ : js_S), js_J G shM mX8_reach js_eW 32 [some (.ref 0), some (.int p1), some (.int p2), some (.int p3), some (.int v4)] [] σ (fX8_reach_L32 p1 p2 p3 n v4 σ) := by
  intro n
  induction n with
  | zero =>
    intros
    exact js_none
  | succ n ih1 =>
    intro v4 σ
    rw [fX8_reach_L32]
    refine js_iload dX8_reach_32 rfl ?_
    refine js_bipush dX8_reach_34 kb_8 ?_
    refine js_icmp_ge 63 dX8_reach_36 rfl ?_ ?_
    · refine js_aload_n dX8_reach_63 rfl rfl ?_
      refine js_ldc dX8_reach_64 tw_933 ?_
      refine js_callV_W (mj := mX8_finds) [(.int (-1000000004 : Int32))] [] dX8_reach_66 tw_864 cm_X8_finds cv_X8_finds rfl rfl rfl rfl rfl rfl (fun r h => qX8_finds G (-1000000004 : Int32) σ r h) (fun r4 => ?_)
      exact js_iret dX8_reach_69 rfl rfl
    · refine js_iload_n dX8_reach_39 rfl rfl ?_
      refine js_aload_n dX8_reach_40 rfl rfl ?_
      refine js_iload_n dX8_reach_41 rfl rfl ?_
      refine js_iload dX8_reach_42 rfl ?_
      refine js_iload_n dX8_reach_44 rfl rfl ?_
      refine js_callV_W (mj := mX8_broughtBy) [(.int p1), (.int v4), (.int p3)] [(.int p2)] dX8_reach_45 tw_1047 cm_X8_broughtBy cv_X8_broughtBy rfl rfl rfl rfl rfl rfl (fun r h => qX8_broughtBy G p1 v4 p3 σ r h) (fun r5 => ?_)
      refine js_iconst dX8_reach_48 ki_m1 ?_
      refine js_ixor dX8_reach_49 ?_
      refine js_iand dX8_reach_50 ?_
      refine js_if_ne 57 dX8_reach_51 rfl ?_ ?_
      · refine js_iinc (v := (v4 + (1 : Int32))) (lv' := [some (.ref 0), some (.int p1), some (.int p2), some (.int p3), some (.int (v4 + (1 : Int32)))]) dX8_reach_57 rfl (kx_1 _) rfl rfl rfl ?_
        refine js_goto 32 dX8_reach_60 rfl ?_
        exact ih1 (v4 + (1 : Int32)) r5.2
      · refine js_iload dX8_reach_54 rfl ?_
        exact js_iret dX8_reach_56 rfl rfl

def fX8_reach (a1 : Int32) (a2 : Int32) (a3 : Int32) (σ : js_S) : Option (Int32 × js_S) := (fX8_isFlue a1 σ).bind fun r1 => (if r1 = 0 then (fX8_finds (-1000000001 : Int32) σ).bind fun r2 => some (r2.1, r2.2) else (if (fX8_areWords a2) = 0 then (fX8_finds (-1000000001 : Int32) σ).bind fun r3 => some (r3.1, r3.2) else (if (fX8_isStrength a3) = 0 then (fX8_finds (-1000000001 : Int32) σ).bind fun r6 => some (r6.1, r6.2) else fX8_reach_L32 a1 a2 a3 js_FU (0 : Int32) σ)))
set_option maxRecDepth 10000 in
theorem jX8_reach (G : js_G) (a1 : Int32) (a2 : Int32) (a3 : Int32) (σ : js_S) : js_J G shM mX8_reach js_eW 0 [some (.ref 0), some (.int a1), some (.int a2), some (.int a3), none] [] σ (fX8_reach a1 a2 a3 σ) := by
  unfold fX8_reach
  refine js_aload_n dX8_reach_0 rfl rfl ?_
  refine js_iload_n dX8_reach_1 rfl rfl ?_
  refine js_callV_I (mj := mX8_isFlue) [(.int a1)] [] dX8_reach_2 tw_880 cm_X8_isFlue cv_X8_isFlue rfl rfl rfl rfl rfl rfl (fun r h => qX8_isFlue G a1 σ r h) (fun r1 => ?_)
  refine js_if_eq 22 dX8_reach_5 rfl ?_ ?_
  · refine js_aload_n dX8_reach_22 rfl rfl ?_
    refine js_ldc dX8_reach_23 tw_863 ?_
    refine js_callV_W (mj := mX8_finds) [(.int (-1000000001 : Int32))] [] dX8_reach_25 tw_864 cm_X8_finds cv_X8_finds rfl rfl rfl rfl rfl rfl (fun r h => qX8_finds G (-1000000001 : Int32) σ r h) (fun r2 => ?_)
    exact js_iret dX8_reach_28 rfl rfl
  · refine js_iload_n dX8_reach_8 rfl rfl ?_
    refine js_callS_P (mj := mX8_areWords) [(.int a2)] [] dX8_reach_9 tw_1075 cm_X8_areWords tw_1076 rfl rfl rfl rfl (qX8_areWords G a2 σ) ?_
    refine js_if_eq 22 dX8_reach_12 rfl ?_ ?_
    · refine js_aload_n dX8_reach_22 rfl rfl ?_
      refine js_ldc dX8_reach_23 tw_863 ?_
      refine js_callV_W (mj := mX8_finds) [(.int (-1000000001 : Int32))] [] dX8_reach_25 tw_864 cm_X8_finds cv_X8_finds rfl rfl rfl rfl rfl rfl (fun r h => qX8_finds G (-1000000001 : Int32) σ r h) (fun r3 => ?_)
      exact js_iret dX8_reach_28 rfl rfl
    · refine js_iload_n dX8_reach_15 rfl rfl ?_
      refine js_callS_P (mj := mX8_isStrength) [(.int a3)] [] dX8_reach_16 tw_1036 cm_X8_isStrength tw_1037 rfl rfl rfl rfl (qX8_isStrength G a3 σ) ?_
      refine js_if_ne 29 dX8_reach_19 rfl ?_ ?_
      · refine js_iconst dX8_reach_29 ki_0 ?_
        refine js_istore (lv' := [some (.ref 0), some (.int a1), some (.int a2), some (.int a3), some (.int (0 : Int32))]) dX8_reach_30 rfl rfl rfl ?_
        exact jX8_reach_L32 G a1 a2 a3  _ (0 : Int32) σ
      · refine js_aload_n dX8_reach_22 rfl rfl ?_
        refine js_ldc dX8_reach_23 tw_863 ?_
        refine js_callV_W (mj := mX8_finds) [(.int (-1000000001 : Int32))] [] dX8_reach_25 tw_864 cm_X8_finds cv_X8_finds rfl rfl rfl rfl rfl rfl (fun r h => qX8_finds G (-1000000001 : Int32) σ r h) (fun r6 => ?_)
        exact js_iret dX8_reach_28 rfl rfl

theorem qX8_reach (G : js_G) (a1 : Int32) (a2 : Int32) (a3 : Int32) (σ : js_S) (r : (Int32 × js_S)) (h : fX8_reach a1 a2 a3 σ = some r) : js_Con G shM mX8_reach [(.ref 0), (.int a1), (.int a2), (.int a3)] σ (js_eW r) := js_con (mi := mX8_reach) 1 pn_X8 rfl (Nat.le_of_ble_eq_true rfl) (jX8_reach G a1 a2 a3 σ) r h
def fX8_strength_L32 (p1 : Int32) (p2 : Int32) (p3 : Int32) : Nat → Int32 → js_S → Option (Int32 × js_S)
  | 0, _, _ => none
  | n + 1, v4, σ => (if (9 : Int32) < v4 then (fX8_finds (-1000000004 : Int32) σ).bind fun r4 => some (r4.1, r4.2) else (fX8_broughtBy p1 p2 v4 σ).bind fun r5 => (if (p3 &&& (r5.1 ^^^ (-1 : Int32))) = 0 then some (v4, r5.2) else fX8_strength_L32 p1 p2 p3 n (v4 + (1 : Int32)) r5.2))
set_option maxRecDepth 10000 in
theorem jX8_strength_L32 (G : js_G) (p1 : Int32) (p2 : Int32) (p3 : Int32) : ∀ (n : Nat) (v4 : Int32) (σ : js_S), js_J G shM mX8_strength js_eW 32 [some (.ref 0), some (.int p1), some (.int p2), some (.int p3), some (.int v4)] [] σ (fX8_strength_L32 p1 p2 p3 n v4 σ) := by
  intro n
  induction n with
  | zero =>
    intros
    exact js_none
  | succ n ih1 =>
    intro v4 σ
    rw [fX8_strength_L32]
    refine js_iload dX8_strength_32 rfl ?_
    refine js_bipush dX8_strength_34 kb_9 ?_
    refine js_icmp_gt 63 dX8_strength_36 rfl ?_ ?_
    · refine js_aload_n dX8_strength_63 rfl rfl ?_
      refine js_ldc dX8_strength_64 tw_933 ?_
      refine js_callV_W (mj := mX8_finds) [(.int (-1000000004 : Int32))] [] dX8_strength_66 tw_864 cm_X8_finds cv_X8_finds rfl rfl rfl rfl rfl rfl (fun r h => qX8_finds G (-1000000004 : Int32) σ r h) (fun r4 => ?_)
      exact js_iret dX8_strength_69 rfl rfl
    · refine js_iload_n dX8_strength_39 rfl rfl ?_
      refine js_aload_n dX8_strength_40 rfl rfl ?_
      refine js_iload_n dX8_strength_41 rfl rfl ?_
      refine js_iload_n dX8_strength_42 rfl rfl ?_
      refine js_iload dX8_strength_43 rfl ?_
      refine js_callV_W (mj := mX8_broughtBy) [(.int p1), (.int p2), (.int v4)] [(.int p3)] dX8_strength_45 tw_1047 cm_X8_broughtBy cv_X8_broughtBy rfl rfl rfl rfl rfl rfl (fun r h => qX8_broughtBy G p1 p2 v4 σ r h) (fun r5 => ?_)
      refine js_iconst dX8_strength_48 ki_m1 ?_
      refine js_ixor dX8_strength_49 ?_
      refine js_iand dX8_strength_50 ?_
      refine js_if_ne 57 dX8_strength_51 rfl ?_ ?_
      · refine js_iinc (v := (v4 + (1 : Int32))) (lv' := [some (.ref 0), some (.int p1), some (.int p2), some (.int p3), some (.int (v4 + (1 : Int32)))]) dX8_strength_57 rfl (kx_1 _) rfl rfl rfl ?_
        refine js_goto 32 dX8_strength_60 rfl ?_
        exact ih1 (v4 + (1 : Int32)) r5.2
      · refine js_iload dX8_strength_54 rfl ?_
        exact js_iret dX8_strength_56 rfl rfl

def fX8_strength (a1 : Int32) (a2 : Int32) (a3 : Int32) (σ : js_S) : Option (Int32 × js_S) := (fX8_isFlue a1 σ).bind fun r1 => (if r1 = 0 then (fX8_finds (-1000000001 : Int32) σ).bind fun r2 => some (r2.1, r2.2) else (if (fX8_isBend a2) = 0 then (fX8_finds (-1000000001 : Int32) σ).bind fun r3 => some (r3.1, r3.2) else (if (fX8_areWords a3) = 0 then (fX8_finds (-1000000001 : Int32) σ).bind fun r6 => some (r6.1, r6.2) else fX8_strength_L32 a1 a2 a3 js_FU (1 : Int32) σ)))
set_option maxRecDepth 10000 in
theorem jX8_strength (G : js_G) (a1 : Int32) (a2 : Int32) (a3 : Int32) (σ : js_S) : js_J G shM mX8_strength js_eW 0 [some (.ref 0), some (.int a1), some (.int a2), some (.int a3), none] [] σ (fX8_strength a1 a2 a3 σ) := by
  unfold fX8_strength
  refine js_aload_n dX8_strength_0 rfl rfl ?_
  refine js_iload_n dX8_strength_1 rfl rfl ?_
  refine js_callV_I (mj := mX8_isFlue) [(.int a1)] [] dX8_strength_2 tw_880 cm_X8_isFlue cv_X8_isFlue rfl rfl rfl rfl rfl rfl (fun r h => qX8_isFlue G a1 σ r h) (fun r1 => ?_)
  refine js_if_eq 22 dX8_strength_5 rfl ?_ ?_
  · refine js_aload_n dX8_strength_22 rfl rfl ?_
    refine js_ldc dX8_strength_23 tw_863 ?_
    refine js_callV_W (mj := mX8_finds) [(.int (-1000000001 : Int32))] [] dX8_strength_25 tw_864 cm_X8_finds cv_X8_finds rfl rfl rfl rfl rfl rfl (fun r h => qX8_finds G (-1000000001 : Int32) σ r h) (fun r2 => ?_)
    exact js_iret dX8_strength_28 rfl rfl
  · refine js_iload_n dX8_strength_8 rfl rfl ?_
    refine js_callS_P (mj := mX8_isBend) [(.int a2)] [] dX8_strength_9 tw_920 cm_X8_isBend tw_921 rfl rfl rfl rfl (qX8_isBend G a2 σ) ?_
    refine js_if_eq 22 dX8_strength_12 rfl ?_ ?_
    · refine js_aload_n dX8_strength_22 rfl rfl ?_
      refine js_ldc dX8_strength_23 tw_863 ?_
      refine js_callV_W (mj := mX8_finds) [(.int (-1000000001 : Int32))] [] dX8_strength_25 tw_864 cm_X8_finds cv_X8_finds rfl rfl rfl rfl rfl rfl (fun r h => qX8_finds G (-1000000001 : Int32) σ r h) (fun r3 => ?_)
      exact js_iret dX8_strength_28 rfl rfl
    · refine js_iload_n dX8_strength_15 rfl rfl ?_
      refine js_callS_P (mj := mX8_areWords) [(.int a3)] [] dX8_strength_16 tw_1075 cm_X8_areWords tw_1076 rfl rfl rfl rfl (qX8_areWords G a3 σ) ?_
      refine js_if_ne 29 dX8_strength_19 rfl ?_ ?_
      · refine js_iconst dX8_strength_29 ki_1 ?_
        refine js_istore (lv' := [some (.ref 0), some (.int a1), some (.int a2), some (.int a3), some (.int (1 : Int32))]) dX8_strength_30 rfl rfl rfl ?_
        exact jX8_strength_L32 G a1 a2 a3  _ (1 : Int32) σ
      · refine js_aload_n dX8_strength_22 rfl rfl ?_
        refine js_ldc dX8_strength_23 tw_863 ?_
        refine js_callV_W (mj := mX8_finds) [(.int (-1000000001 : Int32))] [] dX8_strength_25 tw_864 cm_X8_finds cv_X8_finds rfl rfl rfl rfl rfl rfl (fun r h => qX8_finds G (-1000000001 : Int32) σ r h) (fun r6 => ?_)
        exact js_iret dX8_strength_28 rfl rfl

theorem qX8_strength (G : js_G) (a1 : Int32) (a2 : Int32) (a3 : Int32) (σ : js_S) (r : (Int32 × js_S)) (h : fX8_strength a1 a2 a3 σ = some r) : js_Con G shM mX8_strength [(.ref 0), (.int a1), (.int a2), (.int a3)] σ (js_eW r) := js_con (mi := mX8_strength) 1 pn_X8 rfl (Nat.le_of_ble_eq_true rfl) (jX8_strength G a1 a2 a3 σ) r h
def fX8_secret_L32 (p1 : Int32) (p2 : Int32) (p3 : Int32) : Nat → Int32 → js_S → Option (Int32 × js_S)
  | 0, _, _ => none
  | n + 1, v4, σ => (if (80 : Int32) ≤ v4 then (fX8_finds (-1000000004 : Int32) σ).bind fun r4 => some (r4.1, r4.2) else (if (v4 - v4 / (10 : Int32) * (10 : Int32)) = 0 then (if (v4 - v4 / (10 : Int32) * (10 : Int32)) ≤ 0 then fX8_secret_L32 p1 p2 p3 n (v4 + (1 : Int32)) σ else (if (p2 &&& ((0 : Int32) ^^^ (-1 : Int32))) = 0 then (if (p3 &&& (0 : Int32)) = 0 then some (v4, σ) else fX8_secret_L32 p1 p2 p3 n (v4 + (1 : Int32)) σ) else fX8_secret_L32 p1 p2 p3 n (v4 + (1 : Int32)) σ)) else (fX8_broughtBy p1 (v4 / (10 : Int32)) (v4 - v4 / (10 : Int32) * (10 : Int32)) σ).bind fun r5 => (if (v4 - v4 / (10 : Int32) * (10 : Int32)) ≤ 0 then fX8_secret_L32 p1 p2 p3 n (v4 + (1 : Int32)) r5.2 else (if (p2 &&& (r5.1 ^^^ (-1 : Int32))) = 0 then (if (p3 &&& r5.1) = 0 then some (v4, r5.2) else fX8_secret_L32 p1 p2 p3 n (v4 + (1 : Int32)) r5.2) else fX8_secret_L32 p1 p2 p3 n (v4 + (1 : Int32)) r5.2))))
set_option maxRecDepth 10000 in
theorem jX8_secret_L32 (G : js_G) (p1 : Int32) (p2 : Int32) (p3 : Int32) : ∀ (n : Nat) (v4 : Int32) (σ : js_S), js_J G shM mX8_secret js_eW 32 [some (.ref 0), some (.int p1), some (.int p2), some (.int p3), some (.int v4), none] [] σ (fX8_secret_L32 p1 p2 p3 n v4 σ) := by
  intro n
  induction n with
  | zero =>
    intros
    exact js_none
  | succ n ih1 =>
    intro v4 σ
    rw [fX8_secret_L32]
    refine js_iload dX8_secret_32 rfl ?_
    refine js_bipush dX8_secret_34 kb_80 ?_
    refine js_icmp_ge 101 dX8_secret_36 rfl ?_ ?_
    · refine js_aload_n dX8_secret_101 rfl rfl ?_
      refine js_ldc dX8_secret_102 tw_933 ?_
      refine js_callV_W (mj := mX8_finds) [(.int (-1000000004 : Int32))] [] dX8_secret_104 tw_864 cm_X8_finds cv_X8_finds rfl rfl rfl rfl rfl rfl (fun r h => qX8_finds G (-1000000004 : Int32) σ r h) (fun r4 => ?_)
      exact js_iret dX8_secret_107 rfl rfl
    · refine js_iload dX8_secret_39 rfl ?_
      refine js_bipush dX8_secret_41 kb_10 ?_
      refine js_irem dX8_secret_43 (by decide) ?_
      refine js_if_ne 51 dX8_secret_44 rfl ?_ ?_
      · refine js_aload_n dX8_secret_51 rfl rfl ?_
        refine js_iload_n dX8_secret_52 rfl rfl ?_
        refine js_iload dX8_secret_53 rfl ?_
        refine js_bipush dX8_secret_55 kb_10 ?_
        refine js_idiv dX8_secret_57 (by decide) ?_
        refine js_iload dX8_secret_58 rfl ?_
        refine js_bipush dX8_secret_60 kb_10 ?_
        refine js_irem dX8_secret_62 (by decide) ?_
        refine js_callV_W (mj := mX8_broughtBy) [(.int p1), (.int (v4 / (10 : Int32))), (.int (v4 - v4 / (10 : Int32) * (10 : Int32)))] [] dX8_secret_63 tw_1047 cm_X8_broughtBy cv_X8_broughtBy rfl rfl rfl rfl rfl rfl (fun r h => qX8_broughtBy G p1 (v4 / (10 : Int32)) (v4 - v4 / (10 : Int32) * (10 : Int32)) σ r h) (fun r5 => ?_)
        refine js_istore (lv' := [some (.ref 0), some (.int p1), some (.int p2), some (.int p3), some (.int v4), some (.int r5.1)]) dX8_secret_66 rfl rfl rfl ?_
        refine js_iload dX8_secret_68 rfl ?_
        refine js_bipush dX8_secret_70 kb_10 ?_
        refine js_irem dX8_secret_72 (by decide) ?_
        refine js_if_le 95 dX8_secret_73 rfl ?_ ?_
        · refine js_iinc (v := (v4 + (1 : Int32))) (lv' := [some (.ref 0), some (.int p1), some (.int p2), some (.int p3), some (.int (v4 + (1 : Int32))), some (.int r5.1)]) dX8_secret_95 rfl (kx_1 _) rfl rfl rfl ?_
          refine js_goto 32 dX8_secret_98 rfl ?_
          refine js_drop [true, true, true, true, true, false] (lv2 := [some (.ref 0), some (.int p1), some (.int p2), some (.int p3), some (.int (v4 + (1 : Int32))), none]) rfl ?_
          exact ih1 (v4 + (1 : Int32)) r5.2
        · refine js_iload_n dX8_secret_76 rfl rfl ?_
          refine js_iload dX8_secret_77 rfl ?_
          refine js_iconst dX8_secret_79 ki_m1 ?_
          refine js_ixor dX8_secret_80 ?_
          refine js_iand dX8_secret_81 ?_
          refine js_if_ne 95 dX8_secret_82 rfl ?_ ?_
          · refine js_iinc (v := (v4 + (1 : Int32))) (lv' := [some (.ref 0), some (.int p1), some (.int p2), some (.int p3), some (.int (v4 + (1 : Int32))), some (.int r5.1)]) dX8_secret_95 rfl (kx_1 _) rfl rfl rfl ?_
            refine js_goto 32 dX8_secret_98 rfl ?_
            refine js_drop [true, true, true, true, true, false] (lv2 := [some (.ref 0), some (.int p1), some (.int p2), some (.int p3), some (.int (v4 + (1 : Int32))), none]) rfl ?_
            exact ih1 (v4 + (1 : Int32)) r5.2
          · refine js_iload_n dX8_secret_85 rfl rfl ?_
            refine js_iload dX8_secret_86 rfl ?_
            refine js_iand dX8_secret_88 ?_
            refine js_if_ne 95 dX8_secret_89 rfl ?_ ?_
            · refine js_iinc (v := (v4 + (1 : Int32))) (lv' := [some (.ref 0), some (.int p1), some (.int p2), some (.int p3), some (.int (v4 + (1 : Int32))), some (.int r5.1)]) dX8_secret_95 rfl (kx_1 _) rfl rfl rfl ?_
              refine js_goto 32 dX8_secret_98 rfl ?_
              refine js_drop [true, true, true, true, true, false] (lv2 := [some (.ref 0), some (.int p1), some (.int p2), some (.int p3), some (.int (v4 + (1 : Int32))), none]) rfl ?_
              exact ih1 (v4 + (1 : Int32)) r5.2
            · refine js_iload dX8_secret_92 rfl ?_
              exact js_iret dX8_secret_94 rfl rfl
      · refine js_iconst dX8_secret_47 ki_0 ?_
        refine js_goto 66 dX8_secret_48 rfl ?_
        refine js_istore (lv' := [some (.ref 0), some (.int p1), some (.int p2), some (.int p3), some (.int v4), some (.int (0 : Int32))]) dX8_secret_66 rfl rfl rfl ?_
        refine js_iload dX8_secret_68 rfl ?_
        refine js_bipush dX8_secret_70 kb_10 ?_
        refine js_irem dX8_secret_72 (by decide) ?_
        refine js_if_le 95 dX8_secret_73 rfl ?_ ?_
        · refine js_iinc (v := (v4 + (1 : Int32))) (lv' := [some (.ref 0), some (.int p1), some (.int p2), some (.int p3), some (.int (v4 + (1 : Int32))), some (.int (0 : Int32))]) dX8_secret_95 rfl (kx_1 _) rfl rfl rfl ?_
          refine js_goto 32 dX8_secret_98 rfl ?_
          refine js_drop [true, true, true, true, true, false] (lv2 := [some (.ref 0), some (.int p1), some (.int p2), some (.int p3), some (.int (v4 + (1 : Int32))), none]) rfl ?_
          exact ih1 (v4 + (1 : Int32)) σ
        · refine js_iload_n dX8_secret_76 rfl rfl ?_
          refine js_iload dX8_secret_77 rfl ?_
          refine js_iconst dX8_secret_79 ki_m1 ?_
          refine js_ixor dX8_secret_80 ?_
          refine js_iand dX8_secret_81 ?_
          refine js_if_ne 95 dX8_secret_82 rfl ?_ ?_
          · refine js_iinc (v := (v4 + (1 : Int32))) (lv' := [some (.ref 0), some (.int p1), some (.int p2), some (.int p3), some (.int (v4 + (1 : Int32))), some (.int (0 : Int32))]) dX8_secret_95 rfl (kx_1 _) rfl rfl rfl ?_
            refine js_goto 32 dX8_secret_98 rfl ?_
            refine js_drop [true, true, true, true, true, false] (lv2 := [some (.ref 0), some (.int p1), some (.int p2), some (.int p3), some (.int (v4 + (1 : Int32))), none]) rfl ?_
            exact ih1 (v4 + (1 : Int32)) σ
          · refine js_iload_n dX8_secret_85 rfl rfl ?_
            refine js_iload dX8_secret_86 rfl ?_
            refine js_iand dX8_secret_88 ?_
            refine js_if_ne 95 dX8_secret_89 rfl ?_ ?_
            · refine js_iinc (v := (v4 + (1 : Int32))) (lv' := [some (.ref 0), some (.int p1), some (.int p2), some (.int p3), some (.int (v4 + (1 : Int32))), some (.int (0 : Int32))]) dX8_secret_95 rfl (kx_1 _) rfl rfl rfl ?_
              refine js_goto 32 dX8_secret_98 rfl ?_
              refine js_drop [true, true, true, true, true, false] (lv2 := [some (.ref 0), some (.int p1), some (.int p2), some (.int p3), some (.int (v4 + (1 : Int32))), none]) rfl ?_
              exact ih1 (v4 + (1 : Int32)) σ
            · refine js_iload dX8_secret_92 rfl ?_
              exact js_iret dX8_secret_94 rfl rfl

def fX8_secret (a1 : Int32) (a2 : Int32) (a3 : Int32) (σ : js_S) : Option (Int32 × js_S) := (fX8_isFlue a1 σ).bind fun r1 => (if r1 = 0 then (fX8_finds (-1000000001 : Int32) σ).bind fun r2 => some (r2.1, r2.2) else (if (fX8_areWords a2) = 0 then (fX8_finds (-1000000001 : Int32) σ).bind fun r3 => some (r3.1, r3.2) else (if (fX8_areWords a3) = 0 then (fX8_finds (-1000000001 : Int32) σ).bind fun r6 => some (r6.1, r6.2) else fX8_secret_L32 a1 a2 a3 js_FU (0 : Int32) σ)))
set_option maxRecDepth 10000 in
theorem jX8_secret (G : js_G) (a1 : Int32) (a2 : Int32) (a3 : Int32) (σ : js_S) : js_J G shM mX8_secret js_eW 0 [some (.ref 0), some (.int a1), some (.int a2), some (.int a3), none, none] [] σ (fX8_secret a1 a2 a3 σ) := by
  unfold fX8_secret
  refine js_aload_n dX8_secret_0 rfl rfl ?_
  refine js_iload_n dX8_secret_1 rfl rfl ?_
  refine js_callV_I (mj := mX8_isFlue) [(.int a1)] [] dX8_secret_2 tw_880 cm_X8_isFlue cv_X8_isFlue rfl rfl rfl rfl rfl rfl (fun r h => qX8_isFlue G a1 σ r h) (fun r1 => ?_)
  refine js_if_eq 22 dX8_secret_5 rfl ?_ ?_
  · refine js_aload_n dX8_secret_22 rfl rfl ?_
    refine js_ldc dX8_secret_23 tw_863 ?_
    refine js_callV_W (mj := mX8_finds) [(.int (-1000000001 : Int32))] [] dX8_secret_25 tw_864 cm_X8_finds cv_X8_finds rfl rfl rfl rfl rfl rfl (fun r h => qX8_finds G (-1000000001 : Int32) σ r h) (fun r2 => ?_)
    exact js_iret dX8_secret_28 rfl rfl
  · refine js_iload_n dX8_secret_8 rfl rfl ?_
    refine js_callS_P (mj := mX8_areWords) [(.int a2)] [] dX8_secret_9 tw_1075 cm_X8_areWords tw_1076 rfl rfl rfl rfl (qX8_areWords G a2 σ) ?_
    refine js_if_eq 22 dX8_secret_12 rfl ?_ ?_
    · refine js_aload_n dX8_secret_22 rfl rfl ?_
      refine js_ldc dX8_secret_23 tw_863 ?_
      refine js_callV_W (mj := mX8_finds) [(.int (-1000000001 : Int32))] [] dX8_secret_25 tw_864 cm_X8_finds cv_X8_finds rfl rfl rfl rfl rfl rfl (fun r h => qX8_finds G (-1000000001 : Int32) σ r h) (fun r3 => ?_)
      exact js_iret dX8_secret_28 rfl rfl
    · refine js_iload_n dX8_secret_15 rfl rfl ?_
      refine js_callS_P (mj := mX8_areWords) [(.int a3)] [] dX8_secret_16 tw_1075 cm_X8_areWords tw_1076 rfl rfl rfl rfl (qX8_areWords G a3 σ) ?_
      refine js_if_ne 29 dX8_secret_19 rfl ?_ ?_
      · refine js_iconst dX8_secret_29 ki_0 ?_
        refine js_istore (lv' := [some (.ref 0), some (.int a1), some (.int a2), some (.int a3), some (.int (0 : Int32)), none]) dX8_secret_30 rfl rfl rfl ?_
        exact jX8_secret_L32 G a1 a2 a3  _ (0 : Int32) σ
      · refine js_aload_n dX8_secret_22 rfl rfl ?_
        refine js_ldc dX8_secret_23 tw_863 ?_
        refine js_callV_W (mj := mX8_finds) [(.int (-1000000001 : Int32))] [] dX8_secret_25 tw_864 cm_X8_finds cv_X8_finds rfl rfl rfl rfl rfl rfl (fun r h => qX8_finds G (-1000000001 : Int32) σ r h) (fun r6 => ?_)
        exact js_iret dX8_secret_28 rfl rfl

theorem qX8_secret (G : js_G) (a1 : Int32) (a2 : Int32) (a3 : Int32) (σ : js_S) (r : (Int32 × js_S)) (h : fX8_secret a1 a2 a3 σ = some r) : js_Con G shM mX8_secret [(.ref 0), (.int a1), (.int a2), (.int a3)] σ (js_eW r) := js_con (mi := mX8_secret) 2 pn_X8 rfl (Nat.le_of_ble_eq_true rfl) (jX8_secret G a1 a2 a3 σ) r h
def fX8_ones_L4 (σ : js_S) : Nat → Int32 → Int32 → Option Int32
  | 0, _, _ => none
  | n + 1, v1, v2 => (if v2 = 0 then some v1 else fX8_ones_L4 σ n (v1 + (1 : Int32)) (v2 &&& (v2 - (1 : Int32))))
set_option maxRecDepth 10000 in
theorem jX8_ones_L4 (G : js_G) (σ : js_S) : ∀ (n : Nat) (v1 : Int32) (v2 : Int32), js_J G shM mX8_ones (js_eI σ) 4 [none, some (.int v1), some (.int v2)] [] σ (fX8_ones_L4 σ n v1 v2) := by
  intro n
  induction n with
  | zero =>
    intros
    exact js_none
  | succ n ih1 =>
    intro v1 v2
    rw [fX8_ones_L4]
    refine js_iload_n dX8_ones_4 rfl rfl ?_
    refine js_if_eq 20 dX8_ones_5 rfl ?_ ?_
    · refine js_iload_n dX8_ones_20 rfl rfl ?_
      exact js_iret dX8_ones_21 rfl rfl
    · refine js_iinc (v := (v1 + (1 : Int32))) (lv' := [none, some (.int (v1 + (1 : Int32))), some (.int v2)]) dX8_ones_8 rfl (kx_1 _) rfl rfl rfl ?_
      refine js_iload_n dX8_ones_11 rfl rfl ?_
      refine js_iload_n dX8_ones_12 rfl rfl ?_
      refine js_iconst dX8_ones_13 ki_1 ?_
      refine js_isub dX8_ones_14 ?_
      refine js_iand dX8_ones_15 ?_
      refine js_istore_n (lv' := [none, some (.int (v1 + (1 : Int32))), some (.int (v2 &&& (v2 - (1 : Int32))))]) dX8_ones_16 rfl rfl rfl rfl ?_
      refine js_goto 4 dX8_ones_17 rfl ?_
      exact ih1 (v1 + (1 : Int32)) (v2 &&& (v2 - (1 : Int32)))

def fX8_ones (a0 : Int32) (σ : js_S) : Option Int32 := fX8_ones_L4 σ js_FU (0 : Int32) a0
set_option maxRecDepth 10000 in
theorem jX8_ones (G : js_G) (a0 : Int32) (σ : js_S) : js_J G shM mX8_ones (js_eI σ) 0 [some (.int a0), none, none] [] σ (fX8_ones a0 σ) := by
  unfold fX8_ones
  refine js_iconst dX8_ones_0 ki_0 ?_
  refine js_istore_n (lv' := [some (.int a0), some (.int (0 : Int32)), none]) dX8_ones_1 rfl rfl rfl rfl ?_
  refine js_iload_n dX8_ones_2 rfl rfl ?_
  refine js_istore_n (lv' := [some (.int a0), some (.int (0 : Int32)), some (.int a0)]) dX8_ones_3 rfl rfl rfl rfl ?_
  refine js_drop [false, true, true] (lv2 := [none, some (.int (0 : Int32)), some (.int a0)]) rfl ?_
  exact jX8_ones_L4 G σ  _ (0 : Int32) a0

theorem qX8_ones (G : js_G) (a0 : Int32) (σ : js_S) (r : Int32) (h : fX8_ones a0 σ = some r) : js_Con G shM mX8_ones [(.int a0)] σ ((js_eI σ) r) := js_con (mi := mX8_ones) 2 pn_X8 rfl (Nat.le_of_ble_eq_true rfl) (jX8_ones G a0 σ) r h
def fX8_fewest_L45 (k94 : Int32 → js_S → Option (Int32 × js_S)) (p1 : Int32) (p2 : Int32) (p3 : Int32) (p4 : Int32) : Nat → Int32 → Int32 → js_S → Option (Int32 × js_S)
  | 0, _, _, _ => none
  | n + 1, v5, v6, σ => js_gd (js_ix (0 : Int32) 633) ((if (σ.1 1 (Int32.toNatClampNeg (0 : Int32))) ≤ v6 then k94 v5 σ else (if ((p4 >>> (v6 &&& 31)) &&& (1 : Int32)) = (1 : Int32) then (fX8_broughtBy v6 (7 : Int32) p2 σ).bind fun r3 => fX8_fewest_L45 k94 p1 p2 p3 p4 n (v5 &&& (r3.1 ^^^ (-1 : Int32))) (v6 + (1 : Int32)) r3.2 else fX8_fewest_L45 k94 p1 p2 p3 p4 n (v5 &&& (65535 : Int32)) (v6 + (1 : Int32)) σ)))
set_option maxRecDepth 10000 in
theorem jX8_fewest_L45 (G : js_G) (k94 : Int32 → js_S → Option (Int32 × js_S)) (p1 : Int32) (p2 : Int32) (p3 : Int32) (p4 : Int32) (hk94 : ∀ (w5 : Int32) (σ : js_S), js_J G shM mX8_fewest js_eW 94 [some (.ref 0), some (.int p1), some (.int p2), some (.int p3), some (.int p4), some (.int w5), none] [] σ (k94 w5 σ)) : ∀ (n : Nat) (v5 : Int32) (v6 : Int32) (σ : js_S), js_J G shM mX8_fewest js_eW 45 [some (.ref 0), some (.int p1), some (.int p2), some (.int p3), some (.int p4), some (.int v5), some (.int v6)] [] σ (fX8_fewest_L45 k94 p1 p2 p3 p4 n v5 v6 σ) := by
  intro n
  induction n with
  | zero =>
    intros
    exact js_none
  | succ n ih2 =>
    intro v5 v6 σ
    rw [fX8_fewest_L45]
    refine js_iload dX8_fewest_45 rfl ?_
    refine js_aload_n dX8_fewest_47 rfl rfl ?_
    refine js_getR dX8_fewest_48 fl_X8_7 rfl rfl ?_
    refine js_iconst dX8_fewest_51 ki_0 ?_
    refine js_iald dX8_fewest_52 rfl ?_
    refine js_icmp_ge 94 dX8_fewest_53 rfl ?_ ?_
    · refine js_drop [true, true, true, true, true, true, false] (lv2 := [some (.ref 0), some (.int p1), some (.int p2), some (.int p3), some (.int p4), some (.int v5), none]) rfl ?_
      exact hk94 v5 σ
    · refine js_iload dX8_fewest_56 rfl ?_
      refine js_iload dX8_fewest_58 rfl ?_
      refine js_iload dX8_fewest_60 rfl ?_
      refine js_ishr dX8_fewest_62 ?_
      refine js_iconst dX8_fewest_63 ki_1 ?_
      refine js_iand dX8_fewest_64 ?_
      refine js_iconst dX8_fewest_65 ki_1 ?_
      refine js_icmp_ne 83 dX8_fewest_66 rfl ?_ ?_
      · refine js_ldc dX8_fewest_83 tw_1091 ?_
        refine js_iand dX8_fewest_85 ?_
        refine js_istore (lv' := [some (.ref 0), some (.int p1), some (.int p2), some (.int p3), some (.int p4), some (.int (v5 &&& (65535 : Int32))), some (.int v6)]) dX8_fewest_86 rfl rfl rfl ?_
        refine js_iinc (v := (v6 + (1 : Int32))) (lv' := [some (.ref 0), some (.int p1), some (.int p2), some (.int p3), some (.int p4), some (.int (v5 &&& (65535 : Int32))), some (.int (v6 + (1 : Int32)))]) dX8_fewest_88 rfl (kx_1 _) rfl rfl rfl ?_
        refine js_goto 45 dX8_fewest_91 rfl ?_
        exact ih2 (v5 &&& (65535 : Int32)) (v6 + (1 : Int32)) σ
      · refine js_aload_n dX8_fewest_69 rfl rfl ?_
        refine js_iload dX8_fewest_70 rfl ?_
        refine js_bipush dX8_fewest_72 kb_7 ?_
        refine js_iload_n dX8_fewest_74 rfl rfl ?_
        refine js_callV_W (mj := mX8_broughtBy) [(.int v6), (.int (7 : Int32)), (.int p2)] [(.int v5)] dX8_fewest_75 tw_1047 cm_X8_broughtBy cv_X8_broughtBy rfl rfl rfl rfl rfl rfl (fun r h => qX8_broughtBy G v6 (7 : Int32) p2 σ r h) (fun r3 => ?_)
        refine js_iconst dX8_fewest_78 ki_m1 ?_
        refine js_ixor dX8_fewest_79 ?_
        refine js_goto 85 dX8_fewest_80 rfl ?_
        refine js_iand dX8_fewest_85 ?_
        refine js_istore (lv' := [some (.ref 0), some (.int p1), some (.int p2), some (.int p3), some (.int p4), some (.int (v5 &&& (r3.1 ^^^ (-1 : Int32)))), some (.int v6)]) dX8_fewest_86 rfl rfl rfl ?_
        refine js_iinc (v := (v6 + (1 : Int32))) (lv' := [some (.ref 0), some (.int p1), some (.int p2), some (.int p3), some (.int p4), some (.int (v5 &&& (r3.1 ^^^ (-1 : Int32)))), some (.int (v6 + (1 : Int32)))]) dX8_fewest_88 rfl (kx_1 _) rfl rfl rfl ?_
        refine js_goto 45 dX8_fewest_91 rfl ?_
        exact ih2 (v5 &&& (r3.1 ^^^ (-1 : Int32))) (v6 + (1 : Int32)) r3.2

def fX8_fewest_L26 (p1 : Int32) (p2 : Int32) : Nat → Int32 → Int32 → js_S → Option (Int32 × js_S)
  | 0, _, _, _ => none
  | n + 1, v3, v4, σ => js_gd (js_ix (0 : Int32) 633) ((if ((1 : Int32) <<< ((σ.1 1 (Int32.toNatClampNeg (0 : Int32))) &&& 31)) ≤ v4 then (if 0 ≤ v3 then some (v3, σ) else (fX8_finds (-1000000004 : Int32) σ).bind fun r2 => some (r2.1, r2.2)) else fX8_fewest_L45 (fun w4 s5 => (if w4 = 0 then (if v3 < 0 then fX8_fewest_L26 p1 p2 n v4 (v4 + (1 : Int32)) s5 else (fX8_ones v4 s5).bind fun r6 => (fX8_ones v3 s5).bind fun r7 => (if r7 ≤ r6 then fX8_fewest_L26 p1 p2 n v3 (v4 + (1 : Int32)) s5 else fX8_fewest_L26 p1 p2 n v4 (v4 + (1 : Int32)) s5)) else fX8_fewest_L26 p1 p2 n v3 (v4 + (1 : Int32)) s5)) p1 p2 v3 v4 js_FU p1 (0 : Int32) σ))
set_option maxRecDepth 10000 in
theorem jX8_fewest_L26 (G : js_G) (p1 : Int32) (p2 : Int32) : ∀ (n : Nat) (v3 : Int32) (v4 : Int32) (σ : js_S), js_J G shM mX8_fewest js_eW 26 [some (.ref 0), some (.int p1), some (.int p2), some (.int v3), some (.int v4), none, none] [] σ (fX8_fewest_L26 p1 p2 n v3 v4 σ) := by
  intro n
  induction n with
  | zero =>
    intros
    exact js_none
  | succ n ih1 =>
    intro v3 v4 σ
    rw [fX8_fewest_L26]
    refine js_iload dX8_fewest_26 rfl ?_
    refine js_iconst dX8_fewest_28 ki_1 ?_
    refine js_aload_n dX8_fewest_29 rfl rfl ?_
    refine js_getR dX8_fewest_30 fl_X8_7 rfl rfl ?_
    refine js_iconst dX8_fewest_33 ki_0 ?_
    refine js_iald dX8_fewest_34 rfl ?_
    refine js_ishl dX8_fewest_35 ?_
    refine js_icmp_ge 128 dX8_fewest_36 rfl ?_ ?_
    · refine js_iload_n dX8_fewest_128 rfl rfl ?_
      refine js_if_ge 141 dX8_fewest_129 rfl ?_ ?_
      · refine js_iload_n dX8_fewest_141 rfl rfl ?_
        exact js_iret dX8_fewest_142 rfl rfl
      · refine js_aload_n dX8_fewest_132 rfl rfl ?_
        refine js_ldc dX8_fewest_133 tw_933 ?_
        refine js_callV_W (mj := mX8_finds) [(.int (-1000000004 : Int32))] [] dX8_fewest_135 tw_864 cm_X8_finds cv_X8_finds rfl rfl rfl rfl rfl rfl (fun r h => qX8_finds G (-1000000004 : Int32) σ r h) (fun r2 => ?_)
        refine js_goto 142 dX8_fewest_138 rfl ?_
        exact js_iret dX8_fewest_142 rfl rfl
    · refine js_iload_n dX8_fewest_39 rfl rfl ?_
      refine js_istore (lv' := [some (.ref 0), some (.int p1), some (.int p2), some (.int v3), some (.int v4), some (.int p1), none]) dX8_fewest_40 rfl rfl rfl ?_
      refine js_iconst dX8_fewest_42 ki_0 ?_
      refine js_istore (lv' := [some (.ref 0), some (.int p1), some (.int p2), some (.int v3), some (.int v4), some (.int p1), some (.int (0 : Int32))]) dX8_fewest_43 rfl rfl rfl ?_
      refine jX8_fewest_L45 G _ p1 p2 v3 v4 (fun w4 s5 => ?_) _ p1 (0 : Int32) σ
      refine js_iload dX8_fewest_94 rfl ?_
      refine js_if_ne 120 dX8_fewest_96 rfl ?_ ?_
      · refine js_iload_n dX8_fewest_120 rfl rfl ?_
        refine js_istore_n (lv' := [some (.ref 0), some (.int p1), some (.int p2), some (.int v3), some (.int v4), some (.int w4), none]) dX8_fewest_121 rfl rfl rfl rfl ?_
        refine js_iinc (v := (v4 + (1 : Int32))) (lv' := [some (.ref 0), some (.int p1), some (.int p2), some (.int v3), some (.int (v4 + (1 : Int32))), some (.int w4), none]) dX8_fewest_122 rfl (kx_1 _) rfl rfl rfl ?_
        refine js_goto 26 dX8_fewest_125 rfl ?_
        refine js_drop [true, true, true, true, true, false, false] (lv2 := [some (.ref 0), some (.int p1), some (.int p2), some (.int v3), some (.int (v4 + (1 : Int32))), none, none]) rfl ?_
        exact ih1 v3 (v4 + (1 : Int32)) s5
      · refine js_iload_n dX8_fewest_99 rfl rfl ?_
        refine js_if_lt 115 dX8_fewest_100 rfl ?_ ?_
        · refine js_iload dX8_fewest_115 rfl ?_
          refine js_goto 121 dX8_fewest_117 rfl ?_
          refine js_istore_n (lv' := [some (.ref 0), some (.int p1), some (.int p2), some (.int v4), some (.int v4), some (.int w4), none]) dX8_fewest_121 rfl rfl rfl rfl ?_
          refine js_iinc (v := (v4 + (1 : Int32))) (lv' := [some (.ref 0), some (.int p1), some (.int p2), some (.int v4), some (.int (v4 + (1 : Int32))), some (.int w4), none]) dX8_fewest_122 rfl (kx_1 _) rfl rfl rfl ?_
          refine js_goto 26 dX8_fewest_125 rfl ?_
          refine js_drop [true, true, true, true, true, false, false] (lv2 := [some (.ref 0), some (.int p1), some (.int p2), some (.int v4), some (.int (v4 + (1 : Int32))), none, none]) rfl ?_
          exact ih1 v4 (v4 + (1 : Int32)) s5
        · refine js_iload dX8_fewest_103 rfl ?_
          refine js_callS_I (mj := mX8_ones) [(.int v4)] [] dX8_fewest_105 tw_1092 cm_X8_ones tw_1093 rfl rfl rfl rfl (fun r h => qX8_ones G v4 s5 r h) (fun r6 => ?_)
          refine js_iload_n dX8_fewest_108 rfl rfl ?_
          refine js_callS_I (mj := mX8_ones) [(.int v3)] [(.int r6)] dX8_fewest_109 tw_1092 cm_X8_ones tw_1093 rfl rfl rfl rfl (fun r h => qX8_ones G v3 s5 r h) (fun r7 => ?_)
          refine js_icmp_ge 120 dX8_fewest_112 rfl ?_ ?_
          · refine js_iload_n dX8_fewest_120 rfl rfl ?_
            refine js_istore_n (lv' := [some (.ref 0), some (.int p1), some (.int p2), some (.int v3), some (.int v4), some (.int w4), none]) dX8_fewest_121 rfl rfl rfl rfl ?_
            refine js_iinc (v := (v4 + (1 : Int32))) (lv' := [some (.ref 0), some (.int p1), some (.int p2), some (.int v3), some (.int (v4 + (1 : Int32))), some (.int w4), none]) dX8_fewest_122 rfl (kx_1 _) rfl rfl rfl ?_
            refine js_goto 26 dX8_fewest_125 rfl ?_
            refine js_drop [true, true, true, true, true, false, false] (lv2 := [some (.ref 0), some (.int p1), some (.int p2), some (.int v3), some (.int (v4 + (1 : Int32))), none, none]) rfl ?_
            exact ih1 v3 (v4 + (1 : Int32)) s5
          · refine js_iload dX8_fewest_115 rfl ?_
            refine js_goto 121 dX8_fewest_117 rfl ?_
            refine js_istore_n (lv' := [some (.ref 0), some (.int p1), some (.int p2), some (.int v4), some (.int v4), some (.int w4), none]) dX8_fewest_121 rfl rfl rfl rfl ?_
            refine js_iinc (v := (v4 + (1 : Int32))) (lv' := [some (.ref 0), some (.int p1), some (.int p2), some (.int v4), some (.int (v4 + (1 : Int32))), some (.int w4), none]) dX8_fewest_122 rfl (kx_1 _) rfl rfl rfl ?_
            refine js_goto 26 dX8_fewest_125 rfl ?_
            refine js_drop [true, true, true, true, true, false, false] (lv2 := [some (.ref 0), some (.int p1), some (.int p2), some (.int v4), some (.int (v4 + (1 : Int32))), none, none]) rfl ?_
            exact ih1 v4 (v4 + (1 : Int32)) s5

def fX8_fewest (a1 : Int32) (a2 : Int32) (σ : js_S) : Option (Int32 × js_S) := (if (fX8_areWords a1) = 0 then (fX8_finds (-1000000001 : Int32) σ).bind fun r1 => some (r1.1, r1.2) else (if (fX8_isStrength a2) = 0 then (fX8_finds (-1000000001 : Int32) σ).bind fun r8 => some (r8.1, r8.2) else fX8_fewest_L26 a1 a2 js_FU (-1 : Int32) (0 : Int32) σ))
set_option maxRecDepth 10000 in
theorem jX8_fewest (G : js_G) (a1 : Int32) (a2 : Int32) (σ : js_S) : js_J G shM mX8_fewest js_eW 0 [some (.ref 0), some (.int a1), some (.int a2), none, none, none, none] [] σ (fX8_fewest a1 a2 σ) := by
  unfold fX8_fewest
  refine js_iload_n dX8_fewest_0 rfl rfl ?_
  refine js_callS_P (mj := mX8_areWords) [(.int a1)] [] dX8_fewest_1 tw_1075 cm_X8_areWords tw_1076 rfl rfl rfl rfl (qX8_areWords G a1 σ) ?_
  refine js_if_eq 14 dX8_fewest_4 rfl ?_ ?_
  · refine js_aload_n dX8_fewest_14 rfl rfl ?_
    refine js_ldc dX8_fewest_15 tw_863 ?_
    refine js_callV_W (mj := mX8_finds) [(.int (-1000000001 : Int32))] [] dX8_fewest_17 tw_864 cm_X8_finds cv_X8_finds rfl rfl rfl rfl rfl rfl (fun r h => qX8_finds G (-1000000001 : Int32) σ r h) (fun r1 => ?_)
    exact js_iret dX8_fewest_20 rfl rfl
  · refine js_iload_n dX8_fewest_7 rfl rfl ?_
    refine js_callS_P (mj := mX8_isStrength) [(.int a2)] [] dX8_fewest_8 tw_1036 cm_X8_isStrength tw_1037 rfl rfl rfl rfl (qX8_isStrength G a2 σ) ?_
    refine js_if_ne 21 dX8_fewest_11 rfl ?_ ?_
    · refine js_iconst dX8_fewest_21 ki_m1 ?_
      refine js_istore_n (lv' := [some (.ref 0), some (.int a1), some (.int a2), some (.int (-1 : Int32)), none, none, none]) dX8_fewest_22 rfl rfl rfl rfl ?_
      refine js_iconst dX8_fewest_23 ki_0 ?_
      refine js_istore (lv' := [some (.ref 0), some (.int a1), some (.int a2), some (.int (-1 : Int32)), some (.int (0 : Int32)), none, none]) dX8_fewest_24 rfl rfl rfl ?_
      exact jX8_fewest_L26 G a1 a2  _ (-1 : Int32) (0 : Int32) σ
    · refine js_aload_n dX8_fewest_14 rfl rfl ?_
      refine js_ldc dX8_fewest_15 tw_863 ?_
      refine js_callV_W (mj := mX8_finds) [(.int (-1000000001 : Int32))] [] dX8_fewest_17 tw_864 cm_X8_finds cv_X8_finds rfl rfl rfl rfl rfl rfl (fun r h => qX8_finds G (-1000000001 : Int32) σ r h) (fun r8 => ?_)
      exact js_iret dX8_fewest_20 rfl rfl

theorem qX8_fewest (G : js_G) (a1 : Int32) (a2 : Int32) (σ : js_S) (r : (Int32 × js_S)) (h : fX8_fewest a1 a2 σ = some r) : js_Con G shM mX8_fewest [(.ref 0), (.int a1), (.int a2)] σ (js_eW r) := js_con (mi := mX8_fewest) 4 pn_X8 rfl (Nat.le_of_ble_eq_true rfl) (jX8_fewest G a1 a2 σ) r h
def fX8_where_L18 (p1 : Int32) : Nat → Int32 → Int32 → js_S → Option (Int32 × js_S)
  | 0, _, _, _ => none
  | n + 1, v2, v3, σ => js_gd (js_ix (0 : Int32) 633) ((if (σ.1 1 (Int32.toNatClampNeg (0 : Int32))) ≤ v3 then some (v2, σ) else (fX8_wordsOf v3 σ).bind fun r1 => fX8_where_L18 p1 n (v2 ||| (((r1 >>> (p1 &&& 31)) &&& (1 : Int32)) <<< (v3 &&& 31))) (v3 + (1 : Int32)) σ))
set_option maxRecDepth 10000 in
theorem jX8_where_L18 (G : js_G) (p1 : Int32) : ∀ (n : Nat) (v2 : Int32) (v3 : Int32) (σ : js_S), js_J G shM mX8_where js_eW 18 [some (.ref 0), some (.int p1), some (.int v2), some (.int v3)] [] σ (fX8_where_L18 p1 n v2 v3 σ) := by
  intro n
  induction n with
  | zero =>
    intros
    exact js_none
  | succ n ih1 =>
    intro v2 v3 σ
    rw [fX8_where_L18]
    refine js_iload_n dX8_where_18 rfl rfl ?_
    refine js_aload_n dX8_where_19 rfl rfl ?_
    refine js_getR dX8_where_20 fl_X8_7 rfl rfl ?_
    refine js_iconst dX8_where_23 ki_0 ?_
    refine js_iald dX8_where_24 rfl ?_
    refine js_icmp_ge 48 dX8_where_25 rfl ?_ ?_
    · refine js_iload_n dX8_where_48 rfl rfl ?_
      exact js_iret dX8_where_49 rfl rfl
    · refine js_iload_n dX8_where_28 rfl rfl ?_
      refine js_aload_n dX8_where_29 rfl rfl ?_
      refine js_iload_n dX8_where_30 rfl rfl ?_
      refine js_callV_I (mj := mX8_wordsOf) [(.int v3)] [(.int v2)] dX8_where_31 tw_897 cm_X8_wordsOf cv_X8_wordsOf rfl rfl rfl rfl rfl rfl (fun r h => qX8_wordsOf G v3 σ r h) (fun r1 => ?_)
      refine js_iload_n dX8_where_34 rfl rfl ?_
      refine js_ishr dX8_where_35 ?_
      refine js_iconst dX8_where_36 ki_1 ?_
      refine js_iand dX8_where_37 ?_
      refine js_iload_n dX8_where_38 rfl rfl ?_
      refine js_ishl dX8_where_39 ?_
      refine js_ior dX8_where_40 ?_
      refine js_istore_n (lv' := [some (.ref 0), some (.int p1), some (.int (v2 ||| (((r1 >>> (p1 &&& 31)) &&& (1 : Int32)) <<< (v3 &&& 31)))), some (.int v3)]) dX8_where_41 rfl rfl rfl rfl ?_
      refine js_iinc (v := (v3 + (1 : Int32))) (lv' := [some (.ref 0), some (.int p1), some (.int (v2 ||| (((r1 >>> (p1 &&& 31)) &&& (1 : Int32)) <<< (v3 &&& 31)))), some (.int (v3 + (1 : Int32)))]) dX8_where_42 rfl (kx_1 _) rfl rfl rfl ?_
      refine js_goto 18 dX8_where_45 rfl ?_
      exact ih1 (v2 ||| (((r1 >>> (p1 &&& 31)) &&& (1 : Int32)) <<< (v3 &&& 31))) (v3 + (1 : Int32)) σ

def fX8_where (a1 : Int32) (σ : js_S) : Option (Int32 × js_S) := (if (fX8_isWord a1) = 0 then (fX8_finds (-1000000001 : Int32) σ).bind fun r2 => some (r2.1, r2.2) else fX8_where_L18 a1 js_FU (0 : Int32) (0 : Int32) σ)
set_option maxRecDepth 10000 in
theorem jX8_where (G : js_G) (a1 : Int32) (σ : js_S) : js_J G shM mX8_where js_eW 0 [some (.ref 0), some (.int a1), none, none] [] σ (fX8_where a1 σ) := by
  unfold fX8_where
  refine js_iload_n dX8_where_0 rfl rfl ?_
  refine js_callS_P (mj := mX8_isWord) [(.int a1)] [] dX8_where_1 tw_959 cm_X8_isWord tw_960 rfl rfl rfl rfl (qX8_isWord G a1 σ) ?_
  refine js_if_ne 14 dX8_where_4 rfl ?_ ?_
  · refine js_iconst dX8_where_14 ki_0 ?_
    refine js_istore_n (lv' := [some (.ref 0), some (.int a1), some (.int (0 : Int32)), none]) dX8_where_15 rfl rfl rfl rfl ?_
    refine js_iconst dX8_where_16 ki_0 ?_
    refine js_istore_n (lv' := [some (.ref 0), some (.int a1), some (.int (0 : Int32)), some (.int (0 : Int32))]) dX8_where_17 rfl rfl rfl rfl ?_
    exact jX8_where_L18 G a1  _ (0 : Int32) (0 : Int32) σ
  · refine js_aload_n dX8_where_7 rfl rfl ?_
    refine js_ldc dX8_where_8 tw_863 ?_
    refine js_callV_W (mj := mX8_finds) [(.int (-1000000001 : Int32))] [] dX8_where_10 tw_864 cm_X8_finds cv_X8_finds rfl rfl rfl rfl rfl rfl (fun r h => qX8_finds G (-1000000001 : Int32) σ r h) (fun r2 => ?_)
    exact js_iret dX8_where_13 rfl rfl

theorem qX8_where (G : js_G) (a1 : Int32) (σ : js_S) (r : (Int32 × js_S)) (h : fX8_where a1 σ = some r) : js_Con G shM mX8_where [(.ref 0), (.int a1)] σ (js_eW r) := js_con (mi := mX8_where) 2 pn_X8 rfl (Nat.le_of_ble_eq_true rfl) (jX8_where G a1 σ) r h
