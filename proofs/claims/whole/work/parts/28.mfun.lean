def fX8_lost_L36 (p1 : Int32) (p2 : Int32) (p3 : Int32) : Nat → Int32 → js_S → Option (Int32 × js_S)
  | 0, _, _ => none
  | n + 1, v4, σ => (if (60 : Int32) < v4 then (fX8_takesBack v4 σ).bind fun r5 => (if r5.1 ≤ (60 : Int32) then some (r5.1, r5.2) else (fX8_finds (-1000000004 : Int32) r5.2).bind fun r6 => some (r6.1, r6.2)) else (fX8_broughtBy p1 (7 : Int32) p3 σ).bind fun r7 => (if ((r7.1 >>> (p2 &&& 31)) &&& (1 : Int32)) = (1 : Int32) then (fX8_day r7.2).bind fun r10 => fX8_lost_L36 p1 p2 p3 n (v4 + (1 : Int32)) r10 else (fX8_takesBack v4 r7.2).bind fun r8 => (if r8.1 ≤ (60 : Int32) then some (r8.1, r8.2) else (fX8_finds (-1000000004 : Int32) r8.2).bind fun r9 => some (r9.1, r9.2))))
set_option maxRecDepth 10000 in
theorem jX8_lost_L36 (G : js_G) (p1 : Int32) (p2 : Int32) (p3 : Int32) : ∀ (n : Nat) (v4 : Int32) (σ : js_S), js_J G shM mX8_lost js_eW 36 [some (.ref 0), some (.int p1), some (.int p2), some (.int p3), some (.int v4), none] [] σ (fX8_lost_L36 p1 p2 p3 n v4 σ) := by
  intro n
  induction n with
  | zero =>
    intros
    exact js_none
  | succ n ih1 =>
    intro v4 σ
    rw [fX8_lost_L36]
    refine js_iload dX8_lost_36 rfl ?_
    refine js_bipush dX8_lost_38 kb_60 ?_
    refine js_icmp_gt 69 dX8_lost_40 rfl ?_ ?_
    · refine js_aload_n dX8_lost_69 rfl rfl ?_
      refine js_iload dX8_lost_70 rfl ?_
      refine js_callV_W (mj := mX8_takesBack) [(.int v4)] [] dX8_lost_72 tw_1067 cm_X8_takesBack cv_X8_takesBack rfl rfl rfl rfl rfl rfl (fun r h => qX8_takesBack G v4 σ r h) (fun r5 => ?_)
      refine js_istore (lv' := [some (.ref 0), some (.int p1), some (.int p2), some (.int p3), some (.int v4), some (.int r5.1)]) dX8_lost_75 rfl rfl rfl ?_
      refine js_iload dX8_lost_77 rfl ?_
      refine js_bipush dX8_lost_79 kb_60 ?_
      refine js_icmp_le 93 dX8_lost_81 rfl ?_ ?_
      · refine js_iload dX8_lost_93 rfl ?_
        exact js_iret dX8_lost_95 rfl rfl
      · refine js_aload_n dX8_lost_84 rfl rfl ?_
        refine js_ldc dX8_lost_85 tw_933 ?_
        refine js_callV_W (mj := mX8_finds) [(.int (-1000000004 : Int32))] [] dX8_lost_87 tw_864 cm_X8_finds cv_X8_finds rfl rfl rfl rfl rfl rfl (fun r h => qX8_finds G (-1000000004 : Int32) r5.2 r h) (fun r6 => ?_)
        refine js_goto 95 dX8_lost_90 rfl ?_
        exact js_iret dX8_lost_95 rfl rfl
    · refine js_aload_n dX8_lost_43 rfl rfl ?_
      refine js_iload_n dX8_lost_44 rfl rfl ?_
      refine js_bipush dX8_lost_45 kb_7 ?_
      refine js_iload_n dX8_lost_47 rfl rfl ?_
      refine js_callV_W (mj := mX8_broughtBy) [(.int p1), (.int (7 : Int32)), (.int p3)] [] dX8_lost_48 tw_1047 cm_X8_broughtBy cv_X8_broughtBy rfl rfl rfl rfl rfl rfl (fun r h => qX8_broughtBy G p1 (7 : Int32) p3 σ r h) (fun r7 => ?_)
      refine js_iload_n dX8_lost_51 rfl rfl ?_
      refine js_ishr dX8_lost_52 ?_
      refine js_iconst dX8_lost_53 ki_1 ?_
      refine js_iand dX8_lost_54 ?_
      refine js_iconst dX8_lost_55 ki_1 ?_
      refine js_icmp_ne 69 dX8_lost_56 rfl ?_ ?_
      · refine js_aload_n dX8_lost_69 rfl rfl ?_
        refine js_iload dX8_lost_70 rfl ?_
        refine js_callV_W (mj := mX8_takesBack) [(.int v4)] [] dX8_lost_72 tw_1067 cm_X8_takesBack cv_X8_takesBack rfl rfl rfl rfl rfl rfl (fun r h => qX8_takesBack G v4 r7.2 r h) (fun r8 => ?_)
        refine js_istore (lv' := [some (.ref 0), some (.int p1), some (.int p2), some (.int p3), some (.int v4), some (.int r8.1)]) dX8_lost_75 rfl rfl rfl ?_
        refine js_iload dX8_lost_77 rfl ?_
        refine js_bipush dX8_lost_79 kb_60 ?_
        refine js_icmp_le 93 dX8_lost_81 rfl ?_ ?_
        · refine js_iload dX8_lost_93 rfl ?_
          exact js_iret dX8_lost_95 rfl rfl
        · refine js_aload_n dX8_lost_84 rfl rfl ?_
          refine js_ldc dX8_lost_85 tw_933 ?_
          refine js_callV_W (mj := mX8_finds) [(.int (-1000000004 : Int32))] [] dX8_lost_87 tw_864 cm_X8_finds cv_X8_finds rfl rfl rfl rfl rfl rfl (fun r h => qX8_finds G (-1000000004 : Int32) r8.2 r h) (fun r9 => ?_)
          refine js_goto 95 dX8_lost_90 rfl ?_
          exact js_iret dX8_lost_95 rfl rfl
      · refine js_aload_n dX8_lost_59 rfl rfl ?_
        refine js_callV_V (mj := mX8_day) [] [] dX8_lost_60 tw_1004 cm_X8_day cv_X8_day rfl rfl rfl rfl rfl rfl (fun r h => qX8_day G r7.2 r h) (fun r10 => ?_)
        refine js_iinc (v := (v4 + (1 : Int32))) (lv' := [some (.ref 0), some (.int p1), some (.int p2), some (.int p3), some (.int (v4 + (1 : Int32))), none]) dX8_lost_63 rfl (kx_1 _) rfl rfl rfl ?_
        refine js_goto 36 dX8_lost_66 rfl ?_
        exact ih1 (v4 + (1 : Int32)) r10

def fX8_lost (a1 : Int32) (a2 : Int32) (a3 : Int32) (σ : js_S) : Option (Int32 × js_S) := (fX8_isFlue a1 σ).bind fun r1 => (if r1 = 0 then (fX8_finds (-1000000001 : Int32) σ).bind fun r2 => some (r2.1, r2.2) else (if (fX8_isWord a2) = 0 then (fX8_finds (-1000000001 : Int32) σ).bind fun r3 => some (r3.1, r3.2) else (if (fX8_isStrength a3) = 0 then (fX8_finds (-1000000001 : Int32) σ).bind fun r11 => some (r11.1, r11.2) else (fX8_laysAside σ).bind fun r4 => fX8_lost_L36 a1 a2 a3 js_FU (0 : Int32) r4)))
set_option maxRecDepth 10000 in
theorem jX8_lost (G : js_G) (a1 : Int32) (a2 : Int32) (a3 : Int32) (σ : js_S) : js_J G shM mX8_lost js_eW 0 [some (.ref 0), some (.int a1), some (.int a2), some (.int a3), none, none] [] σ (fX8_lost a1 a2 a3 σ) := by
  unfold fX8_lost
  refine js_aload_n dX8_lost_0 rfl rfl ?_
  refine js_iload_n dX8_lost_1 rfl rfl ?_
  refine js_callV_I (mj := mX8_isFlue) [(.int a1)] [] dX8_lost_2 tw_880 cm_X8_isFlue cv_X8_isFlue rfl rfl rfl rfl rfl rfl (fun r h => qX8_isFlue G a1 σ r h) (fun r1 => ?_)
  refine js_if_eq 22 dX8_lost_5 rfl ?_ ?_
  · refine js_aload_n dX8_lost_22 rfl rfl ?_
    refine js_ldc dX8_lost_23 tw_863 ?_
    refine js_callV_W (mj := mX8_finds) [(.int (-1000000001 : Int32))] [] dX8_lost_25 tw_864 cm_X8_finds cv_X8_finds rfl rfl rfl rfl rfl rfl (fun r h => qX8_finds G (-1000000001 : Int32) σ r h) (fun r2 => ?_)
    exact js_iret dX8_lost_28 rfl rfl
  · refine js_iload_n dX8_lost_8 rfl rfl ?_
    refine js_callS_P (mj := mX8_isWord) [(.int a2)] [] dX8_lost_9 tw_959 cm_X8_isWord tw_960 rfl rfl rfl rfl (qX8_isWord G a2 σ) ?_
    refine js_if_eq 22 dX8_lost_12 rfl ?_ ?_
    · refine js_aload_n dX8_lost_22 rfl rfl ?_
      refine js_ldc dX8_lost_23 tw_863 ?_
      refine js_callV_W (mj := mX8_finds) [(.int (-1000000001 : Int32))] [] dX8_lost_25 tw_864 cm_X8_finds cv_X8_finds rfl rfl rfl rfl rfl rfl (fun r h => qX8_finds G (-1000000001 : Int32) σ r h) (fun r3 => ?_)
      exact js_iret dX8_lost_28 rfl rfl
    · refine js_iload_n dX8_lost_15 rfl rfl ?_
      refine js_callS_P (mj := mX8_isStrength) [(.int a3)] [] dX8_lost_16 tw_1036 cm_X8_isStrength tw_1037 rfl rfl rfl rfl (qX8_isStrength G a3 σ) ?_
      refine js_if_ne 29 dX8_lost_19 rfl ?_ ?_
      · refine js_aload_n dX8_lost_29 rfl rfl ?_
        refine js_callV_V (mj := mX8_laysAside) [] [] dX8_lost_30 tw_1063 cm_X8_laysAside cv_X8_laysAside rfl rfl rfl rfl rfl rfl (fun r h => qX8_laysAside G σ r h) (fun r4 => ?_)
        refine js_iconst dX8_lost_33 ki_0 ?_
        refine js_istore (lv' := [some (.ref 0), some (.int a1), some (.int a2), some (.int a3), some (.int (0 : Int32)), none]) dX8_lost_34 rfl rfl rfl ?_
        exact jX8_lost_L36 G a1 a2 a3  _ (0 : Int32) r4
      · refine js_aload_n dX8_lost_22 rfl rfl ?_
        refine js_ldc dX8_lost_23 tw_863 ?_
        refine js_callV_W (mj := mX8_finds) [(.int (-1000000001 : Int32))] [] dX8_lost_25 tw_864 cm_X8_finds cv_X8_finds rfl rfl rfl rfl rfl rfl (fun r h => qX8_finds G (-1000000001 : Int32) σ r h) (fun r11 => ?_)
        exact js_iret dX8_lost_28 rfl rfl

theorem qX8_lost (G : js_G) (a1 : Int32) (a2 : Int32) (a3 : Int32) (σ : js_S) (r : (Int32 × js_S)) (h : fX8_lost a1 a2 a3 σ = some r) : js_Con G shM mX8_lost [(.ref 0), (.int a1), (.int a2), (.int a3)] σ (js_eW r) := js_con (mi := mX8_lost) 2 pn_X8 rfl (Nat.le_of_ble_eq_true rfl) (jX8_lost G a1 a2 a3 σ) r h
def fX8_covers_L32 (k59 : Int32 → js_S → Option (Int32 × js_S)) (p1 : Int32) (p2 : Int32) (p3 : Int32) : Nat → Int32 → js_S → Option (Int32 × js_S)
  | 0, _, _ => none
  | n + 1, v4, σ => (if (8 : Int32) ≤ v4 then k59 v4 σ else (fX8_wordsAt p1 v4 σ).bind fun r4 => (if ((r4 >>> (p3 &&& 31)) &&& (1 : Int32)) = 0 then fX8_covers_L32 k59 p1 p2 p3 n (v4 + (1 : Int32)) σ else k59 v4 σ))
set_option maxRecDepth 10000 in
theorem jX8_covers_L32 (G : js_G) (k59 : Int32 → js_S → Option (Int32 × js_S)) (p1 : Int32) (p2 : Int32) (p3 : Int32) (hk59 : ∀ (w4 : Int32) (σ : js_S), js_J G shM mX8_covers js_eW 59 [some (.ref 0), some (.int p1), some (.int p2), none, some (.int w4), none] [] σ (k59 w4 σ)) : ∀ (n : Nat) (v4 : Int32) (σ : js_S), js_J G shM mX8_covers js_eW 32 [some (.ref 0), some (.int p1), some (.int p2), some (.int p3), some (.int v4), none] [] σ (fX8_covers_L32 k59 p1 p2 p3 n v4 σ) := by
  intro n
  induction n with
  | zero =>
    intros
    exact js_none
  | succ n ih1 =>
    intro v4 σ
    rw [fX8_covers_L32]
    refine js_iload dX8_covers_32 rfl ?_
    refine js_bipush dX8_covers_34 kb_8 ?_
    refine js_icmp_ge 59 dX8_covers_36 rfl ?_ ?_
    · refine js_drop [true, true, true, false, true, false] (lv2 := [some (.ref 0), some (.int p1), some (.int p2), none, some (.int v4), none]) rfl ?_
      exact hk59 v4 σ
    · refine js_aload_n dX8_covers_39 rfl rfl ?_
      refine js_iload_n dX8_covers_40 rfl rfl ?_
      refine js_iload dX8_covers_41 rfl ?_
      refine js_callV_I (mj := mX8_wordsAt) [(.int p1), (.int v4)] [] dX8_covers_43 tw_901 cm_X8_wordsAt cv_X8_wordsAt rfl rfl rfl rfl rfl rfl (fun r h => qX8_wordsAt G p1 v4 σ r h) (fun r4 => ?_)
      refine js_iload_n dX8_covers_46 rfl rfl ?_
      refine js_ishr dX8_covers_47 ?_
      refine js_iconst dX8_covers_48 ki_1 ?_
      refine js_iand dX8_covers_49 ?_
      refine js_if_ne 59 dX8_covers_50 rfl ?_ ?_
      · refine js_drop [true, true, true, false, true, false] (lv2 := [some (.ref 0), some (.int p1), some (.int p2), none, some (.int v4), none]) rfl ?_
        exact hk59 v4 σ
      · refine js_iinc (v := (v4 + (1 : Int32))) (lv' := [some (.ref 0), some (.int p1), some (.int p2), some (.int p3), some (.int (v4 + (1 : Int32))), none]) dX8_covers_53 rfl (kx_1 _) rfl rfl rfl ?_
        refine js_goto 32 dX8_covers_56 rfl ?_
        exact ih1 (v4 + (1 : Int32)) σ

def fX8_covers_L62 (p1 : Int32) (p2 : Int32) (p4 : Int32) : Nat → Int32 → js_S → Option (Int32 × js_S)
  | 0, _, _ => none
  | n + 1, v5, σ => (if (10 : Int32) ≤ v5 then (fX8_finds (-1000000004 : Int32) σ).bind fun r7 => some (r7.1, r7.2) else (if (8 : Int32) ≤ p4 then (fX8_finds (-1000000004 : Int32) σ).bind fun r8 => some (r8.1, r8.2) else (fX8_lands p1 p2 v5 σ).bind fun r9 => (if r9 = p4 then some (v5, σ) else fX8_covers_L62 p1 p2 p4 n (v5 + (1 : Int32)) σ)))
set_option maxRecDepth 10000 in
theorem jX8_covers_L62 (G : js_G) (p1 : Int32) (p2 : Int32) (p4 : Int32) : ∀ (n : Nat) (v5 : Int32) (σ : js_S), js_J G shM mX8_covers js_eW 62 [some (.ref 0), some (.int p1), some (.int p2), none, some (.int p4), some (.int v5)] [] σ (fX8_covers_L62 p1 p2 p4 n v5 σ) := by
  intro n
  induction n with
  | zero =>
    intros
    exact js_none
  | succ n ih2 =>
    intro v5 σ
    rw [fX8_covers_L62]
    refine js_iload dX8_covers_62 rfl ?_
    refine js_bipush dX8_covers_64 kb_10 ?_
    refine js_icmp_ge 98 dX8_covers_66 rfl ?_ ?_
    · refine js_aload_n dX8_covers_98 rfl rfl ?_
      refine js_ldc dX8_covers_99 tw_933 ?_
      refine js_callV_W (mj := mX8_finds) [(.int (-1000000004 : Int32))] [] dX8_covers_101 tw_864 cm_X8_finds cv_X8_finds rfl rfl rfl rfl rfl rfl (fun r h => qX8_finds G (-1000000004 : Int32) σ r h) (fun r7 => ?_)
      exact js_iret dX8_covers_104 rfl rfl
    · refine js_iload dX8_covers_69 rfl ?_
      refine js_bipush dX8_covers_71 kb_8 ?_
      refine js_icmp_ge 98 dX8_covers_73 rfl ?_ ?_
      · refine js_aload_n dX8_covers_98 rfl rfl ?_
        refine js_ldc dX8_covers_99 tw_933 ?_
        refine js_callV_W (mj := mX8_finds) [(.int (-1000000004 : Int32))] [] dX8_covers_101 tw_864 cm_X8_finds cv_X8_finds rfl rfl rfl rfl rfl rfl (fun r h => qX8_finds G (-1000000004 : Int32) σ r h) (fun r8 => ?_)
        exact js_iret dX8_covers_104 rfl rfl
      · refine js_aload_n dX8_covers_76 rfl rfl ?_
        refine js_iload_n dX8_covers_77 rfl rfl ?_
        refine js_iload_n dX8_covers_78 rfl rfl ?_
        refine js_iload dX8_covers_79 rfl ?_
        refine js_callV_I (mj := mX8_lands) [(.int p1), (.int p2), (.int v5)] [] dX8_covers_81 tw_978 cm_X8_lands cv_X8_lands rfl rfl rfl rfl rfl rfl (fun r h => qX8_lands G p1 p2 v5 σ r h) (fun r9 => ?_)
        refine js_iload dX8_covers_84 rfl ?_
        refine js_icmp_ne 92 dX8_covers_86 rfl ?_ ?_
        · refine js_iinc (v := (v5 + (1 : Int32))) (lv' := [some (.ref 0), some (.int p1), some (.int p2), none, some (.int p4), some (.int (v5 + (1 : Int32)))]) dX8_covers_92 rfl (kx_1 _) rfl rfl rfl ?_
          refine js_goto 62 dX8_covers_95 rfl ?_
          exact ih2 (v5 + (1 : Int32)) σ
        · refine js_iload dX8_covers_89 rfl ?_
          exact js_iret dX8_covers_91 rfl rfl

def fX8_covers (a1 : Int32) (a2 : Int32) (a3 : Int32) (σ : js_S) : Option (Int32 × js_S) := (fX8_isFlue a1 σ).bind fun r1 => (if r1 = 0 then (fX8_finds (-1000000001 : Int32) σ).bind fun r2 => some (r2.1, r2.2) else (if (fX8_isWord a2) = 0 then (fX8_finds (-1000000001 : Int32) σ).bind fun r3 => some (r3.1, r3.2) else (if (fX8_isWord a3) = 0 then (fX8_finds (-1000000001 : Int32) σ).bind fun r10 => some (r10.1, r10.2) else fX8_covers_L32 (fun w5 s6 => fX8_covers_L62 a1 a2 w5 js_FU (0 : Int32) s6) a1 a2 a3 js_FU (0 : Int32) σ)))
set_option maxRecDepth 10000 in
theorem jX8_covers (G : js_G) (a1 : Int32) (a2 : Int32) (a3 : Int32) (σ : js_S) : js_J G shM mX8_covers js_eW 0 [some (.ref 0), some (.int a1), some (.int a2), some (.int a3), none, none] [] σ (fX8_covers a1 a2 a3 σ) := by
  unfold fX8_covers
  refine js_aload_n dX8_covers_0 rfl rfl ?_
  refine js_iload_n dX8_covers_1 rfl rfl ?_
  refine js_callV_I (mj := mX8_isFlue) [(.int a1)] [] dX8_covers_2 tw_880 cm_X8_isFlue cv_X8_isFlue rfl rfl rfl rfl rfl rfl (fun r h => qX8_isFlue G a1 σ r h) (fun r1 => ?_)
  refine js_if_eq 22 dX8_covers_5 rfl ?_ ?_
  · refine js_aload_n dX8_covers_22 rfl rfl ?_
    refine js_ldc dX8_covers_23 tw_863 ?_
    refine js_callV_W (mj := mX8_finds) [(.int (-1000000001 : Int32))] [] dX8_covers_25 tw_864 cm_X8_finds cv_X8_finds rfl rfl rfl rfl rfl rfl (fun r h => qX8_finds G (-1000000001 : Int32) σ r h) (fun r2 => ?_)
    exact js_iret dX8_covers_28 rfl rfl
  · refine js_iload_n dX8_covers_8 rfl rfl ?_
    refine js_callS_P (mj := mX8_isWord) [(.int a2)] [] dX8_covers_9 tw_959 cm_X8_isWord tw_960 rfl rfl rfl rfl (qX8_isWord G a2 σ) ?_
    refine js_if_eq 22 dX8_covers_12 rfl ?_ ?_
    · refine js_aload_n dX8_covers_22 rfl rfl ?_
      refine js_ldc dX8_covers_23 tw_863 ?_
      refine js_callV_W (mj := mX8_finds) [(.int (-1000000001 : Int32))] [] dX8_covers_25 tw_864 cm_X8_finds cv_X8_finds rfl rfl rfl rfl rfl rfl (fun r h => qX8_finds G (-1000000001 : Int32) σ r h) (fun r3 => ?_)
      exact js_iret dX8_covers_28 rfl rfl
    · refine js_iload_n dX8_covers_15 rfl rfl ?_
      refine js_callS_P (mj := mX8_isWord) [(.int a3)] [] dX8_covers_16 tw_959 cm_X8_isWord tw_960 rfl rfl rfl rfl (qX8_isWord G a3 σ) ?_
      refine js_if_ne 29 dX8_covers_19 rfl ?_ ?_
      · refine js_iconst dX8_covers_29 ki_0 ?_
        refine js_istore (lv' := [some (.ref 0), some (.int a1), some (.int a2), some (.int a3), some (.int (0 : Int32)), none]) dX8_covers_30 rfl rfl rfl ?_
        refine jX8_covers_L32 G _ a1 a2 a3 (fun w5 s6 => ?_) _ (0 : Int32) σ
        refine js_iconst dX8_covers_59 ki_0 ?_
        refine js_istore (lv' := [some (.ref 0), some (.int a1), some (.int a2), none, some (.int w5), some (.int (0 : Int32))]) dX8_covers_60 rfl rfl rfl ?_
        exact jX8_covers_L62 G a1 a2 w5  _ (0 : Int32) s6
      · refine js_aload_n dX8_covers_22 rfl rfl ?_
        refine js_ldc dX8_covers_23 tw_863 ?_
        refine js_callV_W (mj := mX8_finds) [(.int (-1000000001 : Int32))] [] dX8_covers_25 tw_864 cm_X8_finds cv_X8_finds rfl rfl rfl rfl rfl rfl (fun r h => qX8_finds G (-1000000001 : Int32) σ r h) (fun r10 => ?_)
        exact js_iret dX8_covers_28 rfl rfl

theorem qX8_covers (G : js_G) (a1 : Int32) (a2 : Int32) (a3 : Int32) (σ : js_S) (r : (Int32 × js_S)) (h : fX8_covers a1 a2 a3 σ = some r) : js_Con G shM mX8_covers [(.ref 0), (.int a1), (.int a2), (.int a3)] σ (js_eW r) := js_con (mi := mX8_covers) 2 pn_X8 rfl (Nat.le_of_ble_eq_true rfl) (jX8_covers G a1 a2 a3 σ) r h
def fX8_saysAll_L6 (p1 : Int32) (p2 : Int32) (p3 : Int32) : Nat → Int32 → Int32 → js_S → Option (Int32 × js_S)
  | 0, _, _, _ => none
  | n + 1, v4, v5, σ => (if (16 : Int32) ≤ v5 then some (v4, σ) else (if ((p2 >>> (v5 &&& 31)) &&& (1 : Int32)) = (1 : Int32) then (fX8_says p1 v5 p3 σ).bind fun r1 => fX8_saysAll_L6 p1 p2 p3 n (v4 + r1.1) (v5 + (1 : Int32)) r1.2 else fX8_saysAll_L6 p1 p2 p3 n (v4 + (0 : Int32)) (v5 + (1 : Int32)) σ))
set_option maxRecDepth 10000 in
theorem jX8_saysAll_L6 (G : js_G) (p1 : Int32) (p2 : Int32) (p3 : Int32) : ∀ (n : Nat) (v4 : Int32) (v5 : Int32) (σ : js_S), js_J G shM mX8_saysAll js_eW 6 [some (.ref 0), some (.int p1), some (.int p2), some (.int p3), some (.int v4), some (.int v5)] [] σ (fX8_saysAll_L6 p1 p2 p3 n v4 v5 σ) := by
  intro n
  induction n with
  | zero =>
    intros
    exact js_none
  | succ n ih1 =>
    intro v4 v5 σ
    rw [fX8_saysAll_L6]
    refine js_iload dX8_saysAll_6 rfl ?_
    refine js_bipush dX8_saysAll_8 kb_16 ?_
    refine js_icmp_ge 46 dX8_saysAll_10 rfl ?_ ?_
    · refine js_iload dX8_saysAll_46 rfl ?_
      exact js_iret dX8_saysAll_48 rfl rfl
    · refine js_iload dX8_saysAll_13 rfl ?_
      refine js_iload_n dX8_saysAll_15 rfl rfl ?_
      refine js_iload dX8_saysAll_16 rfl ?_
      refine js_ishr dX8_saysAll_18 ?_
      refine js_iconst dX8_saysAll_19 ki_1 ?_
      refine js_iand dX8_saysAll_20 ?_
      refine js_iconst dX8_saysAll_21 ki_1 ?_
      refine js_icmp_ne 36 dX8_saysAll_22 rfl ?_ ?_
      · refine js_iconst dX8_saysAll_36 ki_0 ?_
        refine js_iadd dX8_saysAll_37 ?_
        refine js_istore (lv' := [some (.ref 0), some (.int p1), some (.int p2), some (.int p3), some (.int (v4 + (0 : Int32))), some (.int v5)]) dX8_saysAll_38 rfl rfl rfl ?_
        refine js_iinc (v := (v5 + (1 : Int32))) (lv' := [some (.ref 0), some (.int p1), some (.int p2), some (.int p3), some (.int (v4 + (0 : Int32))), some (.int (v5 + (1 : Int32)))]) dX8_saysAll_40 rfl (kx_1 _) rfl rfl rfl ?_
        refine js_goto 6 dX8_saysAll_43 rfl ?_
        exact ih1 (v4 + (0 : Int32)) (v5 + (1 : Int32)) σ
      · refine js_aload_n dX8_saysAll_25 rfl rfl ?_
        refine js_iload_n dX8_saysAll_26 rfl rfl ?_
        refine js_iload dX8_saysAll_27 rfl ?_
        refine js_iload_n dX8_saysAll_29 rfl rfl ?_
        refine js_callV_W (mj := mX8_says) [(.int p1), (.int v5), (.int p3)] [(.int v4)] dX8_saysAll_30 tw_974 cm_X8_says cv_X8_says rfl rfl rfl rfl rfl rfl (fun r h => qX8_says G p1 v5 p3 σ r h) (fun r1 => ?_)
        refine js_goto 37 dX8_saysAll_33 rfl ?_
        refine js_iadd dX8_saysAll_37 ?_
        refine js_istore (lv' := [some (.ref 0), some (.int p1), some (.int p2), some (.int p3), some (.int (v4 + r1.1)), some (.int v5)]) dX8_saysAll_38 rfl rfl rfl ?_
        refine js_iinc (v := (v5 + (1 : Int32))) (lv' := [some (.ref 0), some (.int p1), some (.int p2), some (.int p3), some (.int (v4 + r1.1)), some (.int (v5 + (1 : Int32)))]) dX8_saysAll_40 rfl (kx_1 _) rfl rfl rfl ?_
        refine js_goto 6 dX8_saysAll_43 rfl ?_
        exact ih1 (v4 + r1.1) (v5 + (1 : Int32)) r1.2

def fX8_saysAll (a1 : Int32) (a2 : Int32) (a3 : Int32) (σ : js_S) : Option (Int32 × js_S) := fX8_saysAll_L6 a1 a2 a3 js_FU (0 : Int32) (0 : Int32) σ
set_option maxRecDepth 10000 in
theorem jX8_saysAll (G : js_G) (a1 : Int32) (a2 : Int32) (a3 : Int32) (σ : js_S) : js_J G shM mX8_saysAll js_eW 0 [some (.ref 0), some (.int a1), some (.int a2), some (.int a3), none, none] [] σ (fX8_saysAll a1 a2 a3 σ) := by
  unfold fX8_saysAll
  refine js_iconst dX8_saysAll_0 ki_0 ?_
  refine js_istore (lv' := [some (.ref 0), some (.int a1), some (.int a2), some (.int a3), some (.int (0 : Int32)), none]) dX8_saysAll_1 rfl rfl rfl ?_
  refine js_iconst dX8_saysAll_3 ki_0 ?_
  refine js_istore (lv' := [some (.ref 0), some (.int a1), some (.int a2), some (.int a3), some (.int (0 : Int32)), some (.int (0 : Int32))]) dX8_saysAll_4 rfl rfl rfl ?_
  exact jX8_saysAll_L6 G a1 a2 a3  _ (0 : Int32) (0 : Int32) σ

theorem qX8_saysAll (G : js_G) (a1 : Int32) (a2 : Int32) (a3 : Int32) (σ : js_S) (r : (Int32 × js_S)) (h : fX8_saysAll a1 a2 a3 σ = some r) : js_Con G shM mX8_saysAll [(.ref 0), (.int a1), (.int a2), (.int a3)] σ (js_eW r) := js_con (mi := mX8_saysAll) 2 pn_X8 rfl (Nat.le_of_ble_eq_true rfl) (jX8_saysAll G a1 a2 a3 σ) r h
def fX8_kind_L38 (p1 : Int32) (p2 : Int32) (p3 : Int32) : Nat → Int32 → Int32 → Int32 → js_S → Option (Int32 × js_S)
  | 0, _, _, _, _ => none
  | n + 1, v4, v5, v6, σ => (if (5 : Int32) < v6 then some (v4, σ) else (fX8_laysAside σ).bind fun r4 => js_gd (js_ix ((3 : Int32) + p1) 633) ((fX8_saysAll p1 p2 p3 (js_sI r4 1 (Int32.toNatClampNeg ((3 : Int32) + p1)) v6)).bind fun r5 => (fX8_layersOf p1 r5.2).bind fun r6 => (fX8_takesBack r6 r5.2).bind fun r7 => (if r7.1 ≤ v5 then (if r7.1 ≤ v5 then fX8_kind_L38 p1 p2 p3 n v4 v5 (v6 + (1 : Int32)) r7.2 else fX8_kind_L38 p1 p2 p3 n v4 r7.1 (v6 + (1 : Int32)) r7.2) else (if r7.1 ≤ v5 then fX8_kind_L38 p1 p2 p3 n v6 v5 (v6 + (1 : Int32)) r7.2 else fX8_kind_L38 p1 p2 p3 n v6 r7.1 (v6 + (1 : Int32)) r7.2))))
set_option maxRecDepth 10000 in
theorem jX8_kind_L38 (G : js_G) (p1 : Int32) (p2 : Int32) (p3 : Int32) : ∀ (n : Nat) (v4 : Int32) (v5 : Int32) (v6 : Int32) (σ : js_S), js_J G shM mX8_kind js_eW 38 [some (.ref 0), some (.int p1), some (.int p2), some (.int p3), some (.int v4), some (.int v5), some (.int v6), none, none] [] σ (fX8_kind_L38 p1 p2 p3 n v4 v5 v6 σ) := by
  intro n
  induction n with
  | zero =>
    intros
    exact js_none
  | succ n ih1 =>
    intro v4 v5 v6 σ
    rw [fX8_kind_L38]
    refine js_iload dX8_kind_38 rfl ?_
    refine js_iconst dX8_kind_40 ki_5 ?_
    refine js_icmp_gt 116 dX8_kind_41 rfl ?_ ?_
    · refine js_iload dX8_kind_116 rfl ?_
      exact js_iret dX8_kind_118 rfl rfl
    · refine js_aload_n dX8_kind_44 rfl rfl ?_
      refine js_callV_V (mj := mX8_laysAside) [] [] dX8_kind_45 tw_1063 cm_X8_laysAside cv_X8_laysAside rfl rfl rfl rfl rfl rfl (fun r h => qX8_laysAside G σ r h) (fun r4 => ?_)
      refine js_aload_n dX8_kind_48 rfl rfl ?_
      refine js_getR dX8_kind_49 fl_X8_7 rfl rfl ?_
      refine js_iconst dX8_kind_52 ki_3 ?_
      refine js_iload_n dX8_kind_53 rfl rfl ?_
      refine js_iadd dX8_kind_54 ?_
      refine js_iload dX8_kind_55 rfl ?_
      refine js_iast dX8_kind_57 rfl ?_
      refine js_aload_n dX8_kind_58 rfl rfl ?_
      refine js_iload_n dX8_kind_59 rfl rfl ?_
      refine js_iload_n dX8_kind_60 rfl rfl ?_
      refine js_iload_n dX8_kind_61 rfl rfl ?_
      refine js_callV_W (mj := mX8_saysAll) [(.int p1), (.int p2), (.int p3)] [] dX8_kind_62 tw_1111 cm_X8_saysAll cv_X8_saysAll rfl rfl rfl rfl rfl rfl (fun r h => qX8_saysAll G p1 p2 p3 (js_sI r4 1 (Int32.toNatClampNeg ((3 : Int32) + p1)) v6) r h) (fun r5 => ?_)
      refine js_istore (lv' := [some (.ref 0), some (.int p1), some (.int p2), some (.int p3), some (.int v4), some (.int v5), some (.int v6), some (.int r5.1), none]) dX8_kind_65 rfl rfl rfl ?_
      refine js_aload_n dX8_kind_67 rfl rfl ?_
      refine js_aload_n dX8_kind_68 rfl rfl ?_
      refine js_iload_n dX8_kind_69 rfl rfl ?_
      refine js_callV_I (mj := mX8_layersOf) [(.int p1)] [(.ref 0)] dX8_kind_70 tw_889 cm_X8_layersOf cv_X8_layersOf rfl rfl rfl rfl rfl rfl (fun r h => qX8_layersOf G p1 r5.2 r h) (fun r6 => ?_)
      refine js_callV_W (mj := mX8_takesBack) [(.int r6)] [] dX8_kind_73 tw_1067 cm_X8_takesBack cv_X8_takesBack rfl rfl rfl rfl rfl rfl (fun r h => qX8_takesBack G r6 r5.2 r h) (fun r7 => ?_)
      refine js_istore (lv' := [some (.ref 0), some (.int p1), some (.int p2), some (.int p3), some (.int v4), some (.int v5), some (.int v6), some (.int r5.1), some (.int r7.1)]) dX8_kind_76 rfl rfl rfl ?_
      refine js_iload dX8_kind_78 rfl ?_
      refine js_iload dX8_kind_80 rfl ?_
      refine js_icmp_le 90 dX8_kind_82 rfl ?_ ?_
      · refine js_iload dX8_kind_90 rfl ?_
        refine js_istore (lv' := [some (.ref 0), some (.int p1), some (.int p2), some (.int p3), some (.int v4), some (.int v5), some (.int v6), some (.int r5.1), some (.int r7.1)]) dX8_kind_92 rfl rfl rfl ?_
        refine js_iload dX8_kind_94 rfl ?_
        refine js_iload dX8_kind_96 rfl ?_
        refine js_icmp_le 106 dX8_kind_98 rfl ?_ ?_
        · refine js_iload dX8_kind_106 rfl ?_
          refine js_istore (lv' := [some (.ref 0), some (.int p1), some (.int p2), some (.int p3), some (.int v4), some (.int v5), some (.int v6), some (.int r5.1), some (.int r7.1)]) dX8_kind_108 rfl rfl rfl ?_
          refine js_iinc (v := (v6 + (1 : Int32))) (lv' := [some (.ref 0), some (.int p1), some (.int p2), some (.int p3), some (.int v4), some (.int v5), some (.int (v6 + (1 : Int32))), some (.int r5.1), some (.int r7.1)]) dX8_kind_110 rfl (kx_1 _) rfl rfl rfl ?_
          refine js_goto 38 dX8_kind_113 rfl ?_
          refine js_drop [true, true, true, true, true, true, true, false, false] (lv2 := [some (.ref 0), some (.int p1), some (.int p2), some (.int p3), some (.int v4), some (.int v5), some (.int (v6 + (1 : Int32))), none, none]) rfl ?_
          exact ih1 v4 v5 (v6 + (1 : Int32)) r7.2
        · refine js_iload dX8_kind_101 rfl ?_
          refine js_goto 108 dX8_kind_103 rfl ?_
          refine js_istore (lv' := [some (.ref 0), some (.int p1), some (.int p2), some (.int p3), some (.int v4), some (.int r7.1), some (.int v6), some (.int r5.1), some (.int r7.1)]) dX8_kind_108 rfl rfl rfl ?_
          refine js_iinc (v := (v6 + (1 : Int32))) (lv' := [some (.ref 0), some (.int p1), some (.int p2), some (.int p3), some (.int v4), some (.int r7.1), some (.int (v6 + (1 : Int32))), some (.int r5.1), some (.int r7.1)]) dX8_kind_110 rfl (kx_1 _) rfl rfl rfl ?_
          refine js_goto 38 dX8_kind_113 rfl ?_
          refine js_drop [true, true, true, true, true, true, true, false, false] (lv2 := [some (.ref 0), some (.int p1), some (.int p2), some (.int p3), some (.int v4), some (.int r7.1), some (.int (v6 + (1 : Int32))), none, none]) rfl ?_
          exact ih1 v4 r7.1 (v6 + (1 : Int32)) r7.2
      · refine js_iload dX8_kind_85 rfl ?_
        refine js_goto 92 dX8_kind_87 rfl ?_
        refine js_istore (lv' := [some (.ref 0), some (.int p1), some (.int p2), some (.int p3), some (.int v6), some (.int v5), some (.int v6), some (.int r5.1), some (.int r7.1)]) dX8_kind_92 rfl rfl rfl ?_
        refine js_iload dX8_kind_94 rfl ?_
        refine js_iload dX8_kind_96 rfl ?_
        refine js_icmp_le 106 dX8_kind_98 rfl ?_ ?_
        · refine js_iload dX8_kind_106 rfl ?_
          refine js_istore (lv' := [some (.ref 0), some (.int p1), some (.int p2), some (.int p3), some (.int v6), some (.int v5), some (.int v6), some (.int r5.1), some (.int r7.1)]) dX8_kind_108 rfl rfl rfl ?_
          refine js_iinc (v := (v6 + (1 : Int32))) (lv' := [some (.ref 0), some (.int p1), some (.int p2), some (.int p3), some (.int v6), some (.int v5), some (.int (v6 + (1 : Int32))), some (.int r5.1), some (.int r7.1)]) dX8_kind_110 rfl (kx_1 _) rfl rfl rfl ?_
          refine js_goto 38 dX8_kind_113 rfl ?_
          refine js_drop [true, true, true, true, true, true, true, false, false] (lv2 := [some (.ref 0), some (.int p1), some (.int p2), some (.int p3), some (.int v6), some (.int v5), some (.int (v6 + (1 : Int32))), none, none]) rfl ?_
          exact ih1 v6 v5 (v6 + (1 : Int32)) r7.2
        · refine js_iload dX8_kind_101 rfl ?_
          refine js_goto 108 dX8_kind_103 rfl ?_
          refine js_istore (lv' := [some (.ref 0), some (.int p1), some (.int p2), some (.int p3), some (.int v6), some (.int r7.1), some (.int v6), some (.int r5.1), some (.int r7.1)]) dX8_kind_108 rfl rfl rfl ?_
          refine js_iinc (v := (v6 + (1 : Int32))) (lv' := [some (.ref 0), some (.int p1), some (.int p2), some (.int p3), some (.int v6), some (.int r7.1), some (.int (v6 + (1 : Int32))), some (.int r5.1), some (.int r7.1)]) dX8_kind_110 rfl (kx_1 _) rfl rfl rfl ?_
          refine js_goto 38 dX8_kind_113 rfl ?_
          refine js_drop [true, true, true, true, true, true, true, false, false] (lv2 := [some (.ref 0), some (.int p1), some (.int p2), some (.int p3), some (.int v6), some (.int r7.1), some (.int (v6 + (1 : Int32))), none, none]) rfl ?_
          exact ih1 v6 r7.1 (v6 + (1 : Int32)) r7.2

def fX8_kind (a1 : Int32) (a2 : Int32) (a3 : Int32) (σ : js_S) : Option (Int32 × js_S) := (fX8_isFlue a1 σ).bind fun r1 => (if r1 = 0 then (fX8_finds (-1000000001 : Int32) σ).bind fun r2 => some (r2.1, r2.2) else (if (fX8_areWords a2) = 0 then (fX8_finds (-1000000001 : Int32) σ).bind fun r3 => some (r3.1, r3.2) else (if (fX8_isVoice a3) = 0 then (fX8_finds (-1000000001 : Int32) σ).bind fun r8 => some (r8.1, r8.2) else fX8_kind_L38 a1 a2 a3 js_FU (0 : Int32) (-1 : Int32) (0 : Int32) σ)))
set_option maxRecDepth 10000 in
theorem jX8_kind (G : js_G) (a1 : Int32) (a2 : Int32) (a3 : Int32) (σ : js_S) : js_J G shM mX8_kind js_eW 0 [some (.ref 0), some (.int a1), some (.int a2), some (.int a3), none, none, none, none, none] [] σ (fX8_kind a1 a2 a3 σ) := by
  unfold fX8_kind
  refine js_aload_n dX8_kind_0 rfl rfl ?_
  refine js_iload_n dX8_kind_1 rfl rfl ?_
  refine js_callV_I (mj := mX8_isFlue) [(.int a1)] [] dX8_kind_2 tw_880 cm_X8_isFlue cv_X8_isFlue rfl rfl rfl rfl rfl rfl (fun r h => qX8_isFlue G a1 σ r h) (fun r1 => ?_)
  refine js_if_eq 22 dX8_kind_5 rfl ?_ ?_
  · refine js_aload_n dX8_kind_22 rfl rfl ?_
    refine js_ldc dX8_kind_23 tw_863 ?_
    refine js_callV_W (mj := mX8_finds) [(.int (-1000000001 : Int32))] [] dX8_kind_25 tw_864 cm_X8_finds cv_X8_finds rfl rfl rfl rfl rfl rfl (fun r h => qX8_finds G (-1000000001 : Int32) σ r h) (fun r2 => ?_)
    exact js_iret dX8_kind_28 rfl rfl
  · refine js_iload_n dX8_kind_8 rfl rfl ?_
    refine js_callS_P (mj := mX8_areWords) [(.int a2)] [] dX8_kind_9 tw_1075 cm_X8_areWords tw_1076 rfl rfl rfl rfl (qX8_areWords G a2 σ) ?_
    refine js_if_eq 22 dX8_kind_12 rfl ?_ ?_
    · refine js_aload_n dX8_kind_22 rfl rfl ?_
      refine js_ldc dX8_kind_23 tw_863 ?_
      refine js_callV_W (mj := mX8_finds) [(.int (-1000000001 : Int32))] [] dX8_kind_25 tw_864 cm_X8_finds cv_X8_finds rfl rfl rfl rfl rfl rfl (fun r h => qX8_finds G (-1000000001 : Int32) σ r h) (fun r3 => ?_)
      exact js_iret dX8_kind_28 rfl rfl
    · refine js_iload_n dX8_kind_15 rfl rfl ?_
      refine js_callS_P (mj := mX8_isVoice) [(.int a3)] [] dX8_kind_16 tw_963 cm_X8_isVoice tw_964 rfl rfl rfl rfl (qX8_isVoice G a3 σ) ?_
      refine js_if_ne 29 dX8_kind_19 rfl ?_ ?_
      · refine js_iconst dX8_kind_29 ki_0 ?_
        refine js_istore (lv' := [some (.ref 0), some (.int a1), some (.int a2), some (.int a3), some (.int (0 : Int32)), none, none, none, none]) dX8_kind_30 rfl rfl rfl ?_
        refine js_iconst dX8_kind_32 ki_m1 ?_
        refine js_istore (lv' := [some (.ref 0), some (.int a1), some (.int a2), some (.int a3), some (.int (0 : Int32)), some (.int (-1 : Int32)), none, none, none]) dX8_kind_33 rfl rfl rfl ?_
        refine js_iconst dX8_kind_35 ki_0 ?_
        refine js_istore (lv' := [some (.ref 0), some (.int a1), some (.int a2), some (.int a3), some (.int (0 : Int32)), some (.int (-1 : Int32)), some (.int (0 : Int32)), none, none]) dX8_kind_36 rfl rfl rfl ?_
        exact jX8_kind_L38 G a1 a2 a3  _ (0 : Int32) (-1 : Int32) (0 : Int32) σ
      · refine js_aload_n dX8_kind_22 rfl rfl ?_
        refine js_ldc dX8_kind_23 tw_863 ?_
        refine js_callV_W (mj := mX8_finds) [(.int (-1000000001 : Int32))] [] dX8_kind_25 tw_864 cm_X8_finds cv_X8_finds rfl rfl rfl rfl rfl rfl (fun r h => qX8_finds G (-1000000001 : Int32) σ r h) (fun r8 => ?_)
        exact js_iret dX8_kind_28 rfl rfl

theorem qX8_kind (G : js_G) (a1 : Int32) (a2 : Int32) (a3 : Int32) (σ : js_S) (r : (Int32 × js_S)) (h : fX8_kind a1 a2 a3 σ = some r) : js_Con G shM mX8_kind [(.ref 0), (.int a1), (.int a2), (.int a3)] σ (js_eW r) := js_con (mi := mX8_kind) 5 pn_X8 rfl (Nat.le_of_ble_eq_true rfl) (jX8_kind G a1 a2 a3 σ) r h
def fX8_best_L29 (p1 : Int32) (p2 : Int32) : Nat → Int32 → Int32 → Int32 → js_S → Option (Int32 × js_S)
  | 0, _, _, _, _ => none
  | n + 1, v3, v4, v5, σ => js_gd (js_ix (0 : Int32) 633) ((if (σ.1 1 (Int32.toNatClampNeg (0 : Int32))) ≤ v5 then (if 0 ≤ v3 then some (v3, σ) else (fX8_finds (-1000000004 : Int32) σ).bind fun r2 => some (r2.1, r2.2)) else (fX8_laysAside σ).bind fun r3 => (fX8_saysAll v5 p1 p2 r3).bind fun r4 => (fX8_takesBack r4.1 r4.2).bind fun r5 => (if v3 < 0 then (if v5 = v5 then fX8_best_L29 p1 p2 n v5 r5.1 (v5 + (1 : Int32)) r5.2 else fX8_best_L29 p1 p2 n v5 v4 (v5 + (1 : Int32)) r5.2) else (if r5.1 ≤ v4 then (if v3 = v5 then fX8_best_L29 p1 p2 n v3 r5.1 (v5 + (1 : Int32)) r5.2 else fX8_best_L29 p1 p2 n v3 v4 (v5 + (1 : Int32)) r5.2) else (if v5 = v5 then fX8_best_L29 p1 p2 n v5 r5.1 (v5 + (1 : Int32)) r5.2 else fX8_best_L29 p1 p2 n v5 v4 (v5 + (1 : Int32)) r5.2)))))
set_option maxRecDepth 10000 in
theorem jX8_best_L29 (G : js_G) (p1 : Int32) (p2 : Int32) : ∀ (n : Nat) (v3 : Int32) (v4 : Int32) (v5 : Int32) (σ : js_S), js_J G shM mX8_best js_eW 29 [some (.ref 0), some (.int p1), some (.int p2), some (.int v3), some (.int v4), some (.int v5), none] [] σ (fX8_best_L29 p1 p2 n v3 v4 v5 σ) := by
  intro n
  induction n with
  | zero =>
    intros
    exact js_none
  | succ n ih1 =>
    intro v3 v4 v5 σ
    rw [fX8_best_L29]
    refine js_iload dX8_best_29 rfl ?_
    refine js_aload_n dX8_best_31 rfl rfl ?_
    refine js_getR dX8_best_32 fl_X8_7 rfl rfl ?_
    refine js_iconst dX8_best_35 ki_0 ?_
    refine js_iald dX8_best_36 rfl ?_
    refine js_icmp_ge 97 dX8_best_37 rfl ?_ ?_
    · refine js_iload_n dX8_best_97 rfl rfl ?_
      refine js_if_ge 110 dX8_best_98 rfl ?_ ?_
      · refine js_iload_n dX8_best_110 rfl rfl ?_
        exact js_iret dX8_best_111 rfl rfl
      · refine js_aload_n dX8_best_101 rfl rfl ?_
        refine js_ldc dX8_best_102 tw_933 ?_
        refine js_callV_W (mj := mX8_finds) [(.int (-1000000004 : Int32))] [] dX8_best_104 tw_864 cm_X8_finds cv_X8_finds rfl rfl rfl rfl rfl rfl (fun r h => qX8_finds G (-1000000004 : Int32) σ r h) (fun r2 => ?_)
        refine js_goto 111 dX8_best_107 rfl ?_
        exact js_iret dX8_best_111 rfl rfl
    · refine js_aload_n dX8_best_40 rfl rfl ?_
      refine js_callV_V (mj := mX8_laysAside) [] [] dX8_best_41 tw_1063 cm_X8_laysAside cv_X8_laysAside rfl rfl rfl rfl rfl rfl (fun r h => qX8_laysAside G σ r h) (fun r3 => ?_)
      refine js_aload_n dX8_best_44 rfl rfl ?_
      refine js_aload_n dX8_best_45 rfl rfl ?_
      refine js_iload dX8_best_46 rfl ?_
      refine js_iload_n dX8_best_48 rfl rfl ?_
      refine js_iload_n dX8_best_49 rfl rfl ?_
      refine js_callV_W (mj := mX8_saysAll) [(.int v5), (.int p1), (.int p2)] [(.ref 0)] dX8_best_50 tw_1111 cm_X8_saysAll cv_X8_saysAll rfl rfl rfl rfl rfl rfl (fun r h => qX8_saysAll G v5 p1 p2 r3 r h) (fun r4 => ?_)
      refine js_callV_W (mj := mX8_takesBack) [(.int r4.1)] [] dX8_best_53 tw_1067 cm_X8_takesBack cv_X8_takesBack rfl rfl rfl rfl rfl rfl (fun r h => qX8_takesBack G r4.1 r4.2 r h) (fun r5 => ?_)
      refine js_istore (lv' := [some (.ref 0), some (.int p1), some (.int p2), some (.int v3), some (.int v4), some (.int v5), some (.int r5.1)]) dX8_best_56 rfl rfl rfl ?_
      refine js_iload_n dX8_best_58 rfl rfl ?_
      refine js_if_lt 69 dX8_best_59 rfl ?_ ?_
      · refine js_iload dX8_best_69 rfl ?_
        refine js_goto 75 dX8_best_71 rfl ?_
        refine js_istore_n (lv' := [some (.ref 0), some (.int p1), some (.int p2), some (.int v5), some (.int v4), some (.int v5), some (.int r5.1)]) dX8_best_75 rfl rfl rfl rfl ?_
        refine js_iload_n dX8_best_76 rfl rfl ?_
        refine js_iload dX8_best_77 rfl ?_
        refine js_icmp_ne 87 dX8_best_79 rfl ?_ ?_
        · refine js_iload dX8_best_87 rfl ?_
          refine js_istore (lv' := [some (.ref 0), some (.int p1), some (.int p2), some (.int v5), some (.int v4), some (.int v5), some (.int r5.1)]) dX8_best_89 rfl rfl rfl ?_
          refine js_iinc (v := (v5 + (1 : Int32))) (lv' := [some (.ref 0), some (.int p1), some (.int p2), some (.int v5), some (.int v4), some (.int (v5 + (1 : Int32))), some (.int r5.1)]) dX8_best_91 rfl (kx_1 _) rfl rfl rfl ?_
          refine js_goto 29 dX8_best_94 rfl ?_
          refine js_drop [true, true, true, true, true, true, false] (lv2 := [some (.ref 0), some (.int p1), some (.int p2), some (.int v5), some (.int v4), some (.int (v5 + (1 : Int32))), none]) rfl ?_
          exact ih1 v5 v4 (v5 + (1 : Int32)) r5.2
        · refine js_iload dX8_best_82 rfl ?_
          refine js_goto 89 dX8_best_84 rfl ?_
          refine js_istore (lv' := [some (.ref 0), some (.int p1), some (.int p2), some (.int v5), some (.int r5.1), some (.int v5), some (.int r5.1)]) dX8_best_89 rfl rfl rfl ?_
          refine js_iinc (v := (v5 + (1 : Int32))) (lv' := [some (.ref 0), some (.int p1), some (.int p2), some (.int v5), some (.int r5.1), some (.int (v5 + (1 : Int32))), some (.int r5.1)]) dX8_best_91 rfl (kx_1 _) rfl rfl rfl ?_
          refine js_goto 29 dX8_best_94 rfl ?_
          refine js_drop [true, true, true, true, true, true, false] (lv2 := [some (.ref 0), some (.int p1), some (.int p2), some (.int v5), some (.int r5.1), some (.int (v5 + (1 : Int32))), none]) rfl ?_
          exact ih1 v5 r5.1 (v5 + (1 : Int32)) r5.2
      · refine js_iload dX8_best_62 rfl ?_
        refine js_iload dX8_best_64 rfl ?_
        refine js_icmp_le 74 dX8_best_66 rfl ?_ ?_
        · refine js_iload_n dX8_best_74 rfl rfl ?_
          refine js_istore_n (lv' := [some (.ref 0), some (.int p1), some (.int p2), some (.int v3), some (.int v4), some (.int v5), some (.int r5.1)]) dX8_best_75 rfl rfl rfl rfl ?_
          refine js_iload_n dX8_best_76 rfl rfl ?_
          refine js_iload dX8_best_77 rfl ?_
          refine js_icmp_ne 87 dX8_best_79 rfl ?_ ?_
          · refine js_iload dX8_best_87 rfl ?_
            refine js_istore (lv' := [some (.ref 0), some (.int p1), some (.int p2), some (.int v3), some (.int v4), some (.int v5), some (.int r5.1)]) dX8_best_89 rfl rfl rfl ?_
            refine js_iinc (v := (v5 + (1 : Int32))) (lv' := [some (.ref 0), some (.int p1), some (.int p2), some (.int v3), some (.int v4), some (.int (v5 + (1 : Int32))), some (.int r5.1)]) dX8_best_91 rfl (kx_1 _) rfl rfl rfl ?_
            refine js_goto 29 dX8_best_94 rfl ?_
            refine js_drop [true, true, true, true, true, true, false] (lv2 := [some (.ref 0), some (.int p1), some (.int p2), some (.int v3), some (.int v4), some (.int (v5 + (1 : Int32))), none]) rfl ?_
            exact ih1 v3 v4 (v5 + (1 : Int32)) r5.2
          · refine js_iload dX8_best_82 rfl ?_
            refine js_goto 89 dX8_best_84 rfl ?_
            refine js_istore (lv' := [some (.ref 0), some (.int p1), some (.int p2), some (.int v3), some (.int r5.1), some (.int v5), some (.int r5.1)]) dX8_best_89 rfl rfl rfl ?_
            refine js_iinc (v := (v5 + (1 : Int32))) (lv' := [some (.ref 0), some (.int p1), some (.int p2), some (.int v3), some (.int r5.1), some (.int (v5 + (1 : Int32))), some (.int r5.1)]) dX8_best_91 rfl (kx_1 _) rfl rfl rfl ?_
            refine js_goto 29 dX8_best_94 rfl ?_
            refine js_drop [true, true, true, true, true, true, false] (lv2 := [some (.ref 0), some (.int p1), some (.int p2), some (.int v3), some (.int r5.1), some (.int (v5 + (1 : Int32))), none]) rfl ?_
            exact ih1 v3 r5.1 (v5 + (1 : Int32)) r5.2
        · refine js_iload dX8_best_69 rfl ?_
          refine js_goto 75 dX8_best_71 rfl ?_
          refine js_istore_n (lv' := [some (.ref 0), some (.int p1), some (.int p2), some (.int v5), some (.int v4), some (.int v5), some (.int r5.1)]) dX8_best_75 rfl rfl rfl rfl ?_
          refine js_iload_n dX8_best_76 rfl rfl ?_
          refine js_iload dX8_best_77 rfl ?_
          refine js_icmp_ne 87 dX8_best_79 rfl ?_ ?_
          · refine js_iload dX8_best_87 rfl ?_
            refine js_istore (lv' := [some (.ref 0), some (.int p1), some (.int p2), some (.int v5), some (.int v4), some (.int v5), some (.int r5.1)]) dX8_best_89 rfl rfl rfl ?_
            refine js_iinc (v := (v5 + (1 : Int32))) (lv' := [some (.ref 0), some (.int p1), some (.int p2), some (.int v5), some (.int v4), some (.int (v5 + (1 : Int32))), some (.int r5.1)]) dX8_best_91 rfl (kx_1 _) rfl rfl rfl ?_
            refine js_goto 29 dX8_best_94 rfl ?_
            refine js_drop [true, true, true, true, true, true, false] (lv2 := [some (.ref 0), some (.int p1), some (.int p2), some (.int v5), some (.int v4), some (.int (v5 + (1 : Int32))), none]) rfl ?_
            exact ih1 v5 v4 (v5 + (1 : Int32)) r5.2
          · refine js_iload dX8_best_82 rfl ?_
            refine js_goto 89 dX8_best_84 rfl ?_
            refine js_istore (lv' := [some (.ref 0), some (.int p1), some (.int p2), some (.int v5), some (.int r5.1), some (.int v5), some (.int r5.1)]) dX8_best_89 rfl rfl rfl ?_
            refine js_iinc (v := (v5 + (1 : Int32))) (lv' := [some (.ref 0), some (.int p1), some (.int p2), some (.int v5), some (.int r5.1), some (.int (v5 + (1 : Int32))), some (.int r5.1)]) dX8_best_91 rfl (kx_1 _) rfl rfl rfl ?_
            refine js_goto 29 dX8_best_94 rfl ?_
            refine js_drop [true, true, true, true, true, true, false] (lv2 := [some (.ref 0), some (.int p1), some (.int p2), some (.int v5), some (.int r5.1), some (.int (v5 + (1 : Int32))), none]) rfl ?_
            exact ih1 v5 r5.1 (v5 + (1 : Int32)) r5.2

def fX8_best (a1 : Int32) (a2 : Int32) (σ : js_S) : Option (Int32 × js_S) := (if (fX8_areWords a1) = 0 then (fX8_finds (-1000000001 : Int32) σ).bind fun r1 => some (r1.1, r1.2) else (if (fX8_isVoice a2) = 0 then (fX8_finds (-1000000001 : Int32) σ).bind fun r6 => some (r6.1, r6.2) else fX8_best_L29 a1 a2 js_FU (-1 : Int32) (0 : Int32) (0 : Int32) σ))
set_option maxRecDepth 10000 in
theorem jX8_best (G : js_G) (a1 : Int32) (a2 : Int32) (σ : js_S) : js_J G shM mX8_best js_eW 0 [some (.ref 0), some (.int a1), some (.int a2), none, none, none, none] [] σ (fX8_best a1 a2 σ) := by
  unfold fX8_best
  refine js_iload_n dX8_best_0 rfl rfl ?_
  refine js_callS_P (mj := mX8_areWords) [(.int a1)] [] dX8_best_1 tw_1075 cm_X8_areWords tw_1076 rfl rfl rfl rfl (qX8_areWords G a1 σ) ?_
  refine js_if_eq 14 dX8_best_4 rfl ?_ ?_
  · refine js_aload_n dX8_best_14 rfl rfl ?_
    refine js_ldc dX8_best_15 tw_863 ?_
    refine js_callV_W (mj := mX8_finds) [(.int (-1000000001 : Int32))] [] dX8_best_17 tw_864 cm_X8_finds cv_X8_finds rfl rfl rfl rfl rfl rfl (fun r h => qX8_finds G (-1000000001 : Int32) σ r h) (fun r1 => ?_)
    exact js_iret dX8_best_20 rfl rfl
  · refine js_iload_n dX8_best_7 rfl rfl ?_
    refine js_callS_P (mj := mX8_isVoice) [(.int a2)] [] dX8_best_8 tw_963 cm_X8_isVoice tw_964 rfl rfl rfl rfl (qX8_isVoice G a2 σ) ?_
    refine js_if_ne 21 dX8_best_11 rfl ?_ ?_
    · refine js_iconst dX8_best_21 ki_m1 ?_
      refine js_istore_n (lv' := [some (.ref 0), some (.int a1), some (.int a2), some (.int (-1 : Int32)), none, none, none]) dX8_best_22 rfl rfl rfl rfl ?_
      refine js_iconst dX8_best_23 ki_0 ?_
      refine js_istore (lv' := [some (.ref 0), some (.int a1), some (.int a2), some (.int (-1 : Int32)), some (.int (0 : Int32)), none, none]) dX8_best_24 rfl rfl rfl ?_
      refine js_iconst dX8_best_26 ki_0 ?_
      refine js_istore (lv' := [some (.ref 0), some (.int a1), some (.int a2), some (.int (-1 : Int32)), some (.int (0 : Int32)), some (.int (0 : Int32)), none]) dX8_best_27 rfl rfl rfl ?_
      exact jX8_best_L29 G a1 a2  _ (-1 : Int32) (0 : Int32) (0 : Int32) σ
    · refine js_aload_n dX8_best_14 rfl rfl ?_
      refine js_ldc dX8_best_15 tw_863 ?_
      refine js_callV_W (mj := mX8_finds) [(.int (-1000000001 : Int32))] [] dX8_best_17 tw_864 cm_X8_finds cv_X8_finds rfl rfl rfl rfl rfl rfl (fun r h => qX8_finds G (-1000000001 : Int32) σ r h) (fun r6 => ?_)
      exact js_iret dX8_best_20 rfl rfl

theorem qX8_best (G : js_G) (a1 : Int32) (a2 : Int32) (σ : js_S) (r : (Int32 × js_S)) (h : fX8_best a1 a2 σ = some r) : js_Con G shM mX8_best [(.ref 0), (.int a1), (.int a2)] σ (js_eW r) := js_con (mi := mX8_best) 4 pn_X8 rfl (Nat.le_of_ble_eq_true rfl) (jX8_best G a1 a2 σ) r h
def fX8_richest_L22 (p1 : Int32) : Nat → Int32 → Int32 → Int32 → js_S → Option (Int32 × js_S)
  | 0, _, _, _, _ => none
  | n + 1, v2, v3, v4, σ => (if (8 : Int32) ≤ v4 then (if 0 ≤ v2 then some (v2, σ) else (fX8_finds (-1000000004 : Int32) σ).bind fun r2 => some (r2.1, r2.2)) else (fX8_wordsAt p1 v4 σ).bind fun r3 => (fX8_ones r3 σ).bind fun r4 => (if r4 ≤ v3 then (if r4 ≤ v3 then fX8_richest_L22 p1 n v2 v3 (v4 + (1 : Int32)) σ else fX8_richest_L22 p1 n v2 r4 (v4 + (1 : Int32)) σ) else (if r4 ≤ v3 then fX8_richest_L22 p1 n v4 v3 (v4 + (1 : Int32)) σ else fX8_richest_L22 p1 n v4 r4 (v4 + (1 : Int32)) σ)))
set_option maxRecDepth 10000 in
theorem jX8_richest_L22 (G : js_G) (p1 : Int32) : ∀ (n : Nat) (v2 : Int32) (v3 : Int32) (v4 : Int32) (σ : js_S), js_J G shM mX8_richest js_eW 22 [some (.ref 0), some (.int p1), some (.int v2), some (.int v3), some (.int v4), none] [] σ (fX8_richest_L22 p1 n v2 v3 v4 σ) := by
  intro n
  induction n with
  | zero =>
    intros
    exact js_none
  | succ n ih1 =>
    intro v2 v3 v4 σ
    rw [fX8_richest_L22]
    refine js_iload dX8_richest_22 rfl ?_
    refine js_bipush dX8_richest_24 kb_8 ?_
    refine js_icmp_ge 73 dX8_richest_26 rfl ?_ ?_
    · refine js_iload_n dX8_richest_73 rfl rfl ?_
      refine js_if_ge 86 dX8_richest_74 rfl ?_ ?_
      · refine js_iload_n dX8_richest_86 rfl rfl ?_
        exact js_iret dX8_richest_87 rfl rfl
      · refine js_aload_n dX8_richest_77 rfl rfl ?_
        refine js_ldc dX8_richest_78 tw_933 ?_
        refine js_callV_W (mj := mX8_finds) [(.int (-1000000004 : Int32))] [] dX8_richest_80 tw_864 cm_X8_finds cv_X8_finds rfl rfl rfl rfl rfl rfl (fun r h => qX8_finds G (-1000000004 : Int32) σ r h) (fun r2 => ?_)
        refine js_goto 87 dX8_richest_83 rfl ?_
        exact js_iret dX8_richest_87 rfl rfl
    · refine js_aload_n dX8_richest_29 rfl rfl ?_
      refine js_iload_n dX8_richest_30 rfl rfl ?_
      refine js_iload dX8_richest_31 rfl ?_
      refine js_callV_I (mj := mX8_wordsAt) [(.int p1), (.int v4)] [] dX8_richest_33 tw_901 cm_X8_wordsAt cv_X8_wordsAt rfl rfl rfl rfl rfl rfl (fun r h => qX8_wordsAt G p1 v4 σ r h) (fun r3 => ?_)
      refine js_callS_I (mj := mX8_ones) [(.int r3)] [] dX8_richest_36 tw_1092 cm_X8_ones tw_1093 rfl rfl rfl rfl (fun r h => qX8_ones G r3 σ r h) (fun r4 => ?_)
      refine js_istore (lv' := [some (.ref 0), some (.int p1), some (.int v2), some (.int v3), some (.int v4), some (.int r4)]) dX8_richest_39 rfl rfl rfl ?_
      refine js_iload dX8_richest_41 rfl ?_
      refine js_iload_n dX8_richest_43 rfl rfl ?_
      refine js_icmp_le 52 dX8_richest_44 rfl ?_ ?_
      · refine js_iload_n dX8_richest_52 rfl rfl ?_
        refine js_istore_n (lv' := [some (.ref 0), some (.int p1), some (.int v2), some (.int v3), some (.int v4), some (.int r4)]) dX8_richest_53 rfl rfl rfl rfl ?_
        refine js_iload dX8_richest_54 rfl ?_
        refine js_iload_n dX8_richest_56 rfl rfl ?_
        refine js_icmp_le 65 dX8_richest_57 rfl ?_ ?_
        · refine js_iload_n dX8_richest_65 rfl rfl ?_
          refine js_istore_n (lv' := [some (.ref 0), some (.int p1), some (.int v2), some (.int v3), some (.int v4), some (.int r4)]) dX8_richest_66 rfl rfl rfl rfl ?_
          refine js_iinc (v := (v4 + (1 : Int32))) (lv' := [some (.ref 0), some (.int p1), some (.int v2), some (.int v3), some (.int (v4 + (1 : Int32))), some (.int r4)]) dX8_richest_67 rfl (kx_1 _) rfl rfl rfl ?_
          refine js_goto 22 dX8_richest_70 rfl ?_
          refine js_drop [true, true, true, true, true, false] (lv2 := [some (.ref 0), some (.int p1), some (.int v2), some (.int v3), some (.int (v4 + (1 : Int32))), none]) rfl ?_
          exact ih1 v2 v3 (v4 + (1 : Int32)) σ
        · refine js_iload dX8_richest_60 rfl ?_
          refine js_goto 66 dX8_richest_62 rfl ?_
          refine js_istore_n (lv' := [some (.ref 0), some (.int p1), some (.int v2), some (.int r4), some (.int v4), some (.int r4)]) dX8_richest_66 rfl rfl rfl rfl ?_
          refine js_iinc (v := (v4 + (1 : Int32))) (lv' := [some (.ref 0), some (.int p1), some (.int v2), some (.int r4), some (.int (v4 + (1 : Int32))), some (.int r4)]) dX8_richest_67 rfl (kx_1 _) rfl rfl rfl ?_
          refine js_goto 22 dX8_richest_70 rfl ?_
          refine js_drop [true, true, true, true, true, false] (lv2 := [some (.ref 0), some (.int p1), some (.int v2), some (.int r4), some (.int (v4 + (1 : Int32))), none]) rfl ?_
          exact ih1 v2 r4 (v4 + (1 : Int32)) σ
      · refine js_iload dX8_richest_47 rfl ?_
        refine js_goto 53 dX8_richest_49 rfl ?_
        refine js_istore_n (lv' := [some (.ref 0), some (.int p1), some (.int v4), some (.int v3), some (.int v4), some (.int r4)]) dX8_richest_53 rfl rfl rfl rfl ?_
        refine js_iload dX8_richest_54 rfl ?_
        refine js_iload_n dX8_richest_56 rfl rfl ?_
        refine js_icmp_le 65 dX8_richest_57 rfl ?_ ?_
        · refine js_iload_n dX8_richest_65 rfl rfl ?_
          refine js_istore_n (lv' := [some (.ref 0), some (.int p1), some (.int v4), some (.int v3), some (.int v4), some (.int r4)]) dX8_richest_66 rfl rfl rfl rfl ?_
          refine js_iinc (v := (v4 + (1 : Int32))) (lv' := [some (.ref 0), some (.int p1), some (.int v4), some (.int v3), some (.int (v4 + (1 : Int32))), some (.int r4)]) dX8_richest_67 rfl (kx_1 _) rfl rfl rfl ?_
          refine js_goto 22 dX8_richest_70 rfl ?_
          refine js_drop [true, true, true, true, true, false] (lv2 := [some (.ref 0), some (.int p1), some (.int v4), some (.int v3), some (.int (v4 + (1 : Int32))), none]) rfl ?_
          exact ih1 v4 v3 (v4 + (1 : Int32)) σ
        · refine js_iload dX8_richest_60 rfl ?_
          refine js_goto 66 dX8_richest_62 rfl ?_
          refine js_istore_n (lv' := [some (.ref 0), some (.int p1), some (.int v4), some (.int r4), some (.int v4), some (.int r4)]) dX8_richest_66 rfl rfl rfl rfl ?_
          refine js_iinc (v := (v4 + (1 : Int32))) (lv' := [some (.ref 0), some (.int p1), some (.int v4), some (.int r4), some (.int (v4 + (1 : Int32))), some (.int r4)]) dX8_richest_67 rfl (kx_1 _) rfl rfl rfl ?_
          refine js_goto 22 dX8_richest_70 rfl ?_
          refine js_drop [true, true, true, true, true, false] (lv2 := [some (.ref 0), some (.int p1), some (.int v4), some (.int r4), some (.int (v4 + (1 : Int32))), none]) rfl ?_
          exact ih1 v4 r4 (v4 + (1 : Int32)) σ

def fX8_richest (a1 : Int32) (σ : js_S) : Option (Int32 × js_S) := (fX8_isFlue a1 σ).bind fun r1 => (if r1 = 0 then (fX8_finds (-1000000001 : Int32) σ).bind fun r5 => some (r5.1, r5.2) else fX8_richest_L22 a1 js_FU (-1 : Int32) (0 : Int32) (0 : Int32) σ)
set_option maxRecDepth 10000 in
theorem jX8_richest (G : js_G) (a1 : Int32) (σ : js_S) : js_J G shM mX8_richest js_eW 0 [some (.ref 0), some (.int a1), none, none, none, none] [] σ (fX8_richest a1 σ) := by
  unfold fX8_richest
  refine js_aload_n dX8_richest_0 rfl rfl ?_
  refine js_iload_n dX8_richest_1 rfl rfl ?_
  refine js_callV_I (mj := mX8_isFlue) [(.int a1)] [] dX8_richest_2 tw_880 cm_X8_isFlue cv_X8_isFlue rfl rfl rfl rfl rfl rfl (fun r h => qX8_isFlue G a1 σ r h) (fun r1 => ?_)
  refine js_if_ne 15 dX8_richest_5 rfl ?_ ?_
  · refine js_iconst dX8_richest_15 ki_m1 ?_
    refine js_istore_n (lv' := [some (.ref 0), some (.int a1), some (.int (-1 : Int32)), none, none, none]) dX8_richest_16 rfl rfl rfl rfl ?_
    refine js_iconst dX8_richest_17 ki_0 ?_
    refine js_istore_n (lv' := [some (.ref 0), some (.int a1), some (.int (-1 : Int32)), some (.int (0 : Int32)), none, none]) dX8_richest_18 rfl rfl rfl rfl ?_
    refine js_iconst dX8_richest_19 ki_0 ?_
    refine js_istore (lv' := [some (.ref 0), some (.int a1), some (.int (-1 : Int32)), some (.int (0 : Int32)), some (.int (0 : Int32)), none]) dX8_richest_20 rfl rfl rfl ?_
    exact jX8_richest_L22 G a1  _ (-1 : Int32) (0 : Int32) (0 : Int32) σ
  · refine js_aload_n dX8_richest_8 rfl rfl ?_
    refine js_ldc dX8_richest_9 tw_863 ?_
    refine js_callV_W (mj := mX8_finds) [(.int (-1000000001 : Int32))] [] dX8_richest_11 tw_864 cm_X8_finds cv_X8_finds rfl rfl rfl rfl rfl rfl (fun r h => qX8_finds G (-1000000001 : Int32) σ r h) (fun r5 => ?_)
    exact js_iret dX8_richest_14 rfl rfl

theorem qX8_richest (G : js_G) (a1 : Int32) (σ : js_S) (r : (Int32 × js_S)) (h : fX8_richest a1 σ = some r) : js_Con G shM mX8_richest [(.ref 0), (.int a1)] σ (js_eW r) := js_con (mi := mX8_richest) 4 pn_X8 rfl (Nat.le_of_ble_eq_true rfl) (jX8_richest G a1 σ) r h
def fX8_feed_L41 (p1 : Int32) : Nat → Int32 → js_S → Option (Int32 × js_S)
  | 0, _, _ => none
  | n + 1, v3, σ => (if v3 < 0 then some ((σ.1 0 9), σ) else js_gd (js_ix (σ.1 0 9) 120) (fX8_feed_L41 p1 n (v3 + (-1 : Int32)) (js_sI (js_sI σ 7 (Int32.toNatClampNeg (σ.1 0 9)) ((p1 >>> (((8 : Int32) * v3) &&& 31)) &&& (255 : Int32))) 0 9 (((js_sI σ 7 (Int32.toNatClampNeg (σ.1 0 9)) ((p1 >>> (((8 : Int32) * v3) &&& 31)) &&& (255 : Int32))).1 0 9) + (1 : Int32)))))
set_option maxRecDepth 10000 in
theorem jX8_feed_L41 (G : js_G) (p1 : Int32) : ∀ (n : Nat) (v3 : Int32) (σ : js_S), js_J G shM mX8_feed js_eW 41 [some (.ref 0), some (.int p1), none, some (.int v3)] [] σ (fX8_feed_L41 p1 n v3 σ) := by
  intro n
  induction n with
  | zero =>
    intros
    exact js_none
  | succ n ih1 =>
    intro v3 σ
    rw [fX8_feed_L41]
    refine js_iload_n dX8_feed_41 rfl rfl ?_
    refine js_if_lt 80 dX8_feed_42 rfl ?_ ?_
    · refine js_aload_n dX8_feed_80 rfl rfl ?_
      refine js_getI dX8_feed_81 fl_X8_204 rfl rfl ?_
      exact js_iret dX8_feed_84 rfl rfl
    · refine js_aload_n dX8_feed_45 rfl rfl ?_
      refine js_getR dX8_feed_46 fl_X8_28 rfl rfl ?_
      refine js_aload_n dX8_feed_49 rfl rfl ?_
      refine js_getI dX8_feed_50 fl_X8_204 rfl rfl ?_
      refine js_iload_n dX8_feed_53 rfl rfl ?_
      refine js_bipush dX8_feed_54 kb_8 ?_
      refine js_iload_n dX8_feed_56 rfl rfl ?_
      refine js_imul dX8_feed_57 ?_
      refine js_ishr dX8_feed_58 ?_
      refine js_sipush dX8_feed_59 ks_255 ?_
      refine js_iand dX8_feed_62 ?_
      refine js_iast dX8_feed_63 rfl ?_
      refine js_aload_n dX8_feed_64 rfl rfl ?_
      refine js_dup dX8_feed_65 rfl ?_
      refine js_getI dX8_feed_66 fl_X8_204 rfl rfl ?_
      refine js_iconst dX8_feed_69 ki_1 ?_
      refine js_iadd dX8_feed_70 ?_
      refine js_putI dX8_feed_71 fp_X8_204 rfl rfl rfl rfl ?_
      refine js_iinc (v := (v3 + (-1 : Int32))) (lv' := [some (.ref 0), some (.int p1), none, some (.int (v3 + (-1 : Int32)))]) dX8_feed_74 rfl (kx_m1 _) rfl rfl rfl ?_
      refine js_goto 41 dX8_feed_77 rfl ?_
      exact ih1 (v3 + (-1 : Int32)) (js_sI (js_sI σ 7 (Int32.toNatClampNeg (σ.1 0 9)) ((p1 >>> (((8 : Int32) * v3) &&& 31)) &&& (255 : Int32))) 0 9 (((js_sI σ 7 (Int32.toNatClampNeg (σ.1 0 9)) ((p1 >>> (((8 : Int32) * v3) &&& 31)) &&& (255 : Int32))).1 0 9) + (1 : Int32)))

def fX8_feed (a1 : Int32) (a2 : Int32) (σ : js_S) : Option (Int32 × js_S) := (if (fX8_in (Int32.toInt64 a2) (1 : Int64) (4 : Int64)) = 0 then (fX8_finds (-1000000001 : Int32) σ).bind fun r2 => some (r2.1, r2.2) else (if ((σ.1 0 9) + a2) ≤ (120 : Int32) then fX8_feed_L41 a1 js_FU (a2 - (1 : Int32)) σ else (fX8_finds (-1000000002 : Int32) σ).bind fun r1 => some (r1.1, r1.2)))
set_option maxRecDepth 10000 in
theorem jX8_feed (G : js_G) (a1 : Int32) (a2 : Int32) (σ : js_S) : js_J G shM mX8_feed js_eW 0 [some (.ref 0), some (.int a1), some (.int a2), none] [] σ (fX8_feed a1 a2 σ) := by
  unfold fX8_feed
  refine js_iload_n dX8_feed_0 rfl rfl ?_
  refine js_i2l dX8_feed_1 ?_
  refine js_lconst dX8_feed_2 kl_1 ?_
  refine js_ldc2 dX8_feed_3 tw_884 ?_
  refine js_callS_P (mj := mX8_in) [(.long (Int32.toInt64 a2)), (.long (1 : Int64)), (.long (4 : Int64))] [] dX8_feed_6 tw_860 cm_X8_in tw_861 rfl rfl rfl rfl (qX8_in G (Int32.toInt64 a2) (1 : Int64) (4 : Int64) σ) ?_
  refine js_if_ne 19 dX8_feed_9 rfl ?_ ?_
  · refine js_aload_n dX8_feed_19 rfl rfl ?_
    refine js_getI dX8_feed_20 fl_X8_204 rfl rfl ?_
    refine js_iload_n dX8_feed_23 rfl rfl ?_
    refine js_iadd dX8_feed_24 ?_
    refine js_bipush dX8_feed_25 kb_120 ?_
    refine js_icmp_le 37 dX8_feed_27 rfl ?_ ?_
    · refine js_iload_n dX8_feed_37 rfl rfl ?_
      refine js_iconst dX8_feed_38 ki_1 ?_
      refine js_isub dX8_feed_39 ?_
      refine js_istore_n (lv' := [some (.ref 0), some (.int a1), some (.int a2), some (.int (a2 - (1 : Int32)))]) dX8_feed_40 rfl rfl rfl rfl ?_
      refine js_drop [true, true, false, true] (lv2 := [some (.ref 0), some (.int a1), none, some (.int (a2 - (1 : Int32)))]) rfl ?_
      exact jX8_feed_L41 G a1  _ (a2 - (1 : Int32)) σ
    · refine js_aload_n dX8_feed_30 rfl rfl ?_
      refine js_ldc dX8_feed_31 tw_868 ?_
      refine js_callV_W (mj := mX8_finds) [(.int (-1000000002 : Int32))] [] dX8_feed_33 tw_864 cm_X8_finds cv_X8_finds rfl rfl rfl rfl rfl rfl (fun r h => qX8_finds G (-1000000002 : Int32) σ r h) (fun r1 => ?_)
      exact js_iret dX8_feed_36 rfl rfl
  · refine js_aload_n dX8_feed_12 rfl rfl ?_
    refine js_ldc dX8_feed_13 tw_863 ?_
    refine js_callV_W (mj := mX8_finds) [(.int (-1000000001 : Int32))] [] dX8_feed_15 tw_864 cm_X8_finds cv_X8_finds rfl rfl rfl rfl rfl rfl (fun r h => qX8_finds G (-1000000001 : Int32) σ r h) (fun r2 => ?_)
    exact js_iret dX8_feed_18 rfl rfl

theorem qX8_feed (G : js_G) (a1 : Int32) (a2 : Int32) (σ : js_S) (r : (Int32 × js_S)) (h : fX8_feed a1 a2 σ = some r) : js_Con G shM mX8_feed [(.ref 0), (.int a1), (.int a2)] σ (js_eW r) := js_con (mi := mX8_feed) 1 pn_X8 rfl (Nat.le_of_ble_eq_true rfl) (jX8_feed G a1 a2 σ) r h
def fX8_wipe (σ : js_S) : Option (Int32 × js_S) := some ((σ.1 0 9), (js_sI σ 0 9 (0 : Int32)))
set_option maxRecDepth 10000 in
theorem jX8_wipe (G : js_G) (σ : js_S) : js_J G shM mX8_wipe js_eW 0 [some (.ref 0), none] [] σ (fX8_wipe σ) := by
  unfold fX8_wipe
  refine js_aload_n dX8_wipe_0 rfl rfl ?_
  refine js_getI dX8_wipe_1 fl_X8_204 rfl rfl ?_
  refine js_istore_n (lv' := [some (.ref 0), some (.int (σ.1 0 9))]) dX8_wipe_4 rfl rfl rfl rfl ?_
  refine js_aload_n dX8_wipe_5 rfl rfl ?_
  refine js_iconst dX8_wipe_6 ki_0 ?_
  refine js_putI dX8_wipe_7 fp_X8_204 rfl rfl rfl rfl ?_
  refine js_iload_n dX8_wipe_10 rfl rfl ?_
  exact js_iret dX8_wipe_11 rfl rfl

theorem qX8_wipe (G : js_G) (σ : js_S) (r : (Int32 × js_S)) (h : fX8_wipe σ = some r) : js_Con G shM mX8_wipe [(.ref 0)] σ (js_eW r) := js_con (mi := mX8_wipe) 1 pn_X8 rfl (Nat.le_of_ble_eq_true rfl) (jX8_wipe G σ) r h
def fX8_saves_L2 : Nat → Int32 → js_S → Option js_S
  | 0, _, _ => none
  | n + 1, v1, σ => (if (633 : Int32) ≤ v1 then some σ else js_gd (js_ix v1 633) (js_gd (js_ix v1 633) (fX8_saves_L2  n (v1 + (1 : Int32)) (js_sI σ 3 (Int32.toNatClampNeg v1) (σ.1 1 (Int32.toNatClampNeg v1))))))
set_option maxRecDepth 10000 in
theorem jX8_saves_L2 (G : js_G) : ∀ (n : Nat) (v1 : Int32) (σ : js_S), js_J G shM mX8_saves js_eV 2 [some (.ref 0), some (.int v1)] [] σ (fX8_saves_L2 n v1 σ) := by
  intro n
  induction n with
  | zero =>
    intros
    exact js_none
  | succ n ih1 =>
    intro v1 σ
    rw [fX8_saves_L2]
    refine js_iload_n dX8_saves_2 rfl rfl ?_
    refine js_sipush dX8_saves_3 ks_633 ?_
    refine js_icmp_ge 27 dX8_saves_6 rfl ?_ ?_
    · exact js_vret dX8_saves_27 rfl rfl
    · refine js_aload_n dX8_saves_9 rfl rfl ?_
      refine js_getR dX8_saves_10 fl_X8_16 rfl rfl ?_
      refine js_iload_n dX8_saves_13 rfl rfl ?_
      refine js_aload_n dX8_saves_14 rfl rfl ?_
      refine js_getR dX8_saves_15 fl_X8_7 rfl rfl ?_
      refine js_iload_n dX8_saves_18 rfl rfl ?_
      refine js_iald dX8_saves_19 rfl ?_
      refine js_iast dX8_saves_20 rfl ?_
      refine js_iinc (v := (v1 + (1 : Int32))) (lv' := [some (.ref 0), some (.int (v1 + (1 : Int32)))]) dX8_saves_21 rfl (kx_1 _) rfl rfl rfl ?_
      refine js_goto 2 dX8_saves_24 rfl ?_
      exact ih1 (v1 + (1 : Int32)) (js_sI σ 3 (Int32.toNatClampNeg v1) (σ.1 1 (Int32.toNatClampNeg v1)))

def fX8_saves (σ : js_S) : Option js_S := fX8_saves_L2 js_FU (0 : Int32) σ
set_option maxRecDepth 10000 in
theorem jX8_saves (G : js_G) (σ : js_S) : js_J G shM mX8_saves js_eV 0 [some (.ref 0), none] [] σ (fX8_saves σ) := by
  unfold fX8_saves
  refine js_iconst dX8_saves_0 ki_0 ?_
  refine js_istore_n (lv' := [some (.ref 0), some (.int (0 : Int32))]) dX8_saves_1 rfl rfl rfl rfl ?_
  exact jX8_saves_L2 G  _ (0 : Int32) σ

theorem qX8_saves (G : js_G) (σ : js_S) (r : js_S) (h : fX8_saves σ = some r) : js_Con G shM mX8_saves [(.ref 0)] σ (js_eV r) := js_con (mi := mX8_saves) 1 pn_X8 rfl (Nat.le_of_ble_eq_true rfl) (jX8_saves G σ) r h
def fX8_byteAt (a1 : Int32) (σ : js_S) : Option Int32 := (if (σ.1 0 9) ≤ a1 then some (-1 : Int32) else js_gd (js_ix a1 120) (some (σ.1 7 (Int32.toNatClampNeg a1))))
set_option maxRecDepth 10000 in
theorem jX8_byteAt (G : js_G) (a1 : Int32) (σ : js_S) : js_J G shM mX8_byteAt (js_eI σ) 0 [some (.ref 0), some (.int a1)] [] σ (fX8_byteAt a1 σ) := by
  unfold fX8_byteAt
  refine js_iload_n dX8_byteAt_0 rfl rfl ?_
  refine js_aload_n dX8_byteAt_1 rfl rfl ?_
  refine js_getI dX8_byteAt_2 fl_X8_204 rfl rfl ?_
  refine js_icmp_ge 17 dX8_byteAt_5 rfl ?_ ?_
  · refine js_iconst dX8_byteAt_17 ki_m1 ?_
    exact js_iret dX8_byteAt_18 rfl rfl
  · refine js_aload_n dX8_byteAt_8 rfl rfl ?_
    refine js_getR dX8_byteAt_9 fl_X8_28 rfl rfl ?_
    refine js_iload_n dX8_byteAt_12 rfl rfl ?_
    refine js_iald dX8_byteAt_13 rfl ?_
    refine js_goto 18 dX8_byteAt_14 rfl ?_
    exact js_iret dX8_byteAt_18 rfl rfl

theorem qX8_byteAt (G : js_G) (a1 : Int32) (σ : js_S) (r : Int32) (h : fX8_byteAt a1 σ = some r) : js_Con G shM mX8_byteAt [(.ref 0), (.int a1)] σ ((js_eI σ) r) := js_con (mi := mX8_byteAt) 0 pn_X8 rfl (Nat.le_of_ble_eq_true rfl) (jX8_byteAt G a1 σ) r h
def fX8_isLetter (a0 : Int32) : Int32 := (fX8_in (Int32.toInt64 a0) (97 : Int64) (122 : Int64))
set_option maxRecDepth 10000 in
theorem jX8_isLetter (G : js_G) (a0 : Int32) (σ : js_S) : js_J G shM mX8_isLetter (js_eI σ) 0 [some (.int a0)] [] σ (some (fX8_isLetter a0)) := by
  unfold fX8_isLetter
  refine js_iload_n dX8_isLetter_0 rfl rfl ?_
  refine js_i2l dX8_isLetter_1 ?_
  refine js_ldc2 dX8_isLetter_2 tw_1150 ?_
  refine js_ldc2 dX8_isLetter_5 tw_1151 ?_
  refine js_callS_P (mj := mX8_in) [(.long (Int32.toInt64 a0)), (.long (97 : Int64)), (.long (122 : Int64))] [] dX8_isLetter_8 tw_860 cm_X8_in tw_861 rfl rfl rfl rfl (qX8_in G (Int32.toInt64 a0) (97 : Int64) (122 : Int64) σ) ?_
  exact js_zret dX8_isLetter_11 rfl (js_nb (zX8_in (Int32.toInt64 a0) (97 : Int64) (122 : Int64))) rfl

theorem qX8_isLetter (G : js_G) (a0 : Int32) (σ : js_S) : js_Con G shM mX8_isLetter [(.int a0)] σ (some (.int (fX8_isLetter a0)), σ) := js_con (mi := mX8_isLetter) (emb := (js_eI σ)) 0 pn_X8 rfl (Nat.le_of_ble_eq_true rfl) (jX8_isLetter G a0 σ) _ rfl
theorem zX8_isLetter (a0 : Int32) : fX8_isLetter a0 = 0 ∨ fX8_isLetter a0 = 1 := by
  unfold fX8_isLetter
  repeat' split
  all_goals first | exact Or.inl rfl | exact Or.inr rfl | exact zX8_in _ _ _
def fX8_isDigit (a0 : Int32) : Int32 := (fX8_in (Int32.toInt64 a0) (48 : Int64) (57 : Int64))
set_option maxRecDepth 10000 in
theorem jX8_isDigit (G : js_G) (a0 : Int32) (σ : js_S) : js_J G shM mX8_isDigit (js_eI σ) 0 [some (.int a0)] [] σ (some (fX8_isDigit a0)) := by
  unfold fX8_isDigit
  refine js_iload_n dX8_isDigit_0 rfl rfl ?_
  refine js_i2l dX8_isDigit_1 ?_
  refine js_ldc2 dX8_isDigit_2 tw_1155 ?_
  refine js_ldc2 dX8_isDigit_5 tw_1156 ?_
  refine js_callS_P (mj := mX8_in) [(.long (Int32.toInt64 a0)), (.long (48 : Int64)), (.long (57 : Int64))] [] dX8_isDigit_8 tw_860 cm_X8_in tw_861 rfl rfl rfl rfl (qX8_in G (Int32.toInt64 a0) (48 : Int64) (57 : Int64) σ) ?_
  exact js_zret dX8_isDigit_11 rfl (js_nb (zX8_in (Int32.toInt64 a0) (48 : Int64) (57 : Int64))) rfl

theorem qX8_isDigit (G : js_G) (a0 : Int32) (σ : js_S) : js_Con G shM mX8_isDigit [(.int a0)] σ (some (.int (fX8_isDigit a0)), σ) := js_con (mi := mX8_isDigit) (emb := (js_eI σ)) 0 pn_X8 rfl (Nat.le_of_ble_eq_true rfl) (jX8_isDigit G a0 σ) _ rfl
theorem zX8_isDigit (a0 : Int32) : fX8_isDigit a0 = 0 ∨ fX8_isDigit a0 = 1 := by
  unfold fX8_isDigit
  repeat' split
  all_goals first | exact Or.inl rfl | exact Or.inr rfl | exact zX8_in _ _ _
def fX8_token_L8 (k34 : js_S → Option js_S) : Nat → js_S → Option js_S
  | 0, _ => none
  | n + 1, σ => (fX8_byteAt (σ.1 0 10) σ).bind fun r1 => (if r1 = (32 : Int32) then fX8_token_L8 k34 n (js_sI σ 0 10 ((σ.1 0 10) + (1 : Int32))) else k34 σ)
set_option maxRecDepth 10000 in
theorem jX8_token_L8 (G : js_G) (k34 : js_S → Option js_S) (hk34 : ∀  (σ : js_S), js_J G shM mX8_token js_eV 34 [some (.ref 0), none, none] [] σ (k34 σ)) : ∀ (n : Nat) (σ : js_S), js_J G shM mX8_token js_eV 8 [some (.ref 0), none, none] [] σ (fX8_token_L8 k34 n σ) := by
  intro n
  induction n with
  | zero =>
    intros
    exact js_none
  | succ n ih1 =>
    intro σ
    rw [fX8_token_L8]
    refine js_aload_n dX8_token_8 rfl rfl ?_
    refine js_aload_n dX8_token_9 rfl rfl ?_
    refine js_getI dX8_token_10 fl_X8_218 rfl rfl ?_
    refine js_callV_I (mj := mX8_byteAt) [(.int (σ.1 0 10))] [] dX8_token_13 tw_1143 cm_X8_byteAt cv_X8_byteAt rfl rfl rfl rfl rfl rfl (fun r h => qX8_byteAt G (σ.1 0 10) σ r h) (fun r1 => ?_)
    refine js_bipush dX8_token_16 kb_32 ?_
    refine js_icmp_ne 34 dX8_token_18 rfl ?_ ?_
    · exact hk34 σ
    · refine js_aload_n dX8_token_21 rfl rfl ?_
      refine js_dup dX8_token_22 rfl ?_
      refine js_getI dX8_token_23 fl_X8_218 rfl rfl ?_
      refine js_iconst dX8_token_26 ki_1 ?_
      refine js_iadd dX8_token_27 ?_
      refine js_putI dX8_token_28 fp_X8_218 rfl rfl rfl rfl ?_
      refine js_goto 8 dX8_token_31 rfl ?_
      exact ih1 (js_sI σ 0 10 ((σ.1 0 10) + (1 : Int32)))

def fX8_token_L86 (p1 : Int32) (p2 : Int32) : Nat → js_S → Option js_S
  | 0, _ => none
  | n + 1, σ => (if p1 = 0 then (if p2 = 0 then some σ else (fX8_byteAt (σ.1 0 11) σ).bind fun r5 => (if (fX8_isDigit r5) = 0 then some σ else fX8_token_L86 p1 p2 n (js_sI σ 0 11 ((σ.1 0 11) + (1 : Int32))))) else (fX8_byteAt (σ.1 0 11) σ).bind fun r6 => (if (fX8_isLetter r6) = 0 then (if p2 = 0 then some σ else (fX8_byteAt (σ.1 0 11) σ).bind fun r7 => (if (fX8_isDigit r7) = 0 then some σ else fX8_token_L86 p1 p2 n (js_sI σ 0 11 ((σ.1 0 11) + (1 : Int32))))) else fX8_token_L86 p1 p2 n (js_sI σ 0 11 ((σ.1 0 11) + (1 : Int32)))))
set_option maxRecDepth 10000 in
theorem jX8_token_L86 (G : js_G) (p1 : Int32) (p2 : Int32) : ∀ (n : Nat) (σ : js_S), js_J G shM mX8_token js_eV 86 [some (.ref 0), some (.int p1), some (.int p2)] [] σ (fX8_token_L86 p1 p2 n σ) := by
  intro n
  induction n with
  | zero =>
    intros
    exact js_none
  | succ n ih2 =>
    intro σ
    rw [fX8_token_L86]
    refine js_iload_n dX8_token_86 rfl rfl ?_
    refine js_if_eq 104 dX8_token_87 rfl ?_ ?_
    · refine js_iload_n dX8_token_104 rfl rfl ?_
      refine js_if_eq 135 dX8_token_105 rfl ?_ ?_
      · exact js_vret dX8_token_135 rfl rfl
      · refine js_aload_n dX8_token_108 rfl rfl ?_
        refine js_aload_n dX8_token_109 rfl rfl ?_
        refine js_getI dX8_token_110 fl_X8_215 rfl rfl ?_
        refine js_callV_I (mj := mX8_byteAt) [(.int (σ.1 0 11))] [] dX8_token_113 tw_1143 cm_X8_byteAt cv_X8_byteAt rfl rfl rfl rfl rfl rfl (fun r h => qX8_byteAt G (σ.1 0 11) σ r h) (fun r5 => ?_)
        refine js_callS_P (mj := mX8_isDigit) [(.int r5)] [] dX8_token_116 tw_1152 cm_X8_isDigit tw_1153 rfl rfl rfl rfl (qX8_isDigit G r5 σ) ?_
        refine js_if_eq 135 dX8_token_119 rfl ?_ ?_
        · exact js_vret dX8_token_135 rfl rfl
        · refine js_aload_n dX8_token_122 rfl rfl ?_
          refine js_dup dX8_token_123 rfl ?_
          refine js_getI dX8_token_124 fl_X8_215 rfl rfl ?_
          refine js_iconst dX8_token_127 ki_1 ?_
          refine js_iadd dX8_token_128 ?_
          refine js_putI dX8_token_129 fp_X8_215 rfl rfl rfl rfl ?_
          refine js_goto 86 dX8_token_132 rfl ?_
          exact ih2 (js_sI σ 0 11 ((σ.1 0 11) + (1 : Int32)))
    · refine js_aload_n dX8_token_90 rfl rfl ?_
      refine js_aload_n dX8_token_91 rfl rfl ?_
      refine js_getI dX8_token_92 fl_X8_215 rfl rfl ?_
      refine js_callV_I (mj := mX8_byteAt) [(.int (σ.1 0 11))] [] dX8_token_95 tw_1143 cm_X8_byteAt cv_X8_byteAt rfl rfl rfl rfl rfl rfl (fun r h => qX8_byteAt G (σ.1 0 11) σ r h) (fun r6 => ?_)
      refine js_callS_P (mj := mX8_isLetter) [(.int r6)] [] dX8_token_98 tw_1147 cm_X8_isLetter tw_1148 rfl rfl rfl rfl (qX8_isLetter G r6 σ) ?_
      refine js_if_ne 122 dX8_token_101 rfl ?_ ?_
      · refine js_aload_n dX8_token_122 rfl rfl ?_
        refine js_dup dX8_token_123 rfl ?_
        refine js_getI dX8_token_124 fl_X8_215 rfl rfl ?_
        refine js_iconst dX8_token_127 ki_1 ?_
        refine js_iadd dX8_token_128 ?_
        refine js_putI dX8_token_129 fp_X8_215 rfl rfl rfl rfl ?_
        refine js_goto 86 dX8_token_132 rfl ?_
        exact ih2 (js_sI σ 0 11 ((σ.1 0 11) + (1 : Int32)))
      · refine js_iload_n dX8_token_104 rfl rfl ?_
        refine js_if_eq 135 dX8_token_105 rfl ?_ ?_
        · exact js_vret dX8_token_135 rfl rfl
        · refine js_aload_n dX8_token_108 rfl rfl ?_
          refine js_aload_n dX8_token_109 rfl rfl ?_
          refine js_getI dX8_token_110 fl_X8_215 rfl rfl ?_
          refine js_callV_I (mj := mX8_byteAt) [(.int (σ.1 0 11))] [] dX8_token_113 tw_1143 cm_X8_byteAt cv_X8_byteAt rfl rfl rfl rfl rfl rfl (fun r h => qX8_byteAt G (σ.1 0 11) σ r h) (fun r7 => ?_)
          refine js_callS_P (mj := mX8_isDigit) [(.int r7)] [] dX8_token_116 tw_1152 cm_X8_isDigit tw_1153 rfl rfl rfl rfl (qX8_isDigit G r7 σ) ?_
          refine js_if_eq 135 dX8_token_119 rfl ?_ ?_
          · exact js_vret dX8_token_135 rfl rfl
          · refine js_aload_n dX8_token_122 rfl rfl ?_
            refine js_dup dX8_token_123 rfl ?_
            refine js_getI dX8_token_124 fl_X8_215 rfl rfl ?_
            refine js_iconst dX8_token_127 ki_1 ?_
            refine js_iadd dX8_token_128 ?_
            refine js_putI dX8_token_129 fp_X8_215 rfl rfl rfl rfl ?_
            refine js_goto 86 dX8_token_132 rfl ?_
            exact ih2 (js_sI σ 0 11 ((σ.1 0 11) + (1 : Int32)))

def fX8_token_L86_3 (p1 : Int32) (p2 : Int32) : Nat → js_S → Option js_S
  | 0, _ => none
  | n + 1, σ => (if p1 = 0 then (if p2 = 0 then some σ else (fX8_byteAt (σ.1 0 11) σ).bind fun r8 => (if (fX8_isDigit r8) = 0 then some σ else fX8_token_L86_3 p1 p2 n (js_sI σ 0 11 ((σ.1 0 11) + (1 : Int32))))) else (fX8_byteAt (σ.1 0 11) σ).bind fun r9 => (if (fX8_isLetter r9) = 0 then (if p2 = 0 then some σ else (fX8_byteAt (σ.1 0 11) σ).bind fun r10 => (if (fX8_isDigit r10) = 0 then some σ else fX8_token_L86_3 p1 p2 n (js_sI σ 0 11 ((σ.1 0 11) + (1 : Int32))))) else fX8_token_L86_3 p1 p2 n (js_sI σ 0 11 ((σ.1 0 11) + (1 : Int32)))))
set_option maxRecDepth 10000 in
theorem jX8_token_L86_3 (G : js_G) (p1 : Int32) (p2 : Int32) : ∀ (n : Nat) (σ : js_S), js_J G shM mX8_token js_eV 86 [some (.ref 0), some (.int p1), some (.int p2)] [] σ (fX8_token_L86_3 p1 p2 n σ) := by
  intro n
  induction n with
  | zero =>
    intros
    exact js_none
  | succ n ih3 =>
    intro σ
    rw [fX8_token_L86_3]
    refine js_iload_n dX8_token_86 rfl rfl ?_
    refine js_if_eq 104 dX8_token_87 rfl ?_ ?_
    · refine js_iload_n dX8_token_104 rfl rfl ?_
      refine js_if_eq 135 dX8_token_105 rfl ?_ ?_
      · exact js_vret dX8_token_135 rfl rfl
      · refine js_aload_n dX8_token_108 rfl rfl ?_
        refine js_aload_n dX8_token_109 rfl rfl ?_
        refine js_getI dX8_token_110 fl_X8_215 rfl rfl ?_
        refine js_callV_I (mj := mX8_byteAt) [(.int (σ.1 0 11))] [] dX8_token_113 tw_1143 cm_X8_byteAt cv_X8_byteAt rfl rfl rfl rfl rfl rfl (fun r h => qX8_byteAt G (σ.1 0 11) σ r h) (fun r8 => ?_)
        refine js_callS_P (mj := mX8_isDigit) [(.int r8)] [] dX8_token_116 tw_1152 cm_X8_isDigit tw_1153 rfl rfl rfl rfl (qX8_isDigit G r8 σ) ?_
        refine js_if_eq 135 dX8_token_119 rfl ?_ ?_
        · exact js_vret dX8_token_135 rfl rfl
        · refine js_aload_n dX8_token_122 rfl rfl ?_
          refine js_dup dX8_token_123 rfl ?_
          refine js_getI dX8_token_124 fl_X8_215 rfl rfl ?_
          refine js_iconst dX8_token_127 ki_1 ?_
          refine js_iadd dX8_token_128 ?_
          refine js_putI dX8_token_129 fp_X8_215 rfl rfl rfl rfl ?_
          refine js_goto 86 dX8_token_132 rfl ?_
          exact ih3 (js_sI σ 0 11 ((σ.1 0 11) + (1 : Int32)))
    · refine js_aload_n dX8_token_90 rfl rfl ?_
      refine js_aload_n dX8_token_91 rfl rfl ?_
      refine js_getI dX8_token_92 fl_X8_215 rfl rfl ?_
      refine js_callV_I (mj := mX8_byteAt) [(.int (σ.1 0 11))] [] dX8_token_95 tw_1143 cm_X8_byteAt cv_X8_byteAt rfl rfl rfl rfl rfl rfl (fun r h => qX8_byteAt G (σ.1 0 11) σ r h) (fun r9 => ?_)
      refine js_callS_P (mj := mX8_isLetter) [(.int r9)] [] dX8_token_98 tw_1147 cm_X8_isLetter tw_1148 rfl rfl rfl rfl (qX8_isLetter G r9 σ) ?_
      refine js_if_ne 122 dX8_token_101 rfl ?_ ?_
      · refine js_aload_n dX8_token_122 rfl rfl ?_
        refine js_dup dX8_token_123 rfl ?_
        refine js_getI dX8_token_124 fl_X8_215 rfl rfl ?_
        refine js_iconst dX8_token_127 ki_1 ?_
        refine js_iadd dX8_token_128 ?_
        refine js_putI dX8_token_129 fp_X8_215 rfl rfl rfl rfl ?_
        refine js_goto 86 dX8_token_132 rfl ?_
        exact ih3 (js_sI σ 0 11 ((σ.1 0 11) + (1 : Int32)))
      · refine js_iload_n dX8_token_104 rfl rfl ?_
        refine js_if_eq 135 dX8_token_105 rfl ?_ ?_
        · exact js_vret dX8_token_135 rfl rfl
        · refine js_aload_n dX8_token_108 rfl rfl ?_
          refine js_aload_n dX8_token_109 rfl rfl ?_
          refine js_getI dX8_token_110 fl_X8_215 rfl rfl ?_
          refine js_callV_I (mj := mX8_byteAt) [(.int (σ.1 0 11))] [] dX8_token_113 tw_1143 cm_X8_byteAt cv_X8_byteAt rfl rfl rfl rfl rfl rfl (fun r h => qX8_byteAt G (σ.1 0 11) σ r h) (fun r10 => ?_)
          refine js_callS_P (mj := mX8_isDigit) [(.int r10)] [] dX8_token_116 tw_1152 cm_X8_isDigit tw_1153 rfl rfl rfl rfl (qX8_isDigit G r10 σ) ?_
          refine js_if_eq 135 dX8_token_119 rfl ?_ ?_
          · exact js_vret dX8_token_135 rfl rfl
          · refine js_aload_n dX8_token_122 rfl rfl ?_
            refine js_dup dX8_token_123 rfl ?_
            refine js_getI dX8_token_124 fl_X8_215 rfl rfl ?_
            refine js_iconst dX8_token_127 ki_1 ?_
            refine js_iadd dX8_token_128 ?_
            refine js_putI dX8_token_129 fp_X8_215 rfl rfl rfl rfl ?_
            refine js_goto 86 dX8_token_132 rfl ?_
            exact ih3 (js_sI σ 0 11 ((σ.1 0 11) + (1 : Int32)))

def fX8_token (σ : js_S) : Option js_S := fX8_token_L8 (fun s2 => (fX8_byteAt (s2.1 0 10) s2).bind fun r3 => (fX8_byteAt (s2.1 0 10) s2).bind fun r4 => (if (s2.1 0 9) ≤ (s2.1 0 10) then fX8_token_L86 (fX8_isLetter r3) (fX8_isDigit r4) js_FU (js_sI s2 0 11 (s2.1 0 10)) else fX8_token_L86_3 (fX8_isLetter r3) (fX8_isDigit r4) js_FU (js_sI s2 0 11 ((s2.1 0 10) + (1 : Int32))))) js_FU (js_sI σ 0 10 (σ.1 0 11))
set_option maxRecDepth 10000 in
theorem jX8_token (G : js_G) (σ : js_S) : js_J G shM mX8_token js_eV 0 [some (.ref 0), none, none] [] σ (fX8_token σ) := by
  unfold fX8_token
  refine js_aload_n dX8_token_0 rfl rfl ?_
  refine js_aload_n dX8_token_1 rfl rfl ?_
  refine js_getI dX8_token_2 fl_X8_215 rfl rfl ?_
  refine js_putI dX8_token_5 fp_X8_218 rfl rfl rfl rfl ?_
  refine jX8_token_L8 G _ (fun s2 => ?_) _ (js_sI σ 0 10 (σ.1 0 11))
  refine js_aload_n dX8_token_34 rfl rfl ?_
  refine js_aload_n dX8_token_35 rfl rfl ?_
  refine js_getI dX8_token_36 fl_X8_218 rfl rfl ?_
  refine js_callV_I (mj := mX8_byteAt) [(.int (s2.1 0 10))] [] dX8_token_39 tw_1143 cm_X8_byteAt cv_X8_byteAt rfl rfl rfl rfl rfl rfl (fun r h => qX8_byteAt G (s2.1 0 10) s2 r h) (fun r3 => ?_)
  refine js_callS_P (mj := mX8_isLetter) [(.int r3)] [] dX8_token_42 tw_1147 cm_X8_isLetter tw_1148 rfl rfl rfl rfl (qX8_isLetter G r3 s2) ?_
  refine js_istore_n (lv' := [some (.ref 0), some (.int (fX8_isLetter r3)), none]) dX8_token_45 rfl rfl rfl rfl ?_
  refine js_aload_n dX8_token_46 rfl rfl ?_
  refine js_aload_n dX8_token_47 rfl rfl ?_
  refine js_getI dX8_token_48 fl_X8_218 rfl rfl ?_
  refine js_callV_I (mj := mX8_byteAt) [(.int (s2.1 0 10))] [] dX8_token_51 tw_1143 cm_X8_byteAt cv_X8_byteAt rfl rfl rfl rfl rfl rfl (fun r h => qX8_byteAt G (s2.1 0 10) s2 r h) (fun r4 => ?_)
  refine js_callS_P (mj := mX8_isDigit) [(.int r4)] [] dX8_token_54 tw_1152 cm_X8_isDigit tw_1153 rfl rfl rfl rfl (qX8_isDigit G r4 s2) ?_
  refine js_istore_n (lv' := [some (.ref 0), some (.int (fX8_isLetter r3)), some (.int (fX8_isDigit r4))]) dX8_token_57 rfl rfl rfl rfl ?_
  refine js_aload_n dX8_token_58 rfl rfl ?_
  refine js_aload_n dX8_token_59 rfl rfl ?_
  refine js_getI dX8_token_60 fl_X8_218 rfl rfl ?_
  refine js_aload_n dX8_token_63 rfl rfl ?_
  refine js_getI dX8_token_64 fl_X8_204 rfl rfl ?_
  refine js_icmp_ge 79 dX8_token_67 rfl ?_ ?_
  · refine js_aload_n dX8_token_79 rfl rfl ?_
    refine js_getI dX8_token_80 fl_X8_218 rfl rfl ?_
    refine js_putI dX8_token_83 fp_X8_215 rfl rfl rfl rfl ?_
    exact jX8_token_L86 G (fX8_isLetter r3) (fX8_isDigit r4)  _ (js_sI s2 0 11 (s2.1 0 10))
  · refine js_aload_n dX8_token_70 rfl rfl ?_
    refine js_getI dX8_token_71 fl_X8_218 rfl rfl ?_
    refine js_iconst dX8_token_74 ki_1 ?_
    refine js_iadd dX8_token_75 ?_
    refine js_goto 83 dX8_token_76 rfl ?_
    refine js_putI dX8_token_83 fp_X8_215 rfl rfl rfl rfl ?_
    exact jX8_token_L86_3 G (fX8_isLetter r3) (fX8_isDigit r4)  _ (js_sI s2 0 11 ((s2.1 0 10) + (1 : Int32)))

theorem qX8_token (G : js_G) (σ : js_S) (r : js_S) (h : fX8_token σ = some r) : js_Con G shM mX8_token [(.ref 0)] σ (js_eV r) := js_con (mi := mX8_token) 2 pn_X8 rfl (Nat.le_of_ble_eq_true rfl) (jX8_token G σ) r h
def fX8_word_L7 (k50 : Int64 → Option Int64) (σ : js_S) : Nat → Int64 → Int32 → Option Int64
  | 0, _, _ => none
  | n + 1, v1, v3 => (if (σ.1 0 11) ≤ v3 then k50 v1 else (if (lg_cmp v1 (36028797018963967 : Int64)) ≤ 0 then js_gd (js_ix v3 120) (fX8_word_L7 k50 σ n (((32 : Int64) * v1) + (Int32.toInt64 ((σ.1 7 (Int32.toNatClampNeg v3)) - (96 : Int32)))) (v3 + (1 : Int32))) else fX8_word_L7 k50 σ n v1 (v3 + (1 : Int32))))
set_option maxRecDepth 10000 in
theorem jX8_word_L7 (G : js_G) (k50 : Int64 → Option Int64) (σ : js_S) (hk50 : ∀ (w1 : Int64), js_J G shM mX8_word (js_eL σ) 50 [some (.ref 0), some (.long w1), none, none] [] σ (k50 w1)) : ∀ (n : Nat) (v1 : Int64) (v3 : Int32), js_J G shM mX8_word (js_eL σ) 7 [some (.ref 0), some (.long v1), none, some (.int v3)] [] σ (fX8_word_L7 k50 σ n v1 v3) := by
  intro n
  induction n with
  | zero =>
    intros
    exact js_none
  | succ n ih1 =>
    intro v1 v3
    rw [fX8_word_L7]
    refine js_iload_n dX8_word_7 rfl rfl ?_
    refine js_aload_n dX8_word_8 rfl rfl ?_
    refine js_getI dX8_word_9 fl_X8_215 rfl rfl ?_
    refine js_icmp_ge 50 dX8_word_12 rfl ?_ ?_
    · refine js_drop [true, true, false, false] (lv2 := [some (.ref 0), some (.long v1), none, none]) rfl ?_
      exact hk50 v1
    · refine js_lload_n dX8_word_15 rfl rfl ?_
      refine js_ldc2 dX8_word_16 tw_1169 ?_
      refine js_lcmp dX8_word_19 ?_
      refine js_if_le 27 dX8_word_20 rfl ?_ ?_
      · refine js_ldc2 dX8_word_27 tw_1170 ?_
        refine js_lload_n dX8_word_30 rfl rfl ?_
        refine js_lmul dX8_word_31 ?_
        refine js_aload_n dX8_word_32 rfl rfl ?_
        refine js_getR dX8_word_33 fl_X8_28 rfl rfl ?_
        refine js_iload_n dX8_word_36 rfl rfl ?_
        refine js_iald dX8_word_37 rfl ?_
        refine js_bipush dX8_word_38 kb_96 ?_
        refine js_isub dX8_word_40 ?_
        refine js_i2l dX8_word_41 ?_
        refine js_ladd dX8_word_42 ?_
        refine js_lstore_n (lv' := [some (.ref 0), some (.long (((32 : Int64) * v1) + (Int32.toInt64 ((σ.1 7 (Int32.toNatClampNeg v3)) - (96 : Int32))))), none, some (.int v3)]) dX8_word_43 rfl rfl rfl rfl ?_
        refine js_iinc (v := (v3 + (1 : Int32))) (lv' := [some (.ref 0), some (.long (((32 : Int64) * v1) + (Int32.toInt64 ((σ.1 7 (Int32.toNatClampNeg v3)) - (96 : Int32))))), none, some (.int (v3 + (1 : Int32)))]) dX8_word_44 rfl (kx_1 _) rfl rfl rfl ?_
        refine js_goto 7 dX8_word_47 rfl ?_
        exact ih1 (((32 : Int64) * v1) + (Int32.toInt64 ((σ.1 7 (Int32.toNatClampNeg v3)) - (96 : Int32)))) (v3 + (1 : Int32))
      · refine js_lload_n dX8_word_23 rfl rfl ?_
        refine js_goto 43 dX8_word_24 rfl ?_
        refine js_lstore_n (lv' := [some (.ref 0), some (.long v1), none, some (.int v3)]) dX8_word_43 rfl rfl rfl rfl ?_
        refine js_iinc (v := (v3 + (1 : Int32))) (lv' := [some (.ref 0), some (.long v1), none, some (.int (v3 + (1 : Int32)))]) dX8_word_44 rfl (kx_1 _) rfl rfl rfl ?_
        refine js_goto 7 dX8_word_47 rfl ?_
        exact ih1 v1 (v3 + (1 : Int32))

def fX8_word (σ : js_S) : Option Int64 := fX8_word_L7 (fun w1 => (if (σ.1 0 13) = 0 then (fX8_byteAt (σ.1 0 10) σ).bind fun r2 => (if (fX8_isLetter r2) = 0 then some (0 : Int64) else some w1) else some (0 : Int64))) σ js_FU (0 : Int64) (σ.1 0 10)
set_option maxRecDepth 10000 in
theorem jX8_word (G : js_G) (σ : js_S) : js_J G shM mX8_word (js_eL σ) 0 [some (.ref 0), none, none, none] [] σ (fX8_word σ) := by
  unfold fX8_word
  refine js_lconst dX8_word_0 kl_0 ?_
  refine js_lstore_n (lv' := [some (.ref 0), some (.long (0 : Int64)), none, none]) dX8_word_1 rfl rfl rfl rfl ?_
  refine js_aload_n dX8_word_2 rfl rfl ?_
  refine js_getI dX8_word_3 fl_X8_218 rfl rfl ?_
  refine js_istore_n (lv' := [some (.ref 0), some (.long (0 : Int64)), none, some (.int (σ.1 0 10))]) dX8_word_6 rfl rfl rfl rfl ?_
  refine jX8_word_L7 G _ σ (fun w1 => ?_) _ (0 : Int64) (σ.1 0 10)
  refine js_aload_n dX8_word_50 rfl rfl ?_
  refine js_getI dX8_word_51 fl_X8_230 rfl rfl ?_
  refine js_if_ne 71 dX8_word_54 rfl ?_ ?_
  · refine js_lconst dX8_word_71 kl_0 ?_
    refine js_goto 76 dX8_word_72 rfl ?_
    exact js_lret dX8_word_76 rfl rfl
  · refine js_aload_n dX8_word_57 rfl rfl ?_
    refine js_aload_n dX8_word_58 rfl rfl ?_
    refine js_getI dX8_word_59 fl_X8_218 rfl rfl ?_
    refine js_callV_I (mj := mX8_byteAt) [(.int (σ.1 0 10))] [] dX8_word_62 tw_1143 cm_X8_byteAt cv_X8_byteAt rfl rfl rfl rfl rfl rfl (fun r h => qX8_byteAt G (σ.1 0 10) σ r h) (fun r2 => ?_)
    refine js_callS_P (mj := mX8_isLetter) [(.int r2)] [] dX8_word_65 tw_1147 cm_X8_isLetter tw_1148 rfl rfl rfl rfl (qX8_isLetter G r2 σ) ?_
    refine js_if_ne 75 dX8_word_68 rfl ?_ ?_
    · refine js_lload_n dX8_word_75 rfl rfl ?_
      exact js_lret dX8_word_76 rfl rfl
    · refine js_lconst dX8_word_71 kl_0 ?_
      refine js_goto 76 dX8_word_72 rfl ?_
      exact js_lret dX8_word_76 rfl rfl

theorem qX8_word (G : js_G) (σ : js_S) (r : Int64) (h : fX8_word σ = some r) : js_Con G shM mX8_word [(.ref 0)] σ ((js_eL σ) r) := js_con (mi := mX8_word) 3 pn_X8 rfl (Nat.le_of_ble_eq_true rfl) (jX8_word G σ) r h
def fX8_kindHere (σ : js_S) : Option Int32 := (fX8_word σ).bind fun r1 => (if (lg_cmp r1 (209573 : Int64)) = 0 then some (0 : Int32) else (if (lg_cmp r1 (3841436836 : Int64)) = 0 then some (1 : Int32) else (if (lg_cmp r1 (763013 : Int64)) = 0 then some (2 : Int32) else (if (lg_cmp r1 (631476 : Int64)) = 0 then some (3 : Int32) else (if (lg_cmp r1 (592614867 : Int64)) = 0 then some (4 : Int32) else (if (lg_cmp r1 (10774482999 : Int64)) = 0 then some (5 : Int32) else some (-1 : Int32)))))))
set_option maxRecDepth 10000 in
theorem jX8_kindHere (G : js_G) (σ : js_S) : js_J G shM mX8_kindHere (js_eI σ) 0 [some (.ref 0), none, none] [] σ (fX8_kindHere σ) := by
  unfold fX8_kindHere
  refine js_aload_n dX8_kindHere_0 rfl rfl ?_
  refine js_callV_L (mj := mX8_word) [] [] dX8_kindHere_1 tw_1165 cm_X8_word cv_X8_word rfl rfl rfl rfl rfl rfl (fun r h => qX8_word G σ r h) (fun r1 => ?_)
  refine js_lstore_n (lv' := [some (.ref 0), some (.long r1), none]) dX8_kindHere_4 rfl rfl rfl rfl ?_
  refine js_lload_n dX8_kindHere_5 rfl rfl ?_
  refine js_ldc2 dX8_kindHere_6 tw_1171 ?_
  refine js_lcmp dX8_kindHere_9 ?_
  refine js_if_ne 17 dX8_kindHere_10 rfl ?_ ?_
  · refine js_lload_n dX8_kindHere_17 rfl rfl ?_
    refine js_ldc2 dX8_kindHere_18 tw_1172 ?_
    refine js_lcmp dX8_kindHere_21 ?_
    refine js_if_ne 29 dX8_kindHere_22 rfl ?_ ?_
    · refine js_lload_n dX8_kindHere_29 rfl rfl ?_
      refine js_ldc2 dX8_kindHere_30 tw_1173 ?_
      refine js_lcmp dX8_kindHere_33 ?_
      refine js_if_ne 41 dX8_kindHere_34 rfl ?_ ?_
      · refine js_lload_n dX8_kindHere_41 rfl rfl ?_
        refine js_ldc2 dX8_kindHere_42 tw_1174 ?_
        refine js_lcmp dX8_kindHere_45 ?_
        refine js_if_ne 53 dX8_kindHere_46 rfl ?_ ?_
        · refine js_lload_n dX8_kindHere_53 rfl rfl ?_
          refine js_ldc2 dX8_kindHere_54 tw_1175 ?_
          refine js_lcmp dX8_kindHere_57 ?_
          refine js_if_ne 65 dX8_kindHere_58 rfl ?_ ?_
          · refine js_lload_n dX8_kindHere_65 rfl rfl ?_
            refine js_ldc2 dX8_kindHere_66 tw_1176 ?_
            refine js_lcmp dX8_kindHere_69 ?_
            refine js_if_ne 77 dX8_kindHere_70 rfl ?_ ?_
            · refine js_iconst dX8_kindHere_77 ki_m1 ?_
              exact js_iret dX8_kindHere_78 rfl rfl
            · refine js_iconst dX8_kindHere_73 ki_5 ?_
              refine js_goto 78 dX8_kindHere_74 rfl ?_
              exact js_iret dX8_kindHere_78 rfl rfl
          · refine js_iconst dX8_kindHere_61 ki_4 ?_
            refine js_goto 78 dX8_kindHere_62 rfl ?_
            exact js_iret dX8_kindHere_78 rfl rfl
        · refine js_iconst dX8_kindHere_49 ki_3 ?_
          refine js_goto 78 dX8_kindHere_50 rfl ?_
          exact js_iret dX8_kindHere_78 rfl rfl
      · refine js_iconst dX8_kindHere_37 ki_2 ?_
        refine js_goto 78 dX8_kindHere_38 rfl ?_
        exact js_iret dX8_kindHere_78 rfl rfl
    · refine js_iconst dX8_kindHere_25 ki_1 ?_
      refine js_goto 78 dX8_kindHere_26 rfl ?_
      exact js_iret dX8_kindHere_78 rfl rfl
  · refine js_iconst dX8_kindHere_13 ki_0 ?_
    refine js_goto 78 dX8_kindHere_14 rfl ?_
    exact js_iret dX8_kindHere_78 rfl rfl

theorem qX8_kindHere (G : js_G) (σ : js_S) (r : Int32) (h : fX8_kindHere σ = some r) : js_Con G shM mX8_kindHere [(.ref 0)] σ ((js_eI σ) r) := js_con (mi := mX8_kindHere) 2 pn_X8 rfl (Nat.le_of_ble_eq_true rfl) (jX8_kindHere G σ) r h
def fX8_must (a1 : Int32) (σ : js_S) : Option js_S := (if (σ.1 0 13) = 0 then (if a1 = 0 then (if ((js_sI σ 0 13 (1 : Int32)).1 0 13) = 0 then (fX8_token (js_sI σ 0 13 (1 : Int32))).bind fun r3 => some r3 else some (js_sI σ 0 13 (1 : Int32))) else (if ((js_sI σ 0 13 (0 : Int32)).1 0 13) = 0 then (fX8_token (js_sI σ 0 13 (0 : Int32))).bind fun r2 => some r2 else some (js_sI σ 0 13 (0 : Int32)))) else (if ((js_sI σ 0 13 (1 : Int32)).1 0 13) = 0 then (fX8_token (js_sI σ 0 13 (1 : Int32))).bind fun r1 => some r1 else some (js_sI σ 0 13 (1 : Int32))))
set_option maxRecDepth 10000 in
theorem jX8_must (G : js_G) (a1 : Int32) (σ : js_S) : js_J G shM mX8_must js_eV 0 [some (.ref 0), some (.int a1)] [] σ (fX8_must a1 σ) := by
  unfold fX8_must
  refine js_aload_n dX8_must_0 rfl rfl ?_
  refine js_aload_n dX8_must_1 rfl rfl ?_
  refine js_getI dX8_must_2 fl_X8_230 rfl rfl ?_
  refine js_if_ne 12 dX8_must_5 rfl ?_ ?_
  · refine js_iconst dX8_must_12 ki_1 ?_
    refine js_goto 17 dX8_must_13 rfl ?_
    refine js_putI dX8_must_17 fp_X8_230 rfl rfl nb_1.1 nb_1.2 ?_
    refine js_aload_n dX8_must_20 rfl rfl ?_
    refine js_getI dX8_must_21 fl_X8_230 rfl rfl ?_
    refine js_if_ne 31 dX8_must_24 rfl ?_ ?_
    · exact js_vret dX8_must_31 rfl rfl
    · refine js_aload_n dX8_must_27 rfl rfl ?_
      refine js_callV_V (mj := mX8_token) [] [] dX8_must_28 tw_1139 cm_X8_token cv_X8_token rfl rfl rfl rfl rfl rfl (fun r h => qX8_token G (js_sI σ 0 13 (1 : Int32)) r h) (fun r1 => ?_)
      exact js_vret dX8_must_31 rfl rfl
  · refine js_iload_n dX8_must_8 rfl rfl ?_
    refine js_if_ne 16 dX8_must_9 rfl ?_ ?_
    · refine js_iconst dX8_must_16 ki_0 ?_
      refine js_putI dX8_must_17 fp_X8_230 rfl rfl nb_0.1 nb_0.2 ?_
      refine js_aload_n dX8_must_20 rfl rfl ?_
      refine js_getI dX8_must_21 fl_X8_230 rfl rfl ?_
      refine js_if_ne 31 dX8_must_24 rfl ?_ ?_
      · exact js_vret dX8_must_31 rfl rfl
      · refine js_aload_n dX8_must_27 rfl rfl ?_
        refine js_callV_V (mj := mX8_token) [] [] dX8_must_28 tw_1139 cm_X8_token cv_X8_token rfl rfl rfl rfl rfl rfl (fun r h => qX8_token G (js_sI σ 0 13 (0 : Int32)) r h) (fun r2 => ?_)
        exact js_vret dX8_must_31 rfl rfl
    · refine js_iconst dX8_must_12 ki_1 ?_
      refine js_goto 17 dX8_must_13 rfl ?_
      refine js_putI dX8_must_17 fp_X8_230 rfl rfl nb_1.1 nb_1.2 ?_
      refine js_aload_n dX8_must_20 rfl rfl ?_
      refine js_getI dX8_must_21 fl_X8_230 rfl rfl ?_
      refine js_if_ne 31 dX8_must_24 rfl ?_ ?_
      · exact js_vret dX8_must_31 rfl rfl
      · refine js_aload_n dX8_must_27 rfl rfl ?_
        refine js_callV_V (mj := mX8_token) [] [] dX8_must_28 tw_1139 cm_X8_token cv_X8_token rfl rfl rfl rfl rfl rfl (fun r h => qX8_token G (js_sI σ 0 13 (1 : Int32)) r h) (fun r3 => ?_)
        exact js_vret dX8_must_31 rfl rfl

theorem qX8_must (G : js_G) (a1 : Int32) (σ : js_S) (r : js_S) (h : fX8_must a1 σ = some r) : js_Con G shM mX8_must [(.ref 0), (.int a1)] σ (js_eV r) := js_con (mi := mX8_must) 0 pn_X8 rfl (Nat.le_of_ble_eq_true rfl) (jX8_must G a1 σ) r h
def fX8_number_L29 (k79 : Int32 → js_S → Option js_S) (p1 : Int32) (p2 : Int32) (p3 : Int32) : Nat → Int32 → Int32 → js_S → Option js_S
  | 0, _, _, _ => none
  | n + 1, v4, v5, σ => (if (σ.1 0 11) ≤ v5 then k79 v4 σ else (if p3 = 0 then k79 v4 σ else (if v4 ≤ (999 : Int32) then js_gd (js_ix v5 120) (fX8_number_L29 k79 p1 p2 p3 n ((((10 : Int32) * v4) + (σ.1 7 (Int32.toNatClampNeg v5))) - (48 : Int32)) (v5 + (1 : Int32)) σ) else fX8_number_L29 k79 p1 p2 p3 n v4 (v5 + (1 : Int32)) σ)))
set_option maxRecDepth 10000 in
theorem jX8_number_L29 (G : js_G) (k79 : Int32 → js_S → Option js_S) (p1 : Int32) (p2 : Int32) (p3 : Int32) (hk79 : ∀ (w4 : Int32) (σ : js_S), js_J G shM mX8_number js_eV 79 [some (.ref 0), some (.int p1), some (.int p2), some (.int p3), some (.int w4), none] [] σ (k79 w4 σ)) : ∀ (n : Nat) (v4 : Int32) (v5 : Int32) (σ : js_S), js_J G shM mX8_number js_eV 29 [some (.ref 0), some (.int p1), some (.int p2), some (.int p3), some (.int v4), some (.int v5)] [] σ (fX8_number_L29 k79 p1 p2 p3 n v4 v5 σ) := by
  intro n
  induction n with
  | zero =>
    intros
    exact js_none
  | succ n ih1 =>
    intro v4 v5 σ
    rw [fX8_number_L29]
    refine js_iload dX8_number_29 rfl ?_
    refine js_aload_n dX8_number_31 rfl rfl ?_
    refine js_getI dX8_number_32 fl_X8_215 rfl rfl ?_
    refine js_icmp_ge 79 dX8_number_35 rfl ?_ ?_
    · refine js_drop [true, true, true, true, true, false] (lv2 := [some (.ref 0), some (.int p1), some (.int p2), some (.int p3), some (.int v4), none]) rfl ?_
      exact hk79 v4 σ
    · refine js_iload_n dX8_number_38 rfl rfl ?_
      refine js_if_eq 79 dX8_number_39 rfl ?_ ?_
      · refine js_drop [true, true, true, true, true, false] (lv2 := [some (.ref 0), some (.int p1), some (.int p2), some (.int p3), some (.int v4), none]) rfl ?_
        exact hk79 v4 σ
      · refine js_iload dX8_number_42 rfl ?_
        refine js_sipush dX8_number_44 ks_999 ?_
        refine js_icmp_le 55 dX8_number_47 rfl ?_ ?_
        · refine js_bipush dX8_number_55 kb_10 ?_
          refine js_iload dX8_number_57 rfl ?_
          refine js_imul dX8_number_59 ?_
          refine js_aload_n dX8_number_60 rfl rfl ?_
          refine js_getR dX8_number_61 fl_X8_28 rfl rfl ?_
          refine js_iload dX8_number_64 rfl ?_
          refine js_iald dX8_number_66 rfl ?_
          refine js_iadd dX8_number_67 ?_
          refine js_bipush dX8_number_68 kb_48 ?_
          refine js_isub dX8_number_70 ?_
          refine js_istore (lv' := [some (.ref 0), some (.int p1), some (.int p2), some (.int p3), some (.int ((((10 : Int32) * v4) + (σ.1 7 (Int32.toNatClampNeg v5))) - (48 : Int32))), some (.int v5)]) dX8_number_71 rfl rfl rfl ?_
          refine js_iinc (v := (v5 + (1 : Int32))) (lv' := [some (.ref 0), some (.int p1), some (.int p2), some (.int p3), some (.int ((((10 : Int32) * v4) + (σ.1 7 (Int32.toNatClampNeg v5))) - (48 : Int32))), some (.int (v5 + (1 : Int32)))]) dX8_number_73 rfl (kx_1 _) rfl rfl rfl ?_
          refine js_goto 29 dX8_number_76 rfl ?_
          exact ih1 ((((10 : Int32) * v4) + (σ.1 7 (Int32.toNatClampNeg v5))) - (48 : Int32)) (v5 + (1 : Int32)) σ
        · refine js_iload dX8_number_50 rfl ?_
          refine js_goto 71 dX8_number_52 rfl ?_
          refine js_istore (lv' := [some (.ref 0), some (.int p1), some (.int p2), some (.int p3), some (.int v4), some (.int v5)]) dX8_number_71 rfl rfl rfl ?_
          refine js_iinc (v := (v5 + (1 : Int32))) (lv' := [some (.ref 0), some (.int p1), some (.int p2), some (.int p3), some (.int v4), some (.int (v5 + (1 : Int32)))]) dX8_number_73 rfl (kx_1 _) rfl rfl rfl ?_
          refine js_goto 29 dX8_number_76 rfl ?_
          exact ih1 v4 (v5 + (1 : Int32)) σ

def fX8_number (a1 : Int32) (a2 : Int32) (σ : js_S) : Option js_S := (if (σ.1 0 13) = 0 then (fX8_byteAt (σ.1 0 10) σ).bind fun r1 => fX8_number_L29 (fun w2 s3 => (if (fX8_isDigit r1) = 0 then (fX8_must (0 : Int32) (js_sI s3 0 12 w2)).bind fun r4 => some r4 else (if (fX8_in (Int32.toInt64 w2) (Int32.toInt64 a1) (Int32.toInt64 a2)) = 0 then (fX8_must (0 : Int32) (js_sI s3 0 12 w2)).bind fun r5 => some r5 else (fX8_must (1 : Int32) (js_sI s3 0 12 w2)).bind fun r6 => some r6))) a1 a2 (fX8_isDigit r1) js_FU (0 : Int32) (σ.1 0 10) σ else some σ)
set_option maxRecDepth 10000 in
theorem jX8_number (G : js_G) (a1 : Int32) (a2 : Int32) (σ : js_S) : js_J G shM mX8_number js_eV 0 [some (.ref 0), some (.int a1), some (.int a2), none, none, none] [] σ (fX8_number a1 a2 σ) := by
  unfold fX8_number
  refine js_aload_n dX8_number_0 rfl rfl ?_
  refine js_getI dX8_number_1 fl_X8_230 rfl rfl ?_
  refine js_if_eq 8 dX8_number_4 rfl ?_ ?_
  · refine js_aload_n dX8_number_8 rfl rfl ?_
    refine js_aload_n dX8_number_9 rfl rfl ?_
    refine js_getI dX8_number_10 fl_X8_218 rfl rfl ?_
    refine js_callV_I (mj := mX8_byteAt) [(.int (σ.1 0 10))] [] dX8_number_13 tw_1143 cm_X8_byteAt cv_X8_byteAt rfl rfl rfl rfl rfl rfl (fun r h => qX8_byteAt G (σ.1 0 10) σ r h) (fun r1 => ?_)
    refine js_callS_P (mj := mX8_isDigit) [(.int r1)] [] dX8_number_16 tw_1152 cm_X8_isDigit tw_1153 rfl rfl rfl rfl (qX8_isDigit G r1 σ) ?_
    refine js_istore_n (lv' := [some (.ref 0), some (.int a1), some (.int a2), some (.int (fX8_isDigit r1)), none, none]) dX8_number_19 rfl rfl rfl rfl ?_
    refine js_iconst dX8_number_20 ki_0 ?_
    refine js_istore (lv' := [some (.ref 0), some (.int a1), some (.int a2), some (.int (fX8_isDigit r1)), some (.int (0 : Int32)), none]) dX8_number_21 rfl rfl rfl ?_
    refine js_aload_n dX8_number_23 rfl rfl ?_
    refine js_getI dX8_number_24 fl_X8_218 rfl rfl ?_
    refine js_istore (lv' := [some (.ref 0), some (.int a1), some (.int a2), some (.int (fX8_isDigit r1)), some (.int (0 : Int32)), some (.int (σ.1 0 10))]) dX8_number_27 rfl rfl rfl ?_
    refine jX8_number_L29 G _ a1 a2 (fX8_isDigit r1) (fun w2 s3 => ?_) _ (0 : Int32) (σ.1 0 10) σ
    refine js_aload_n dX8_number_79 rfl rfl ?_
    refine js_iload dX8_number_80 rfl ?_
    refine js_putI dX8_number_82 fp_X8_241 rfl rfl rfl rfl ?_
    refine js_aload_n dX8_number_85 rfl rfl ?_
    refine js_iload_n dX8_number_86 rfl rfl ?_
    refine js_if_eq 107 dX8_number_87 rfl ?_ ?_
    · refine js_iconst dX8_number_107 ki_0 ?_
      refine js_callV_V (mj := mX8_must) [(.int (0 : Int32))] [] dX8_number_108 tw_1181 cm_X8_must cv_X8_must rfl rfl rfl rfl rfl rfl (fun r h => qX8_must G (0 : Int32) (js_sI s3 0 12 w2) r h) (fun r4 => ?_)
      exact js_vret dX8_number_111 rfl rfl
    · refine js_iload dX8_number_90 rfl ?_
      refine js_i2l dX8_number_92 ?_
      refine js_iload_n dX8_number_93 rfl rfl ?_
      refine js_i2l dX8_number_94 ?_
      refine js_iload_n dX8_number_95 rfl rfl ?_
      refine js_i2l dX8_number_96 ?_
      refine js_callS_P (mj := mX8_in) [(.long (Int32.toInt64 w2)), (.long (Int32.toInt64 a1)), (.long (Int32.toInt64 a2))] [(.ref 0)] dX8_number_97 tw_860 cm_X8_in tw_861 rfl rfl rfl rfl (qX8_in G (Int32.toInt64 w2) (Int32.toInt64 a1) (Int32.toInt64 a2) (js_sI s3 0 12 w2)) ?_
      refine js_if_eq 107 dX8_number_100 rfl ?_ ?_
      · refine js_iconst dX8_number_107 ki_0 ?_
        refine js_callV_V (mj := mX8_must) [(.int (0 : Int32))] [] dX8_number_108 tw_1181 cm_X8_must cv_X8_must rfl rfl rfl rfl rfl rfl (fun r h => qX8_must G (0 : Int32) (js_sI s3 0 12 w2) r h) (fun r5 => ?_)
        exact js_vret dX8_number_111 rfl rfl
      · refine js_iconst dX8_number_103 ki_1 ?_
        refine js_goto 108 dX8_number_104 rfl ?_
        refine js_callV_V (mj := mX8_must) [(.int (1 : Int32))] [] dX8_number_108 tw_1181 cm_X8_must cv_X8_must rfl rfl rfl rfl rfl rfl (fun r h => qX8_must G (1 : Int32) (js_sI s3 0 12 w2) r h) (fun r6 => ?_)
        exact js_vret dX8_number_111 rfl rfl
  · exact js_vret dX8_number_7 rfl rfl

theorem qX8_number (G : js_G) (a1 : Int32) (a2 : Int32) (σ : js_S) (r : js_S) (h : fX8_number a1 a2 σ = some r) : js_Con G shM mX8_number [(.ref 0), (.int a1), (.int a2)] σ (js_eV r) := js_con (mi := mX8_number) 3 pn_X8 rfl (Nat.le_of_ble_eq_true rfl) (jX8_number G a1 a2 σ) r h
def fX8_perhaps (a1 : Int64) (a3 : Int32) (σ : js_S) : Option (Int32 × js_S) := (fX8_word σ).bind fun r1 => (if (lg_cmp r1 a1) = 0 then (fX8_must (1 : Int32) σ).bind fun r2 => (fX8_number (0 : Int32) (9 : Int32) r2).bind fun r3 => some ((r3.1 0 12), r3) else some (a3, σ))
set_option maxRecDepth 10000 in
theorem jX8_perhaps (G : js_G) (a1 : Int64) (a3 : Int32) (σ : js_S) : js_J G shM mX8_perhaps js_eW 0 [some (.ref 0), some (.long a1), none, some (.int a3)] [] σ (fX8_perhaps a1 a3 σ) := by
  unfold fX8_perhaps
  refine js_aload_n dX8_perhaps_0 rfl rfl ?_
  refine js_callV_L (mj := mX8_word) [] [] dX8_perhaps_1 tw_1165 cm_X8_word cv_X8_word rfl rfl rfl rfl rfl rfl (fun r h => qX8_word G σ r h) (fun r1 => ?_)
  refine js_lload_n dX8_perhaps_4 rfl rfl ?_
  refine js_lcmp dX8_perhaps_5 ?_
  refine js_if_eq 11 dX8_perhaps_6 rfl ?_ ?_
  · refine js_aload_n dX8_perhaps_11 rfl rfl ?_
    refine js_iconst dX8_perhaps_12 ki_1 ?_
    refine js_callV_V (mj := mX8_must) [(.int (1 : Int32))] [] dX8_perhaps_13 tw_1181 cm_X8_must cv_X8_must rfl rfl rfl rfl rfl rfl (fun r h => qX8_must G (1 : Int32) σ r h) (fun r2 => ?_)
    refine js_aload_n dX8_perhaps_16 rfl rfl ?_
    refine js_iconst dX8_perhaps_17 ki_0 ?_
    refine js_bipush dX8_perhaps_18 kb_9 ?_
    refine js_callV_V (mj := mX8_number) [(.int (0 : Int32)), (.int (9 : Int32))] [] dX8_perhaps_20 tw_1190 cm_X8_number cv_X8_number rfl rfl rfl rfl rfl rfl (fun r h => qX8_number G (0 : Int32) (9 : Int32) r2 r h) (fun r3 => ?_)
    refine js_aload_n dX8_perhaps_23 rfl rfl ?_
    refine js_getI dX8_perhaps_24 fl_X8_241 rfl rfl ?_
    exact js_iret dX8_perhaps_27 rfl rfl
  · refine js_iload_n dX8_perhaps_9 rfl rfl ?_
    exact js_iret dX8_perhaps_10 rfl rfl

theorem qX8_perhaps (G : js_G) (a1 : Int64) (a3 : Int32) (σ : js_S) (r : (Int32 × js_S)) (h : fX8_perhaps a1 a3 σ = some r) : js_Con G shM mX8_perhaps [(.ref 0), (.long a1), (.int a3)] σ (js_eW r) := js_con (mi := mX8_perhaps) 0 pn_X8 rfl (Nat.le_of_ble_eq_true rfl) (jX8_perhaps G a1 a3 σ) r h
def fX8_layerItem (σ : js_S) : Option js_S := (fX8_must (1 : Int32) σ).bind fun r1 => js_gd (js_ix (0 : Int32) 633) ((fX8_number (0 : Int32) ((r1.1 1 (Int32.toNatClampNeg (0 : Int32))) - (1 : Int32)) r1).bind fun r2 => (fX8_number (0 : Int32) (7 : Int32) r2).bind fun r3 => (fX8_number (0 : Int32) (15 : Int32) r3).bind fun r4 => (fX8_perhaps (99685 : Int64) (0 : Int32) r4).bind fun r5 => (if (r5.2.1 0 13) = 0 then (fX8_isFull (r2.1 0 12) (r3.1 0 12) r5.2).bind fun r6 => (if r6 = 0 then (fX8_lies (r2.1 0 12) (r3.1 0 12) (r4.1 0 12) r5.1 r5.2).bind fun r7 => some r7 else some r5.2) else some r5.2))
set_option maxRecDepth 10000 in
theorem jX8_layerItem (G : js_G) (σ : js_S) : js_J G shM mX8_layerItem js_eV 0 [some (.ref 0), none, none, none, none] [] σ (fX8_layerItem σ) := by
  unfold fX8_layerItem
  refine js_aload_n dX8_layerItem_0 rfl rfl ?_
  refine js_iconst dX8_layerItem_1 ki_1 ?_
  refine js_callV_V (mj := mX8_must) [(.int (1 : Int32))] [] dX8_layerItem_2 tw_1181 cm_X8_must cv_X8_must rfl rfl rfl rfl rfl rfl (fun r h => qX8_must G (1 : Int32) σ r h) (fun r1 => ?_)
  refine js_aload_n dX8_layerItem_5 rfl rfl ?_
  refine js_iconst dX8_layerItem_6 ki_0 ?_
  refine js_aload_n dX8_layerItem_7 rfl rfl ?_
  refine js_getR dX8_layerItem_8 fl_X8_7 rfl rfl ?_
  refine js_iconst dX8_layerItem_11 ki_0 ?_
  refine js_iald dX8_layerItem_12 rfl ?_
  refine js_iconst dX8_layerItem_13 ki_1 ?_
  refine js_isub dX8_layerItem_14 ?_
  refine js_callV_V (mj := mX8_number) [(.int (0 : Int32)), (.int ((r1.1 1 (Int32.toNatClampNeg (0 : Int32))) - (1 : Int32)))] [] dX8_layerItem_15 tw_1190 cm_X8_number cv_X8_number rfl rfl rfl rfl rfl rfl (fun r h => qX8_number G (0 : Int32) ((r1.1 1 (Int32.toNatClampNeg (0 : Int32))) - (1 : Int32)) r1 r h) (fun r2 => ?_)
  refine js_aload_n dX8_layerItem_18 rfl rfl ?_
  refine js_getI dX8_layerItem_19 fl_X8_241 rfl rfl ?_
  refine js_istore_n (lv' := [some (.ref 0), some (.int (r2.1 0 12)), none, none, none]) dX8_layerItem_22 rfl rfl rfl rfl ?_
  refine js_aload_n dX8_layerItem_23 rfl rfl ?_
  refine js_iconst dX8_layerItem_24 ki_0 ?_
  refine js_bipush dX8_layerItem_25 kb_7 ?_
  refine js_callV_V (mj := mX8_number) [(.int (0 : Int32)), (.int (7 : Int32))] [] dX8_layerItem_27 tw_1190 cm_X8_number cv_X8_number rfl rfl rfl rfl rfl rfl (fun r h => qX8_number G (0 : Int32) (7 : Int32) r2 r h) (fun r3 => ?_)
  refine js_aload_n dX8_layerItem_30 rfl rfl ?_
  refine js_getI dX8_layerItem_31 fl_X8_241 rfl rfl ?_
  refine js_istore_n (lv' := [some (.ref 0), some (.int (r2.1 0 12)), some (.int (r3.1 0 12)), none, none]) dX8_layerItem_34 rfl rfl rfl rfl ?_
  refine js_aload_n dX8_layerItem_35 rfl rfl ?_
  refine js_iconst dX8_layerItem_36 ki_0 ?_
  refine js_bipush dX8_layerItem_37 kb_15 ?_
  refine js_callV_V (mj := mX8_number) [(.int (0 : Int32)), (.int (15 : Int32))] [] dX8_layerItem_39 tw_1190 cm_X8_number cv_X8_number rfl rfl rfl rfl rfl rfl (fun r h => qX8_number G (0 : Int32) (15 : Int32) r3 r h) (fun r4 => ?_)
  refine js_aload_n dX8_layerItem_42 rfl rfl ?_
  refine js_getI dX8_layerItem_43 fl_X8_241 rfl rfl ?_
  refine js_istore_n (lv' := [some (.ref 0), some (.int (r2.1 0 12)), some (.int (r3.1 0 12)), some (.int (r4.1 0 12)), none]) dX8_layerItem_46 rfl rfl rfl rfl ?_
  refine js_aload_n dX8_layerItem_47 rfl rfl ?_
  refine js_ldc2 dX8_layerItem_48 tw_1204 ?_
  refine js_iconst dX8_layerItem_51 ki_0 ?_
  refine js_callV_W (mj := mX8_perhaps) [(.long (99685 : Int64)), (.int (0 : Int32))] [] dX8_layerItem_52 tw_1195 cm_X8_perhaps cv_X8_perhaps rfl rfl rfl rfl rfl rfl (fun r h => qX8_perhaps G (99685 : Int64) (0 : Int32) r4 r h) (fun r5 => ?_)
  refine js_istore (lv' := [some (.ref 0), some (.int (r2.1 0 12)), some (.int (r3.1 0 12)), some (.int (r4.1 0 12)), some (.int r5.1)]) dX8_layerItem_55 rfl rfl rfl ?_
  refine js_aload_n dX8_layerItem_57 rfl rfl ?_
  refine js_getI dX8_layerItem_58 fl_X8_230 rfl rfl ?_
  refine js_if_ne 82 dX8_layerItem_61 rfl ?_ ?_
  · exact js_vret dX8_layerItem_82 rfl rfl
  · refine js_aload_n dX8_layerItem_64 rfl rfl ?_
    refine js_iload_n dX8_layerItem_65 rfl rfl ?_
    refine js_iload_n dX8_layerItem_66 rfl rfl ?_
    refine js_callV_I (mj := mX8_isFull) [(.int (r2.1 0 12)), (.int (r3.1 0 12))] [] dX8_layerItem_67 tw_982 cm_X8_isFull cv_X8_isFull rfl rfl rfl rfl rfl rfl (fun r h => qX8_isFull G (r2.1 0 12) (r3.1 0 12) r5.2 r h) (fun r6 => ?_)
    refine js_if_ne 82 dX8_layerItem_70 rfl ?_ ?_
    · exact js_vret dX8_layerItem_82 rfl rfl
    · refine js_aload_n dX8_layerItem_73 rfl rfl ?_
      refine js_iload_n dX8_layerItem_74 rfl rfl ?_
      refine js_iload_n dX8_layerItem_75 rfl rfl ?_
      refine js_iload_n dX8_layerItem_76 rfl rfl ?_
      refine js_iload dX8_layerItem_77 rfl ?_
      refine js_callV_V (mj := mX8_lies) [(.int (r2.1 0 12)), (.int (r3.1 0 12)), (.int (r4.1 0 12)), (.int r5.1)] [] dX8_layerItem_79 tw_986 cm_X8_lies cv_X8_lies rfl rfl rfl rfl rfl rfl (fun r h => qX8_lies G (r2.1 0 12) (r3.1 0 12) (r4.1 0 12) r5.1 r5.2 r h) (fun r7 => ?_)
      exact js_vret dX8_layerItem_82 rfl rfl

theorem qX8_layerItem (G : js_G) (σ : js_S) (r : js_S) (h : fX8_layerItem σ = some r) : js_Con G shM mX8_layerItem [(.ref 0)] σ (js_eV r) := js_con (mi := mX8_layerItem) 4 pn_X8 rfl (Nat.le_of_ble_eq_true rfl) (jX8_layerItem G σ) r h
def fX8_sayItem (σ : js_S) : Option js_S := (fX8_must (1 : Int32) σ).bind fun r1 => js_gd (js_ix (0 : Int32) 633) ((fX8_number (0 : Int32) ((r1.1 1 (Int32.toNatClampNeg (0 : Int32))) - (1 : Int32)) r1).bind fun r2 => (fX8_number (0 : Int32) (15 : Int32) r2).bind fun r3 => (fX8_perhaps (23569509 : Int64) (5 : Int32) r3).bind fun r4 => (if (r4.2.1 0 13) = 0 then (fX8_says (r2.1 0 12) (r3.1 0 12) r4.1 r4.2).bind fun r5 => some r5.2 else some r4.2))
set_option maxRecDepth 10000 in
theorem jX8_sayItem (G : js_G) (σ : js_S) : js_J G shM mX8_sayItem js_eV 0 [some (.ref 0), none, none, none, none] [] σ (fX8_sayItem σ) := by
  unfold fX8_sayItem
  refine js_aload_n dX8_sayItem_0 rfl rfl ?_
  refine js_iconst dX8_sayItem_1 ki_1 ?_
  refine js_callV_V (mj := mX8_must) [(.int (1 : Int32))] [] dX8_sayItem_2 tw_1181 cm_X8_must cv_X8_must rfl rfl rfl rfl rfl rfl (fun r h => qX8_must G (1 : Int32) σ r h) (fun r1 => ?_)
  refine js_aload_n dX8_sayItem_5 rfl rfl ?_
  refine js_iconst dX8_sayItem_6 ki_0 ?_
  refine js_aload_n dX8_sayItem_7 rfl rfl ?_
  refine js_getR dX8_sayItem_8 fl_X8_7 rfl rfl ?_
  refine js_iconst dX8_sayItem_11 ki_0 ?_
  refine js_iald dX8_sayItem_12 rfl ?_
  refine js_iconst dX8_sayItem_13 ki_1 ?_
  refine js_isub dX8_sayItem_14 ?_
  refine js_callV_V (mj := mX8_number) [(.int (0 : Int32)), (.int ((r1.1 1 (Int32.toNatClampNeg (0 : Int32))) - (1 : Int32)))] [] dX8_sayItem_15 tw_1190 cm_X8_number cv_X8_number rfl rfl rfl rfl rfl rfl (fun r h => qX8_number G (0 : Int32) ((r1.1 1 (Int32.toNatClampNeg (0 : Int32))) - (1 : Int32)) r1 r h) (fun r2 => ?_)
  refine js_aload_n dX8_sayItem_18 rfl rfl ?_
  refine js_getI dX8_sayItem_19 fl_X8_241 rfl rfl ?_
  refine js_istore_n (lv' := [some (.ref 0), some (.int (r2.1 0 12)), none, none, none]) dX8_sayItem_22 rfl rfl rfl rfl ?_
  refine js_aload_n dX8_sayItem_23 rfl rfl ?_
  refine js_iconst dX8_sayItem_24 ki_0 ?_
  refine js_bipush dX8_sayItem_25 kb_15 ?_
  refine js_callV_V (mj := mX8_number) [(.int (0 : Int32)), (.int (15 : Int32))] [] dX8_sayItem_27 tw_1190 cm_X8_number cv_X8_number rfl rfl rfl rfl rfl rfl (fun r h => qX8_number G (0 : Int32) (15 : Int32) r2 r h) (fun r3 => ?_)
  refine js_aload_n dX8_sayItem_30 rfl rfl ?_
  refine js_getI dX8_sayItem_31 fl_X8_241 rfl rfl ?_
  refine js_istore_n (lv' := [some (.ref 0), some (.int (r2.1 0 12)), some (.int (r3.1 0 12)), none, none]) dX8_sayItem_34 rfl rfl rfl rfl ?_
  refine js_aload_n dX8_sayItem_35 rfl rfl ?_
  refine js_ldc2 dX8_sayItem_36 tw_1194 ?_
  refine js_iconst dX8_sayItem_39 ki_5 ?_
  refine js_callV_W (mj := mX8_perhaps) [(.long (23569509 : Int64)), (.int (5 : Int32))] [] dX8_sayItem_40 tw_1195 cm_X8_perhaps cv_X8_perhaps rfl rfl rfl rfl rfl rfl (fun r h => qX8_perhaps G (23569509 : Int64) (5 : Int32) r3 r h) (fun r4 => ?_)
  refine js_istore_n (lv' := [some (.ref 0), some (.int (r2.1 0 12)), some (.int (r3.1 0 12)), some (.int r4.1), none]) dX8_sayItem_43 rfl rfl rfl rfl ?_
  refine js_aload_n dX8_sayItem_44 rfl rfl ?_
  refine js_getI dX8_sayItem_45 fl_X8_230 rfl rfl ?_
  refine js_if_ne 60 dX8_sayItem_48 rfl ?_ ?_
  · exact js_vret dX8_sayItem_60 rfl rfl
  · refine js_aload_n dX8_sayItem_51 rfl rfl ?_
    refine js_iload_n dX8_sayItem_52 rfl rfl ?_
    refine js_iload_n dX8_sayItem_53 rfl rfl ?_
    refine js_iload_n dX8_sayItem_54 rfl rfl ?_
    refine js_callV_W (mj := mX8_says) [(.int (r2.1 0 12)), (.int (r3.1 0 12)), (.int r4.1)] [] dX8_sayItem_55 tw_974 cm_X8_says cv_X8_says rfl rfl rfl rfl rfl rfl (fun r h => qX8_says G (r2.1 0 12) (r3.1 0 12) r4.1 r4.2 r h) (fun r5 => ?_)
    refine js_istore (lv' := [some (.ref 0), some (.int (r2.1 0 12)), some (.int (r3.1 0 12)), some (.int r4.1), some (.int r5.1)]) dX8_sayItem_58 rfl rfl rfl ?_
    exact js_vret dX8_sayItem_60 rfl rfl

theorem qX8_sayItem (G : js_G) (σ : js_S) (r : js_S) (h : fX8_sayItem σ = some r) : js_Con G shM mX8_sayItem [(.ref 0)] σ (js_eV r) := js_con (mi := mX8_sayItem) 4 pn_X8 rfl (Nat.le_of_ble_eq_true rfl) (jX8_sayItem G σ) r h
def fX8_flueItem (a1 : Int32) (σ : js_S) : Option js_S := js_gd (js_ix (0 : Int32) 633) ((if (6 : Int32) ≤ (σ.1 1 (Int32.toNatClampNeg (0 : Int32))) then (fX8_must (0 : Int32) σ).bind fun r1 => (if (r1.1 0 13) = 0 then (fX8_adds a1 r1).bind fun r2 => some r2.2 else some r1) else (fX8_must (1 : Int32) σ).bind fun r3 => (if (r3.1 0 13) = 0 then (fX8_adds a1 r3).bind fun r4 => some r4.2 else some r3)))
set_option maxRecDepth 10000 in
theorem jX8_flueItem (G : js_G) (a1 : Int32) (σ : js_S) : js_J G shM mX8_flueItem js_eV 0 [some (.ref 0), some (.int a1), none] [] σ (fX8_flueItem a1 σ) := by
  unfold fX8_flueItem
  refine js_aload_n dX8_flueItem_0 rfl rfl ?_
  refine js_aload_n dX8_flueItem_1 rfl rfl ?_
  refine js_getR dX8_flueItem_2 fl_X8_7 rfl rfl ?_
  refine js_iconst dX8_flueItem_5 ki_0 ?_
  refine js_iald dX8_flueItem_6 rfl ?_
  refine js_bipush dX8_flueItem_7 kb_6 ?_
  refine js_icmp_ge 16 dX8_flueItem_9 rfl ?_ ?_
  · refine js_iconst dX8_flueItem_16 ki_0 ?_
    refine js_callV_V (mj := mX8_must) [(.int (0 : Int32))] [] dX8_flueItem_17 tw_1181 cm_X8_must cv_X8_must rfl rfl rfl rfl rfl rfl (fun r h => qX8_must G (0 : Int32) σ r h) (fun r1 => ?_)
    refine js_aload_n dX8_flueItem_20 rfl rfl ?_
    refine js_getI dX8_flueItem_21 fl_X8_230 rfl rfl ?_
    refine js_if_ne 33 dX8_flueItem_24 rfl ?_ ?_
    · exact js_vret dX8_flueItem_33 rfl rfl
    · refine js_aload_n dX8_flueItem_27 rfl rfl ?_
      refine js_iload_n dX8_flueItem_28 rfl rfl ?_
      refine js_callV_W (mj := mX8_adds) [(.int a1)] [] dX8_flueItem_29 tw_869 cm_X8_adds cv_X8_adds rfl rfl rfl rfl rfl rfl (fun r h => qX8_adds G a1 r1 r h) (fun r2 => ?_)
      refine js_istore_n (lv' := [some (.ref 0), some (.int a1), some (.int r2.1)]) dX8_flueItem_32 rfl rfl rfl rfl ?_
      exact js_vret dX8_flueItem_33 rfl rfl
  · refine js_iconst dX8_flueItem_12 ki_1 ?_
    refine js_goto 17 dX8_flueItem_13 rfl ?_
    refine js_callV_V (mj := mX8_must) [(.int (1 : Int32))] [] dX8_flueItem_17 tw_1181 cm_X8_must cv_X8_must rfl rfl rfl rfl rfl rfl (fun r h => qX8_must G (1 : Int32) σ r h) (fun r3 => ?_)
    refine js_aload_n dX8_flueItem_20 rfl rfl ?_
    refine js_getI dX8_flueItem_21 fl_X8_230 rfl rfl ?_
    refine js_if_ne 33 dX8_flueItem_24 rfl ?_ ?_
    · exact js_vret dX8_flueItem_33 rfl rfl
    · refine js_aload_n dX8_flueItem_27 rfl rfl ?_
      refine js_iload_n dX8_flueItem_28 rfl rfl ?_
      refine js_callV_W (mj := mX8_adds) [(.int a1)] [] dX8_flueItem_29 tw_869 cm_X8_adds cv_X8_adds rfl rfl rfl rfl rfl rfl (fun r h => qX8_adds G a1 r3 r h) (fun r4 => ?_)
      refine js_istore_n (lv' := [some (.ref 0), some (.int a1), some (.int r4.1)]) dX8_flueItem_32 rfl rfl rfl rfl ?_
      exact js_vret dX8_flueItem_33 rfl rfl

theorem qX8_flueItem (G : js_G) (a1 : Int32) (σ : js_S) (r : js_S) (h : fX8_flueItem a1 σ = some r) : js_Con G shM mX8_flueItem [(.ref 0), (.int a1)] σ (js_eV r) := js_con (mi := mX8_flueItem) 1 pn_X8 rfl (Nat.le_of_ble_eq_true rfl) (jX8_flueItem G a1 σ) r h
def fX8_item (σ : js_S) : Option js_S := (fX8_kindHere σ).bind fun r1 => (fX8_word σ).bind fun r2 => (if r1 < 0 then (if (lg_cmp r2 (19513 : Int64)) = 0 then (fX8_sayItem σ).bind fun r8 => some r8 else (if (lg_cmp r2 (12641458 : Int64)) = 0 then (fX8_layerItem σ).bind fun r7 => some r7 else (if (lg_cmp r2 (132528 : Int64)) = 0 then (fX8_must (1 : Int32) σ).bind fun r5 => (fX8_number (0 : Int32) (9 : Int32) r5).bind fun r6 => (if (r6.1 0 13) = 0 then js_gd (js_ix (2 : Int32) 633) (some (js_sI r6 1 (Int32.toNatClampNeg (2 : Int32)) (r6.1 0 12))) else js_gd (js_ix (2 : Int32) 633) (js_gd (js_ix (2 : Int32) 633) (some (js_sI r6 1 (Int32.toNatClampNeg (2 : Int32)) (r6.1 1 (Int32.toNatClampNeg (2 : Int32))))))) else (fX8_must (0 : Int32) σ).bind fun r3 => (fX8_number (0 : Int32) (9 : Int32) r3).bind fun r4 => (if (r4.1 0 13) = 0 then js_gd (js_ix (2 : Int32) 633) (some (js_sI r4 1 (Int32.toNatClampNeg (2 : Int32)) (r4.1 0 12))) else js_gd (js_ix (2 : Int32) 633) (js_gd (js_ix (2 : Int32) 633) (some (js_sI r4 1 (Int32.toNatClampNeg (2 : Int32)) (r4.1 1 (Int32.toNatClampNeg (2 : Int32)))))))))) else (fX8_flueItem r1 σ).bind fun r9 => some r9)
set_option maxRecDepth 10000 in
theorem jX8_item (G : js_G) (σ : js_S) : js_J G shM mX8_item js_eV 0 [some (.ref 0), none, none, none] [] σ (fX8_item σ) := by
  unfold fX8_item
  refine js_aload_n dX8_item_0 rfl rfl ?_
  refine js_callV_I (mj := mX8_kindHere) [] [] dX8_item_1 tw_1161 cm_X8_kindHere cv_X8_kindHere rfl rfl rfl rfl rfl rfl (fun r h => qX8_kindHere G σ r h) (fun r1 => ?_)
  refine js_istore_n (lv' := [some (.ref 0), some (.int r1), none, none]) dX8_item_4 rfl rfl rfl rfl ?_
  refine js_aload_n dX8_item_5 rfl rfl ?_
  refine js_callV_L (mj := mX8_word) [] [] dX8_item_6 tw_1165 cm_X8_word cv_X8_word rfl rfl rfl rfl rfl rfl (fun r h => qX8_word G σ r h) (fun r2 => ?_)
  refine js_lstore_n (lv' := [some (.ref 0), some (.int r1), some (.long r2), none]) dX8_item_9 rfl rfl rfl rfl ?_
  refine js_iload_n dX8_item_10 rfl rfl ?_
  refine js_if_lt 22 dX8_item_11 rfl ?_ ?_
  · refine js_lload_n dX8_item_22 rfl rfl ?_
    refine js_ldc2 dX8_item_23 tw_1185 ?_
    refine js_lcmp dX8_item_26 ?_
    refine js_if_ne 37 dX8_item_27 rfl ?_ ?_
    · refine js_lload_n dX8_item_37 rfl rfl ?_
      refine js_ldc2 dX8_item_38 tw_1199 ?_
      refine js_lcmp dX8_item_41 ?_
      refine js_if_ne 52 dX8_item_42 rfl ?_ ?_
      · refine js_aload_n dX8_item_52 rfl rfl ?_
        refine js_lload_n dX8_item_53 rfl rfl ?_
        refine js_ldc2 dX8_item_54 tw_1205 ?_
        refine js_lcmp dX8_item_57 ?_
        refine js_if_ne 65 dX8_item_58 rfl ?_ ?_
        · refine js_iconst dX8_item_65 ki_0 ?_
          refine js_callV_V (mj := mX8_must) [(.int (0 : Int32))] [] dX8_item_66 tw_1181 cm_X8_must cv_X8_must rfl rfl rfl rfl rfl rfl (fun r h => qX8_must G (0 : Int32) σ r h) (fun r3 => ?_)
          refine js_aload_n dX8_item_69 rfl rfl ?_
          refine js_iconst dX8_item_70 ki_0 ?_
          refine js_bipush dX8_item_71 kb_9 ?_
          refine js_callV_V (mj := mX8_number) [(.int (0 : Int32)), (.int (9 : Int32))] [] dX8_item_73 tw_1190 cm_X8_number cv_X8_number rfl rfl rfl rfl rfl rfl (fun r h => qX8_number G (0 : Int32) (9 : Int32) r3 r h) (fun r4 => ?_)
          refine js_aload_n dX8_item_76 rfl rfl ?_
          refine js_getR dX8_item_77 fl_X8_7 rfl rfl ?_
          refine js_iconst dX8_item_80 ki_2 ?_
          refine js_aload_n dX8_item_81 rfl rfl ?_
          refine js_getI dX8_item_82 fl_X8_230 rfl rfl ?_
          refine js_if_eq 97 dX8_item_85 rfl ?_ ?_
          · refine js_aload_n dX8_item_97 rfl rfl ?_
            refine js_getI dX8_item_98 fl_X8_241 rfl rfl ?_
            refine js_iast dX8_item_101 rfl ?_
            exact js_vret dX8_item_102 rfl rfl
          · refine js_aload_n dX8_item_88 rfl rfl ?_
            refine js_getR dX8_item_89 fl_X8_7 rfl rfl ?_
            refine js_iconst dX8_item_92 ki_2 ?_
            refine js_iald dX8_item_93 rfl ?_
            refine js_goto 101 dX8_item_94 rfl ?_
            refine js_iast dX8_item_101 rfl ?_
            exact js_vret dX8_item_102 rfl rfl
        · refine js_iconst dX8_item_61 ki_1 ?_
          refine js_goto 66 dX8_item_62 rfl ?_
          refine js_callV_V (mj := mX8_must) [(.int (1 : Int32))] [] dX8_item_66 tw_1181 cm_X8_must cv_X8_must rfl rfl rfl rfl rfl rfl (fun r h => qX8_must G (1 : Int32) σ r h) (fun r5 => ?_)
          refine js_aload_n dX8_item_69 rfl rfl ?_
          refine js_iconst dX8_item_70 ki_0 ?_
          refine js_bipush dX8_item_71 kb_9 ?_
          refine js_callV_V (mj := mX8_number) [(.int (0 : Int32)), (.int (9 : Int32))] [] dX8_item_73 tw_1190 cm_X8_number cv_X8_number rfl rfl rfl rfl rfl rfl (fun r h => qX8_number G (0 : Int32) (9 : Int32) r5 r h) (fun r6 => ?_)
          refine js_aload_n dX8_item_76 rfl rfl ?_
          refine js_getR dX8_item_77 fl_X8_7 rfl rfl ?_
          refine js_iconst dX8_item_80 ki_2 ?_
          refine js_aload_n dX8_item_81 rfl rfl ?_
          refine js_getI dX8_item_82 fl_X8_230 rfl rfl ?_
          refine js_if_eq 97 dX8_item_85 rfl ?_ ?_
          · refine js_aload_n dX8_item_97 rfl rfl ?_
            refine js_getI dX8_item_98 fl_X8_241 rfl rfl ?_
            refine js_iast dX8_item_101 rfl ?_
            exact js_vret dX8_item_102 rfl rfl
          · refine js_aload_n dX8_item_88 rfl rfl ?_
            refine js_getR dX8_item_89 fl_X8_7 rfl rfl ?_
            refine js_iconst dX8_item_92 ki_2 ?_
            refine js_iald dX8_item_93 rfl ?_
            refine js_goto 101 dX8_item_94 rfl ?_
            refine js_iast dX8_item_101 rfl ?_
            exact js_vret dX8_item_102 rfl rfl
      · refine js_aload_n dX8_item_45 rfl rfl ?_
        refine js_callV_V (mj := mX8_layerItem) [] [] dX8_item_46 tw_1200 cm_X8_layerItem cv_X8_layerItem rfl rfl rfl rfl rfl rfl (fun r h => qX8_layerItem G σ r h) (fun r7 => ?_)
        refine js_goto 102 dX8_item_49 rfl ?_
        exact js_vret dX8_item_102 rfl rfl
    · refine js_aload_n dX8_item_30 rfl rfl ?_
      refine js_callV_V (mj := mX8_sayItem) [] [] dX8_item_31 tw_1186 cm_X8_sayItem cv_X8_sayItem rfl rfl rfl rfl rfl rfl (fun r h => qX8_sayItem G σ r h) (fun r8 => ?_)
      refine js_goto 102 dX8_item_34 rfl ?_
      exact js_vret dX8_item_102 rfl rfl
  · refine js_aload_n dX8_item_14 rfl rfl ?_
    refine js_iload_n dX8_item_15 rfl rfl ?_
    refine js_callV_V (mj := mX8_flueItem) [(.int r1)] [] dX8_item_16 tw_1177 cm_X8_flueItem cv_X8_flueItem rfl rfl rfl rfl rfl rfl (fun r h => qX8_flueItem G r1 σ r h) (fun r9 => ?_)
    refine js_goto 102 dX8_item_19 rfl ?_
    exact js_vret dX8_item_102 rfl rfl

theorem qX8_item (G : js_G) (σ : js_S) (r : js_S) (h : fX8_item σ = some r) : js_Con G shM mX8_item [(.ref 0)] σ (js_eV r) := js_con (mi := mX8_item) 3 pn_X8 rfl (Nat.le_of_ble_eq_true rfl) (jX8_item G σ) r h
def fX8_putsBack_L2 : Nat → Int32 → js_S → Option js_S
  | 0, _, _ => none
  | n + 1, v1, σ => (if (633 : Int32) ≤ v1 then some σ else js_gd (js_ix v1 633) (js_gd (js_ix v1 633) (fX8_putsBack_L2  n (v1 + (1 : Int32)) (js_sI σ 1 (Int32.toNatClampNeg v1) (σ.1 3 (Int32.toNatClampNeg v1))))))
set_option maxRecDepth 10000 in
theorem jX8_putsBack_L2 (G : js_G) : ∀ (n : Nat) (v1 : Int32) (σ : js_S), js_J G shM mX8_putsBack js_eV 2 [some (.ref 0), some (.int v1)] [] σ (fX8_putsBack_L2 n v1 σ) := by
  intro n
  induction n with
  | zero =>
    intros
    exact js_none
  | succ n ih1 =>
    intro v1 σ
    rw [fX8_putsBack_L2]
    refine js_iload_n dX8_putsBack_2 rfl rfl ?_
    refine js_sipush dX8_putsBack_3 ks_633 ?_
    refine js_icmp_ge 27 dX8_putsBack_6 rfl ?_ ?_
    · exact js_vret dX8_putsBack_27 rfl rfl
    · refine js_aload_n dX8_putsBack_9 rfl rfl ?_
      refine js_getR dX8_putsBack_10 fl_X8_7 rfl rfl ?_
      refine js_iload_n dX8_putsBack_13 rfl rfl ?_
      refine js_aload_n dX8_putsBack_14 rfl rfl ?_
      refine js_getR dX8_putsBack_15 fl_X8_16 rfl rfl ?_
      refine js_iload_n dX8_putsBack_18 rfl rfl ?_
      refine js_iald dX8_putsBack_19 rfl ?_
      refine js_iast dX8_putsBack_20 rfl ?_
      refine js_iinc (v := (v1 + (1 : Int32))) (lv' := [some (.ref 0), some (.int (v1 + (1 : Int32)))]) dX8_putsBack_21 rfl (kx_1 _) rfl rfl rfl ?_
      refine js_goto 2 dX8_putsBack_24 rfl ?_
      exact ih1 (v1 + (1 : Int32)) (js_sI σ 1 (Int32.toNatClampNeg v1) (σ.1 3 (Int32.toNatClampNeg v1)))

def fX8_putsBack (σ : js_S) : Option js_S := fX8_putsBack_L2 js_FU (0 : Int32) σ
set_option maxRecDepth 10000 in
theorem jX8_putsBack (G : js_G) (σ : js_S) : js_J G shM mX8_putsBack js_eV 0 [some (.ref 0), none] [] σ (fX8_putsBack σ) := by
  unfold fX8_putsBack
  refine js_iconst dX8_putsBack_0 ki_0 ?_
  refine js_istore_n (lv' := [some (.ref 0), some (.int (0 : Int32))]) dX8_putsBack_1 rfl rfl rfl rfl ?_
  exact jX8_putsBack_L2 G  _ (0 : Int32) σ

theorem qX8_putsBack (G : js_G) (σ : js_S) (r : js_S) (h : fX8_putsBack σ = some r) : js_Con G shM mX8_putsBack [(.ref 0)] σ (js_eV r) := js_con (mi := mX8_putsBack) 1 pn_X8 rfl (Nat.le_of_ble_eq_true rfl) (jX8_putsBack G σ) r h
