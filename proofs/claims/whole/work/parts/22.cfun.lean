def fX7_where_L18 (p1 : Int32) : Nat → Int32 → Int32 → js_S → Option (Int32 × js_S)
  | 0, _, _, _ => none
  | n + 1, v2, v3, σ => (if (σ.1 1 2) ≤ v3 then some (v2, σ) else (fX3_wordsIn v3 σ).bind fun r1 => (if (fX7_hasBit r1 p1) = 0 then fX7_where_L18 p1 n v2 (v3 + (1 : Int32)) σ else fX7_where_L18 p1 n (v2 ||| ((1 : Int32) <<< (v3 &&& 31))) (v3 + (1 : Int32)) σ))
set_option maxRecDepth 10000 in
theorem jX7_where_L18 (G : js_G) (p1 : Int32) : ∀ (n : Nat) (v2 : Int32) (v3 : Int32) (σ : js_S), js_J G shC mX7_where js_eW 18 [some (.ref 0), some (.int p1), some (.int v2), some (.int v3)] [] σ (fX7_where_L18 p1 n v2 v3 σ) := by
  intro n
  induction n with
  | zero =>
    intros
    exact js_none
  | succ n ih1 =>
    intro v2 v3 σ
    rw [fX7_where_L18]
    refine js_iload_n dX7_where_18 rfl rfl ?_
    refine js_aload_n dX7_where_19 rfl rfl ?_
    refine js_getR dX7_where_20 fl_X7_10 rfl rfl ?_
    refine js_getI dX7_where_23 fl_X7_74 rfl rfl ?_
    refine js_icmp_ge 56 dX7_where_26 rfl ?_ ?_
    · refine js_iload_n dX7_where_56 rfl rfl ?_
      exact js_iret dX7_where_57 rfl rfl
    · refine js_aload_n dX7_where_29 rfl rfl ?_
      refine js_getR dX7_where_30 fl_X7_10 rfl rfl ?_
      refine js_iload_n dX7_where_33 rfl rfl ?_
      refine js_callV_I (mj := mX3_wordsIn) [(.int v3)] [] dX7_where_34 tw_251 cm_X3_wordsIn cv_X3_wordsIn rfl rfl rfl rfl rfl rfl (fun r h => qX3_wordsIn G v3 σ r h) (fun r1 => ?_)
      refine js_iload_n dX7_where_37 rfl rfl ?_
      refine js_callS_P (mj := mX7_hasBit) [(.int r1), (.int p1)] [] dX7_where_38 tw_486 cm_X7_hasBit tw_487 rfl rfl rfl rfl (qX7_hasBit G r1 p1 σ) ?_
      refine js_if_eq 50 dX7_where_41 rfl ?_ ?_
      · refine js_iinc (v := (v3 + (1 : Int32))) (lv' := [some (.ref 0), some (.int p1), some (.int v2), some (.int (v3 + (1 : Int32)))]) dX7_where_50 rfl (kx_1 _) rfl rfl rfl ?_
        refine js_goto 18 dX7_where_53 rfl ?_
        exact ih1 v2 (v3 + (1 : Int32)) σ
      · refine js_iload_n dX7_where_44 rfl rfl ?_
        refine js_iconst dX7_where_45 ki_1 ?_
        refine js_iload_n dX7_where_46 rfl rfl ?_
        refine js_ishl dX7_where_47 ?_
        refine js_ior dX7_where_48 ?_
        refine js_istore_n (lv' := [some (.ref 0), some (.int p1), some (.int (v2 ||| ((1 : Int32) <<< (v3 &&& 31)))), some (.int v3)]) dX7_where_49 rfl rfl rfl rfl ?_
        refine js_iinc (v := (v3 + (1 : Int32))) (lv' := [some (.ref 0), some (.int p1), some (.int (v2 ||| ((1 : Int32) <<< (v3 &&& 31)))), some (.int (v3 + (1 : Int32)))]) dX7_where_50 rfl (kx_1 _) rfl rfl rfl ?_
        refine js_goto 18 dX7_where_53 rfl ?_
        exact ih1 (v2 ||| ((1 : Int32) <<< (v3 &&& 31))) (v3 + (1 : Int32)) σ

def fX7_where (a1 : Int32) (σ : js_S) : Option (Int32 × js_S) := (if (fX7_isWord a1) = 0 then (fX7_found (-1000000001 : Int32) σ).bind fun r2 => some (r2.1, r2.2) else fX7_where_L18 a1 js_FU (0 : Int32) (0 : Int32) σ)
set_option maxRecDepth 10000 in
theorem jX7_where (G : js_G) (a1 : Int32) (σ : js_S) : js_J G shC mX7_where js_eW 0 [some (.ref 0), some (.int a1), none, none] [] σ (fX7_where a1 σ) := by
  unfold fX7_where
  refine js_iload_n dX7_where_0 rfl rfl ?_
  refine js_callS_P (mj := mX7_isWord) [(.int a1)] [] dX7_where_1 tw_331 cm_X7_isWord tw_332 rfl rfl rfl rfl (qX7_isWord G a1 σ) ?_
  refine js_if_ne 14 dX7_where_4 rfl ?_ ?_
  · refine js_iconst dX7_where_14 ki_0 ?_
    refine js_istore_n (lv' := [some (.ref 0), some (.int a1), some (.int (0 : Int32)), none]) dX7_where_15 rfl rfl rfl rfl ?_
    refine js_iconst dX7_where_16 ki_0 ?_
    refine js_istore_n (lv' := [some (.ref 0), some (.int a1), some (.int (0 : Int32)), some (.int (0 : Int32))]) dX7_where_17 rfl rfl rfl rfl ?_
    exact jX7_where_L18 G a1  _ (0 : Int32) (0 : Int32) σ
  · refine js_aload_n dX7_where_7 rfl rfl ?_
    refine js_ldc dX7_where_8 tw_217 ?_
    refine js_callV_W (mj := mX7_found) [(.int (-1000000001 : Int32))] [] dX7_where_10 tw_218 cm_X7_found cv_X7_found rfl rfl rfl rfl rfl rfl (fun r h => qX7_found G (-1000000001 : Int32) σ r h) (fun r2 => ?_)
    exact js_iret dX7_where_13 rfl rfl

theorem qX7_where (G : js_G) (a1 : Int32) (σ : js_S) (r : (Int32 × js_S)) (h : fX7_where a1 σ = some r) : js_Con G shC mX7_where [(.ref 0), (.int a1)] σ (js_eW r) := js_con (mi := mX7_where) 2 pn_X7 rfl (Nat.le_of_ble_eq_true rfl) (jX7_where G a1 σ) r h
def fX7_lost_L35 (p1 : Int32) (p2 : Int32) (p3 : Int32) : Nat → Int32 → js_S → Option (Int32 × js_S)
  | 0, _, _ => none
  | n + 1, v4, σ => (if (60 : Int32) < v4 then (fX7_found (-1000000004 : Int32) σ).bind fun r4 => some (r4.1, r4.2) else (fX0_putUp p1 (7 : Int32) p3 v4 σ).bind fun r5 => (if (fX7_hasBit (r5.1 11 1) p2) = 0 then some (v4, r5) else fX7_lost_L35 p1 p2 p3 n (v4 + (1 : Int32)) r5))
set_option maxRecDepth 10000 in
theorem jX7_lost_L35 (G : js_G) (p1 : Int32) (p2 : Int32) (p3 : Int32) : ∀ (n : Nat) (v4 : Int32) (σ : js_S), js_J G shC mX7_lost js_eW 35 [some (.ref 0), some (.int p1), some (.int p2), some (.int p3), some (.int v4)] [] σ (fX7_lost_L35 p1 p2 p3 n v4 σ) := by
  intro n
  induction n with
  | zero =>
    intros
    exact js_none
  | succ n ih1 =>
    intro v4 σ
    rw [fX7_lost_L35]
    refine js_iload dX7_lost_35 rfl ?_
    refine js_bipush dX7_lost_37 kb_60 ?_
    refine js_icmp_gt 82 dX7_lost_39 rfl ?_ ?_
    · refine js_aload_n dX7_lost_82 rfl rfl ?_
      refine js_ldc dX7_lost_83 tw_295 ?_
      refine js_callV_W (mj := mX7_found) [(.int (-1000000004 : Int32))] [] dX7_lost_85 tw_218 cm_X7_found cv_X7_found rfl rfl rfl rfl rfl rfl (fun r h => qX7_found G (-1000000004 : Int32) σ r h) (fun r4 => ?_)
      exact js_iret dX7_lost_88 rfl rfl
    · refine js_aload_n dX7_lost_42 rfl rfl ?_
      refine js_getR dX7_lost_43 fl_X7_26 rfl rfl ?_
      refine js_aload_n dX7_lost_46 rfl rfl ?_
      refine js_getR dX7_lost_47 fl_X7_10 rfl rfl ?_
      refine js_iload_n dX7_lost_50 rfl rfl ?_
      refine js_bipush dX7_lost_51 kb_7 ?_
      refine js_iload_n dX7_lost_53 rfl rfl ?_
      refine js_iload dX7_lost_54 rfl ?_
      refine js_callV_V (mj := mX0_putUp) [(.ref 1), (.int p1), (.int (7 : Int32)), (.int p3), (.int v4)] [] dX7_lost_56 tw_428 cm_X0_putUp cv_X0_putUp rfl rfl rfl rfl rfl rfl (fun r h => qX0_putUp G p1 (7 : Int32) p3 v4 σ r h) (fun r5 => ?_)
      refine js_aload_n dX7_lost_59 rfl rfl ?_
      refine js_getR dX7_lost_60 fl_X7_26 rfl rfl ?_
      refine js_getI dX7_lost_63 fl_X7_190 rfl rfl ?_
      refine js_iload_n dX7_lost_66 rfl rfl ?_
      refine js_callS_P (mj := mX7_hasBit) [(.int (r5.1 11 1)), (.int p2)] [] dX7_lost_67 tw_486 cm_X7_hasBit tw_487 rfl rfl rfl rfl (qX7_hasBit G (r5.1 11 1) p2 r5) ?_
      refine js_if_ne 76 dX7_lost_70 rfl ?_ ?_
      · refine js_iinc (v := (v4 + (1 : Int32))) (lv' := [some (.ref 0), some (.int p1), some (.int p2), some (.int p3), some (.int (v4 + (1 : Int32)))]) dX7_lost_76 rfl (kx_1 _) rfl rfl rfl ?_
        refine js_goto 35 dX7_lost_79 rfl ?_
        exact ih1 (v4 + (1 : Int32)) r5
      · refine js_iload dX7_lost_73 rfl ?_
        exact js_iret dX7_lost_75 rfl rfl

def fX7_lost (a1 : Int32) (a2 : Int32) (a3 : Int32) (σ : js_S) : Option (Int32 × js_S) := (fX3_hasFlue a1 σ).bind fun r1 => (if r1 = 0 then (fX7_found (-1000000001 : Int32) σ).bind fun r2 => some (r2.1, r2.2) else (if (fX7_isWord a2) = 0 then (fX7_found (-1000000001 : Int32) σ).bind fun r3 => some (r3.1, r3.2) else (if (fX7_isStrength a3) = 0 then (fX7_found (-1000000001 : Int32) σ).bind fun r6 => some (r6.1, r6.2) else fX7_lost_L35 a1 a2 a3 js_FU (0 : Int32) σ)))
set_option maxRecDepth 10000 in
theorem jX7_lost (G : js_G) (a1 : Int32) (a2 : Int32) (a3 : Int32) (σ : js_S) : js_J G shC mX7_lost js_eW 0 [some (.ref 0), some (.int a1), some (.int a2), some (.int a3), none] [] σ (fX7_lost a1 a2 a3 σ) := by
  unfold fX7_lost
  refine js_aload_n dX7_lost_0 rfl rfl ?_
  refine js_getR dX7_lost_1 fl_X7_10 rfl rfl ?_
  refine js_iload_n dX7_lost_4 rfl rfl ?_
  refine js_callV_I (mj := mX3_hasFlue) [(.int a1)] [] dX7_lost_5 tw_231 cm_X3_hasFlue cv_X3_hasFlue rfl rfl rfl rfl rfl rfl (fun r h => qX3_hasFlue G a1 σ r h) (fun r1 => ?_)
  refine js_if_eq 25 dX7_lost_8 rfl ?_ ?_
  · refine js_aload_n dX7_lost_25 rfl rfl ?_
    refine js_ldc dX7_lost_26 tw_217 ?_
    refine js_callV_W (mj := mX7_found) [(.int (-1000000001 : Int32))] [] dX7_lost_28 tw_218 cm_X7_found cv_X7_found rfl rfl rfl rfl rfl rfl (fun r h => qX7_found G (-1000000001 : Int32) σ r h) (fun r2 => ?_)
    exact js_iret dX7_lost_31 rfl rfl
  · refine js_iload_n dX7_lost_11 rfl rfl ?_
    refine js_callS_P (mj := mX7_isWord) [(.int a2)] [] dX7_lost_12 tw_331 cm_X7_isWord tw_332 rfl rfl rfl rfl (qX7_isWord G a2 σ) ?_
    refine js_if_eq 25 dX7_lost_15 rfl ?_ ?_
    · refine js_aload_n dX7_lost_25 rfl rfl ?_
      refine js_ldc dX7_lost_26 tw_217 ?_
      refine js_callV_W (mj := mX7_found) [(.int (-1000000001 : Int32))] [] dX7_lost_28 tw_218 cm_X7_found cv_X7_found rfl rfl rfl rfl rfl rfl (fun r h => qX7_found G (-1000000001 : Int32) σ r h) (fun r3 => ?_)
      exact js_iret dX7_lost_31 rfl rfl
    · refine js_iload_n dX7_lost_18 rfl rfl ?_
      refine js_callS_P (mj := mX7_isStrength) [(.int a3)] [] dX7_lost_19 tw_413 cm_X7_isStrength tw_414 rfl rfl rfl rfl (qX7_isStrength G a3 σ) ?_
      refine js_if_ne 32 dX7_lost_22 rfl ?_ ?_
      · refine js_iconst dX7_lost_32 ki_0 ?_
        refine js_istore (lv' := [some (.ref 0), some (.int a1), some (.int a2), some (.int a3), some (.int (0 : Int32))]) dX7_lost_33 rfl rfl rfl ?_
        exact jX7_lost_L35 G a1 a2 a3  _ (0 : Int32) σ
      · refine js_aload_n dX7_lost_25 rfl rfl ?_
        refine js_ldc dX7_lost_26 tw_217 ?_
        refine js_callV_W (mj := mX7_found) [(.int (-1000000001 : Int32))] [] dX7_lost_28 tw_218 cm_X7_found cv_X7_found rfl rfl rfl rfl rfl rfl (fun r h => qX7_found G (-1000000001 : Int32) σ r h) (fun r6 => ?_)
        exact js_iret dX7_lost_31 rfl rfl

theorem qX7_lost (G : js_G) (a1 : Int32) (a2 : Int32) (a3 : Int32) (σ : js_S) (r : (Int32 × js_S)) (h : fX7_lost a1 a2 a3 σ = some r) : js_Con G shC mX7_lost [(.ref 0), (.int a1), (.int a2), (.int a3)] σ (js_eW r) := js_con (mi := mX7_lost) 1 pn_X7 rfl (Nat.le_of_ble_eq_true rfl) (jX7_lost G a1 a2 a3 σ) r h
def fX3_lowestWith_L2 (p1 : Int32) (p2 : Int32) (σ : js_S) : Nat → Int32 → Option Int32
  | 0, _ => none
  | n + 1, v3 => (if (8 : Int32) ≤ v3 then some (-1 : Int32) else (fX3_wordsOn p1 v3 σ).bind fun r1 => (if (fX7_hasBit r1 p2) = 0 then fX3_lowestWith_L2 p1 p2 σ n (v3 + (1 : Int32)) else some v3))
set_option maxRecDepth 10000 in
theorem jX3_lowestWith_L2 (G : js_G) (p1 : Int32) (p2 : Int32) (σ : js_S) : ∀ (n : Nat) (v3 : Int32), js_J G shC mX3_lowestWith (js_eI σ) 2 [some (.ref 1), some (.int p1), some (.int p2), some (.int v3)] [] σ (fX3_lowestWith_L2 p1 p2 σ n v3) := by
  intro n
  induction n with
  | zero =>
    intros
    exact js_none
  | succ n ih1 =>
    intro v3
    rw [fX3_lowestWith_L2]
    refine js_iload_n dX3_lowestWith_2 rfl rfl ?_
    refine js_bipush dX3_lowestWith_3 kb_8 ?_
    refine js_icmp_ge 29 dX3_lowestWith_5 rfl ?_ ?_
    · refine js_iconst dX3_lowestWith_29 ki_m1 ?_
      exact js_iret dX3_lowestWith_30 rfl rfl
    · refine js_aload_n dX3_lowestWith_8 rfl rfl ?_
      refine js_iload_n dX3_lowestWith_9 rfl rfl ?_
      refine js_iload_n dX3_lowestWith_10 rfl rfl ?_
      refine js_callV_I (mj := mX3_wordsOn) [(.int p1), (.int v3)] [] dX3_lowestWith_11 tw_255 cm_X3_wordsOn cv_X3_wordsOn rfl rfl rfl rfl rfl rfl (fun r h => qX3_wordsOn G p1 v3 σ r h) (fun r1 => ?_)
      refine js_iload_n dX3_lowestWith_14 rfl rfl ?_
      refine js_callN_P (host := RX7) (mj := mX7_hasBit) [(.int r1), (.int p2)] [] dX3_lowestWith_15 (List.mem_of_getElem? (i := 1) rfl) cm_X7_hasBit tw_487 rfl rfl rfl rfl (qX7_hasBit G r1 p2 σ) ?_
      refine js_if_eq 23 dX3_lowestWith_18 rfl ?_ ?_
      · refine js_iinc (v := (v3 + (1 : Int32))) (lv' := [some (.ref 1), some (.int p1), some (.int p2), some (.int (v3 + (1 : Int32)))]) dX3_lowestWith_23 rfl (kx_1 _) rfl rfl rfl ?_
        refine js_goto 2 dX3_lowestWith_26 rfl ?_
        exact ih1 (v3 + (1 : Int32))
      · refine js_iload_n dX3_lowestWith_21 rfl rfl ?_
        exact js_iret dX3_lowestWith_22 rfl rfl

def fX3_lowestWith (a1 : Int32) (a2 : Int32) (σ : js_S) : Option Int32 := fX3_lowestWith_L2 a1 a2 σ js_FU (0 : Int32)
set_option maxRecDepth 10000 in
theorem jX3_lowestWith (G : js_G) (a1 : Int32) (a2 : Int32) (σ : js_S) : js_J G shC mX3_lowestWith (js_eI σ) 0 [some (.ref 1), some (.int a1), some (.int a2), none] [] σ (fX3_lowestWith a1 a2 σ) := by
  unfold fX3_lowestWith
  refine js_iconst dX3_lowestWith_0 ki_0 ?_
  refine js_istore_n (lv' := [some (.ref 1), some (.int a1), some (.int a2), some (.int (0 : Int32))]) dX3_lowestWith_1 rfl rfl rfl rfl ?_
  exact jX3_lowestWith_L2 G a1 a2 σ  _ (0 : Int32)

theorem qX3_lowestWith (G : js_G) (a1 : Int32) (a2 : Int32) (σ : js_S) (r : Int32) (h : fX3_lowestWith a1 a2 σ = some r) : js_Con G shC mX3_lowestWith [(.ref 1), (.int a1), (.int a2)] σ ((js_eI σ) r) := js_con (mi := mX3_lowestWith) 1 pn_X3 rfl (Nat.le_of_ble_eq_true rfl) (jX3_lowestWith G a1 a2 σ) r h
def fX7_covers_L59 (p1 : Int32) (p2 : Int32) (p4 : Int32) : Nat → Int32 → js_S → Option (Int32 × js_S)
  | 0, _, _ => none
  | n + 1, v5, σ => (if (10 : Int32) ≤ v5 then (fX7_found (-1000000004 : Int32) σ).bind fun r5 => some (r5.1, r5.2) else (fX3_landing p1 p2 v5 σ).bind fun r6 => (if r6 = p4 then some (v5, σ) else fX7_covers_L59 p1 p2 p4 n (v5 + (1 : Int32)) σ))
set_option maxRecDepth 10000 in
theorem jX7_covers_L59 (G : js_G) (p1 : Int32) (p2 : Int32) (p4 : Int32) : ∀ (n : Nat) (v5 : Int32) (σ : js_S), js_J G shC mX7_covers js_eW 59 [some (.ref 0), some (.int p1), some (.int p2), none, some (.int p4), some (.int v5)] [] σ (fX7_covers_L59 p1 p2 p4 n v5 σ) := by
  intro n
  induction n with
  | zero =>
    intros
    exact js_none
  | succ n ih1 =>
    intro v5 σ
    rw [fX7_covers_L59]
    refine js_iload dX7_covers_59 rfl ?_
    refine js_bipush dX7_covers_61 kb_10 ?_
    refine js_icmp_ge 91 dX7_covers_63 rfl ?_ ?_
    · refine js_aload_n dX7_covers_91 rfl rfl ?_
      refine js_ldc dX7_covers_92 tw_295 ?_
      refine js_callV_W (mj := mX7_found) [(.int (-1000000004 : Int32))] [] dX7_covers_94 tw_218 cm_X7_found cv_X7_found rfl rfl rfl rfl rfl rfl (fun r h => qX7_found G (-1000000004 : Int32) σ r h) (fun r5 => ?_)
      exact js_iret dX7_covers_97 rfl rfl
    · refine js_aload_n dX7_covers_66 rfl rfl ?_
      refine js_getR dX7_covers_67 fl_X7_10 rfl rfl ?_
      refine js_iload_n dX7_covers_70 rfl rfl ?_
      refine js_iload_n dX7_covers_71 rfl rfl ?_
      refine js_iload dX7_covers_72 rfl ?_
      refine js_callV_I (mj := mX3_landing) [(.int p1), (.int p2), (.int v5)] [] dX7_covers_74 tw_506 cm_X3_landing cv_X3_landing rfl rfl rfl rfl rfl rfl (fun r h => qX3_landing G p1 p2 v5 σ r h) (fun r6 => ?_)
      refine js_iload dX7_covers_77 rfl ?_
      refine js_icmp_ne 85 dX7_covers_79 rfl ?_ ?_
      · refine js_iinc (v := (v5 + (1 : Int32))) (lv' := [some (.ref 0), some (.int p1), some (.int p2), none, some (.int p4), some (.int (v5 + (1 : Int32)))]) dX7_covers_85 rfl (kx_1 _) rfl rfl rfl ?_
        refine js_goto 59 dX7_covers_88 rfl ?_
        exact ih1 (v5 + (1 : Int32)) σ
      · refine js_iload dX7_covers_82 rfl ?_
        exact js_iret dX7_covers_84 rfl rfl

def fX7_covers (a1 : Int32) (a2 : Int32) (a3 : Int32) (σ : js_S) : Option (Int32 × js_S) := (fX3_hasFlue a1 σ).bind fun r1 => (if r1 = 0 then (fX7_found (-1000000001 : Int32) σ).bind fun r2 => some (r2.1, r2.2) else (if (fX7_isWord a2) = 0 then (fX7_found (-1000000001 : Int32) σ).bind fun r3 => some (r3.1, r3.2) else (if (fX7_isWord a3) = 0 then (fX7_found (-1000000001 : Int32) σ).bind fun r8 => some (r8.1, r8.2) else (fX3_lowestWith a1 a3 σ).bind fun r4 => (if r4 = (-1 : Int32) then (fX7_found (-1000000004 : Int32) σ).bind fun r7 => some (r7.1, r7.2) else fX7_covers_L59 a1 a2 r4 js_FU (0 : Int32) σ))))
set_option maxRecDepth 10000 in
theorem jX7_covers (G : js_G) (a1 : Int32) (a2 : Int32) (a3 : Int32) (σ : js_S) : js_J G shC mX7_covers js_eW 0 [some (.ref 0), some (.int a1), some (.int a2), some (.int a3), none, none] [] σ (fX7_covers a1 a2 a3 σ) := by
  unfold fX7_covers
  refine js_aload_n dX7_covers_0 rfl rfl ?_
  refine js_getR dX7_covers_1 fl_X7_10 rfl rfl ?_
  refine js_iload_n dX7_covers_4 rfl rfl ?_
  refine js_callV_I (mj := mX3_hasFlue) [(.int a1)] [] dX7_covers_5 tw_231 cm_X3_hasFlue cv_X3_hasFlue rfl rfl rfl rfl rfl rfl (fun r h => qX3_hasFlue G a1 σ r h) (fun r1 => ?_)
  refine js_if_eq 25 dX7_covers_8 rfl ?_ ?_
  · refine js_aload_n dX7_covers_25 rfl rfl ?_
    refine js_ldc dX7_covers_26 tw_217 ?_
    refine js_callV_W (mj := mX7_found) [(.int (-1000000001 : Int32))] [] dX7_covers_28 tw_218 cm_X7_found cv_X7_found rfl rfl rfl rfl rfl rfl (fun r h => qX7_found G (-1000000001 : Int32) σ r h) (fun r2 => ?_)
    exact js_iret dX7_covers_31 rfl rfl
  · refine js_iload_n dX7_covers_11 rfl rfl ?_
    refine js_callS_P (mj := mX7_isWord) [(.int a2)] [] dX7_covers_12 tw_331 cm_X7_isWord tw_332 rfl rfl rfl rfl (qX7_isWord G a2 σ) ?_
    refine js_if_eq 25 dX7_covers_15 rfl ?_ ?_
    · refine js_aload_n dX7_covers_25 rfl rfl ?_
      refine js_ldc dX7_covers_26 tw_217 ?_
      refine js_callV_W (mj := mX7_found) [(.int (-1000000001 : Int32))] [] dX7_covers_28 tw_218 cm_X7_found cv_X7_found rfl rfl rfl rfl rfl rfl (fun r h => qX7_found G (-1000000001 : Int32) σ r h) (fun r3 => ?_)
      exact js_iret dX7_covers_31 rfl rfl
    · refine js_iload_n dX7_covers_18 rfl rfl ?_
      refine js_callS_P (mj := mX7_isWord) [(.int a3)] [] dX7_covers_19 tw_331 cm_X7_isWord tw_332 rfl rfl rfl rfl (qX7_isWord G a3 σ) ?_
      refine js_if_ne 32 dX7_covers_22 rfl ?_ ?_
      · refine js_aload_n dX7_covers_32 rfl rfl ?_
        refine js_getR dX7_covers_33 fl_X7_10 rfl rfl ?_
        refine js_iload_n dX7_covers_36 rfl rfl ?_
        refine js_iload_n dX7_covers_37 rfl rfl ?_
        refine js_callV_I (mj := mX3_lowestWith) [(.int a1), (.int a3)] [] dX7_covers_38 tw_501 cm_X3_lowestWith cv_X3_lowestWith rfl rfl rfl rfl rfl rfl (fun r h => qX3_lowestWith G a1 a3 σ r h) (fun r4 => ?_)
        refine js_istore (lv' := [some (.ref 0), some (.int a1), some (.int a2), some (.int a3), some (.int r4), none]) dX7_covers_41 rfl rfl rfl ?_
        refine js_iload dX7_covers_43 rfl ?_
        refine js_iconst dX7_covers_45 ki_m1 ?_
        refine js_icmp_ne 56 dX7_covers_46 rfl ?_ ?_
        · refine js_iconst dX7_covers_56 ki_0 ?_
          refine js_istore (lv' := [some (.ref 0), some (.int a1), some (.int a2), some (.int a3), some (.int r4), some (.int (0 : Int32))]) dX7_covers_57 rfl rfl rfl ?_
          refine js_drop [true, true, true, false, true, true] (lv2 := [some (.ref 0), some (.int a1), some (.int a2), none, some (.int r4), some (.int (0 : Int32))]) rfl ?_
          exact jX7_covers_L59 G a1 a2 r4  _ (0 : Int32) σ
        · refine js_aload_n dX7_covers_49 rfl rfl ?_
          refine js_ldc dX7_covers_50 tw_295 ?_
          refine js_callV_W (mj := mX7_found) [(.int (-1000000004 : Int32))] [] dX7_covers_52 tw_218 cm_X7_found cv_X7_found rfl rfl rfl rfl rfl rfl (fun r h => qX7_found G (-1000000004 : Int32) σ r h) (fun r7 => ?_)
          exact js_iret dX7_covers_55 rfl rfl
      · refine js_aload_n dX7_covers_25 rfl rfl ?_
        refine js_ldc dX7_covers_26 tw_217 ?_
        refine js_callV_W (mj := mX7_found) [(.int (-1000000001 : Int32))] [] dX7_covers_28 tw_218 cm_X7_found cv_X7_found rfl rfl rfl rfl rfl rfl (fun r h => qX7_found G (-1000000001 : Int32) σ r h) (fun r8 => ?_)
        exact js_iret dX7_covers_31 rfl rfl

theorem qX7_covers (G : js_G) (a1 : Int32) (a2 : Int32) (a3 : Int32) (σ : js_S) (r : (Int32 × js_S)) (h : fX7_covers a1 a2 a3 σ = some r) : js_Con G shC mX7_covers [(.ref 0), (.int a1), (.int a2), (.int a3)] σ (js_eW r) := js_con (mi := mX7_covers) 2 pn_X7 rfl (Nat.le_of_ble_eq_true rfl) (jX7_covers G a1 a2 a3 σ) r h
def fX1_settle_i1_L8 (p0 : Int32) (p3 : Int32) (σ : js_S) : Nat → Int32 → Option Int32
  | 0, _ => none
  | n + 1, v4 => (if v4 < 0 then some (-1 : Int32) else (if (p3 + v4) < 0 then fX1_settle_i1_L8 p0 p3 σ n (v4 + (-1 : Int32)) else (if (8 : Int32) ≤ (p3 + v4) then fX1_settle_i1_L8 p0 p3 σ n (v4 + (-1 : Int32)) else js_gd (js_ix (p3 + v4) 8) ((if (fX1_holds p0 v4) ≤ (σ.1 14 (Int32.toNatClampNeg (p3 + v4))) then fX1_settle_i1_L8 p0 p3 σ n (v4 + (-1 : Int32)) else some v4)))))
set_option maxRecDepth 10000 in
theorem jX1_settle_i1_L8 (G : js_G) (p0 : Int32) (p3 : Int32) (σ : js_S) : ∀ (n : Nat) (v4 : Int32), js_J G shC mX1_settle (js_eI σ) 8 [some (.int p0), none, some (.ref 14), some (.int p3), some (.int v4), none] [] σ (fX1_settle_i1_L8 p0 p3 σ n v4) := by
  intro n
  induction n with
  | zero =>
    intros
    exact js_none
  | succ n ih1 =>
    intro v4
    rw [fX1_settle_i1_L8]
    refine js_iload dX1_settle_8 rfl ?_
    refine js_if_lt 53 dX1_settle_10 rfl ?_ ?_
    · refine js_iconst dX1_settle_53 ki_m1 ?_
      exact js_iret dX1_settle_54 rfl rfl
    · refine js_iload_n dX1_settle_13 rfl rfl ?_
      refine js_iload dX1_settle_14 rfl ?_
      refine js_iadd dX1_settle_16 ?_
      refine js_istore (lv' := [some (.int p0), none, some (.ref 14), some (.int p3), some (.int v4), some (.int (p3 + v4))]) dX1_settle_17 rfl rfl rfl ?_
      refine js_iload dX1_settle_19 rfl ?_
      refine js_if_lt 47 dX1_settle_21 rfl ?_ ?_
      · refine js_iinc (v := (v4 + (-1 : Int32))) (lv' := [some (.int p0), none, some (.ref 14), some (.int p3), some (.int (v4 + (-1 : Int32))), some (.int (p3 + v4))]) dX1_settle_47 rfl (kx_m1 _) rfl rfl rfl ?_
        refine js_goto 8 dX1_settle_50 rfl ?_
        refine js_drop [true, false, true, true, true, false] (lv2 := [some (.int p0), none, some (.ref 14), some (.int p3), some (.int (v4 + (-1 : Int32))), none]) rfl ?_
        exact ih1 (v4 + (-1 : Int32))
      · refine js_iload dX1_settle_24 rfl ?_
        refine js_aload_n dX1_settle_26 rfl rfl ?_
        refine js_alen (v := (8 : Int32)) dX1_settle_27 rfl rfl ?_
        refine js_icmp_ge 47 dX1_settle_28 rfl ?_ ?_
        · refine js_iinc (v := (v4 + (-1 : Int32))) (lv' := [some (.int p0), none, some (.ref 14), some (.int p3), some (.int (v4 + (-1 : Int32))), some (.int (p3 + v4))]) dX1_settle_47 rfl (kx_m1 _) rfl rfl rfl ?_
          refine js_goto 8 dX1_settle_50 rfl ?_
          refine js_drop [true, false, true, true, true, false] (lv2 := [some (.int p0), none, some (.ref 14), some (.int p3), some (.int (v4 + (-1 : Int32))), none]) rfl ?_
          exact ih1 (v4 + (-1 : Int32))
        · refine js_aload_n dX1_settle_31 rfl rfl ?_
          refine js_iload dX1_settle_32 rfl ?_
          refine js_iald dX1_settle_34 rfl ?_
          refine js_iload_n dX1_settle_35 rfl rfl ?_
          refine js_iload dX1_settle_36 rfl ?_
          refine js_callS_P (mj := mX1_holds) [(.int p0), (.int v4)] [(.int (σ.1 14 (Int32.toNatClampNeg (p3 + v4))))] dX1_settle_38 tw_360 cm_X1_holds tw_284 rfl rfl rfl rfl (qX1_holds G p0 v4 σ) ?_
          refine js_icmp_ge 47 dX1_settle_41 rfl ?_ ?_
          · refine js_iinc (v := (v4 + (-1 : Int32))) (lv' := [some (.int p0), none, some (.ref 14), some (.int p3), some (.int (v4 + (-1 : Int32))), some (.int (p3 + v4))]) dX1_settle_47 rfl (kx_m1 _) rfl rfl rfl ?_
            refine js_goto 8 dX1_settle_50 rfl ?_
            refine js_drop [true, false, true, true, true, false] (lv2 := [some (.int p0), none, some (.ref 14), some (.int p3), some (.int (v4 + (-1 : Int32))), none]) rfl ?_
            exact ih1 (v4 + (-1 : Int32))
          · refine js_iload dX1_settle_44 rfl ?_
            exact js_iret dX1_settle_46 rfl rfl

def fX1_settle_i1 (a0 : Int32) (a1 : Int32) (a3 : Int32) (σ : js_S) : Option Int32 := fX1_settle_i1_L8 a0 a3 σ js_FU (if (7 : Int32) < a1 then (7 : Int32) else a1)
set_option maxRecDepth 10000 in
theorem jX1_settle_i1 (G : js_G) (a0 : Int32) (a1 : Int32) (a3 : Int32) (σ : js_S) : js_J G shC mX1_settle (js_eI σ) 0 [some (.int a0), some (.int a1), some (.ref 14), some (.int a3), none, none] [] σ (fX1_settle_i1 a0 a1 a3 σ) := by
  unfold fX1_settle_i1
  refine js_iload_n dX1_settle_0 rfl rfl ?_
  refine js_bipush dX1_settle_1 kb_7 ?_
  refine js_min dX1_settle_3 tw_340 mm_min rfl rfl ?_
  refine js_istore (lv' := [some (.int a0), some (.int a1), some (.ref 14), some (.int a3), some (.int (if (7 : Int32) < a1 then (7 : Int32) else a1)), none]) dX1_settle_6 rfl rfl rfl ?_
  refine js_drop [true, false, true, true, true, false] (lv2 := [some (.int a0), none, some (.ref 14), some (.int a3), some (.int (if (7 : Int32) < a1 then (7 : Int32) else a1)), none]) rfl ?_
  exact jX1_settle_i1_L8 G a0 a3 σ  _ (if (7 : Int32) < a1 then (7 : Int32) else a1)

theorem qX1_settle_i1 (G : js_G) (a0 : Int32) (a1 : Int32) (a3 : Int32) (σ : js_S) (r : Int32) (h : fX1_settle_i1 a0 a1 a3 σ = some r) : js_Con G shC mX1_settle [(.int a0), (.int a1), (.ref 14), (.int a3)] σ ((js_eI σ) r) := js_con (mi := mX1_settle) 2 pn_X1 rfl (Nat.le_of_ble_eq_true rfl) (jX1_settle_i1 G a0 a1 a3 σ) r h
def fX6_settleOne (a1 : Int32) (a2 : Int32) (σ : js_S) : Option js_S := (fX1_settle_i1 a1 a2 (0 : Int32) σ).bind fun r1 => (if (fX7_isBend r1) = 0 then some (js_sI σ 13 1 ((σ.1 13 1) + r1)) else js_gd (js_ix r1 8) (js_gd (js_ix r1 8) (some (js_sI (js_sI (js_sI σ 13 1 ((σ.1 13 1) + r1)) 14 (Int32.toNatClampNeg r1) (((js_sI σ 13 1 ((σ.1 13 1) + r1)).1 14 (Int32.toNatClampNeg r1)) + (1 : Int32))) 13 0 (((js_sI (js_sI σ 13 1 ((σ.1 13 1) + r1)) 14 (Int32.toNatClampNeg r1) (((js_sI σ 13 1 ((σ.1 13 1) + r1)).1 14 (Int32.toNatClampNeg r1)) + (1 : Int32))).1 13 0) + (1 : Int32))))))
set_option maxRecDepth 10000 in
theorem jX6_settleOne (G : js_G) (a1 : Int32) (a2 : Int32) (σ : js_S) : js_J G shC mX6_settleOne js_eV 0 [some (.ref 13), some (.int a1), some (.int a2), none] [] σ (fX6_settleOne a1 a2 σ) := by
  unfold fX6_settleOne
  refine js_iload_n dX6_settleOne_0 rfl rfl ?_
  refine js_iload_n dX6_settleOne_1 rfl rfl ?_
  refine js_aload_n dX6_settleOne_2 rfl rfl ?_
  refine js_getR dX6_settleOne_3 fl_X6_18 rfl rfl ?_
  refine js_iconst dX6_settleOne_6 ki_0 ?_
  refine js_callS_I (mj := mX1_settle) [(.int a1), (.int a2), (.ref 14), (.int (0 : Int32))] [] dX6_settleOne_7 tw_522 cm_X1_settle tw_358 rfl rfl rfl rfl (fun r h => qX1_settle_i1 G a1 a2 (0 : Int32) σ r h) (fun r1 => ?_)
  refine js_istore_n (lv' := [some (.ref 13), some (.int a1), some (.int a2), some (.int r1)]) dX6_settleOne_10 rfl rfl rfl rfl ?_
  refine js_aload_n dX6_settleOne_11 rfl rfl ?_
  refine js_dup dX6_settleOne_12 rfl ?_
  refine js_getI dX6_settleOne_13 fl_X6_15 rfl rfl ?_
  refine js_iload_n dX6_settleOne_16 rfl rfl ?_
  refine js_iadd dX6_settleOne_17 ?_
  refine js_putI dX6_settleOne_18 fp_X6_15 rfl rfl rfl rfl ?_
  refine js_iload_n dX6_settleOne_21 rfl rfl ?_
  refine js_callN_P (host := RX7) (mj := mX7_isBend) [(.int r1)] [] dX6_settleOne_22 (List.mem_of_getElem? (i := 3) rfl) cm_X7_isBend tw_249 rfl rfl rfl rfl (qX7_isBend G r1 (js_sI σ 13 1 ((σ.1 13 1) + r1))) ?_
  refine js_if_ne 29 dX6_settleOne_25 rfl ?_ ?_
  · refine js_aload_n dX6_settleOne_29 rfl rfl ?_
    refine js_getR dX6_settleOne_30 fl_X6_18 rfl rfl ?_
    refine js_iload_n dX6_settleOne_33 rfl rfl ?_
    refine js_dup2 dX6_settleOne_34 rfl rfl ?_
    refine js_iald dX6_settleOne_35 rfl ?_
    refine js_iconst dX6_settleOne_36 ki_1 ?_
    refine js_iadd dX6_settleOne_37 ?_
    refine js_iast dX6_settleOne_38 rfl ?_
    refine js_aload_n dX6_settleOne_39 rfl rfl ?_
    refine js_dup dX6_settleOne_40 rfl ?_
    refine js_getI dX6_settleOne_41 fl_X6_9 rfl rfl ?_
    refine js_iconst dX6_settleOne_44 ki_1 ?_
    refine js_iadd dX6_settleOne_45 ?_
    refine js_putI dX6_settleOne_46 fp_X6_9 rfl rfl rfl rfl ?_
    exact js_vret dX6_settleOne_49 rfl rfl
  · exact js_vret dX6_settleOne_28 rfl rfl

theorem qX6_settleOne (G : js_G) (a1 : Int32) (a2 : Int32) (σ : js_S) (r : js_S) (h : fX6_settleOne a1 a2 σ = some r) : js_Con G shC mX6_settleOne [(.ref 13), (.int a1), (.int a2)] σ (js_eV r) := js_con (mi := mX6_settleOne) 1 pn_X6 rfl (Nat.le_of_ble_eq_true rfl) (jX6_settleOne G a1 a2 σ) r h
def fX6_speakAll_L13 (k40 : js_S → Option js_S) (p2 : Int32) (p3 : Int32) (p4 : Int32) (p5 : Int32) : Nat → Int32 → js_S → Option js_S
  | 0, _, _ => none
  | n + 1, v6, σ => (if (8 : Int32) ≤ v6 then k40 σ else (fX3_height p2 v6 σ).bind fun r1 => js_gd (js_ix v6 8) (fX6_speakAll_L13 k40 p2 p3 p4 p5 n (v6 + (1 : Int32)) (js_sI σ 14 (Int32.toNatClampNeg v6) r1)))
set_option maxRecDepth 10000 in
theorem jX6_speakAll_L13 (G : js_G) (k40 : js_S → Option js_S) (p2 : Int32) (p3 : Int32) (p4 : Int32) (p5 : Int32) (hk40 : ∀  (σ : js_S), js_J G shC mX6_speakAll js_eV 40 [some (.ref 13), some (.ref 1), none, some (.int p3), some (.int p4), some (.int p5), none] [] σ (k40 σ)) : ∀ (n : Nat) (v6 : Int32) (σ : js_S), js_J G shC mX6_speakAll js_eV 13 [some (.ref 13), some (.ref 1), some (.int p2), some (.int p3), some (.int p4), some (.int p5), some (.int v6)] [] σ (fX6_speakAll_L13 k40 p2 p3 p4 p5 n v6 σ) := by
  intro n
  induction n with
  | zero =>
    intros
    exact js_none
  | succ n ih1 =>
    intro v6 σ
    rw [fX6_speakAll_L13]
    refine js_iload dX6_speakAll_13 rfl ?_
    refine js_bipush dX6_speakAll_15 kb_8 ?_
    refine js_icmp_ge 40 dX6_speakAll_17 rfl ?_ ?_
    · refine js_drop [true, true, false, true, true, true, false] (lv2 := [some (.ref 13), some (.ref 1), none, some (.int p3), some (.int p4), some (.int p5), none]) rfl ?_
      exact hk40 σ
    · refine js_aload_n dX6_speakAll_20 rfl rfl ?_
      refine js_getR dX6_speakAll_21 fl_X6_18 rfl rfl ?_
      refine js_iload dX6_speakAll_24 rfl ?_
      refine js_aload_n dX6_speakAll_26 rfl rfl ?_
      refine js_iload_n dX6_speakAll_27 rfl rfl ?_
      refine js_iload dX6_speakAll_28 rfl ?_
      refine js_callV_I (mj := mX3_height) [(.int p2), (.int v6)] [(.int v6), (.ref 14)] dX6_speakAll_30 tw_515 cm_X3_height cv_X3_height rfl rfl rfl rfl rfl rfl (fun r h => qX3_height G p2 v6 σ r h) (fun r1 => ?_)
      refine js_iast dX6_speakAll_33 rfl ?_
      refine js_iinc (v := (v6 + (1 : Int32))) (lv' := [some (.ref 13), some (.ref 1), some (.int p2), some (.int p3), some (.int p4), some (.int p5), some (.int (v6 + (1 : Int32)))]) dX6_speakAll_34 rfl (kx_1 _) rfl rfl rfl ?_
      refine js_goto 13 dX6_speakAll_37 rfl ?_
      exact ih1 (v6 + (1 : Int32)) (js_sI σ 14 (Int32.toNatClampNeg v6) r1)

def fX6_speakAll_L43 (p3 : Int32) (p4 : Int32) (p5 : Int32) : Nat → Int32 → js_S → Option js_S
  | 0, _, _ => none
  | n + 1, v6, σ => (if (16 : Int32) ≤ v6 then some σ else (if (fX7_hasBit p4 v6) = 0 then fX6_speakAll_L43 p3 p4 p5 n (v6 + (1 : Int32)) σ else (fX6_settleOne p3 (fX1_rise p3 v6 p5 (σ.1 1 0)) σ).bind fun r3 => fX6_speakAll_L43 p3 p4 p5 n (v6 + (1 : Int32)) r3))
set_option maxRecDepth 10000 in
theorem jX6_speakAll_L43 (G : js_G) (p3 : Int32) (p4 : Int32) (p5 : Int32) : ∀ (n : Nat) (v6 : Int32) (σ : js_S), js_J G shC mX6_speakAll js_eV 43 [some (.ref 13), some (.ref 1), none, some (.int p3), some (.int p4), some (.int p5), some (.int v6)] [] σ (fX6_speakAll_L43 p3 p4 p5 n v6 σ) := by
  intro n
  induction n with
  | zero =>
    intros
    exact js_none
  | succ n ih2 =>
    intro v6 σ
    rw [fX6_speakAll_L43]
    refine js_iload dX6_speakAll_43 rfl ?_
    refine js_bipush dX6_speakAll_45 kb_16 ?_
    refine js_icmp_ge 83 dX6_speakAll_47 rfl ?_ ?_
    · exact js_vret dX6_speakAll_83 rfl rfl
    · refine js_iload dX6_speakAll_50 rfl ?_
      refine js_iload dX6_speakAll_52 rfl ?_
      refine js_callN_P (host := RX7) (mj := mX7_hasBit) [(.int p4), (.int v6)] [] dX6_speakAll_54 (List.mem_of_getElem? (i := 2) rfl) cm_X7_hasBit tw_487 rfl rfl rfl rfl (qX7_hasBit G p4 v6 σ) ?_
      refine js_if_eq 77 dX6_speakAll_57 rfl ?_ ?_
      · refine js_iinc (v := (v6 + (1 : Int32))) (lv' := [some (.ref 13), some (.ref 1), none, some (.int p3), some (.int p4), some (.int p5), some (.int (v6 + (1 : Int32)))]) dX6_speakAll_77 rfl (kx_1 _) rfl rfl rfl ?_
        refine js_goto 43 dX6_speakAll_80 rfl ?_
        exact ih2 (v6 + (1 : Int32)) σ
      · refine js_aload_n dX6_speakAll_60 rfl rfl ?_
        refine js_iload_n dX6_speakAll_61 rfl rfl ?_
        refine js_iload_n dX6_speakAll_62 rfl rfl ?_
        refine js_iload dX6_speakAll_63 rfl ?_
        refine js_iload dX6_speakAll_65 rfl ?_
        refine js_aload_n dX6_speakAll_67 rfl rfl ?_
        refine js_getI dX6_speakAll_68 fl_X6_32 rfl rfl ?_
        refine js_callS_P (mj := mX1_rise) [(.int p3), (.int v6), (.int p5), (.int (σ.1 1 0))] [(.int p3), (.ref 13)] dX6_speakAll_71 tw_517 cm_X1_rise tw_338 rfl rfl rfl rfl (qX1_rise G p3 v6 p5 (σ.1 1 0) σ) ?_
        refine js_callV_V (mj := mX6_settleOne) [(.int p3), (.int (fX1_rise p3 v6 p5 (σ.1 1 0)))] [] dX6_speakAll_74 tw_518 cm_X6_settleOne cv_X6_settleOne rfl rfl rfl rfl rfl rfl (fun r h => qX6_settleOne G p3 (fX1_rise p3 v6 p5 (σ.1 1 0)) σ r h) (fun r3 => ?_)
        refine js_iinc (v := (v6 + (1 : Int32))) (lv' := [some (.ref 13), some (.ref 1), none, some (.int p3), some (.int p4), some (.int p5), some (.int (v6 + (1 : Int32)))]) dX6_speakAll_77 rfl (kx_1 _) rfl rfl rfl ?_
        refine js_goto 43 dX6_speakAll_80 rfl ?_
        exact ih2 (v6 + (1 : Int32)) r3

def fX6_speakAll (a2 : Int32) (a3 : Int32) (a4 : Int32) (a5 : Int32) (σ : js_S) : Option js_S := fX6_speakAll_L13 (fun s2 => fX6_speakAll_L43 a3 a4 a5 js_FU (0 : Int32) s2) a2 a3 a4 a5 js_FU (0 : Int32) (js_sI (js_sI σ 13 0 (0 : Int32)) 13 1 (0 : Int32))
set_option maxRecDepth 10000 in
theorem jX6_speakAll (G : js_G) (a2 : Int32) (a3 : Int32) (a4 : Int32) (a5 : Int32) (σ : js_S) : js_J G shC mX6_speakAll js_eV 0 [some (.ref 13), some (.ref 1), some (.int a2), some (.int a3), some (.int a4), some (.int a5), none] [] σ (fX6_speakAll a2 a3 a4 a5 σ) := by
  unfold fX6_speakAll
  refine js_aload_n dX6_speakAll_0 rfl rfl ?_
  refine js_iconst dX6_speakAll_1 ki_0 ?_
  refine js_putI dX6_speakAll_2 fp_X6_9 rfl rfl rfl rfl ?_
  refine js_aload_n dX6_speakAll_5 rfl rfl ?_
  refine js_iconst dX6_speakAll_6 ki_0 ?_
  refine js_putI dX6_speakAll_7 fp_X6_15 rfl rfl rfl rfl ?_
  refine js_iconst dX6_speakAll_10 ki_0 ?_
  refine js_istore (lv' := [some (.ref 13), some (.ref 1), some (.int a2), some (.int a3), some (.int a4), some (.int a5), some (.int (0 : Int32))]) dX6_speakAll_11 rfl rfl rfl ?_
  refine jX6_speakAll_L13 G _ a2 a3 a4 a5 (fun s2 => ?_) _ (0 : Int32) (js_sI (js_sI σ 13 0 (0 : Int32)) 13 1 (0 : Int32))
  refine js_iconst dX6_speakAll_40 ki_0 ?_
  refine js_istore (lv' := [some (.ref 13), some (.ref 1), none, some (.int a3), some (.int a4), some (.int a5), some (.int (0 : Int32))]) dX6_speakAll_41 rfl rfl rfl ?_
  exact jX6_speakAll_L43 G a3 a4 a5  _ (0 : Int32) s2

theorem qX6_speakAll (G : js_G) (a2 : Int32) (a3 : Int32) (a4 : Int32) (a5 : Int32) (σ : js_S) (r : js_S) (h : fX6_speakAll a2 a3 a4 a5 σ = some r) : js_Con G shC mX6_speakAll [(.ref 13), (.ref 1), (.int a2), (.int a3), (.int a4), (.int a5)] σ (js_eV r) := js_con (mi := mX6_speakAll) 1 pn_X6 rfl (Nat.le_of_ble_eq_true rfl) (jX6_speakAll G a2 a3 a4 a5 σ) r h
def fX7_kind_L41 (p1 : Int32) (p2 : Int32) (p3 : Int32) : Nat → Int32 → Int32 → Int32 → js_S → Option (Int32 × js_S)
  | 0, _, _, _, _ => none
  | n + 1, v4, v5, v6, σ => (if (6 : Int32) ≤ v6 then some (v4, σ) else (fX6_speakAll p1 v6 p2 p3 σ).bind fun r4 => (if (r4.1 13 0) ≤ v5 then fX7_kind_L41 p1 p2 p3 n v4 v5 (v6 + (1 : Int32)) r4 else fX7_kind_L41 p1 p2 p3 n v6 (r4.1 13 0) (v6 + (1 : Int32)) r4))
set_option maxRecDepth 10000 in
theorem jX7_kind_L41 (G : js_G) (p1 : Int32) (p2 : Int32) (p3 : Int32) : ∀ (n : Nat) (v4 : Int32) (v5 : Int32) (v6 : Int32) (σ : js_S), js_J G shC mX7_kind js_eW 41 [some (.ref 0), some (.int p1), some (.int p2), some (.int p3), some (.int v4), some (.int v5), some (.int v6)] [] σ (fX7_kind_L41 p1 p2 p3 n v4 v5 v6 σ) := by
  intro n
  induction n with
  | zero =>
    intros
    exact js_none
  | succ n ih1 =>
    intro v4 v5 v6 σ
    rw [fX7_kind_L41]
    refine js_iload dX7_kind_41 rfl ?_
    refine js_bipush dX7_kind_43 kb_6 ?_
    refine js_icmp_ge 95 dX7_kind_45 rfl ?_ ?_
    · refine js_iload dX7_kind_95 rfl ?_
      exact js_iret dX7_kind_97 rfl rfl
    · refine js_aload_n dX7_kind_48 rfl rfl ?_
      refine js_getR dX7_kind_49 fl_X7_33 rfl rfl ?_
      refine js_aload_n dX7_kind_52 rfl rfl ?_
      refine js_getR dX7_kind_53 fl_X7_10 rfl rfl ?_
      refine js_iload_n dX7_kind_56 rfl rfl ?_
      refine js_iload dX7_kind_57 rfl ?_
      refine js_iload_n dX7_kind_59 rfl rfl ?_
      refine js_iload_n dX7_kind_60 rfl rfl ?_
      refine js_callV_V (mj := mX6_speakAll) [(.ref 1), (.int p1), (.int v6), (.int p2), (.int p3)] [] dX7_kind_61 tw_511 cm_X6_speakAll cv_X6_speakAll rfl rfl rfl rfl rfl rfl (fun r h => qX6_speakAll G p1 v6 p2 p3 σ r h) (fun r4 => ?_)
      refine js_aload_n dX7_kind_64 rfl rfl ?_
      refine js_getR dX7_kind_65 fl_X7_33 rfl rfl ?_
      refine js_getI dX7_kind_68 fl_X7_225 rfl rfl ?_
      refine js_iload dX7_kind_71 rfl ?_
      refine js_icmp_le 89 dX7_kind_73 rfl ?_ ?_
      · refine js_iinc (v := (v6 + (1 : Int32))) (lv' := [some (.ref 0), some (.int p1), some (.int p2), some (.int p3), some (.int v4), some (.int v5), some (.int (v6 + (1 : Int32)))]) dX7_kind_89 rfl (kx_1 _) rfl rfl rfl ?_
        refine js_goto 41 dX7_kind_92 rfl ?_
        exact ih1 v4 v5 (v6 + (1 : Int32)) r4
      · refine js_aload_n dX7_kind_76 rfl rfl ?_
        refine js_getR dX7_kind_77 fl_X7_33 rfl rfl ?_
        refine js_getI dX7_kind_80 fl_X7_225 rfl rfl ?_
        refine js_istore (lv' := [some (.ref 0), some (.int p1), some (.int p2), some (.int p3), some (.int v4), some (.int (r4.1 13 0)), some (.int v6)]) dX7_kind_83 rfl rfl rfl ?_
        refine js_iload dX7_kind_85 rfl ?_
        refine js_istore (lv' := [some (.ref 0), some (.int p1), some (.int p2), some (.int p3), some (.int v6), some (.int (r4.1 13 0)), some (.int v6)]) dX7_kind_87 rfl rfl rfl ?_
        refine js_iinc (v := (v6 + (1 : Int32))) (lv' := [some (.ref 0), some (.int p1), some (.int p2), some (.int p3), some (.int v6), some (.int (r4.1 13 0)), some (.int (v6 + (1 : Int32)))]) dX7_kind_89 rfl (kx_1 _) rfl rfl rfl ?_
        refine js_goto 41 dX7_kind_92 rfl ?_
        exact ih1 v6 (r4.1 13 0) (v6 + (1 : Int32)) r4

def fX7_kind (a1 : Int32) (a2 : Int32) (a3 : Int32) (σ : js_S) : Option (Int32 × js_S) := (fX3_hasFlue a1 σ).bind fun r1 => (if r1 = 0 then (fX7_found (-1000000001 : Int32) σ).bind fun r2 => some (r2.1, r2.2) else (if (fX7_isSet a2) = 0 then (fX7_found (-1000000001 : Int32) σ).bind fun r3 => some (r3.1, r3.2) else (if (fX7_isVoice a3) = 0 then (fX7_found (-1000000001 : Int32) σ).bind fun r5 => some (r5.1, r5.2) else fX7_kind_L41 a1 a2 a3 js_FU (0 : Int32) (-1 : Int32) (0 : Int32) σ)))
set_option maxRecDepth 10000 in
theorem jX7_kind (G : js_G) (a1 : Int32) (a2 : Int32) (a3 : Int32) (σ : js_S) : js_J G shC mX7_kind js_eW 0 [some (.ref 0), some (.int a1), some (.int a2), some (.int a3), none, none, none] [] σ (fX7_kind a1 a2 a3 σ) := by
  unfold fX7_kind
  refine js_aload_n dX7_kind_0 rfl rfl ?_
  refine js_getR dX7_kind_1 fl_X7_10 rfl rfl ?_
  refine js_iload_n dX7_kind_4 rfl rfl ?_
  refine js_callV_I (mj := mX3_hasFlue) [(.int a1)] [] dX7_kind_5 tw_231 cm_X3_hasFlue cv_X3_hasFlue rfl rfl rfl rfl rfl rfl (fun r h => qX3_hasFlue G a1 σ r h) (fun r1 => ?_)
  refine js_if_eq 25 dX7_kind_8 rfl ?_ ?_
  · refine js_aload_n dX7_kind_25 rfl rfl ?_
    refine js_ldc dX7_kind_26 tw_217 ?_
    refine js_callV_W (mj := mX7_found) [(.int (-1000000001 : Int32))] [] dX7_kind_28 tw_218 cm_X7_found cv_X7_found rfl rfl rfl rfl rfl rfl (fun r h => qX7_found G (-1000000001 : Int32) σ r h) (fun r2 => ?_)
    exact js_iret dX7_kind_31 rfl rfl
  · refine js_iload_n dX7_kind_11 rfl rfl ?_
    refine js_callS_P (mj := mX7_isSet) [(.int a2)] [] dX7_kind_12 tw_456 cm_X7_isSet tw_457 rfl rfl rfl rfl (qX7_isSet G a2 σ) ?_
    refine js_if_eq 25 dX7_kind_15 rfl ?_ ?_
    · refine js_aload_n dX7_kind_25 rfl rfl ?_
      refine js_ldc dX7_kind_26 tw_217 ?_
      refine js_callV_W (mj := mX7_found) [(.int (-1000000001 : Int32))] [] dX7_kind_28 tw_218 cm_X7_found cv_X7_found rfl rfl rfl rfl rfl rfl (fun r h => qX7_found G (-1000000001 : Int32) σ r h) (fun r3 => ?_)
      exact js_iret dX7_kind_31 rfl rfl
    · refine js_iload_n dX7_kind_18 rfl rfl ?_
      refine js_callS_P (mj := mX7_isVoice) [(.int a3)] [] dX7_kind_19 tw_334 cm_X7_isVoice tw_335 rfl rfl rfl rfl (qX7_isVoice G a3 σ) ?_
      refine js_if_ne 32 dX7_kind_22 rfl ?_ ?_
      · refine js_iconst dX7_kind_32 ki_0 ?_
        refine js_istore (lv' := [some (.ref 0), some (.int a1), some (.int a2), some (.int a3), some (.int (0 : Int32)), none, none]) dX7_kind_33 rfl rfl rfl ?_
        refine js_iconst dX7_kind_35 ki_m1 ?_
        refine js_istore (lv' := [some (.ref 0), some (.int a1), some (.int a2), some (.int a3), some (.int (0 : Int32)), some (.int (-1 : Int32)), none]) dX7_kind_36 rfl rfl rfl ?_
        refine js_iconst dX7_kind_38 ki_0 ?_
        refine js_istore (lv' := [some (.ref 0), some (.int a1), some (.int a2), some (.int a3), some (.int (0 : Int32)), some (.int (-1 : Int32)), some (.int (0 : Int32))]) dX7_kind_39 rfl rfl rfl ?_
        exact jX7_kind_L41 G a1 a2 a3  _ (0 : Int32) (-1 : Int32) (0 : Int32) σ
      · refine js_aload_n dX7_kind_25 rfl rfl ?_
        refine js_ldc dX7_kind_26 tw_217 ?_
        refine js_callV_W (mj := mX7_found) [(.int (-1000000001 : Int32))] [] dX7_kind_28 tw_218 cm_X7_found cv_X7_found rfl rfl rfl rfl rfl rfl (fun r h => qX7_found G (-1000000001 : Int32) σ r h) (fun r5 => ?_)
        exact js_iret dX7_kind_31 rfl rfl

theorem qX7_kind (G : js_G) (a1 : Int32) (a2 : Int32) (a3 : Int32) (σ : js_S) (r : (Int32 × js_S)) (h : fX7_kind a1 a2 a3 σ = some r) : js_Con G shC mX7_kind [(.ref 0), (.int a1), (.int a2), (.int a3)] σ (js_eW r) := js_con (mi := mX7_kind) 3 pn_X7 rfl (Nat.le_of_ble_eq_true rfl) (jX7_kind G a1 a2 a3 σ) r h
def fX7_best_L46 (p1 : Int32) (p2 : Int32) : Nat → Int32 → Int32 → Int32 → js_S → Option (Int32 × js_S)
  | 0, _, _, _, _ => none
  | n + 1, v3, v4, v5, σ => (if (σ.1 1 2) ≤ v5 then some (v3, σ) else (fX3_kindOf v5 σ).bind fun r2 => (fX6_speakAll v5 r2 p1 p2 σ).bind fun r3 => (if v5 = 0 then fX7_best_L46 p1 p2 n v5 (r3.1 13 1) (v5 + (1 : Int32)) r3 else (if (r3.1 13 1) ≤ v4 then fX7_best_L46 p1 p2 n v3 v4 (v5 + (1 : Int32)) r3 else fX7_best_L46 p1 p2 n v5 (r3.1 13 1) (v5 + (1 : Int32)) r3)))
set_option maxRecDepth 10000 in
theorem jX7_best_L46 (G : js_G) (p1 : Int32) (p2 : Int32) : ∀ (n : Nat) (v3 : Int32) (v4 : Int32) (v5 : Int32) (σ : js_S), js_J G shC mX7_best js_eW 46 [some (.ref 0), some (.int p1), some (.int p2), some (.int v3), some (.int v4), some (.int v5)] [] σ (fX7_best_L46 p1 p2 n v3 v4 v5 σ) := by
  intro n
  induction n with
  | zero =>
    intros
    exact js_none
  | succ n ih1 =>
    intro v3 v4 v5 σ
    rw [fX7_best_L46]
    refine js_iload dX7_best_46 rfl ?_
    refine js_aload_n dX7_best_48 rfl rfl ?_
    refine js_getR dX7_best_49 fl_X7_10 rfl rfl ?_
    refine js_getI dX7_best_52 fl_X7_74 rfl rfl ?_
    refine js_icmp_ge 117 dX7_best_55 rfl ?_ ?_
    · refine js_iload_n dX7_best_117 rfl rfl ?_
      exact js_iret dX7_best_118 rfl rfl
    · refine js_aload_n dX7_best_58 rfl rfl ?_
      refine js_getR dX7_best_59 fl_X7_33 rfl rfl ?_
      refine js_aload_n dX7_best_62 rfl rfl ?_
      refine js_getR dX7_best_63 fl_X7_10 rfl rfl ?_
      refine js_iload dX7_best_66 rfl ?_
      refine js_aload_n dX7_best_68 rfl rfl ?_
      refine js_getR dX7_best_69 fl_X7_10 rfl rfl ?_
      refine js_iload dX7_best_72 rfl ?_
      refine js_callV_I (mj := mX3_kindOf) [(.int v5)] [(.int v5), (.ref 1), (.ref 13)] dX7_best_74 tw_235 cm_X3_kindOf cv_X3_kindOf rfl rfl rfl rfl rfl rfl (fun r h => qX3_kindOf G v5 σ r h) (fun r2 => ?_)
      refine js_iload_n dX7_best_77 rfl rfl ?_
      refine js_iload_n dX7_best_78 rfl rfl ?_
      refine js_callV_V (mj := mX6_speakAll) [(.ref 1), (.int v5), (.int r2), (.int p1), (.int p2)] [] dX7_best_79 tw_511 cm_X6_speakAll cv_X6_speakAll rfl rfl rfl rfl rfl rfl (fun r h => qX6_speakAll G v5 r2 p1 p2 σ r h) (fun r3 => ?_)
      refine js_iload dX7_best_82 rfl ?_
      refine js_if_eq 99 dX7_best_84 rfl ?_ ?_
      · refine js_aload_n dX7_best_99 rfl rfl ?_
        refine js_getR dX7_best_100 fl_X7_33 rfl rfl ?_
        refine js_getI dX7_best_103 fl_X7_228 rfl rfl ?_
        refine js_istore (lv' := [some (.ref 0), some (.int p1), some (.int p2), some (.int v3), some (.int (r3.1 13 1)), some (.int v5)]) dX7_best_106 rfl rfl rfl ?_
        refine js_iload dX7_best_108 rfl ?_
        refine js_istore_n (lv' := [some (.ref 0), some (.int p1), some (.int p2), some (.int v5), some (.int (r3.1 13 1)), some (.int v5)]) dX7_best_110 rfl rfl rfl rfl ?_
        refine js_iinc (v := (v5 + (1 : Int32))) (lv' := [some (.ref 0), some (.int p1), some (.int p2), some (.int v5), some (.int (r3.1 13 1)), some (.int (v5 + (1 : Int32)))]) dX7_best_111 rfl (kx_1 _) rfl rfl rfl ?_
        refine js_goto 46 dX7_best_114 rfl ?_
        exact ih1 v5 (r3.1 13 1) (v5 + (1 : Int32)) r3
      · refine js_aload_n dX7_best_87 rfl rfl ?_
        refine js_getR dX7_best_88 fl_X7_33 rfl rfl ?_
        refine js_getI dX7_best_91 fl_X7_228 rfl rfl ?_
        refine js_iload dX7_best_94 rfl ?_
        refine js_icmp_le 111 dX7_best_96 rfl ?_ ?_
        · refine js_iinc (v := (v5 + (1 : Int32))) (lv' := [some (.ref 0), some (.int p1), some (.int p2), some (.int v3), some (.int v4), some (.int (v5 + (1 : Int32)))]) dX7_best_111 rfl (kx_1 _) rfl rfl rfl ?_
          refine js_goto 46 dX7_best_114 rfl ?_
          exact ih1 v3 v4 (v5 + (1 : Int32)) r3
        · refine js_aload_n dX7_best_99 rfl rfl ?_
          refine js_getR dX7_best_100 fl_X7_33 rfl rfl ?_
          refine js_getI dX7_best_103 fl_X7_228 rfl rfl ?_
          refine js_istore (lv' := [some (.ref 0), some (.int p1), some (.int p2), some (.int v3), some (.int (r3.1 13 1)), some (.int v5)]) dX7_best_106 rfl rfl rfl ?_
          refine js_iload dX7_best_108 rfl ?_
          refine js_istore_n (lv' := [some (.ref 0), some (.int p1), some (.int p2), some (.int v5), some (.int (r3.1 13 1)), some (.int v5)]) dX7_best_110 rfl rfl rfl rfl ?_
          refine js_iinc (v := (v5 + (1 : Int32))) (lv' := [some (.ref 0), some (.int p1), some (.int p2), some (.int v5), some (.int (r3.1 13 1)), some (.int (v5 + (1 : Int32)))]) dX7_best_111 rfl (kx_1 _) rfl rfl rfl ?_
          refine js_goto 46 dX7_best_114 rfl ?_
          exact ih1 v5 (r3.1 13 1) (v5 + (1 : Int32)) r3

def fX7_best (a1 : Int32) (a2 : Int32) (σ : js_S) : Option (Int32 × js_S) := (if (fX7_isSet a1) = 0 then (fX7_found (-1000000001 : Int32) σ).bind fun r1 => some (r1.1, r1.2) else (if (fX7_isVoice a2) = 0 then (fX7_found (-1000000001 : Int32) σ).bind fun r5 => some (r5.1, r5.2) else (if (σ.1 1 2) = 0 then (fX7_found (-1000000004 : Int32) σ).bind fun r4 => some (r4.1, r4.2) else fX7_best_L46 a1 a2 js_FU (0 : Int32) (0 : Int32) (0 : Int32) σ)))
set_option maxRecDepth 10000 in
theorem jX7_best (G : js_G) (a1 : Int32) (a2 : Int32) (σ : js_S) : js_J G shC mX7_best js_eW 0 [some (.ref 0), some (.int a1), some (.int a2), none, none, none] [] σ (fX7_best a1 a2 σ) := by
  unfold fX7_best
  refine js_iload_n dX7_best_0 rfl rfl ?_
  refine js_callS_P (mj := mX7_isSet) [(.int a1)] [] dX7_best_1 tw_456 cm_X7_isSet tw_457 rfl rfl rfl rfl (qX7_isSet G a1 σ) ?_
  refine js_if_eq 14 dX7_best_4 rfl ?_ ?_
  · refine js_aload_n dX7_best_14 rfl rfl ?_
    refine js_ldc dX7_best_15 tw_217 ?_
    refine js_callV_W (mj := mX7_found) [(.int (-1000000001 : Int32))] [] dX7_best_17 tw_218 cm_X7_found cv_X7_found rfl rfl rfl rfl rfl rfl (fun r h => qX7_found G (-1000000001 : Int32) σ r h) (fun r1 => ?_)
    exact js_iret dX7_best_20 rfl rfl
  · refine js_iload_n dX7_best_7 rfl rfl ?_
    refine js_callS_P (mj := mX7_isVoice) [(.int a2)] [] dX7_best_8 tw_334 cm_X7_isVoice tw_335 rfl rfl rfl rfl (qX7_isVoice G a2 σ) ?_
    refine js_if_ne 21 dX7_best_11 rfl ?_ ?_
    · refine js_aload_n dX7_best_21 rfl rfl ?_
      refine js_getR dX7_best_22 fl_X7_10 rfl rfl ?_
      refine js_getI dX7_best_25 fl_X7_74 rfl rfl ?_
      refine js_if_ne 38 dX7_best_28 rfl ?_ ?_
      · refine js_iconst dX7_best_38 ki_0 ?_
        refine js_istore_n (lv' := [some (.ref 0), some (.int a1), some (.int a2), some (.int (0 : Int32)), none, none]) dX7_best_39 rfl rfl rfl rfl ?_
        refine js_iconst dX7_best_40 ki_0 ?_
        refine js_istore (lv' := [some (.ref 0), some (.int a1), some (.int a2), some (.int (0 : Int32)), some (.int (0 : Int32)), none]) dX7_best_41 rfl rfl rfl ?_
        refine js_iconst dX7_best_43 ki_0 ?_
        refine js_istore (lv' := [some (.ref 0), some (.int a1), some (.int a2), some (.int (0 : Int32)), some (.int (0 : Int32)), some (.int (0 : Int32))]) dX7_best_44 rfl rfl rfl ?_
        exact jX7_best_L46 G a1 a2  _ (0 : Int32) (0 : Int32) (0 : Int32) σ
      · refine js_aload_n dX7_best_31 rfl rfl ?_
        refine js_ldc dX7_best_32 tw_295 ?_
        refine js_callV_W (mj := mX7_found) [(.int (-1000000004 : Int32))] [] dX7_best_34 tw_218 cm_X7_found cv_X7_found rfl rfl rfl rfl rfl rfl (fun r h => qX7_found G (-1000000004 : Int32) σ r h) (fun r4 => ?_)
        exact js_iret dX7_best_37 rfl rfl
    · refine js_aload_n dX7_best_14 rfl rfl ?_
      refine js_ldc dX7_best_15 tw_217 ?_
      refine js_callV_W (mj := mX7_found) [(.int (-1000000001 : Int32))] [] dX7_best_17 tw_218 cm_X7_found cv_X7_found rfl rfl rfl rfl rfl rfl (fun r h => qX7_found G (-1000000001 : Int32) σ r h) (fun r5 => ?_)
      exact js_iret dX7_best_20 rfl rfl

theorem qX7_best (G : js_G) (a1 : Int32) (a2 : Int32) (σ : js_S) (r : (Int32 × js_S)) (h : fX7_best a1 a2 σ = some r) : js_Con G shC mX7_best [(.ref 0), (.int a1), (.int a2)] σ (js_eW r) := js_con (mi := mX7_best) 3 pn_X7 rfl (Nat.le_of_ble_eq_true rfl) (jX7_best G a1 a2 σ) r h
def fX7_richest_L25 (p1 : Int32) : Nat → Int32 → Int32 → Int32 → js_S → Option (Int32 × js_S)
  | 0, _, _, _, _ => none
  | n + 1, v2, v3, v4, σ => (if (8 : Int32) ≤ v4 then (if v3 = 0 then (fX7_found (-1000000004 : Int32) σ).bind fun r2 => some (r2.1, r2.2) else some (v2, σ)) else (fX3_wordsOn p1 v4 σ).bind fun r3 => (if (fJ6_bitCount_0f7a4 r3) ≤ v3 then fX7_richest_L25 p1 n v2 v3 (v4 + (1 : Int32)) σ else fX7_richest_L25 p1 n v4 (fJ6_bitCount_0f7a4 r3) (v4 + (1 : Int32)) σ))
set_option maxRecDepth 10000 in
theorem jX7_richest_L25 (G : js_G) (p1 : Int32) : ∀ (n : Nat) (v2 : Int32) (v3 : Int32) (v4 : Int32) (σ : js_S), js_J G shC mX7_richest js_eW 25 [some (.ref 0), some (.int p1), some (.int v2), some (.int v3), some (.int v4), none] [] σ (fX7_richest_L25 p1 n v2 v3 v4 σ) := by
  intro n
  induction n with
  | zero =>
    intros
    exact js_none
  | succ n ih1 =>
    intro v2 v3 v4 σ
    rw [fX7_richest_L25]
    refine js_iload dX7_richest_25 rfl ?_
    refine js_bipush dX7_richest_27 kb_8 ?_
    refine js_icmp_ge 65 dX7_richest_29 rfl ?_ ?_
    · refine js_iload_n dX7_richest_65 rfl rfl ?_
      refine js_if_ne 78 dX7_richest_66 rfl ?_ ?_
      · refine js_iload_n dX7_richest_78 rfl rfl ?_
        exact js_iret dX7_richest_79 rfl rfl
      · refine js_aload_n dX7_richest_69 rfl rfl ?_
        refine js_ldc dX7_richest_70 tw_295 ?_
        refine js_callV_W (mj := mX7_found) [(.int (-1000000004 : Int32))] [] dX7_richest_72 tw_218 cm_X7_found cv_X7_found rfl rfl rfl rfl rfl rfl (fun r h => qX7_found G (-1000000004 : Int32) σ r h) (fun r2 => ?_)
        refine js_goto 79 dX7_richest_75 rfl ?_
        exact js_iret dX7_richest_79 rfl rfl
    · refine js_aload_n dX7_richest_32 rfl rfl ?_
      refine js_getR dX7_richest_33 fl_X7_10 rfl rfl ?_
      refine js_iload_n dX7_richest_36 rfl rfl ?_
      refine js_iload dX7_richest_37 rfl ?_
      refine js_callV_I (mj := mX3_wordsOn) [(.int p1), (.int v4)] [] dX7_richest_39 tw_286 cm_X3_wordsOn cv_X3_wordsOn rfl rfl rfl rfl rfl rfl (fun r h => qX3_wordsOn G p1 v4 σ r h) (fun r3 => ?_)
      refine js_callS_P (mj := mJ6_bitCount_0f7a4) [(.int r3)] [] dX7_richest_42 tw_476 cm_J6_bitCount_0f7a4 tw_477 rfl rfl rfl rfl (qJ6_bitCount_0f7a4 G r3 σ) ?_
      refine js_istore (lv' := [some (.ref 0), some (.int p1), some (.int v2), some (.int v3), some (.int v4), some (.int (fJ6_bitCount_0f7a4 r3))]) dX7_richest_45 rfl rfl rfl ?_
      refine js_iload dX7_richest_47 rfl ?_
      refine js_iload_n dX7_richest_49 rfl rfl ?_
      refine js_icmp_le 59 dX7_richest_50 rfl ?_ ?_
      · refine js_iinc (v := (v4 + (1 : Int32))) (lv' := [some (.ref 0), some (.int p1), some (.int v2), some (.int v3), some (.int (v4 + (1 : Int32))), some (.int (fJ6_bitCount_0f7a4 r3))]) dX7_richest_59 rfl (kx_1 _) rfl rfl rfl ?_
        refine js_goto 25 dX7_richest_62 rfl ?_
        refine js_drop [true, true, true, true, true, false] (lv2 := [some (.ref 0), some (.int p1), some (.int v2), some (.int v3), some (.int (v4 + (1 : Int32))), none]) rfl ?_
        exact ih1 v2 v3 (v4 + (1 : Int32)) σ
      · refine js_iload dX7_richest_53 rfl ?_
        refine js_istore_n (lv' := [some (.ref 0), some (.int p1), some (.int v2), some (.int (fJ6_bitCount_0f7a4 r3)), some (.int v4), some (.int (fJ6_bitCount_0f7a4 r3))]) dX7_richest_55 rfl rfl rfl rfl ?_
        refine js_iload dX7_richest_56 rfl ?_
        refine js_istore_n (lv' := [some (.ref 0), some (.int p1), some (.int v4), some (.int (fJ6_bitCount_0f7a4 r3)), some (.int v4), some (.int (fJ6_bitCount_0f7a4 r3))]) dX7_richest_58 rfl rfl rfl rfl ?_
        refine js_iinc (v := (v4 + (1 : Int32))) (lv' := [some (.ref 0), some (.int p1), some (.int v4), some (.int (fJ6_bitCount_0f7a4 r3)), some (.int (v4 + (1 : Int32))), some (.int (fJ6_bitCount_0f7a4 r3))]) dX7_richest_59 rfl (kx_1 _) rfl rfl rfl ?_
        refine js_goto 25 dX7_richest_62 rfl ?_
        refine js_drop [true, true, true, true, true, false] (lv2 := [some (.ref 0), some (.int p1), some (.int v4), some (.int (fJ6_bitCount_0f7a4 r3)), some (.int (v4 + (1 : Int32))), none]) rfl ?_
        exact ih1 v4 (fJ6_bitCount_0f7a4 r3) (v4 + (1 : Int32)) σ

def fX7_richest (a1 : Int32) (σ : js_S) : Option (Int32 × js_S) := (fX3_hasFlue a1 σ).bind fun r1 => (if r1 = 0 then (fX7_found (-1000000001 : Int32) σ).bind fun r4 => some (r4.1, r4.2) else fX7_richest_L25 a1 js_FU (0 : Int32) (0 : Int32) (0 : Int32) σ)
set_option maxRecDepth 10000 in
theorem jX7_richest (G : js_G) (a1 : Int32) (σ : js_S) : js_J G shC mX7_richest js_eW 0 [some (.ref 0), some (.int a1), none, none, none, none] [] σ (fX7_richest a1 σ) := by
  unfold fX7_richest
  refine js_aload_n dX7_richest_0 rfl rfl ?_
  refine js_getR dX7_richest_1 fl_X7_10 rfl rfl ?_
  refine js_iload_n dX7_richest_4 rfl rfl ?_
  refine js_callV_I (mj := mX3_hasFlue) [(.int a1)] [] dX7_richest_5 tw_231 cm_X3_hasFlue cv_X3_hasFlue rfl rfl rfl rfl rfl rfl (fun r h => qX3_hasFlue G a1 σ r h) (fun r1 => ?_)
  refine js_if_ne 18 dX7_richest_8 rfl ?_ ?_
  · refine js_iconst dX7_richest_18 ki_0 ?_
    refine js_istore_n (lv' := [some (.ref 0), some (.int a1), some (.int (0 : Int32)), none, none, none]) dX7_richest_19 rfl rfl rfl rfl ?_
    refine js_iconst dX7_richest_20 ki_0 ?_
    refine js_istore_n (lv' := [some (.ref 0), some (.int a1), some (.int (0 : Int32)), some (.int (0 : Int32)), none, none]) dX7_richest_21 rfl rfl rfl rfl ?_
    refine js_iconst dX7_richest_22 ki_0 ?_
    refine js_istore (lv' := [some (.ref 0), some (.int a1), some (.int (0 : Int32)), some (.int (0 : Int32)), some (.int (0 : Int32)), none]) dX7_richest_23 rfl rfl rfl ?_
    exact jX7_richest_L25 G a1  _ (0 : Int32) (0 : Int32) (0 : Int32) σ
  · refine js_aload_n dX7_richest_11 rfl rfl ?_
    refine js_ldc dX7_richest_12 tw_217 ?_
    refine js_callV_W (mj := mX7_found) [(.int (-1000000001 : Int32))] [] dX7_richest_14 tw_218 cm_X7_found cv_X7_found rfl rfl rfl rfl rfl rfl (fun r h => qX7_found G (-1000000001 : Int32) σ r h) (fun r4 => ?_)
    exact js_iret dX7_richest_17 rfl rfl

theorem qX7_richest (G : js_G) (a1 : Int32) (σ : js_S) (r : (Int32 × js_S)) (h : fX7_richest a1 σ = some r) : js_Con G shC mX7_richest [(.ref 0), (.int a1)] σ (js_eW r) := js_con (mi := mX7_richest) 4 pn_X7 rfl (Nat.le_of_ble_eq_true rfl) (jX7_richest G a1 σ) r h
def fX4_hasRoom (a1 : Int32) (σ : js_S) : Option Int32 := (if ((120 : Int32) - (σ.1 15 0)) < a1 then some (0 : Int32) else some (1 : Int32))
set_option maxRecDepth 10000 in
theorem jX4_hasRoom (G : js_G) (a1 : Int32) (σ : js_S) : js_J G shC mX4_hasRoom (js_eI σ) 0 [some (.ref 15), some (.int a1)] [] σ (fX4_hasRoom a1 σ) := by
  unfold fX4_hasRoom
  refine js_iload_n dX4_hasRoom_0 rfl rfl ?_
  refine js_bipush dX4_hasRoom_1 kb_120 ?_
  refine js_aload_n dX4_hasRoom_3 rfl rfl ?_
  refine js_getI dX4_hasRoom_4 fl_X4_7 rfl rfl ?_
  refine js_isub dX4_hasRoom_7 ?_
  refine js_icmp_gt 15 dX4_hasRoom_8 rfl ?_ ?_
  · refine js_iconst dX4_hasRoom_15 ki_0 ?_
    exact js_zret dX4_hasRoom_16 rfl nb_0.1 rfl
  · refine js_iconst dX4_hasRoom_11 ki_1 ?_
    refine js_goto 16 dX4_hasRoom_12 rfl ?_
    exact js_zret dX4_hasRoom_16 rfl nb_1.1 rfl

theorem qX4_hasRoom (G : js_G) (a1 : Int32) (σ : js_S) (r : Int32) (h : fX4_hasRoom a1 σ = some r) : js_Con G shC mX4_hasRoom [(.ref 15), (.int a1)] σ ((js_eI σ) r) := js_con (mi := mX4_hasRoom) 0 pn_X4 rfl (Nat.le_of_ble_eq_true rfl) (jX4_hasRoom G a1 σ) r h
def fX4_add (a1 : Int32) (σ : js_S) : Option js_S := (if (σ.1 15 0) < 0 then some σ else (if (σ.1 15 0) < (120 : Int32) then js_gd (js_ix (σ.1 15 0) 120) (some (js_sI (js_sI σ 16 (Int32.toNatClampNeg (σ.1 15 0)) a1) 15 0 (((js_sI σ 16 (Int32.toNatClampNeg (σ.1 15 0)) a1).1 15 0) + (1 : Int32)))) else some σ))
set_option maxRecDepth 10000 in
theorem jX4_add (G : js_G) (a1 : Int32) (σ : js_S) : js_J G shC mX4_add js_eV 0 [some (.ref 15), some (.int a1)] [] σ (fX4_add a1 σ) := by
  unfold fX4_add
  refine js_aload_n dX4_add_0 rfl rfl ?_
  refine js_getI dX4_add_1 fl_X4_7 rfl rfl ?_
  refine js_if_lt 16 dX4_add_4 rfl ?_ ?_
  · exact js_vret dX4_add_16 rfl rfl
  · refine js_aload_n dX4_add_7 rfl rfl ?_
    refine js_getI dX4_add_8 fl_X4_7 rfl rfl ?_
    refine js_bipush dX4_add_11 kb_120 ?_
    refine js_icmp_lt 17 dX4_add_13 rfl ?_ ?_
    · refine js_aload_n dX4_add_17 rfl rfl ?_
      refine js_getR dX4_add_18 fl_X4_25 rfl rfl ?_
      refine js_aload_n dX4_add_21 rfl rfl ?_
      refine js_getI dX4_add_22 fl_X4_7 rfl rfl ?_
      refine js_iload_n dX4_add_25 rfl rfl ?_
      refine js_iast dX4_add_26 rfl ?_
      refine js_aload_n dX4_add_27 rfl rfl ?_
      refine js_dup dX4_add_28 rfl ?_
      refine js_getI dX4_add_29 fl_X4_7 rfl rfl ?_
      refine js_iconst dX4_add_32 ki_1 ?_
      refine js_iadd dX4_add_33 ?_
      refine js_putI dX4_add_34 fp_X4_7 rfl rfl rfl rfl ?_
      exact js_vret dX4_add_37 rfl rfl
    · exact js_vret dX4_add_16 rfl rfl

theorem qX4_add (G : js_G) (a1 : Int32) (σ : js_S) (r : js_S) (h : fX4_add a1 σ = some r) : js_Con G shC mX4_add [(.ref 15), (.int a1)] σ (js_eV r) := js_con (mi := mX4_add) 0 pn_X4 rfl (Nat.le_of_ble_eq_true rfl) (jX4_add G a1 σ) r h
def fX7_feed_L39 (p1 : Int32) : Nat → Int32 → js_S → Option (Int32 × js_S)
  | 0, _, _ => none
  | n + 1, v3, σ => (if v3 < 0 then some ((σ.1 15 0), σ) else (fX4_add ((p1 >>> (((8 : Int32) * v3) &&& 31)) &&& (255 : Int32)) σ).bind fun r3 => fX7_feed_L39 p1 n (v3 + (-1 : Int32)) r3)
set_option maxRecDepth 10000 in
theorem jX7_feed_L39 (G : js_G) (p1 : Int32) : ∀ (n : Nat) (v3 : Int32) (σ : js_S), js_J G shC mX7_feed js_eW 39 [some (.ref 0), some (.int p1), none, some (.int v3)] [] σ (fX7_feed_L39 p1 n v3 σ) := by
  intro n
  induction n with
  | zero =>
    intros
    exact js_none
  | succ n ih1 =>
    intro v3 σ
    rw [fX7_feed_L39]
    refine js_iload_n dX7_feed_39 rfl rfl ?_
    refine js_if_lt 66 dX7_feed_40 rfl ?_ ?_
    · refine js_aload_n dX7_feed_66 rfl rfl ?_
      refine js_getR dX7_feed_67 fl_X7_40 rfl rfl ?_
      refine js_getI dX7_feed_70 fl_X7_237 rfl rfl ?_
      exact js_iret dX7_feed_73 rfl rfl
    · refine js_aload_n dX7_feed_43 rfl rfl ?_
      refine js_getR dX7_feed_44 fl_X7_40 rfl rfl ?_
      refine js_iload_n dX7_feed_47 rfl rfl ?_
      refine js_bipush dX7_feed_48 kb_8 ?_
      refine js_iload_n dX7_feed_50 rfl rfl ?_
      refine js_imul dX7_feed_51 ?_
      refine js_ishr dX7_feed_52 ?_
      refine js_sipush dX7_feed_53 ks_255 ?_
      refine js_iand dX7_feed_56 ?_
      refine js_callV_V (mj := mX4_add) [(.int ((p1 >>> (((8 : Int32) * v3) &&& 31)) &&& (255 : Int32)))] [] dX7_feed_57 tw_540 cm_X4_add cv_X4_add rfl rfl rfl rfl rfl rfl (fun r h => qX4_add G ((p1 >>> (((8 : Int32) * v3) &&& 31)) &&& (255 : Int32)) σ r h) (fun r3 => ?_)
      refine js_iinc (v := (v3 + (-1 : Int32))) (lv' := [some (.ref 0), some (.int p1), none, some (.int (v3 + (-1 : Int32)))]) dX7_feed_60 rfl (kx_m1 _) rfl rfl rfl ?_
      refine js_goto 39 dX7_feed_63 rfl ?_
      exact ih1 (v3 + (-1 : Int32)) r3

def fX7_feed (a1 : Int32) (a2 : Int32) (σ : js_S) : Option (Int32 × js_S) := (if a2 < (1 : Int32) then (fX7_found (-1000000001 : Int32) σ).bind fun r1 => some (r1.1, r1.2) else (if a2 ≤ (4 : Int32) then (fX4_hasRoom a2 σ).bind fun r2 => (if r2 = 0 then (fX7_found (-1000000002 : Int32) σ).bind fun r4 => some (r4.1, r4.2) else fX7_feed_L39 a1 js_FU (a2 - (1 : Int32)) σ) else (fX7_found (-1000000001 : Int32) σ).bind fun r5 => some (r5.1, r5.2)))
set_option maxRecDepth 10000 in
theorem jX7_feed (G : js_G) (a1 : Int32) (a2 : Int32) (σ : js_S) : js_J G shC mX7_feed js_eW 0 [some (.ref 0), some (.int a1), some (.int a2), none] [] σ (fX7_feed a1 a2 σ) := by
  unfold fX7_feed
  refine js_iload_n dX7_feed_0 rfl rfl ?_
  refine js_iconst dX7_feed_1 ki_1 ?_
  refine js_icmp_lt 10 dX7_feed_2 rfl ?_ ?_
  · refine js_aload_n dX7_feed_10 rfl rfl ?_
    refine js_ldc dX7_feed_11 tw_217 ?_
    refine js_callV_W (mj := mX7_found) [(.int (-1000000001 : Int32))] [] dX7_feed_13 tw_218 cm_X7_found cv_X7_found rfl rfl rfl rfl rfl rfl (fun r h => qX7_found G (-1000000001 : Int32) σ r h) (fun r1 => ?_)
    exact js_iret dX7_feed_16 rfl rfl
  · refine js_iload_n dX7_feed_5 rfl rfl ?_
    refine js_iconst dX7_feed_6 ki_4 ?_
    refine js_icmp_le 17 dX7_feed_7 rfl ?_ ?_
    · refine js_aload_n dX7_feed_17 rfl rfl ?_
      refine js_getR dX7_feed_18 fl_X7_40 rfl rfl ?_
      refine js_iload_n dX7_feed_21 rfl rfl ?_
      refine js_callV_I (mj := mX4_hasRoom) [(.int a2)] [] dX7_feed_22 tw_536 cm_X4_hasRoom cv_X4_hasRoom rfl rfl rfl rfl rfl rfl (fun r h => qX4_hasRoom G a2 σ r h) (fun r2 => ?_)
      refine js_if_ne 35 dX7_feed_25 rfl ?_ ?_
      · refine js_iload_n dX7_feed_35 rfl rfl ?_
        refine js_iconst dX7_feed_36 ki_1 ?_
        refine js_isub dX7_feed_37 ?_
        refine js_istore_n (lv' := [some (.ref 0), some (.int a1), some (.int a2), some (.int (a2 - (1 : Int32)))]) dX7_feed_38 rfl rfl rfl rfl ?_
        refine js_drop [true, true, false, true] (lv2 := [some (.ref 0), some (.int a1), none, some (.int (a2 - (1 : Int32)))]) rfl ?_
        exact jX7_feed_L39 G a1  _ (a2 - (1 : Int32)) σ
      · refine js_aload_n dX7_feed_28 rfl rfl ?_
        refine js_ldc dX7_feed_29 tw_222 ?_
        refine js_callV_W (mj := mX7_found) [(.int (-1000000002 : Int32))] [] dX7_feed_31 tw_218 cm_X7_found cv_X7_found rfl rfl rfl rfl rfl rfl (fun r h => qX7_found G (-1000000002 : Int32) σ r h) (fun r4 => ?_)
        exact js_iret dX7_feed_34 rfl rfl
    · refine js_aload_n dX7_feed_10 rfl rfl ?_
      refine js_ldc dX7_feed_11 tw_217 ?_
      refine js_callV_W (mj := mX7_found) [(.int (-1000000001 : Int32))] [] dX7_feed_13 tw_218 cm_X7_found cv_X7_found rfl rfl rfl rfl rfl rfl (fun r h => qX7_found G (-1000000001 : Int32) σ r h) (fun r5 => ?_)
      exact js_iret dX7_feed_16 rfl rfl

theorem qX7_feed (G : js_G) (a1 : Int32) (a2 : Int32) (σ : js_S) (r : (Int32 × js_S)) (h : fX7_feed a1 a2 σ = some r) : js_Con G shC mX7_feed [(.ref 0), (.int a1), (.int a2)] σ (js_eW r) := js_con (mi := mX7_feed) 1 pn_X7 rfl (Nat.le_of_ble_eq_true rfl) (jX7_feed G a1 a2 σ) r h
def fX7_wipe (σ : js_S) : Option (Int32 × js_S) := some ((σ.1 15 0), (js_sI σ 15 0 (0 : Int32)))
set_option maxRecDepth 10000 in
theorem jX7_wipe (G : js_G) (σ : js_S) : js_J G shC mX7_wipe js_eW 0 [some (.ref 0), none] [] σ (fX7_wipe σ) := by
  unfold fX7_wipe
  refine js_aload_n dX7_wipe_0 rfl rfl ?_
  refine js_getR dX7_wipe_1 fl_X7_40 rfl rfl ?_
  refine js_getI dX7_wipe_4 fl_X7_237 rfl rfl ?_
  refine js_istore_n (lv' := [some (.ref 0), some (.int (σ.1 15 0))]) dX7_wipe_7 rfl rfl rfl rfl ?_
  refine js_aload_n dX7_wipe_8 rfl rfl ?_
  refine js_getR dX7_wipe_9 fl_X7_40 rfl rfl ?_
  refine js_iconst dX7_wipe_12 ki_0 ?_
  refine js_putI dX7_wipe_13 fp_X7_237 rfl rfl rfl rfl ?_
  refine js_iload_n dX7_wipe_16 rfl rfl ?_
  exact js_iret dX7_wipe_17 rfl rfl

theorem qX7_wipe (G : js_G) (σ : js_S) (r : (Int32 × js_S)) (h : fX7_wipe σ = some r) : js_Con G shC mX7_wipe [(.ref 0)] σ (js_eW r) := js_con (mi := mX7_wipe) 1 pn_X7 rfl (Nat.le_of_ble_eq_true rfl) (jX7_wipe G σ) r h
def fX4_at (a1 : Int32) (σ : js_S) : Option Int32 := (if a1 < 0 then some (0 : Int32) else (if (σ.1 15 0) ≤ a1 then some (0 : Int32) else (if (120 : Int32) ≤ a1 then some (0 : Int32) else js_gd (js_ix a1 120) (some (σ.1 16 (Int32.toNatClampNeg a1))))))
set_option maxRecDepth 10000 in
theorem jX4_at (G : js_G) (a1 : Int32) (σ : js_S) : js_J G shC mX4_at (js_eI σ) 0 [some (.ref 15), some (.int a1)] [] σ (fX4_at a1 σ) := by
  unfold fX4_at
  refine js_iload_n dX4_at_0 rfl rfl ?_
  refine js_if_lt 27 dX4_at_1 rfl ?_ ?_
  · refine js_iconst dX4_at_27 ki_0 ?_
    exact js_iret dX4_at_28 rfl rfl
  · refine js_iload_n dX4_at_4 rfl rfl ?_
    refine js_aload_n dX4_at_5 rfl rfl ?_
    refine js_getI dX4_at_6 fl_X4_7 rfl rfl ?_
    refine js_icmp_ge 27 dX4_at_9 rfl ?_ ?_
    · refine js_iconst dX4_at_27 ki_0 ?_
      exact js_iret dX4_at_28 rfl rfl
    · refine js_iload_n dX4_at_12 rfl rfl ?_
      refine js_bipush dX4_at_13 kb_120 ?_
      refine js_icmp_ge 27 dX4_at_15 rfl ?_ ?_
      · refine js_iconst dX4_at_27 ki_0 ?_
        exact js_iret dX4_at_28 rfl rfl
      · refine js_aload_n dX4_at_18 rfl rfl ?_
        refine js_getR dX4_at_19 fl_X4_25 rfl rfl ?_
        refine js_iload_n dX4_at_22 rfl rfl ?_
        refine js_iald dX4_at_23 rfl ?_
        refine js_goto 28 dX4_at_24 rfl ?_
        exact js_iret dX4_at_28 rfl rfl

theorem qX4_at (G : js_G) (a1 : Int32) (σ : js_S) (r : Int32) (h : fX4_at a1 σ = some r) : js_Con G shC mX4_at [(.ref 15), (.int a1)] σ ((js_eI σ) r) := js_con (mi := mX4_at) 0 pn_X4 rfl (Nat.le_of_ble_eq_true rfl) (jX4_at G a1 σ) r h
def fX4_isLetter (a0 : Int32) : Int32 := (if a0 < (97 : Int32) then (0 : Int32) else (if (122 : Int32) < a0 then (0 : Int32) else (1 : Int32)))
set_option maxRecDepth 10000 in
theorem jX4_isLetter (G : js_G) (a0 : Int32) (σ : js_S) : js_J G shC mX4_isLetter (js_eI σ) 0 [some (.int a0)] [] σ (some (fX4_isLetter a0)) := by
  unfold fX4_isLetter
  refine js_iload_n dX4_isLetter_0 rfl rfl ?_
  refine js_bipush dX4_isLetter_1 kb_97 ?_
  refine js_pi ?_
  refine js_icmp_lt 16 dX4_isLetter_3 rfl ?_ ?_
  · refine js_iconst dX4_isLetter_16 ki_0 ?_
    exact js_zret dX4_isLetter_17 rfl nb_0.1 rfl
  · refine js_iload_n dX4_isLetter_6 rfl rfl ?_
    refine js_bipush dX4_isLetter_7 kb_122 ?_
    refine js_pi ?_
    refine js_icmp_gt 16 dX4_isLetter_9 rfl ?_ ?_
    · refine js_iconst dX4_isLetter_16 ki_0 ?_
      exact js_zret dX4_isLetter_17 rfl nb_0.1 rfl
    · refine js_iconst dX4_isLetter_12 ki_1 ?_
      refine js_goto 17 dX4_isLetter_13 rfl ?_
      exact js_zret dX4_isLetter_17 rfl nb_1.1 rfl

theorem qX4_isLetter (G : js_G) (a0 : Int32) (σ : js_S) : js_Con G shC mX4_isLetter [(.int a0)] σ (some (.int (fX4_isLetter a0)), σ) := js_con (mi := mX4_isLetter) (emb := (js_eI σ)) 0 pn_X4 rfl (Nat.le_of_ble_eq_true rfl) (jX4_isLetter G a0 σ) _ rfl
theorem zX4_isLetter (a0 : Int32) : fX4_isLetter a0 = 0 ∨ fX4_isLetter a0 = 1 := by
  unfold fX4_isLetter
  repeat' split
  all_goals first | exact Or.inl rfl | exact Or.inr rfl
def fX4_isDigit (a0 : Int32) : Int32 := (if a0 < (48 : Int32) then (0 : Int32) else (if (57 : Int32) < a0 then (0 : Int32) else (1 : Int32)))
set_option maxRecDepth 10000 in
theorem jX4_isDigit (G : js_G) (a0 : Int32) (σ : js_S) : js_J G shC mX4_isDigit (js_eI σ) 0 [some (.int a0)] [] σ (some (fX4_isDigit a0)) := by
  unfold fX4_isDigit
  refine js_iload_n dX4_isDigit_0 rfl rfl ?_
  refine js_bipush dX4_isDigit_1 kb_48 ?_
  refine js_pi ?_
  refine js_icmp_lt 16 dX4_isDigit_3 rfl ?_ ?_
  · refine js_iconst dX4_isDigit_16 ki_0 ?_
    exact js_zret dX4_isDigit_17 rfl nb_0.1 rfl
  · refine js_iload_n dX4_isDigit_6 rfl rfl ?_
    refine js_bipush dX4_isDigit_7 kb_57 ?_
    refine js_pi ?_
    refine js_icmp_gt 16 dX4_isDigit_9 rfl ?_ ?_
    · refine js_iconst dX4_isDigit_16 ki_0 ?_
      exact js_zret dX4_isDigit_17 rfl nb_0.1 rfl
    · refine js_iconst dX4_isDigit_12 ki_1 ?_
      refine js_goto 17 dX4_isDigit_13 rfl ?_
      exact js_zret dX4_isDigit_17 rfl nb_1.1 rfl

theorem qX4_isDigit (G : js_G) (a0 : Int32) (σ : js_S) : js_Con G shC mX4_isDigit [(.int a0)] σ (some (.int (fX4_isDigit a0)), σ) := js_con (mi := mX4_isDigit) (emb := (js_eI σ)) 0 pn_X4 rfl (Nat.le_of_ble_eq_true rfl) (jX4_isDigit G a0 σ) _ rfl
theorem zX4_isDigit (a0 : Int32) : fX4_isDigit a0 = 0 ∨ fX4_isDigit a0 = 1 := by
  unfold fX4_isDigit
  repeat' split
  all_goals first | exact Or.inl rfl | exact Or.inr rfl
def fX4_step_L8 (k45 : js_S → Option js_S) : Nat → js_S → Option js_S
  | 0, _ => none
  | n + 1, σ => (if (σ.1 15 0) ≤ (σ.1 15 2) then k45 σ else (fX4_at (σ.1 15 2) σ).bind fun r1 => (if r1 = (32 : Int32) then fX4_step_L8 k45 n (js_sI σ 15 2 ((σ.1 15 2) + (1 : Int32))) else k45 σ))
set_option maxRecDepth 10000 in
theorem jX4_step_L8 (G : js_G) (k45 : js_S → Option js_S) (hk45 : ∀  (σ : js_S), js_J G shC mX4_step js_eV 45 [some (.ref 15)] [] σ (k45 σ)) : ∀ (n : Nat) (σ : js_S), js_J G shC mX4_step js_eV 8 [some (.ref 15)] [] σ (fX4_step_L8 k45 n σ) := by
  intro n
  induction n with
  | zero =>
    intros
    exact js_none
  | succ n ih1 =>
    intro σ
    rw [fX4_step_L8]
    refine js_aload_n dX4_step_8 rfl rfl ?_
    refine js_getI dX4_step_9 fl_X4_16 rfl rfl ?_
    refine js_aload_n dX4_step_12 rfl rfl ?_
    refine js_getI dX4_step_13 fl_X4_7 rfl rfl ?_
    refine js_icmp_ge 45 dX4_step_16 rfl ?_ ?_
    · exact hk45 σ
    · refine js_aload_n dX4_step_19 rfl rfl ?_
      refine js_aload_n dX4_step_20 rfl rfl ?_
      refine js_getI dX4_step_21 fl_X4_16 rfl rfl ?_
      refine js_callV_I (mj := mX4_at) [(.int (σ.1 15 2))] [] dX4_step_24 tw_564 cm_X4_at cv_X4_at rfl rfl rfl rfl rfl rfl (fun r h => qX4_at G (σ.1 15 2) σ r h) (fun r1 => ?_)
      refine js_bipush dX4_step_27 kb_32 ?_
      refine js_icmp_ne 45 dX4_step_29 rfl ?_ ?_
      · exact hk45 σ
      · refine js_aload_n dX4_step_32 rfl rfl ?_
        refine js_dup dX4_step_33 rfl ?_
        refine js_getI dX4_step_34 fl_X4_16 rfl rfl ?_
        refine js_iconst dX4_step_37 ki_1 ?_
        refine js_iadd dX4_step_38 ?_
        refine js_putI dX4_step_39 fp_X4_16 rfl rfl rfl rfl ?_
        refine js_goto 8 dX4_step_42 rfl ?_
        exact ih1 (js_sI σ 15 2 ((σ.1 15 2) + (1 : Int32)))

def fX4_step_L153 : Nat → js_S → Option js_S
  | 0, _ => none
  | n + 1, σ => (if (σ.1 15 0) ≤ (σ.1 15 3) then some σ else (fX4_at (σ.1 15 3) σ).bind fun r6 => (if (fX4_isDigit r6) = 0 then some σ else (fX4_at (σ.1 15 3) σ).bind fun r7 => fX4_step_L153  n (js_sI (js_sI σ 15 4 (if ((((10 : Int32) * (σ.1 15 4)) + r7) - (48 : Int32)) < (1000 : Int32) then ((((10 : Int32) * (σ.1 15 4)) + r7) - (48 : Int32)) else (1000 : Int32))) 15 3 (((js_sI σ 15 4 (if ((((10 : Int32) * (σ.1 15 4)) + r7) - (48 : Int32)) < (1000 : Int32) then ((((10 : Int32) * (σ.1 15 4)) + r7) - (48 : Int32)) else (1000 : Int32))).1 15 3) + (1 : Int32)))))
set_option maxRecDepth 10000 in
theorem jX4_step_L153 (G : js_G) : ∀ (n : Nat) (σ : js_S), js_J G shC mX4_step js_eV 153 [some (.ref 15)] [] σ (fX4_step_L153 n σ) := by
  intro n
  induction n with
  | zero =>
    intros
    exact js_none
  | succ n ih2 =>
    intro σ
    rw [fX4_step_L153]
    refine js_aload_n dX4_step_153 rfl rfl ?_
    refine js_getI dX4_step_154 fl_X4_19 rfl rfl ?_
    refine js_aload_n dX4_step_157 rfl rfl ?_
    refine js_getI dX4_step_158 fl_X4_7 rfl rfl ?_
    refine js_icmp_ge 252 dX4_step_161 rfl ?_ ?_
    · exact js_vret dX4_step_252 rfl rfl
    · refine js_aload_n dX4_step_164 rfl rfl ?_
      refine js_aload_n dX4_step_165 rfl rfl ?_
      refine js_getI dX4_step_166 fl_X4_19 rfl rfl ?_
      refine js_callV_I (mj := mX4_at) [(.int (σ.1 15 3))] [] dX4_step_169 tw_564 cm_X4_at cv_X4_at rfl rfl rfl rfl rfl rfl (fun r h => qX4_at G (σ.1 15 3) σ r h) (fun r6 => ?_)
      refine js_callS_P (mj := mX4_isDigit) [(.int r6)] [] dX4_step_172 tw_571 cm_X4_isDigit tw_572 rfl rfl rfl rfl (qX4_isDigit G r6 σ) ?_
      refine js_if_eq 252 dX4_step_175 rfl ?_ ?_
      · exact js_vret dX4_step_252 rfl rfl
      · refine js_aload_n dX4_step_178 rfl rfl ?_
        refine js_sipush dX4_step_179 ks_1000 ?_
        refine js_bipush dX4_step_182 kb_10 ?_
        refine js_aload_n dX4_step_184 rfl rfl ?_
        refine js_getI dX4_step_185 fl_X4_22 rfl rfl ?_
        refine js_imul dX4_step_188 ?_
        refine js_aload_n dX4_step_189 rfl rfl ?_
        refine js_aload_n dX4_step_190 rfl rfl ?_
        refine js_getI dX4_step_191 fl_X4_19 rfl rfl ?_
        refine js_callV_I (mj := mX4_at) [(.int (σ.1 15 3))] [(.int ((10 : Int32) * (σ.1 15 4))), (.int (1000 : Int32)), (.ref 15)] dX4_step_194 tw_564 cm_X4_at cv_X4_at rfl rfl rfl rfl rfl rfl (fun r h => qX4_at G (σ.1 15 3) σ r h) (fun r7 => ?_)
        refine js_iadd dX4_step_197 ?_
        refine js_bipush dX4_step_198 kb_48 ?_
        refine js_isub dX4_step_200 ?_
        refine js_min dX4_step_201 tw_574 mm_min rfl rfl ?_
        refine js_putI dX4_step_204 fp_X4_22 rfl rfl rfl rfl ?_
        refine js_aload_n dX4_step_207 rfl rfl ?_
        refine js_dup dX4_step_208 rfl ?_
        refine js_getI dX4_step_209 fl_X4_19 rfl rfl ?_
        refine js_iconst dX4_step_212 ki_1 ?_
        refine js_iadd dX4_step_213 ?_
        refine js_putI dX4_step_214 fp_X4_19 rfl rfl rfl rfl ?_
        refine js_goto 153 dX4_step_217 rfl ?_
        exact ih2 (js_sI (js_sI σ 15 4 (if ((((10 : Int32) * (σ.1 15 4)) + r7) - (48 : Int32)) < (1000 : Int32) then ((((10 : Int32) * (σ.1 15 4)) + r7) - (48 : Int32)) else (1000 : Int32))) 15 3 (((js_sI σ 15 4 (if ((((10 : Int32) * (σ.1 15 4)) + r7) - (48 : Int32)) < (1000 : Int32) then ((((10 : Int32) * (σ.1 15 4)) + r7) - (48 : Int32)) else (1000 : Int32))).1 15 3) + (1 : Int32)))

def fX4_step_L96 : Nat → js_S → Option js_S
  | 0, _ => none
  | n + 1, σ => (if (σ.1 15 0) ≤ (σ.1 15 3) then some σ else (fX4_at (σ.1 15 3) σ).bind fun r8 => (if (fX4_isLetter r8) = 0 then some σ else fX4_step_L96  n (js_sI σ 15 3 ((σ.1 15 3) + (1 : Int32)))))
set_option maxRecDepth 10000 in
theorem jX4_step_L96 (G : js_G) : ∀ (n : Nat) (σ : js_S), js_J G shC mX4_step js_eV 96 [some (.ref 15)] [] σ (fX4_step_L96 n σ) := by
  intro n
  induction n with
  | zero =>
    intros
    exact js_none
  | succ n ih3 =>
    intro σ
    rw [fX4_step_L96]
    refine js_aload_n dX4_step_96 rfl rfl ?_
    refine js_getI dX4_step_97 fl_X4_19 rfl rfl ?_
    refine js_aload_n dX4_step_100 rfl rfl ?_
    refine js_getI dX4_step_101 fl_X4_7 rfl rfl ?_
    refine js_icmp_ge 252 dX4_step_104 rfl ?_ ?_
    · exact js_vret dX4_step_252 rfl rfl
    · refine js_aload_n dX4_step_107 rfl rfl ?_
      refine js_aload_n dX4_step_108 rfl rfl ?_
      refine js_getI dX4_step_109 fl_X4_19 rfl rfl ?_
      refine js_callV_I (mj := mX4_at) [(.int (σ.1 15 3))] [] dX4_step_112 tw_564 cm_X4_at cv_X4_at rfl rfl rfl rfl rfl rfl (fun r h => qX4_at G (σ.1 15 3) σ r h) (fun r8 => ?_)
      refine js_callS_P (mj := mX4_isLetter) [(.int r8)] [] dX4_step_115 tw_568 cm_X4_isLetter tw_569 rfl rfl rfl rfl (qX4_isLetter G r8 σ) ?_
      refine js_if_eq 252 dX4_step_118 rfl ?_ ?_
      · exact js_vret dX4_step_252 rfl rfl
      · refine js_aload_n dX4_step_121 rfl rfl ?_
        refine js_dup dX4_step_122 rfl ?_
        refine js_getI dX4_step_123 fl_X4_19 rfl rfl ?_
        refine js_iconst dX4_step_126 ki_1 ?_
        refine js_iadd dX4_step_127 ?_
        refine js_putI dX4_step_128 fp_X4_19 rfl rfl rfl rfl ?_
        refine js_goto 96 dX4_step_131 rfl ?_
        exact ih3 (js_sI σ 15 3 ((σ.1 15 3) + (1 : Int32)))

def fX4_step (σ : js_S) : Option js_S := fX4_step_L8 (fun s2 => (if ((js_sI (js_sI s2 15 3 (s2.1 15 2)) 15 4 (0 : Int32)).1 15 2) < ((js_sI (js_sI s2 15 3 (s2.1 15 2)) 15 4 (0 : Int32)).1 15 0) then (fX4_at ((js_sI (js_sI s2 15 3 (s2.1 15 2)) 15 4 (0 : Int32)).1 15 2) (js_sI (js_sI s2 15 3 (s2.1 15 2)) 15 4 (0 : Int32))).bind fun r3 => (if (fX4_isLetter r3) = 0 then (fX4_at ((js_sI (js_sI s2 15 3 (s2.1 15 2)) 15 4 (0 : Int32)).1 15 2) (js_sI (js_sI s2 15 3 (s2.1 15 2)) 15 4 (0 : Int32))).bind fun r4 => (if (fX4_isDigit r4) = 0 then (fX4_at ((js_sI (js_sI s2 15 3 (s2.1 15 2)) 15 4 (0 : Int32)).1 15 2) (js_sI (js_sI s2 15 3 (s2.1 15 2)) 15 4 (0 : Int32))).bind fun r5 => (if r5 = (59 : Int32) then some (js_sI (js_sI (js_sI (js_sI s2 15 3 (s2.1 15 2)) 15 4 (0 : Int32)) 15 1 (3 : Int32)) 15 3 (((js_sI (js_sI (js_sI s2 15 3 (s2.1 15 2)) 15 4 (0 : Int32)) 15 1 (3 : Int32)).1 15 3) + (1 : Int32))) else some (js_sI (js_sI (js_sI (js_sI s2 15 3 (s2.1 15 2)) 15 4 (0 : Int32)) 15 1 (4 : Int32)) 15 3 (((js_sI (js_sI (js_sI s2 15 3 (s2.1 15 2)) 15 4 (0 : Int32)) 15 1 (4 : Int32)).1 15 3) + (1 : Int32)))) else fX4_step_L153 js_FU (js_sI (js_sI (js_sI s2 15 3 (s2.1 15 2)) 15 4 (0 : Int32)) 15 1 (2 : Int32))) else fX4_step_L96 js_FU (js_sI (js_sI (js_sI s2 15 3 (s2.1 15 2)) 15 4 (0 : Int32)) 15 1 (1 : Int32))) else some (js_sI (js_sI (js_sI s2 15 3 (s2.1 15 2)) 15 4 (0 : Int32)) 15 1 (0 : Int32)))) js_FU (js_sI σ 15 2 (σ.1 15 3))
set_option maxRecDepth 10000 in
theorem jX4_step (G : js_G) (σ : js_S) : js_J G shC mX4_step js_eV 0 [some (.ref 15)] [] σ (fX4_step σ) := by
  unfold fX4_step
  refine js_aload_n dX4_step_0 rfl rfl ?_
  refine js_aload_n dX4_step_1 rfl rfl ?_
  refine js_getI dX4_step_2 fl_X4_19 rfl rfl ?_
  refine js_putI dX4_step_5 fp_X4_16 rfl rfl rfl rfl ?_
  refine jX4_step_L8 G _ (fun s2 => ?_) _ (js_sI σ 15 2 (σ.1 15 3))
  refine js_aload_n dX4_step_45 rfl rfl ?_
  refine js_aload_n dX4_step_46 rfl rfl ?_
  refine js_getI dX4_step_47 fl_X4_16 rfl rfl ?_
  refine js_putI dX4_step_50 fp_X4_19 rfl rfl rfl rfl ?_
  refine js_aload_n dX4_step_53 rfl rfl ?_
  refine js_iconst dX4_step_54 ki_0 ?_
  refine js_putI dX4_step_55 fp_X4_22 rfl rfl rfl rfl ?_
  refine js_aload_n dX4_step_58 rfl rfl ?_
  refine js_getI dX4_step_59 fl_X4_16 rfl rfl ?_
  refine js_aload_n dX4_step_62 rfl rfl ?_
  refine js_getI dX4_step_63 fl_X4_7 rfl rfl ?_
  refine js_icmp_lt 77 dX4_step_66 rfl ?_ ?_
  · refine js_aload_n dX4_step_77 rfl rfl ?_
    refine js_aload_n dX4_step_78 rfl rfl ?_
    refine js_getI dX4_step_79 fl_X4_16 rfl rfl ?_
    refine js_callV_I (mj := mX4_at) [(.int ((js_sI (js_sI s2 15 3 (s2.1 15 2)) 15 4 (0 : Int32)).1 15 2))] [] dX4_step_82 tw_564 cm_X4_at cv_X4_at rfl rfl rfl rfl rfl rfl (fun r h => qX4_at G ((js_sI (js_sI s2 15 3 (s2.1 15 2)) 15 4 (0 : Int32)).1 15 2) (js_sI (js_sI s2 15 3 (s2.1 15 2)) 15 4 (0 : Int32)) r h) (fun r3 => ?_)
    refine js_callS_P (mj := mX4_isLetter) [(.int r3)] [] dX4_step_85 tw_568 cm_X4_isLetter tw_569 rfl rfl rfl rfl (qX4_isLetter G r3 (js_sI (js_sI s2 15 3 (s2.1 15 2)) 15 4 (0 : Int32))) ?_
    refine js_if_eq 134 dX4_step_88 rfl ?_ ?_
    · refine js_aload_n dX4_step_134 rfl rfl ?_
      refine js_aload_n dX4_step_135 rfl rfl ?_
      refine js_getI dX4_step_136 fl_X4_16 rfl rfl ?_
      refine js_callV_I (mj := mX4_at) [(.int ((js_sI (js_sI s2 15 3 (s2.1 15 2)) 15 4 (0 : Int32)).1 15 2))] [] dX4_step_139 tw_564 cm_X4_at cv_X4_at rfl rfl rfl rfl rfl rfl (fun r h => qX4_at G ((js_sI (js_sI s2 15 3 (s2.1 15 2)) 15 4 (0 : Int32)).1 15 2) (js_sI (js_sI s2 15 3 (s2.1 15 2)) 15 4 (0 : Int32)) r h) (fun r4 => ?_)
      refine js_callS_P (mj := mX4_isDigit) [(.int r4)] [] dX4_step_142 tw_571 cm_X4_isDigit tw_572 rfl rfl rfl rfl (qX4_isDigit G r4 (js_sI (js_sI s2 15 3 (s2.1 15 2)) 15 4 (0 : Int32))) ?_
      refine js_if_eq 220 dX4_step_145 rfl ?_ ?_
      · refine js_aload_n dX4_step_220 rfl rfl ?_
        refine js_aload_n dX4_step_221 rfl rfl ?_
        refine js_aload_n dX4_step_222 rfl rfl ?_
        refine js_getI dX4_step_223 fl_X4_16 rfl rfl ?_
        refine js_callV_I (mj := mX4_at) [(.int ((js_sI (js_sI s2 15 3 (s2.1 15 2)) 15 4 (0 : Int32)).1 15 2))] [(.ref 15)] dX4_step_226 tw_564 cm_X4_at cv_X4_at rfl rfl rfl rfl rfl rfl (fun r h => qX4_at G ((js_sI (js_sI s2 15 3 (s2.1 15 2)) 15 4 (0 : Int32)).1 15 2) (js_sI (js_sI s2 15 3 (s2.1 15 2)) 15 4 (0 : Int32)) r h) (fun r5 => ?_)
        refine js_bipush dX4_step_229 kb_59 ?_
        refine js_icmp_ne 238 dX4_step_231 rfl ?_ ?_
        · refine js_iconst dX4_step_238 ki_4 ?_
          refine js_putI dX4_step_239 fp_X4_13 rfl rfl rfl rfl ?_
          refine js_aload_n dX4_step_242 rfl rfl ?_
          refine js_dup dX4_step_243 rfl ?_
          refine js_getI dX4_step_244 fl_X4_19 rfl rfl ?_
          refine js_iconst dX4_step_247 ki_1 ?_
          refine js_iadd dX4_step_248 ?_
          refine js_putI dX4_step_249 fp_X4_19 rfl rfl rfl rfl ?_
          exact js_vret dX4_step_252 rfl rfl
        · refine js_iconst dX4_step_234 ki_3 ?_
          refine js_goto 239 dX4_step_235 rfl ?_
          refine js_putI dX4_step_239 fp_X4_13 rfl rfl rfl rfl ?_
          refine js_aload_n dX4_step_242 rfl rfl ?_
          refine js_dup dX4_step_243 rfl ?_
          refine js_getI dX4_step_244 fl_X4_19 rfl rfl ?_
          refine js_iconst dX4_step_247 ki_1 ?_
          refine js_iadd dX4_step_248 ?_
          refine js_putI dX4_step_249 fp_X4_19 rfl rfl rfl rfl ?_
          exact js_vret dX4_step_252 rfl rfl
      · refine js_aload_n dX4_step_148 rfl rfl ?_
        refine js_iconst dX4_step_149 ki_2 ?_
        refine js_putI dX4_step_150 fp_X4_13 rfl rfl rfl rfl ?_
        exact jX4_step_L153 G  _ (js_sI (js_sI (js_sI s2 15 3 (s2.1 15 2)) 15 4 (0 : Int32)) 15 1 (2 : Int32))
    · refine js_aload_n dX4_step_91 rfl rfl ?_
      refine js_iconst dX4_step_92 ki_1 ?_
      refine js_putI dX4_step_93 fp_X4_13 rfl rfl rfl rfl ?_
      exact jX4_step_L96 G  _ (js_sI (js_sI (js_sI s2 15 3 (s2.1 15 2)) 15 4 (0 : Int32)) 15 1 (1 : Int32))
  · refine js_aload_n dX4_step_69 rfl rfl ?_
    refine js_iconst dX4_step_70 ki_0 ?_
    refine js_putI dX4_step_71 fp_X4_13 rfl rfl rfl rfl ?_
    refine js_goto 252 dX4_step_74 rfl ?_
    exact js_vret dX4_step_252 rfl rfl

theorem qX4_step (G : js_G) (σ : js_S) (r : js_S) (h : fX4_step σ = some r) : js_Con G shC mX4_step [(.ref 15)] σ (js_eV r) := js_con (mi := mX4_step) 0 pn_X4 rfl (Nat.le_of_ble_eq_true rfl) (jX4_step G σ) r h
def fX4_begin (σ : js_S) : Option js_S := (fX4_step (js_sI σ 15 3 (0 : Int32))).bind fun r1 => some r1
set_option maxRecDepth 10000 in
theorem jX4_begin (G : js_G) (σ : js_S) : js_J G shC mX4_begin js_eV 0 [some (.ref 15)] [] σ (fX4_begin σ) := by
  unfold fX4_begin
  refine js_aload_n dX4_begin_0 rfl rfl ?_
  refine js_iconst dX4_begin_1 ki_0 ?_
  refine js_putI dX4_begin_2 fp_X4_19 rfl rfl rfl rfl ?_
  refine js_aload_n dX4_begin_5 rfl rfl ?_
  refine js_callV_V (mj := mX4_step) [] [] dX4_begin_6 tw_560 cm_X4_step cv_X4_step rfl rfl rfl rfl rfl rfl (fun r h => qX4_step G (js_sI σ 15 3 (0 : Int32)) r h) (fun r1 => ?_)
  exact js_vret dX4_begin_9 rfl rfl

theorem qX4_begin (G : js_G) (σ : js_S) (r : js_S) (h : fX4_begin σ = some r) : js_Con G shC mX4_begin [(.ref 15)] σ (js_eV r) := js_con (mi := mX4_begin) 0 pn_X4 rfl (Nat.le_of_ble_eq_true rfl) (jX4_begin G σ) r h
def fX4_pass_L28 (p1 : Nat) : Nat → Int32 → js_S → Option (Int32 × js_S)
  | 0, _, _ => none
  | n + 1, v2, σ => (js_slen p1).bind fun r2 => (if r2 ≤ v2 then (fX4_step σ).bind fun r3 => some ((1 : Int32), r3) else (fX4_at ((σ.1 15 2) + v2) σ).bind fun r4 => (js_schar p1 v2).bind fun r5 => (if r4 = r5 then fX4_pass_L28 p1 n (v2 + (1 : Int32)) σ else some ((0 : Int32), σ)))
set_option maxRecDepth 10000 in
theorem jX4_pass_L28 (G : js_G) (p1 : Nat) (hs : p1 < 11) : ∀ (n : Nat) (v2 : Int32) (σ : js_S), js_J G shC mX4_pass js_eW 28 [some (.ref 15), some (.ref (1000 + p1)), some (.int v2)] [] σ (fX4_pass_L28 p1 n v2 σ) := by
  intro n
  induction n with
  | zero =>
    intros
    exact js_none
  | succ n ih1 =>
    intro v2 σ
    rw [fX4_pass_L28]
    refine js_iload_n dX4_pass_28 rfl rfl ?_
    refine js_aload_n dX4_pass_29 rfl rfl ?_
    refine js_callT_I (mi := mX4_pass) (mj := mJ0_length_8abf5) (i := p1) [] [(.int v2)] dX4_pass_30 tw_584 cm_J0_length_8abf5 cv_J0_length_8abf5 rfl rfl rfl (by assumption) rfl rfl (fun r h => ct_length G p1 _ (by assumption) r h) (fun r2 => ?_)
    refine js_icmp_ge 62 dX4_pass_33 rfl ?_ ?_
    · refine js_aload_n dX4_pass_62 rfl rfl ?_
      refine js_callV_V (mj := mX4_step) [] [] dX4_pass_63 tw_560 cm_X4_step cv_X4_step rfl rfl rfl rfl rfl rfl (fun r h => qX4_step G σ r h) (fun r3 => ?_)
      refine js_iconst dX4_pass_66 ki_1 ?_
      exact js_zret dX4_pass_67 rfl nb_1.1 rfl
    · refine js_aload_n dX4_pass_36 rfl rfl ?_
      refine js_aload_n dX4_pass_37 rfl rfl ?_
      refine js_getI dX4_pass_38 fl_X4_16 rfl rfl ?_
      refine js_iload_n dX4_pass_41 rfl rfl ?_
      refine js_iadd dX4_pass_42 ?_
      refine js_callV_I (mj := mX4_at) [(.int ((σ.1 15 2) + v2))] [] dX4_pass_43 tw_564 cm_X4_at cv_X4_at rfl rfl rfl rfl rfl rfl (fun r h => qX4_at G ((σ.1 15 2) + v2) σ r h) (fun r4 => ?_)
      refine js_aload_n dX4_pass_46 rfl rfl ?_
      refine js_iload_n dX4_pass_47 rfl rfl ?_
      refine js_callT_I (mi := mX4_pass) (mj := mJ0_charAt_5068e) (i := p1) [.int v2] [(.int r4)] dX4_pass_48 tw_594 cm_J0_charAt_5068e cv_J0_charAt_5068e rfl rfl rfl (by assumption) rfl rfl (fun r h => ct_charAt G p1 v2 _ (by assumption) r h) (fun r5 => ?_)
      refine js_icmp_eq 56 dX4_pass_51 rfl ?_ ?_
      · refine js_iinc (v := (v2 + (1 : Int32))) (lv' := [some (.ref 15), some (.ref (1000 + p1)), some (.int (v2 + (1 : Int32)))]) dX4_pass_56 rfl (kx_1 _) rfl rfl rfl ?_
        refine js_goto 28 dX4_pass_59 rfl ?_
        exact ih1 (v2 + (1 : Int32)) σ
      · refine js_iconst dX4_pass_54 ki_0 ?_
        exact js_zret dX4_pass_55 rfl nb_0.1 rfl

def fX4_pass (a1 : Nat) (σ : js_S) : Option (Int32 × js_S) := (if (σ.1 15 1) = (1 : Int32) then (js_slen a1).bind fun r1 => (if ((σ.1 15 3) - (σ.1 15 2)) = r1 then fX4_pass_L28 a1 js_FU (0 : Int32) σ else some ((0 : Int32), σ)) else some ((0 : Int32), σ))
set_option maxRecDepth 10000 in
theorem jX4_pass (G : js_G) (a1 : Nat) (σ : js_S) (hs : a1 < 11) : js_J G shC mX4_pass js_eW 0 [some (.ref 15), some (.ref (1000 + a1)), none] [] σ (fX4_pass a1 σ) := by
  unfold fX4_pass
  refine js_aload_n dX4_pass_0 rfl rfl ?_
  refine js_getI dX4_pass_1 fl_X4_13 rfl rfl ?_
  refine js_iconst dX4_pass_4 ki_1 ?_
  refine js_icmp_ne 24 dX4_pass_5 rfl ?_ ?_
  · refine js_iconst dX4_pass_24 ki_0 ?_
    exact js_zret dX4_pass_25 rfl nb_0.1 rfl
  · refine js_aload_n dX4_pass_8 rfl rfl ?_
    refine js_getI dX4_pass_9 fl_X4_19 rfl rfl ?_
    refine js_aload_n dX4_pass_12 rfl rfl ?_
    refine js_getI dX4_pass_13 fl_X4_16 rfl rfl ?_
    refine js_isub dX4_pass_16 ?_
    refine js_aload_n dX4_pass_17 rfl rfl ?_
    refine js_callT_I (mi := mX4_pass) (mj := mJ0_length_8abf5) (i := a1) [] [(.int ((σ.1 15 3) - (σ.1 15 2)))] dX4_pass_18 tw_584 cm_J0_length_8abf5 cv_J0_length_8abf5 rfl rfl rfl (by assumption) rfl rfl (fun r h => ct_length G a1 _ (by assumption) r h) (fun r1 => ?_)
    refine js_icmp_eq 26 dX4_pass_21 rfl ?_ ?_
    · refine js_iconst dX4_pass_26 ki_0 ?_
      refine js_istore_n (lv' := [some (.ref 15), some (.ref (1000 + a1)), some (.int (0 : Int32))]) dX4_pass_27 rfl rfl rfl rfl ?_
      exact jX4_pass_L28 G a1 (by assumption)  _ (0 : Int32) σ
    · refine js_iconst dX4_pass_24 ki_0 ?_
      exact js_zret dX4_pass_25 rfl nb_0.1 rfl

theorem qX4_pass (G : js_G) (a1 : Nat) (σ : js_S) (hs : a1 < 11) (r : (Int32 × js_S)) (h : fX4_pass a1 σ = some r) : js_Con G shC mX4_pass [(.ref 15), (.ref (1000 + a1))] σ (js_eW r) := js_con (mi := mX4_pass) 1 pn_X4 rfl (Nat.le_of_ble_eq_true rfl) (jX4_pass G a1 σ hs) r h
def fX1_name (a0 : Int32) : Nat := (if a0 = (1 : Int32) then 5 else (if a0 = (2 : Int32) then 6 else (if a0 = (3 : Int32) then 7 else (if a0 = (4 : Int32) then 8 else (if a0 = (5 : Int32) then 9 else 10)))))
set_option maxRecDepth 10000 in
theorem jX1_name (G : js_G) (a0 : Int32) (σ : js_S) : js_J G shC mX1_name (js_eS σ) 0 [some (.int a0)] [] σ (some (fX1_name a0)) := by
  unfold fX1_name
  refine js_iload_n dX1_name_0 rfl rfl ?_
  refine js_pi ?_
  refine js_split (fun h1 => ?_) (fun h1 => ?_)
  · refine js_tabI (1 : Int32) (off := 35) 36 dX1_name_1 h1 (by decide) ?_
    refine js_ldcS (q := (RX1, 24, "crooked", 5)) dX1_name_36 (by decide) rfl rfl ?_
    exact js_aret dX1_name_38 rfl (Or.inl ⟨_, rfl⟩) rfl
  · refine js_pi ?_
    refine js_split (fun h2 => ?_) (fun h2 => ?_)
    · refine js_tabI (2 : Int32) (off := 38) 39 dX1_name_1 h2 (by decide) ?_
      refine js_ldcS (q := (RX1, 26, "wide", 6)) dX1_name_39 (by decide) rfl rfl ?_
      exact js_aret dX1_name_41 rfl (Or.inl ⟨_, rfl⟩) rfl
    · refine js_pi ?_
      refine js_split (fun h3 => ?_) (fun h3 => ?_)
      · refine js_tabI (3 : Int32) (off := 41) 42 dX1_name_1 h3 (by decide) ?_
        refine js_ldcS (q := (RX1, 28, "shut", 7)) dX1_name_42 (by decide) rfl rfl ?_
        exact js_aret dX1_name_44 rfl (Or.inl ⟨_, rfl⟩) rfl
      · refine js_pi ?_
        refine js_split (fun h4 => ?_) (fun h4 => ?_)
        · refine js_tabI (4 : Int32) (off := 44) 45 dX1_name_1 h4 (by decide) ?_
          refine js_ldcS (q := (RX1, 30, "queens", 8)) dX1_name_45 (by decide) rfl rfl ?_
          exact js_aret dX1_name_47 rfl (Or.inl ⟨_, rfl⟩) rfl
        · refine js_pi ?_
          refine js_split (fun h5 => ?_) (fun h5 => ?_)
          · refine js_tabI (5 : Int32) (off := 47) 48 dX1_name_1 h5 (by decide) ?_
            refine js_ldcS (q := (RX1, 32, "jackdaw", 9)) dX1_name_48 (by decide) rfl rfl ?_
            exact js_aret dX1_name_50 rfl (Or.inl ⟨_, rfl⟩) rfl
          · refine js_tabO 51 dX1_name_1 (by have eh1 := lv_neT h1 (k := (1 : Int32)) (a := 1) (by decide); have eh2 := lv_neT h2 (k := (2 : Int32)) (a := 2) (by decide); have eh3 := lv_neT h3 (k := (3 : Int32)) (a := 3) (by decide); have eh4 := lv_neT h4 (k := (4 : Int32)) (a := 4) (by decide); have eh5 := lv_neT h5 (k := (5 : Int32)) (a := 5) (by decide); omega) rfl ?_
            refine js_ldcS (q := (RX1, 34, "flue", 10)) dX1_name_51 (by decide) rfl rfl ?_
            exact js_aret dX1_name_53 rfl (Or.inl ⟨_, rfl⟩) rfl

theorem qX1_name (G : js_G) (a0 : Int32) (σ : js_S) : js_Con G shC mX1_name [(.int a0)] σ (some (.ref (1000 + fX1_name a0)), σ) := js_con (mi := mX1_name) (emb := (js_eS σ)) 0 pn_X1 rfl (Nat.le_of_ble_eq_true rfl) (jX1_name G a0 σ) _ rfl
theorem fX1_name_lt (k : Int32) : fX1_name k < 11 := by
  unfold fX1_name
  repeat' split
  all_goals decide
def fX5_passFlue (a1 : Int32) (σ : js_S) : Option (Int32 × js_S) := some ((1 : Int32), (js_sI (js_sI (js_sI σ 17 1 (0 : Int32)) 17 2 a1) 17 0 (((js_sI (js_sI σ 17 1 (0 : Int32)) 17 2 a1).1 17 0) + (1 : Int32))))
set_option maxRecDepth 10000 in
theorem jX5_passFlue (G : js_G) (a1 : Int32) (σ : js_S) : js_J G shC mX5_passFlue js_eW 0 [some (.ref 17), some (.int a1)] [] σ (fX5_passFlue a1 σ) := by
  unfold fX5_passFlue
  refine js_aload_n dX5_passFlue_0 rfl rfl ?_
  refine js_iconst dX5_passFlue_1 ki_0 ?_
  refine js_putI dX5_passFlue_2 fp_X5_15 rfl rfl rfl rfl ?_
  refine js_aload_n dX5_passFlue_5 rfl rfl ?_
  refine js_iload_n dX5_passFlue_6 rfl rfl ?_
  refine js_putI dX5_passFlue_7 fp_X5_18 rfl rfl rfl rfl ?_
  refine js_aload_n dX5_passFlue_10 rfl rfl ?_
  refine js_dup dX5_passFlue_11 rfl ?_
  refine js_getI dX5_passFlue_12 fl_X5_9 rfl rfl ?_
  refine js_iconst dX5_passFlue_15 ki_1 ?_
  refine js_iadd dX5_passFlue_16 ?_
  refine js_putI dX5_passFlue_17 fp_X5_9 rfl rfl rfl rfl ?_
  refine js_iconst dX5_passFlue_20 ki_1 ?_
  exact js_zret dX5_passFlue_21 rfl nb_1.1 rfl

theorem qX5_passFlue (G : js_G) (a1 : Int32) (σ : js_S) (r : (Int32 × js_S)) (h : fX5_passFlue a1 σ = some r) : js_Con G shC mX5_passFlue [(.ref 17), (.int a1)] σ (js_eW r) := js_con (mi := mX5_passFlue) 0 pn_X5 rfl (Nat.le_of_ble_eq_true rfl) (jX5_passFlue G a1 σ) r h
def fX4_passNumber (a1 : Int32) (σ : js_S) : Option (Int32 × js_S) := (if (σ.1 15 1) = (2 : Int32) then (if (σ.1 15 4) < a1 then (fX4_step σ).bind fun r1 => some ((σ.1 15 4), r1) else some ((-1 : Int32), σ)) else some ((-1 : Int32), σ))
set_option maxRecDepth 10000 in
theorem jX4_passNumber (G : js_G) (a1 : Int32) (σ : js_S) : js_J G shC mX4_passNumber js_eW 0 [some (.ref 15), some (.int a1), none] [] σ (fX4_passNumber a1 σ) := by
  unfold fX4_passNumber
  refine js_aload_n dX4_passNumber_0 rfl rfl ?_
  refine js_getI dX4_passNumber_1 fl_X4_13 rfl rfl ?_
  refine js_iconst dX4_passNumber_4 ki_2 ?_
  refine js_icmp_ne 16 dX4_passNumber_5 rfl ?_ ?_
  · refine js_iconst dX4_passNumber_16 ki_m1 ?_
    exact js_iret dX4_passNumber_17 rfl rfl
  · refine js_aload_n dX4_passNumber_8 rfl rfl ?_
    refine js_getI dX4_passNumber_9 fl_X4_22 rfl rfl ?_
    refine js_iload_n dX4_passNumber_12 rfl rfl ?_
    refine js_icmp_lt 18 dX4_passNumber_13 rfl ?_ ?_
    · refine js_aload_n dX4_passNumber_18 rfl rfl ?_
      refine js_getI dX4_passNumber_19 fl_X4_22 rfl rfl ?_
      refine js_istore_n (lv' := [some (.ref 15), some (.int a1), some (.int (σ.1 15 4))]) dX4_passNumber_22 rfl rfl rfl rfl ?_
      refine js_aload_n dX4_passNumber_23 rfl rfl ?_
      refine js_callV_V (mj := mX4_step) [] [] dX4_passNumber_24 tw_560 cm_X4_step cv_X4_step rfl rfl rfl rfl rfl rfl (fun r h => qX4_step G σ r h) (fun r1 => ?_)
      refine js_iload_n dX4_passNumber_27 rfl rfl ?_
      exact js_iret dX4_passNumber_28 rfl rfl
    · refine js_iconst dX4_passNumber_16 ki_m1 ?_
      exact js_iret dX4_passNumber_17 rfl rfl

theorem qX4_passNumber (G : js_G) (a1 : Int32) (σ : js_S) (r : (Int32 × js_S)) (h : fX4_passNumber a1 σ = some r) : js_Con G shC mX4_passNumber [(.ref 15), (.int a1)] σ (js_eW r) := js_con (mi := mX4_passNumber) 1 pn_X4 rfl (Nat.le_of_ble_eq_true rfl) (jX4_passNumber G a1 σ) r h
def fX5_passDamp (σ : js_S) : Option (Int32 × js_S) := (fX4_passNumber (10 : Int32) (js_sI σ 17 1 (3 : Int32))).bind fun r1 => (if ((js_sI r1.2 17 8 r1.1).1 17 8) < 0 then some ((0 : Int32), (js_sI r1.2 17 8 r1.1)) else some ((1 : Int32), (js_sI r1.2 17 8 r1.1)))
set_option maxRecDepth 10000 in
theorem jX5_passDamp (G : js_G) (σ : js_S) : js_J G shC mX5_passDamp js_eW 0 [some (.ref 17), some (.ref 15)] [] σ (fX5_passDamp σ) := by
  unfold fX5_passDamp
  refine js_aload_n dX5_passDamp_0 rfl rfl ?_
  refine js_iconst dX5_passDamp_1 ki_3 ?_
  refine js_putI dX5_passDamp_2 fp_X5_15 rfl rfl rfl rfl ?_
  refine js_aload_n dX5_passDamp_5 rfl rfl ?_
  refine js_aload_n dX5_passDamp_6 rfl rfl ?_
  refine js_bipush dX5_passDamp_7 kb_10 ?_
  refine js_callV_W (mj := mX4_passNumber) [(.int (10 : Int32))] [(.ref 17)] dX5_passDamp_9 tw_636 cm_X4_passNumber cv_X4_passNumber rfl rfl rfl rfl rfl rfl (fun r h => qX4_passNumber G (10 : Int32) (js_sI σ 17 1 (3 : Int32)) r h) (fun r1 => ?_)
  refine js_putI dX5_passDamp_12 fp_X5_36 rfl rfl rfl rfl ?_
  refine js_aload_n dX5_passDamp_15 rfl rfl ?_
  refine js_getI dX5_passDamp_16 fl_X5_36 rfl rfl ?_
  refine js_if_lt 26 dX5_passDamp_19 rfl ?_ ?_
  · refine js_iconst dX5_passDamp_26 ki_0 ?_
    exact js_zret dX5_passDamp_27 rfl nb_0.1 rfl
  · refine js_iconst dX5_passDamp_22 ki_1 ?_
    refine js_goto 27 dX5_passDamp_23 rfl ?_
    exact js_zret dX5_passDamp_27 rfl nb_1.1 rfl

theorem qX5_passDamp (G : js_G) (σ : js_S) (r : (Int32 × js_S)) (h : fX5_passDamp σ = some r) : js_Con G shC mX5_passDamp [(.ref 17), (.ref 15)] σ (js_eW r) := js_con (mi := mX5_passDamp) 0 pn_X5 rfl (Nat.le_of_ble_eq_true rfl) (jX5_passDamp G σ) r h
def fX5_passLayer (σ : js_S) : Option (Int32 × js_S) := (fX4_passNumber ((js_sI σ 17 1 (2 : Int32)).1 17 0) (js_sI σ 17 1 (2 : Int32))).bind fun r1 => (if 0 ≤ ((js_sI r1.2 17 3 r1.1).1 17 3) then (fX4_passNumber (8 : Int32) (js_sI r1.2 17 3 r1.1)).bind fun r2 => (if 0 ≤ ((js_sI r2.2 17 4 r2.1).1 17 4) then (fX4_passNumber (16 : Int32) (js_sI r2.2 17 4 r2.1)).bind fun r3 => (if 0 ≤ ((js_sI r3.2 17 5 r3.1).1 17 5) then (fX4_pass 3 (js_sI r3.2 17 5 r3.1)).bind fun r4 => (if r4.1 = 0 then (if ((js_sI r4.2 17 7 (0 : Int32)).1 17 7) < 0 then some ((0 : Int32), (js_sI r4.2 17 7 (0 : Int32))) else some ((1 : Int32), (js_sI r4.2 17 7 (0 : Int32)))) else (fX4_passNumber (10 : Int32) r4.2).bind fun r5 => (if ((js_sI r5.2 17 7 r5.1).1 17 7) < 0 then some ((0 : Int32), (js_sI r5.2 17 7 r5.1)) else some ((1 : Int32), (js_sI r5.2 17 7 r5.1)))) else some ((0 : Int32), (js_sI r3.2 17 5 r3.1))) else some ((0 : Int32), (js_sI r2.2 17 4 r2.1))) else some ((0 : Int32), (js_sI r1.2 17 3 r1.1)))
set_option maxRecDepth 10000 in
theorem jX5_passLayer (G : js_G) (σ : js_S) : js_J G shC mX5_passLayer js_eW 0 [some (.ref 17), some (.ref 15)] [] σ (fX5_passLayer σ) := by
  unfold fX5_passLayer
  refine js_aload_n dX5_passLayer_0 rfl rfl ?_
  refine js_iconst dX5_passLayer_1 ki_2 ?_
  refine js_putI dX5_passLayer_2 fp_X5_15 rfl rfl rfl rfl ?_
  refine js_aload_n dX5_passLayer_5 rfl rfl ?_
  refine js_aload_n dX5_passLayer_6 rfl rfl ?_
  refine js_aload_n dX5_passLayer_7 rfl rfl ?_
  refine js_getI dX5_passLayer_8 fl_X5_9 rfl rfl ?_
  refine js_callV_W (mj := mX4_passNumber) [(.int ((js_sI σ 17 1 (2 : Int32)).1 17 0))] [(.ref 17)] dX5_passLayer_11 tw_636 cm_X4_passNumber cv_X4_passNumber rfl rfl rfl rfl rfl rfl (fun r h => qX4_passNumber G ((js_sI σ 17 1 (2 : Int32)).1 17 0) (js_sI σ 17 1 (2 : Int32)) r h) (fun r1 => ?_)
  refine js_putI dX5_passLayer_14 fp_X5_21 rfl rfl rfl rfl ?_
  refine js_aload_n dX5_passLayer_17 rfl rfl ?_
  refine js_getI dX5_passLayer_18 fl_X5_21 rfl rfl ?_
  refine js_if_ge 26 dX5_passLayer_21 rfl ?_ ?_
  · refine js_aload_n dX5_passLayer_26 rfl rfl ?_
    refine js_aload_n dX5_passLayer_27 rfl rfl ?_
    refine js_bipush dX5_passLayer_28 kb_8 ?_
    refine js_callV_W (mj := mX4_passNumber) [(.int (8 : Int32))] [(.ref 17)] dX5_passLayer_30 tw_636 cm_X4_passNumber cv_X4_passNumber rfl rfl rfl rfl rfl rfl (fun r h => qX4_passNumber G (8 : Int32) (js_sI r1.2 17 3 r1.1) r h) (fun r2 => ?_)
    refine js_putI dX5_passLayer_33 fp_X5_24 rfl rfl rfl rfl ?_
    refine js_aload_n dX5_passLayer_36 rfl rfl ?_
    refine js_getI dX5_passLayer_37 fl_X5_24 rfl rfl ?_
    refine js_if_ge 45 dX5_passLayer_40 rfl ?_ ?_
    · refine js_aload_n dX5_passLayer_45 rfl rfl ?_
      refine js_aload_n dX5_passLayer_46 rfl rfl ?_
      refine js_bipush dX5_passLayer_47 kb_16 ?_
      refine js_callV_W (mj := mX4_passNumber) [(.int (16 : Int32))] [(.ref 17)] dX5_passLayer_49 tw_636 cm_X4_passNumber cv_X4_passNumber rfl rfl rfl rfl rfl rfl (fun r h => qX4_passNumber G (16 : Int32) (js_sI r2.2 17 4 r2.1) r h) (fun r3 => ?_)
      refine js_putI dX5_passLayer_52 fp_X5_27 rfl rfl rfl rfl ?_
      refine js_aload_n dX5_passLayer_55 rfl rfl ?_
      refine js_getI dX5_passLayer_56 fl_X5_27 rfl rfl ?_
      refine js_if_ge 64 dX5_passLayer_59 rfl ?_ ?_
      · refine js_aload_n dX5_passLayer_64 rfl rfl ?_
        refine js_aload_n dX5_passLayer_65 rfl rfl ?_
        refine js_ldcS (q := (RX5, 97, "cake", 3)) dX5_passLayer_66 (by decide) rfl rfl ?_
        refine js_callV_W (mj := mX4_pass) [(.ref (1000 + 3))] [(.ref 17)] dX5_passLayer_68 tw_580 cm_X4_pass cv_X4_pass rfl rfl rfl rfl rfl rfl (fun r h => qX4_pass G 3 (js_sI r3.2 17 5 r3.1) (by first | decide | assumption | exact fX1_name_lt _) r h) (fun r4 => ?_)
        refine js_if_eq 83 dX5_passLayer_71 rfl ?_ ?_
        · refine js_iconst dX5_passLayer_83 ki_0 ?_
          refine js_putI dX5_passLayer_84 fp_X5_33 rfl rfl rfl rfl ?_
          refine js_aload_n dX5_passLayer_87 rfl rfl ?_
          refine js_getI dX5_passLayer_88 fl_X5_33 rfl rfl ?_
          refine js_if_lt 98 dX5_passLayer_91 rfl ?_ ?_
          · refine js_iconst dX5_passLayer_98 ki_0 ?_
            exact js_zret dX5_passLayer_99 rfl nb_0.1 rfl
          · refine js_iconst dX5_passLayer_94 ki_1 ?_
            refine js_goto 99 dX5_passLayer_95 rfl ?_
            exact js_zret dX5_passLayer_99 rfl nb_1.1 rfl
        · refine js_aload_n dX5_passLayer_74 rfl rfl ?_
          refine js_bipush dX5_passLayer_75 kb_10 ?_
          refine js_callV_W (mj := mX4_passNumber) [(.int (10 : Int32))] [(.ref 17)] dX5_passLayer_77 tw_636 cm_X4_passNumber cv_X4_passNumber rfl rfl rfl rfl rfl rfl (fun r h => qX4_passNumber G (10 : Int32) r4.2 r h) (fun r5 => ?_)
          refine js_goto 84 dX5_passLayer_80 rfl ?_
          refine js_putI dX5_passLayer_84 fp_X5_33 rfl rfl rfl rfl ?_
          refine js_aload_n dX5_passLayer_87 rfl rfl ?_
          refine js_getI dX5_passLayer_88 fl_X5_33 rfl rfl ?_
          refine js_if_lt 98 dX5_passLayer_91 rfl ?_ ?_
          · refine js_iconst dX5_passLayer_98 ki_0 ?_
            exact js_zret dX5_passLayer_99 rfl nb_0.1 rfl
          · refine js_iconst dX5_passLayer_94 ki_1 ?_
            refine js_goto 99 dX5_passLayer_95 rfl ?_
            exact js_zret dX5_passLayer_99 rfl nb_1.1 rfl
      · refine js_iconst dX5_passLayer_62 ki_0 ?_
        exact js_zret dX5_passLayer_63 rfl nb_0.1 rfl
    · refine js_iconst dX5_passLayer_43 ki_0 ?_
      exact js_zret dX5_passLayer_44 rfl nb_0.1 rfl
  · refine js_iconst dX5_passLayer_24 ki_0 ?_
    exact js_zret dX5_passLayer_25 rfl nb_0.1 rfl

theorem qX5_passLayer (G : js_G) (σ : js_S) (r : (Int32 × js_S)) (h : fX5_passLayer σ = some r) : js_Con G shC mX5_passLayer [(.ref 17), (.ref 15)] σ (js_eW r) := js_con (mi := mX5_passLayer) 0 pn_X5 rfl (Nat.le_of_ble_eq_true rfl) (jX5_passLayer G σ) r h
def fX5_passSaying (σ : js_S) : Option (Int32 × js_S) := (fX4_passNumber ((js_sI σ 17 1 (1 : Int32)).1 17 0) (js_sI σ 17 1 (1 : Int32))).bind fun r1 => (if 0 ≤ ((js_sI r1.2 17 3 r1.1).1 17 3) then (fX4_passNumber (16 : Int32) (js_sI r1.2 17 3 r1.1)).bind fun r2 => (if 0 ≤ ((js_sI r2.2 17 5 r2.1).1 17 5) then (fX4_pass 1 (js_sI r2.2 17 5 r2.1)).bind fun r3 => (if r3.1 = 0 then (if ((js_sI r3.2 17 6 (5 : Int32)).1 17 6) < 0 then some ((0 : Int32), (js_sI r3.2 17 6 (5 : Int32))) else some ((1 : Int32), (js_sI r3.2 17 6 (5 : Int32)))) else (fX4_passNumber (10 : Int32) r3.2).bind fun r4 => (if ((js_sI r4.2 17 6 r4.1).1 17 6) < 0 then some ((0 : Int32), (js_sI r4.2 17 6 r4.1)) else some ((1 : Int32), (js_sI r4.2 17 6 r4.1)))) else some ((0 : Int32), (js_sI r2.2 17 5 r2.1))) else some ((0 : Int32), (js_sI r1.2 17 3 r1.1)))
set_option maxRecDepth 10000 in
theorem jX5_passSaying (G : js_G) (σ : js_S) : js_J G shC mX5_passSaying js_eW 0 [some (.ref 17), some (.ref 15)] [] σ (fX5_passSaying σ) := by
  unfold fX5_passSaying
  refine js_aload_n dX5_passSaying_0 rfl rfl ?_
  refine js_iconst dX5_passSaying_1 ki_1 ?_
  refine js_putI dX5_passSaying_2 fp_X5_15 rfl rfl rfl rfl ?_
  refine js_aload_n dX5_passSaying_5 rfl rfl ?_
  refine js_aload_n dX5_passSaying_6 rfl rfl ?_
  refine js_aload_n dX5_passSaying_7 rfl rfl ?_
  refine js_getI dX5_passSaying_8 fl_X5_9 rfl rfl ?_
  refine js_callV_W (mj := mX4_passNumber) [(.int ((js_sI σ 17 1 (1 : Int32)).1 17 0))] [(.ref 17)] dX5_passSaying_11 tw_636 cm_X4_passNumber cv_X4_passNumber rfl rfl rfl rfl rfl rfl (fun r h => qX4_passNumber G ((js_sI σ 17 1 (1 : Int32)).1 17 0) (js_sI σ 17 1 (1 : Int32)) r h) (fun r1 => ?_)
  refine js_putI dX5_passSaying_14 fp_X5_21 rfl rfl rfl rfl ?_
  refine js_aload_n dX5_passSaying_17 rfl rfl ?_
  refine js_getI dX5_passSaying_18 fl_X5_21 rfl rfl ?_
  refine js_if_ge 26 dX5_passSaying_21 rfl ?_ ?_
  · refine js_aload_n dX5_passSaying_26 rfl rfl ?_
    refine js_aload_n dX5_passSaying_27 rfl rfl ?_
    refine js_bipush dX5_passSaying_28 kb_16 ?_
    refine js_callV_W (mj := mX4_passNumber) [(.int (16 : Int32))] [(.ref 17)] dX5_passSaying_30 tw_636 cm_X4_passNumber cv_X4_passNumber rfl rfl rfl rfl rfl rfl (fun r h => qX4_passNumber G (16 : Int32) (js_sI r1.2 17 3 r1.1) r h) (fun r2 => ?_)
    refine js_putI dX5_passSaying_33 fp_X5_27 rfl rfl rfl rfl ?_
    refine js_aload_n dX5_passSaying_36 rfl rfl ?_
    refine js_getI dX5_passSaying_37 fl_X5_27 rfl rfl ?_
    refine js_if_ge 45 dX5_passSaying_40 rfl ?_ ?_
    · refine js_aload_n dX5_passSaying_45 rfl rfl ?_
      refine js_aload_n dX5_passSaying_46 rfl rfl ?_
      refine js_ldcS (q := (RX5, 96, "voice", 1)) dX5_passSaying_47 (by decide) rfl rfl ?_
      refine js_callV_W (mj := mX4_pass) [(.ref (1000 + 1))] [(.ref 17)] dX5_passSaying_49 tw_580 cm_X4_pass cv_X4_pass rfl rfl rfl rfl rfl rfl (fun r h => qX4_pass G 1 (js_sI r2.2 17 5 r2.1) (by first | decide | assumption | exact fX1_name_lt _) r h) (fun r3 => ?_)
      refine js_if_eq 64 dX5_passSaying_52 rfl ?_ ?_
      · refine js_iconst dX5_passSaying_64 ki_5 ?_
        refine js_putI dX5_passSaying_65 fp_X5_30 rfl rfl rfl rfl ?_
        refine js_aload_n dX5_passSaying_68 rfl rfl ?_
        refine js_getI dX5_passSaying_69 fl_X5_30 rfl rfl ?_
        refine js_if_lt 79 dX5_passSaying_72 rfl ?_ ?_
        · refine js_iconst dX5_passSaying_79 ki_0 ?_
          exact js_zret dX5_passSaying_80 rfl nb_0.1 rfl
        · refine js_iconst dX5_passSaying_75 ki_1 ?_
          refine js_goto 80 dX5_passSaying_76 rfl ?_
          exact js_zret dX5_passSaying_80 rfl nb_1.1 rfl
      · refine js_aload_n dX5_passSaying_55 rfl rfl ?_
        refine js_bipush dX5_passSaying_56 kb_10 ?_
        refine js_callV_W (mj := mX4_passNumber) [(.int (10 : Int32))] [(.ref 17)] dX5_passSaying_58 tw_636 cm_X4_passNumber cv_X4_passNumber rfl rfl rfl rfl rfl rfl (fun r h => qX4_passNumber G (10 : Int32) r3.2 r h) (fun r4 => ?_)
        refine js_goto 65 dX5_passSaying_61 rfl ?_
        refine js_putI dX5_passSaying_65 fp_X5_30 rfl rfl rfl rfl ?_
        refine js_aload_n dX5_passSaying_68 rfl rfl ?_
        refine js_getI dX5_passSaying_69 fl_X5_30 rfl rfl ?_
        refine js_if_lt 79 dX5_passSaying_72 rfl ?_ ?_
        · refine js_iconst dX5_passSaying_79 ki_0 ?_
          exact js_zret dX5_passSaying_80 rfl nb_0.1 rfl
        · refine js_iconst dX5_passSaying_75 ki_1 ?_
          refine js_goto 80 dX5_passSaying_76 rfl ?_
          exact js_zret dX5_passSaying_80 rfl nb_1.1 rfl
    · refine js_iconst dX5_passSaying_43 ki_0 ?_
      exact js_zret dX5_passSaying_44 rfl nb_0.1 rfl
  · refine js_iconst dX5_passSaying_24 ki_0 ?_
    exact js_zret dX5_passSaying_25 rfl nb_0.1 rfl

theorem qX5_passSaying (G : js_G) (σ : js_S) (r : (Int32 × js_S)) (h : fX5_passSaying σ = some r) : js_Con G shC mX5_passSaying [(.ref 17), (.ref 15)] σ (js_eW r) := js_con (mi := mX5_passSaying) 0 pn_X5 rfl (Nat.le_of_ble_eq_true rfl) (jX5_passSaying G σ) r h
def fX5_passItem_L47 : Nat → Int32 → js_S → Option (Int32 × js_S)
  | 0, _, _ => none
  | n + 1, v2, σ => (if (6 : Int32) ≤ v2 then some ((0 : Int32), σ) else (if (6 : Int32) ≤ (σ.1 17 0) then some ((0 : Int32), σ) else (fX4_pass (fX1_name v2) σ).bind fun r4 => (if r4.1 = 0 then fX5_passItem_L47  n (v2 + (1 : Int32)) r4.2 else (fX5_passFlue v2 r4.2).bind fun r5 => js_gd (js_b01 r5.1) (some (r5.1, r5.2)))))
set_option maxRecDepth 10000 in
theorem jX5_passItem_L47 (G : js_G) : ∀ (n : Nat) (v2 : Int32) (σ : js_S), js_J G shC mX5_passItem js_eW 47 [some (.ref 17), some (.ref 15), some (.int v2)] [] σ (fX5_passItem_L47 n v2 σ) := by
  intro n
  induction n with
  | zero =>
    intros
    exact js_none
  | succ n ih1 =>
    intro v2 σ
    rw [fX5_passItem_L47]
    refine js_iload_n dX5_passItem_47 rfl rfl ?_
    refine js_bipush dX5_passItem_48 kb_6 ?_
    refine js_icmp_ge 85 dX5_passItem_50 rfl ?_ ?_
    · refine js_iconst dX5_passItem_85 ki_0 ?_
      exact js_zret dX5_passItem_86 rfl nb_0.1 rfl
    · refine js_aload_n dX5_passItem_53 rfl rfl ?_
      refine js_getI dX5_passItem_54 fl_X5_9 rfl rfl ?_
      refine js_bipush dX5_passItem_57 kb_6 ?_
      refine js_icmp_ge 85 dX5_passItem_59 rfl ?_ ?_
      · refine js_iconst dX5_passItem_85 ki_0 ?_
        exact js_zret dX5_passItem_86 rfl nb_0.1 rfl
      · refine js_aload_n dX5_passItem_62 rfl rfl ?_
        refine js_iload_n dX5_passItem_63 rfl rfl ?_
        refine js_callS_PS (mj := mX1_name) [(.int v2)] [(.ref 15)] dX5_passItem_64 tw_652 cm_X1_name tw_653 rfl rfl rfl rfl (qX1_name G v2 σ) ?_
        refine js_callV_W (mj := mX4_pass) [(.ref (1000 + (fX1_name v2)))] [] dX5_passItem_67 tw_580 cm_X4_pass cv_X4_pass rfl rfl rfl rfl rfl rfl (fun r h => qX4_pass G (fX1_name v2) σ (by first | decide | assumption | exact fX1_name_lt _) r h) (fun r4 => ?_)
        refine js_if_eq 79 dX5_passItem_70 rfl ?_ ?_
        · refine js_iinc (v := (v2 + (1 : Int32))) (lv' := [some (.ref 17), some (.ref 15), some (.int (v2 + (1 : Int32)))]) dX5_passItem_79 rfl (kx_1 _) rfl rfl rfl ?_
          refine js_goto 47 dX5_passItem_82 rfl ?_
          exact ih1 (v2 + (1 : Int32)) r4.2
        · refine js_aload_n dX5_passItem_73 rfl rfl ?_
          refine js_iload_n dX5_passItem_74 rfl rfl ?_
          refine js_callV_W (mj := mX5_passFlue) [(.int v2)] [] dX5_passItem_75 tw_661 cm_X5_passFlue cv_X5_passFlue rfl rfl rfl rfl rfl rfl (fun r h => qX5_passFlue G v2 r4.2 r h) (fun r5 => ?_)
          exact js_zrg dX5_passItem_78 rfl rfl

def fX5_passItem (σ : js_S) : Option (Int32 × js_S) := (fX4_pass 0 σ).bind fun r1 => (if r1.1 = 0 then (fX4_pass 2 r1.2).bind fun r2 => (if r2.1 = 0 then (fX4_pass 4 r2.2).bind fun r3 => (if r3.1 = 0 then fX5_passItem_L47 js_FU (0 : Int32) r3.2 else (fX5_passDamp r3.2).bind fun r6 => js_gd (js_b01 r6.1) (some (r6.1, r6.2))) else (fX5_passLayer r2.2).bind fun r7 => js_gd (js_b01 r7.1) (some (r7.1, r7.2))) else (fX5_passSaying r1.2).bind fun r8 => js_gd (js_b01 r8.1) (some (r8.1, r8.2)))
set_option maxRecDepth 10000 in
theorem jX5_passItem (G : js_G) (σ : js_S) : js_J G shC mX5_passItem js_eW 0 [some (.ref 17), some (.ref 15), none] [] σ (fX5_passItem σ) := by
  unfold fX5_passItem
  refine js_aload_n dX5_passItem_0 rfl rfl ?_
  refine js_ldcS (q := (RX5, 64, "say", 0)) dX5_passItem_1 (by decide) rfl rfl ?_
  refine js_callV_W (mj := mX4_pass) [(.ref (1000 + 0))] [] dX5_passItem_3 tw_580 cm_X4_pass cv_X4_pass rfl rfl rfl rfl rfl rfl (fun r h => qX4_pass G 0 σ (by first | decide | assumption | exact fX1_name_lt _) r h) (fun r1 => ?_)
  refine js_if_eq 15 dX5_passItem_6 rfl ?_ ?_
  · refine js_aload_n dX5_passItem_15 rfl rfl ?_
    refine js_ldcS (q := (RX5, 73, "layer", 2)) dX5_passItem_16 (by decide) rfl rfl ?_
    refine js_callV_W (mj := mX4_pass) [(.ref (1000 + 2))] [] dX5_passItem_18 tw_580 cm_X4_pass cv_X4_pass rfl rfl rfl rfl rfl rfl (fun r h => qX4_pass G 2 r1.2 (by first | decide | assumption | exact fX1_name_lt _) r h) (fun r2 => ?_)
    refine js_if_eq 30 dX5_passItem_21 rfl ?_ ?_
    · refine js_aload_n dX5_passItem_30 rfl rfl ?_
      refine js_ldcS (q := (RX5, 78, "damp", 4)) dX5_passItem_31 (by decide) rfl rfl ?_
      refine js_callV_W (mj := mX4_pass) [(.ref (1000 + 4))] [] dX5_passItem_33 tw_580 cm_X4_pass cv_X4_pass rfl rfl rfl rfl rfl rfl (fun r h => qX4_pass G 4 r2.2 (by first | decide | assumption | exact fX1_name_lt _) r h) (fun r3 => ?_)
      refine js_if_eq 45 dX5_passItem_36 rfl ?_ ?_
      · refine js_iconst dX5_passItem_45 ki_0 ?_
        refine js_istore_n (lv' := [some (.ref 17), some (.ref 15), some (.int (0 : Int32))]) dX5_passItem_46 rfl rfl rfl rfl ?_
        exact jX5_passItem_L47 G  _ (0 : Int32) r3.2
      · refine js_aload_n dX5_passItem_39 rfl rfl ?_
        refine js_aload_n dX5_passItem_40 rfl rfl ?_
        refine js_callV_W (mj := mX5_passDamp) [(.ref 15)] [] dX5_passItem_41 tw_648 cm_X5_passDamp cv_X5_passDamp rfl rfl rfl rfl rfl rfl (fun r h => qX5_passDamp G r3.2 r h) (fun r6 => ?_)
        exact js_zrg dX5_passItem_44 rfl rfl
    · refine js_aload_n dX5_passItem_24 rfl rfl ?_
      refine js_aload_n dX5_passItem_25 rfl rfl ?_
      refine js_callV_W (mj := mX5_passLayer) [(.ref 15)] [] dX5_passItem_26 tw_642 cm_X5_passLayer cv_X5_passLayer rfl rfl rfl rfl rfl rfl (fun r h => qX5_passLayer G r2.2 r h) (fun r7 => ?_)
      exact js_zrg dX5_passItem_29 rfl rfl
  · refine js_aload_n dX5_passItem_9 rfl rfl ?_
    refine js_aload_n dX5_passItem_10 rfl rfl ?_
    refine js_callV_W (mj := mX5_passSaying) [(.ref 15)] [] dX5_passItem_11 tw_632 cm_X5_passSaying cv_X5_passSaying rfl rfl rfl rfl rfl rfl (fun r h => qX5_passSaying G r1.2 r h) (fun r8 => ?_)
    exact js_zrg dX5_passItem_14 rfl rfl

theorem qX5_passItem (G : js_G) (σ : js_S) (r : (Int32 × js_S)) (h : fX5_passItem σ = some r) : js_Con G shC mX5_passItem [(.ref 17), (.ref 15)] σ (js_eW r) := js_con (mi := mX5_passItem) 1 pn_X5 rfl (Nat.le_of_ble_eq_true rfl) (jX5_passItem G σ) r h
def fX5_perform (σ : js_S) : Option js_S := (if (σ.1 17 1) = (1 : Int32) then (fX3_speak (σ.1 17 3) (σ.1 17 5) (σ.1 17 6) σ).bind fun r6 => some r6.2 else (if (σ.1 17 1) = (2 : Int32) then (fX3_lay (σ.1 17 3) (σ.1 17 4) (σ.1 17 5) (σ.1 17 7) σ).bind fun r5 => some r5 else (if (σ.1 17 1) = (3 : Int32) then some (js_sI σ 1 1 (σ.1 17 8)) else (fX3_addFlue (σ.1 17 2) σ).bind fun r1 => some r1.2)))
set_option maxRecDepth 10000 in
theorem jX5_perform (G : js_G) (σ : js_S) : js_J G shC mX5_perform js_eV 0 [some (.ref 17), some (.ref 1)] [] σ (fX5_perform σ) := by
  unfold fX5_perform
  refine js_aload_n dX5_perform_0 rfl rfl ?_
  refine js_getI dX5_perform_1 fl_X5_15 rfl rfl ?_
  refine js_split (fun h2 => ?_) (fun h2 => ?_)
  · refine js_tabI (1 : Int32) (off := 28) 32 dX5_perform_4 h2 (by decide) ?_
    refine js_aload_n dX5_perform_32 rfl rfl ?_
    refine js_aload_n dX5_perform_33 rfl rfl ?_
    refine js_getI dX5_perform_34 fl_X5_21 rfl rfl ?_
    refine js_aload_n dX5_perform_37 rfl rfl ?_
    refine js_getI dX5_perform_38 fl_X5_27 rfl rfl ?_
    refine js_aload_n dX5_perform_41 rfl rfl ?_
    refine js_getI dX5_perform_42 fl_X5_30 rfl rfl ?_
    refine js_callV_W (mj := mX3_speak) [(.int (σ.1 17 3)), (.int (σ.1 17 5)), (.int (σ.1 17 6))] [] dX5_perform_45 tw_669 cm_X3_speak cv_X3_speak rfl rfl rfl rfl rfl rfl (fun r h => qX3_speak G (σ.1 17 3) (σ.1 17 5) (σ.1 17 6) σ r h) (fun r6 => ?_)
    refine js_pop dX5_perform_48 rfl ?_
    refine js_goto 95 dX5_perform_49 rfl ?_
    exact js_vret dX5_perform_95 rfl rfl
  · refine js_split (fun h3 => ?_) (fun h3 => ?_)
    · refine js_tabI (2 : Int32) (off := 48) 52 dX5_perform_4 h3 (by decide) ?_
      refine js_aload_n dX5_perform_52 rfl rfl ?_
      refine js_aload_n dX5_perform_53 rfl rfl ?_
      refine js_getI dX5_perform_54 fl_X5_21 rfl rfl ?_
      refine js_aload_n dX5_perform_57 rfl rfl ?_
      refine js_getI dX5_perform_58 fl_X5_24 rfl rfl ?_
      refine js_aload_n dX5_perform_61 rfl rfl ?_
      refine js_getI dX5_perform_62 fl_X5_27 rfl rfl ?_
      refine js_aload_n dX5_perform_65 rfl rfl ?_
      refine js_getI dX5_perform_66 fl_X5_33 rfl rfl ?_
      refine js_callV_V (mj := mX3_lay) [(.int (σ.1 17 3)), (.int (σ.1 17 4)), (.int (σ.1 17 5)), (.int (σ.1 17 7))] [] dX5_perform_69 tw_670 cm_X3_lay cv_X3_lay rfl rfl rfl rfl rfl rfl (fun r h => qX3_lay G (σ.1 17 3) (σ.1 17 4) (σ.1 17 5) (σ.1 17 7) σ r h) (fun r5 => ?_)
      refine js_goto 95 dX5_perform_72 rfl ?_
      exact js_vret dX5_perform_95 rfl rfl
    · refine js_split (fun h4 => ?_) (fun h4 => ?_)
      · refine js_tabI (3 : Int32) (off := 71) 75 dX5_perform_4 h4 (by decide) ?_
        refine js_aload_n dX5_perform_75 rfl rfl ?_
        refine js_aload_n dX5_perform_76 rfl rfl ?_
        refine js_getI dX5_perform_77 fl_X5_36 rfl rfl ?_
        refine js_putI dX5_perform_80 fp_X5_106 rfl rfl rfl rfl ?_
        refine js_goto 95 dX5_perform_83 rfl ?_
        exact js_vret dX5_perform_95 rfl rfl
      · refine js_tabO 86 dX5_perform_4 (by have eh2 := lv_neT h2 (k := (1 : Int32)) (a := 1) (by decide); have eh3 := lv_neT h3 (k := (2 : Int32)) (a := 2) (by decide); have eh4 := lv_neT h4 (k := (3 : Int32)) (a := 3) (by decide); omega) rfl ?_
        refine js_aload_n dX5_perform_86 rfl rfl ?_
        refine js_aload_n dX5_perform_87 rfl rfl ?_
        refine js_getI dX5_perform_88 fl_X5_18 rfl rfl ?_
        refine js_callV_W (mj := mX3_addFlue) [(.int (σ.1 17 2))] [] dX5_perform_91 tw_671 cm_X3_addFlue cv_X3_addFlue rfl rfl rfl rfl rfl rfl (fun r h => qX3_addFlue G (σ.1 17 2) σ r h) (fun r1 => ?_)
        refine js_pop dX5_perform_94 rfl ?_
        exact js_vret dX5_perform_95 rfl rfl

theorem qX5_perform (G : js_G) (σ : js_S) (r : js_S) (h : fX5_perform σ = some r) : js_Con G shC mX5_perform [(.ref 17), (.ref 1)] σ (js_eV r) := js_con (mi := mX5_perform) 0 pn_X5 rfl (Nat.le_of_ble_eq_true rfl) (jX5_perform G σ) r h
def fX5_goThrough_L15 (p3 : Int32) : Nat → Int32 → js_S → Option (Int32 × js_S)
  | 0, _, _ => none
  | n + 1, v4, σ => (if (120 : Int32) < v4 then some (((-1 : Int32) - (σ.1 15 2)), σ) else (fX5_passItem σ).bind fun r2 => (if r2.1 = 0 then some (((-1 : Int32) - (r2.2.1 15 2)), r2.2) else (if p3 = 0 then (if (r2.2.1 15 1) = 0 then some (v4, r2.2) else (if (r2.2.1 15 1) = (3 : Int32) then (fX4_step r2.2).bind fun r3 => fX5_goThrough_L15 p3 n (v4 + (1 : Int32)) r3 else some (((-1 : Int32) - (r2.2.1 15 2)), r2.2))) else (fX5_perform r2.2).bind fun r4 => (if (r4.1 15 1) = 0 then some (v4, r4) else (if (r4.1 15 1) = (3 : Int32) then (fX4_step r4).bind fun r5 => fX5_goThrough_L15 p3 n (v4 + (1 : Int32)) r5 else some (((-1 : Int32) - (r4.1 15 2)), r4))))))
set_option maxRecDepth 10000 in
theorem jX5_goThrough_L15 (G : js_G) (p3 : Int32) : ∀ (n : Nat) (v4 : Int32) (σ : js_S), js_J G shC mX5_goThrough js_eW 15 [some (.ref 17), some (.ref 15), some (.ref 1), some (.int p3), some (.int v4)] [] σ (fX5_goThrough_L15 p3 n v4 σ) := by
  intro n
  induction n with
  | zero =>
    intros
    exact js_none
  | succ n ih1 =>
    intro v4 σ
    rw [fX5_goThrough_L15]
    refine js_iload dX5_goThrough_15 rfl ?_
    refine js_bipush dX5_goThrough_17 kb_120 ?_
    refine js_icmp_gt 73 dX5_goThrough_19 rfl ?_ ?_
    · refine js_iconst dX5_goThrough_73 ki_m1 ?_
      refine js_aload_n dX5_goThrough_74 rfl rfl ?_
      refine js_getI dX5_goThrough_75 fl_X5_61 rfl rfl ?_
      refine js_isub dX5_goThrough_78 ?_
      exact js_iret dX5_goThrough_79 rfl rfl
    · refine js_aload_n dX5_goThrough_22 rfl rfl ?_
      refine js_aload_n dX5_goThrough_23 rfl rfl ?_
      refine js_callV_W (mj := mX5_passItem) [(.ref 15)] [] dX5_goThrough_24 tw_575 cm_X5_passItem cv_X5_passItem rfl rfl rfl rfl rfl rfl (fun r h => qX5_passItem G σ r h) (fun r2 => ?_)
      refine js_if_ne 33 dX5_goThrough_27 rfl ?_ ?_
      · refine js_iload_n dX5_goThrough_33 rfl rfl ?_
        refine js_if_eq 42 dX5_goThrough_34 rfl ?_ ?_
        · refine js_aload_n dX5_goThrough_42 rfl rfl ?_
          refine js_getI dX5_goThrough_43 fl_X5_55 rfl rfl ?_
          refine js_if_ne 52 dX5_goThrough_46 rfl ?_ ?_
          · refine js_aload_n dX5_goThrough_52 rfl rfl ?_
            refine js_getI dX5_goThrough_53 fl_X5_55 rfl rfl ?_
            refine js_iconst dX5_goThrough_56 ki_3 ?_
            refine js_icmp_eq 63 dX5_goThrough_57 rfl ?_ ?_
            · refine js_aload_n dX5_goThrough_63 rfl rfl ?_
              refine js_callV_V (mj := mX4_step) [] [] dX5_goThrough_64 tw_672 cm_X4_step cv_X4_step rfl rfl rfl rfl rfl rfl (fun r h => qX4_step G r2.2 r h) (fun r3 => ?_)
              refine js_iinc (v := (v4 + (1 : Int32))) (lv' := [some (.ref 17), some (.ref 15), some (.ref 1), some (.int p3), some (.int (v4 + (1 : Int32)))]) dX5_goThrough_67 rfl (kx_1 _) rfl rfl rfl ?_
              refine js_goto 15 dX5_goThrough_70 rfl ?_
              exact ih1 (v4 + (1 : Int32)) r3
            · refine js_goto 73 dX5_goThrough_60 rfl ?_
              refine js_iconst dX5_goThrough_73 ki_m1 ?_
              refine js_aload_n dX5_goThrough_74 rfl rfl ?_
              refine js_getI dX5_goThrough_75 fl_X5_61 rfl rfl ?_
              refine js_isub dX5_goThrough_78 ?_
              exact js_iret dX5_goThrough_79 rfl rfl
          · refine js_iload dX5_goThrough_49 rfl ?_
            exact js_iret dX5_goThrough_51 rfl rfl
        · refine js_aload_n dX5_goThrough_37 rfl rfl ?_
          refine js_aload_n dX5_goThrough_38 rfl rfl ?_
          refine js_callV_V (mj := mX5_perform) [(.ref 1)] [] dX5_goThrough_39 tw_665 cm_X5_perform cv_X5_perform rfl rfl rfl rfl rfl rfl (fun r h => qX5_perform G r2.2 r h) (fun r4 => ?_)
          refine js_aload_n dX5_goThrough_42 rfl rfl ?_
          refine js_getI dX5_goThrough_43 fl_X5_55 rfl rfl ?_
          refine js_if_ne 52 dX5_goThrough_46 rfl ?_ ?_
          · refine js_aload_n dX5_goThrough_52 rfl rfl ?_
            refine js_getI dX5_goThrough_53 fl_X5_55 rfl rfl ?_
            refine js_iconst dX5_goThrough_56 ki_3 ?_
            refine js_icmp_eq 63 dX5_goThrough_57 rfl ?_ ?_
            · refine js_aload_n dX5_goThrough_63 rfl rfl ?_
              refine js_callV_V (mj := mX4_step) [] [] dX5_goThrough_64 tw_672 cm_X4_step cv_X4_step rfl rfl rfl rfl rfl rfl (fun r h => qX4_step G r4 r h) (fun r5 => ?_)
              refine js_iinc (v := (v4 + (1 : Int32))) (lv' := [some (.ref 17), some (.ref 15), some (.ref 1), some (.int p3), some (.int (v4 + (1 : Int32)))]) dX5_goThrough_67 rfl (kx_1 _) rfl rfl rfl ?_
              refine js_goto 15 dX5_goThrough_70 rfl ?_
              exact ih1 (v4 + (1 : Int32)) r5
            · refine js_goto 73 dX5_goThrough_60 rfl ?_
              refine js_iconst dX5_goThrough_73 ki_m1 ?_
              refine js_aload_n dX5_goThrough_74 rfl rfl ?_
              refine js_getI dX5_goThrough_75 fl_X5_61 rfl rfl ?_
              refine js_isub dX5_goThrough_78 ?_
              exact js_iret dX5_goThrough_79 rfl rfl
          · refine js_iload dX5_goThrough_49 rfl ?_
            exact js_iret dX5_goThrough_51 rfl rfl
      · refine js_goto 73 dX5_goThrough_30 rfl ?_
        refine js_iconst dX5_goThrough_73 ki_m1 ?_
        refine js_aload_n dX5_goThrough_74 rfl rfl ?_
        refine js_getI dX5_goThrough_75 fl_X5_61 rfl rfl ?_
        refine js_isub dX5_goThrough_78 ?_
        exact js_iret dX5_goThrough_79 rfl rfl

def fX5_goThrough (a3 : Int32) (σ : js_S) : Option (Int32 × js_S) := (fX4_begin (js_sI σ 17 0 (σ.1 1 2))).bind fun r1 => fX5_goThrough_L15 a3 js_FU (1 : Int32) r1
set_option maxRecDepth 10000 in
theorem jX5_goThrough (G : js_G) (a3 : Int32) (σ : js_S) : js_J G shC mX5_goThrough js_eW 0 [some (.ref 17), some (.ref 15), some (.ref 1), some (.int a3), none] [] σ (fX5_goThrough a3 σ) := by
  unfold fX5_goThrough
  refine js_aload_n dX5_goThrough_0 rfl rfl ?_
  refine js_aload_n dX5_goThrough_1 rfl rfl ?_
  refine js_getI dX5_goThrough_2 fl_X5_39 rfl rfl ?_
  refine js_putI dX5_goThrough_5 fp_X5_9 rfl rfl rfl rfl ?_
  refine js_aload_n dX5_goThrough_8 rfl rfl ?_
  refine js_callV_V (mj := mX4_begin) [] [] dX5_goThrough_9 tw_556 cm_X4_begin cv_X4_begin rfl rfl rfl rfl rfl rfl (fun r h => qX4_begin G (js_sI σ 17 0 (σ.1 1 2)) r h) (fun r1 => ?_)
  refine js_iconst dX5_goThrough_12 ki_1 ?_
  refine js_istore (lv' := [some (.ref 17), some (.ref 15), some (.ref 1), some (.int a3), some (.int (1 : Int32))]) dX5_goThrough_13 rfl rfl rfl ?_
  exact jX5_goThrough_L15 G a3  _ (1 : Int32) r1

theorem qX5_goThrough (G : js_G) (a3 : Int32) (σ : js_S) (r : (Int32 × js_S)) (h : fX5_goThrough a3 σ = some r) : js_Con G shC mX5_goThrough [(.ref 17), (.ref 15), (.ref 1), (.int a3)] σ (js_eW r) := js_con (mi := mX5_goThrough) 1 pn_X5 rfl (Nat.le_of_ble_eq_true rfl) (jX5_goThrough G a3 σ) r h
