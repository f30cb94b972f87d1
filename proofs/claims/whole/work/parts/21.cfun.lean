def fX3_layersOfCake_L25 (k59 : Int32 → Option Int32) (p1 : Int32) (p3 : Int32) (p4 : Int32) (σ : js_S) : Nat → Int32 → Int32 → Option Int32
  | 0, _, _ => none
  | n + 1, v2, v5 => (fX3_height p3 p4 σ).bind fun r1 => (if r1 ≤ v5 then k59 v2 else (fX3_cakeAt p3 p4 v5 σ).bind fun r2 => (if r2 = p1 then fX3_layersOfCake_L25 k59 p1 p3 p4 σ n (v2 + (1 : Int32)) (v5 + (1 : Int32)) else fX3_layersOfCake_L25 k59 p1 p3 p4 σ n v2 (v5 + (1 : Int32))))
set_option maxRecDepth 10000 in
theorem jX3_layersOfCake_L25 (G : js_G) (k59 : Int32 → Option Int32) (p1 : Int32) (p3 : Int32) (p4 : Int32) (σ : js_S) (hk59 : ∀ (w2 : Int32), js_J G shC mX3_layersOfCake (js_eI σ) 59 [some (.ref 1), some (.int p1), some (.int w2), some (.int p3), some (.int p4), none] [] σ (k59 w2)) : ∀ (n : Nat) (v2 : Int32) (v5 : Int32), js_J G shC mX3_layersOfCake (js_eI σ) 25 [some (.ref 1), some (.int p1), some (.int v2), some (.int p3), some (.int p4), some (.int v5)] [] σ (fX3_layersOfCake_L25 k59 p1 p3 p4 σ n v2 v5) := by
  intro n
  induction n with
  | zero =>
    intros
    exact js_none
  | succ n ih3 =>
    intro v2 v5
    rw [fX3_layersOfCake_L25]
    refine js_iload dX3_layersOfCake_25 rfl ?_
    refine js_aload_n dX3_layersOfCake_27 rfl rfl ?_
    refine js_iload_n dX3_layersOfCake_28 rfl rfl ?_
    refine js_iload dX3_layersOfCake_29 rfl ?_
    refine js_callV_I (mj := mX3_height) [(.int p3), (.int p4)] [(.int v5)] dX3_layersOfCake_31 tw_244 cm_X3_height cv_X3_height rfl rfl rfl rfl rfl rfl (fun r h => qX3_height G p3 p4 σ r h) (fun r1 => ?_)
    refine js_icmp_ge 59 dX3_layersOfCake_34 rfl ?_ ?_
    · refine js_drop [true, true, true, true, true, false] (lv2 := [some (.ref 1), some (.int p1), some (.int v2), some (.int p3), some (.int p4), none]) rfl ?_
      exact hk59 v2
    · refine js_aload_n dX3_layersOfCake_37 rfl rfl ?_
      refine js_iload_n dX3_layersOfCake_38 rfl rfl ?_
      refine js_iload dX3_layersOfCake_39 rfl ?_
      refine js_iload dX3_layersOfCake_41 rfl ?_
      refine js_callV_I (mj := mX3_cakeAt) [(.int p3), (.int p4), (.int v5)] [] dX3_layersOfCake_43 tw_384 cm_X3_cakeAt cv_X3_cakeAt rfl rfl rfl rfl rfl rfl (fun r h => qX3_cakeAt G p3 p4 v5 σ r h) (fun r2 => ?_)
      refine js_iload_n dX3_layersOfCake_46 rfl rfl ?_
      refine js_icmp_ne 53 dX3_layersOfCake_47 rfl ?_ ?_
      · refine js_iinc (v := (v5 + (1 : Int32))) (lv' := [some (.ref 1), some (.int p1), some (.int v2), some (.int p3), some (.int p4), some (.int (v5 + (1 : Int32)))]) dX3_layersOfCake_53 rfl (kx_1 _) rfl rfl rfl ?_
        refine js_goto 25 dX3_layersOfCake_56 rfl ?_
        exact ih3 v2 (v5 + (1 : Int32))
      · refine js_iinc (v := (v2 + (1 : Int32))) (lv' := [some (.ref 1), some (.int p1), some (.int (v2 + (1 : Int32))), some (.int p3), some (.int p4), some (.int v5)]) dX3_layersOfCake_50 rfl (kx_1 _) rfl rfl rfl ?_
        refine js_iinc (v := (v5 + (1 : Int32))) (lv' := [some (.ref 1), some (.int p1), some (.int (v2 + (1 : Int32))), some (.int p3), some (.int p4), some (.int (v5 + (1 : Int32)))]) dX3_layersOfCake_53 rfl (kx_1 _) rfl rfl rfl ?_
        refine js_goto 25 dX3_layersOfCake_56 rfl ?_
        exact ih3 (v2 + (1 : Int32)) (v5 + (1 : Int32))

def fX3_layersOfCake_L15 (k65 : Int32 → Option Int32) (p1 : Int32) (p3 : Int32) (σ : js_S) : Nat → Int32 → Int32 → Option Int32
  | 0, _, _ => none
  | n + 1, v2, v4 => (if (8 : Int32) ≤ v4 then k65 v2 else fX3_layersOfCake_L25 (fun w3 => fX3_layersOfCake_L15 k65 p1 p3 σ n w3 (v4 + (1 : Int32))) p1 p3 v4 σ js_FU v2 (0 : Int32))
set_option maxRecDepth 10000 in
theorem jX3_layersOfCake_L15 (G : js_G) (k65 : Int32 → Option Int32) (p1 : Int32) (p3 : Int32) (σ : js_S) (hk65 : ∀ (w2 : Int32), js_J G shC mX3_layersOfCake (js_eI σ) 65 [some (.ref 1), some (.int p1), some (.int w2), some (.int p3), none, none] [] σ (k65 w2)) : ∀ (n : Nat) (v2 : Int32) (v4 : Int32), js_J G shC mX3_layersOfCake (js_eI σ) 15 [some (.ref 1), some (.int p1), some (.int v2), some (.int p3), some (.int v4), none] [] σ (fX3_layersOfCake_L15 k65 p1 p3 σ n v2 v4) := by
  intro n
  induction n with
  | zero =>
    intros
    exact js_none
  | succ n ih2 =>
    intro v2 v4
    rw [fX3_layersOfCake_L15]
    refine js_iload dX3_layersOfCake_15 rfl ?_
    refine js_bipush dX3_layersOfCake_17 kb_8 ?_
    refine js_icmp_ge 65 dX3_layersOfCake_19 rfl ?_ ?_
    · refine js_drop [true, true, true, true, false, false] (lv2 := [some (.ref 1), some (.int p1), some (.int v2), some (.int p3), none, none]) rfl ?_
      exact hk65 v2
    · refine js_iconst dX3_layersOfCake_22 ki_0 ?_
      refine js_istore (lv' := [some (.ref 1), some (.int p1), some (.int v2), some (.int p3), some (.int v4), some (.int (0 : Int32))]) dX3_layersOfCake_23 rfl rfl rfl ?_
      refine jX3_layersOfCake_L25 G _ p1 p3 v4 σ (fun w3 => ?_) _ v2 (0 : Int32)
      refine js_iinc (v := (v4 + (1 : Int32))) (lv' := [some (.ref 1), some (.int p1), some (.int w3), some (.int p3), some (.int (v4 + (1 : Int32))), none]) dX3_layersOfCake_59 rfl (kx_1 _) rfl rfl rfl ?_
      refine js_goto 15 dX3_layersOfCake_62 rfl ?_
      exact ih2 w3 (v4 + (1 : Int32))

def fX3_layersOfCake_L4 (p1 : Int32) (σ : js_S) : Nat → Int32 → Int32 → Option Int32
  | 0, _, _ => none
  | n + 1, v2, v3 => (if (σ.1 1 2) ≤ v3 then some v2 else fX3_layersOfCake_L15 (fun w4 => fX3_layersOfCake_L4 p1 σ n w4 (v3 + (1 : Int32))) p1 v3 σ js_FU v2 (0 : Int32))
set_option maxRecDepth 10000 in
theorem jX3_layersOfCake_L4 (G : js_G) (p1 : Int32) (σ : js_S) : ∀ (n : Nat) (v2 : Int32) (v3 : Int32), js_J G shC mX3_layersOfCake (js_eI σ) 4 [some (.ref 1), some (.int p1), some (.int v2), some (.int v3), none, none] [] σ (fX3_layersOfCake_L4 p1 σ n v2 v3) := by
  intro n
  induction n with
  | zero =>
    intros
    exact js_none
  | succ n ih1 =>
    intro v2 v3
    rw [fX3_layersOfCake_L4]
    refine js_iload_n dX3_layersOfCake_4 rfl rfl ?_
    refine js_aload_n dX3_layersOfCake_5 rfl rfl ?_
    refine js_getI dX3_layersOfCake_6 fl_X3_18 rfl rfl ?_
    refine js_icmp_ge 71 dX3_layersOfCake_9 rfl ?_ ?_
    · refine js_iload_n dX3_layersOfCake_71 rfl rfl ?_
      exact js_iret dX3_layersOfCake_72 rfl rfl
    · refine js_iconst dX3_layersOfCake_12 ki_0 ?_
      refine js_istore (lv' := [some (.ref 1), some (.int p1), some (.int v2), some (.int v3), some (.int (0 : Int32)), none]) dX3_layersOfCake_13 rfl rfl rfl ?_
      refine jX3_layersOfCake_L15 G _ p1 v3 σ (fun w4 => ?_) _ v2 (0 : Int32)
      refine js_iinc (v := (v3 + (1 : Int32))) (lv' := [some (.ref 1), some (.int p1), some (.int w4), some (.int (v3 + (1 : Int32))), none, none]) dX3_layersOfCake_65 rfl (kx_1 _) rfl rfl rfl ?_
      refine js_goto 4 dX3_layersOfCake_68 rfl ?_
      exact ih1 w4 (v3 + (1 : Int32))

def fX3_layersOfCake (a1 : Int32) (σ : js_S) : Option Int32 := fX3_layersOfCake_L4 a1 σ js_FU (0 : Int32) (0 : Int32)
set_option maxRecDepth 10000 in
theorem jX3_layersOfCake (G : js_G) (a1 : Int32) (σ : js_S) : js_J G shC mX3_layersOfCake (js_eI σ) 0 [some (.ref 1), some (.int a1), none, none, none, none] [] σ (fX3_layersOfCake a1 σ) := by
  unfold fX3_layersOfCake
  refine js_iconst dX3_layersOfCake_0 ki_0 ?_
  refine js_istore_n (lv' := [some (.ref 1), some (.int a1), some (.int (0 : Int32)), none, none, none]) dX3_layersOfCake_1 rfl rfl rfl rfl ?_
  refine js_iconst dX3_layersOfCake_2 ki_0 ?_
  refine js_istore_n (lv' := [some (.ref 1), some (.int a1), some (.int (0 : Int32)), some (.int (0 : Int32)), none, none]) dX3_layersOfCake_3 rfl rfl rfl rfl ?_
  exact jX3_layersOfCake_L4 G a1 σ  _ (0 : Int32) (0 : Int32)

theorem qX3_layersOfCake (G : js_G) (a1 : Int32) (σ : js_S) (r : Int32) (h : fX3_layersOfCake a1 σ = some r) : js_Con G shC mX3_layersOfCake [(.ref 1), (.int a1)] σ ((js_eI σ) r) := js_con (mi := mX3_layersOfCake) 4 pn_X3 rfl (Nat.le_of_ble_eq_true rfl) (jX3_layersOfCake G a1 σ) r h
def fX7_days (a1 : Int32) (σ : js_S) : Option (Int32 × js_S) := (if a1 < (1 : Int32) then (fX7_found (-1000000001 : Int32) σ).bind fun r1 => some (r1.1, r1.2) else (if a1 ≤ (60 : Int32) then (if ((σ.1 1 0) + a1) ≤ (9999 : Int32) then (fX3_passDays a1 σ).bind fun r2 => (fX3_layersOfCake (9 : Int32) r2).bind fun r3 => some (r3, r2) else (fX7_found (-1000000005 : Int32) σ).bind fun r4 => some (r4.1, r4.2)) else (fX7_found (-1000000001 : Int32) σ).bind fun r5 => some (r5.1, r5.2)))
set_option maxRecDepth 10000 in
theorem jX7_days (G : js_G) (a1 : Int32) (σ : js_S) : js_J G shC mX7_days js_eW 0 [some (.ref 0), some (.int a1)] [] σ (fX7_days a1 σ) := by
  unfold fX7_days
  refine js_iload_n dX7_days_0 rfl rfl ?_
  refine js_iconst dX7_days_1 ki_1 ?_
  refine js_icmp_lt 11 dX7_days_2 rfl ?_ ?_
  · refine js_aload_n dX7_days_11 rfl rfl ?_
    refine js_ldc dX7_days_12 tw_217 ?_
    refine js_callV_W (mj := mX7_found) [(.int (-1000000001 : Int32))] [] dX7_days_14 tw_218 cm_X7_found cv_X7_found rfl rfl rfl rfl rfl rfl (fun r h => qX7_found G (-1000000001 : Int32) σ r h) (fun r1 => ?_)
    exact js_iret dX7_days_17 rfl rfl
  · refine js_iload_n dX7_days_5 rfl rfl ?_
    refine js_bipush dX7_days_6 kb_60 ?_
    refine js_icmp_le 18 dX7_days_8 rfl ?_ ?_
    · refine js_aload_n dX7_days_18 rfl rfl ?_
      refine js_getR dX7_days_19 fl_X7_10 rfl rfl ?_
      refine js_getI dX7_days_22 fl_X7_148 rfl rfl ?_
      refine js_iload_n dX7_days_25 rfl rfl ?_
      refine js_iadd dX7_days_26 ?_
      refine js_sipush dX7_days_27 ks_9999 ?_
      refine js_icmp_le 40 dX7_days_30 rfl ?_ ?_
      · refine js_aload_n dX7_days_40 rfl rfl ?_
        refine js_getR dX7_days_41 fl_X7_10 rfl rfl ?_
        refine js_iload_n dX7_days_44 rfl rfl ?_
        refine js_callV_V (mj := mX3_passDays) [(.int a1)] [] dX7_days_45 tw_379 cm_X3_passDays cv_X3_passDays rfl rfl rfl rfl rfl rfl (fun r h => qX3_passDays G a1 σ r h) (fun r2 => ?_)
        refine js_aload_n dX7_days_48 rfl rfl ?_
        refine js_getR dX7_days_49 fl_X7_10 rfl rfl ?_
        refine js_bipush dX7_days_52 kb_9 ?_
        refine js_callV_I (mj := mX3_layersOfCake) [(.int (9 : Int32))] [] dX7_days_54 tw_387 cm_X3_layersOfCake cv_X3_layersOfCake rfl rfl rfl rfl rfl rfl (fun r h => qX3_layersOfCake G (9 : Int32) r2 r h) (fun r3 => ?_)
        exact js_iret dX7_days_57 rfl rfl
      · refine js_aload_n dX7_days_33 rfl rfl ?_
        refine js_ldc dX7_days_34 tw_378 ?_
        refine js_callV_W (mj := mX7_found) [(.int (-1000000005 : Int32))] [] dX7_days_36 tw_218 cm_X7_found cv_X7_found rfl rfl rfl rfl rfl rfl (fun r h => qX7_found G (-1000000005 : Int32) σ r h) (fun r4 => ?_)
        exact js_iret dX7_days_39 rfl rfl
    · refine js_aload_n dX7_days_11 rfl rfl ?_
      refine js_ldc dX7_days_12 tw_217 ?_
      refine js_callV_W (mj := mX7_found) [(.int (-1000000001 : Int32))] [] dX7_days_14 tw_218 cm_X7_found cv_X7_found rfl rfl rfl rfl rfl rfl (fun r h => qX7_found G (-1000000001 : Int32) σ r h) (fun r5 => ?_)
      exact js_iret dX7_days_17 rfl rfl

theorem qX7_days (G : js_G) (a1 : Int32) (σ : js_S) (r : (Int32 × js_S)) (h : fX7_days a1 σ = some r) : js_Con G shC mX7_days [(.ref 0), (.int a1)] σ (js_eW r) := js_con (mi := mX7_days) 0 pn_X7 rfl (Nat.le_of_ble_eq_true rfl) (jX7_days G a1 σ) r h
def fX3_allCake_L23 (k51 : Int32 → Option Int32) (p2 : Int32) (p3 : Int32) (σ : js_S) : Nat → Int32 → Int32 → Option Int32
  | 0, _, _ => none
  | n + 1, v1, v4 => (fX3_height p2 p3 σ).bind fun r1 => (if r1 ≤ v4 then k51 v1 else (fX3_cakeAt p2 p3 v4 σ).bind fun r2 => fX3_allCake_L23 k51 p2 p3 σ n (v1 + r2) (v4 + (1 : Int32)))
set_option maxRecDepth 10000 in
theorem jX3_allCake_L23 (G : js_G) (k51 : Int32 → Option Int32) (p2 : Int32) (p3 : Int32) (σ : js_S) (hk51 : ∀ (w1 : Int32), js_J G shC mX3_allCake (js_eI σ) 51 [some (.ref 1), some (.int w1), some (.int p2), some (.int p3), none] [] σ (k51 w1)) : ∀ (n : Nat) (v1 : Int32) (v4 : Int32), js_J G shC mX3_allCake (js_eI σ) 23 [some (.ref 1), some (.int v1), some (.int p2), some (.int p3), some (.int v4)] [] σ (fX3_allCake_L23 k51 p2 p3 σ n v1 v4) := by
  intro n
  induction n with
  | zero =>
    intros
    exact js_none
  | succ n ih3 =>
    intro v1 v4
    rw [fX3_allCake_L23]
    refine js_iload dX3_allCake_23 rfl ?_
    refine js_aload_n dX3_allCake_25 rfl rfl ?_
    refine js_iload_n dX3_allCake_26 rfl rfl ?_
    refine js_iload_n dX3_allCake_27 rfl rfl ?_
    refine js_callV_I (mj := mX3_height) [(.int p2), (.int p3)] [(.int v4)] dX3_allCake_28 tw_244 cm_X3_height cv_X3_height rfl rfl rfl rfl rfl rfl (fun r h => qX3_height G p2 p3 σ r h) (fun r1 => ?_)
    refine js_icmp_ge 51 dX3_allCake_31 rfl ?_ ?_
    · refine js_drop [true, true, true, true, false] (lv2 := [some (.ref 1), some (.int v1), some (.int p2), some (.int p3), none]) rfl ?_
      exact hk51 v1
    · refine js_iload_n dX3_allCake_34 rfl rfl ?_
      refine js_aload_n dX3_allCake_35 rfl rfl ?_
      refine js_iload_n dX3_allCake_36 rfl rfl ?_
      refine js_iload_n dX3_allCake_37 rfl rfl ?_
      refine js_iload dX3_allCake_38 rfl ?_
      refine js_callV_I (mj := mX3_cakeAt) [(.int p2), (.int p3), (.int v4)] [(.int v1)] dX3_allCake_40 tw_384 cm_X3_cakeAt cv_X3_cakeAt rfl rfl rfl rfl rfl rfl (fun r h => qX3_cakeAt G p2 p3 v4 σ r h) (fun r2 => ?_)
      refine js_iadd dX3_allCake_43 ?_
      refine js_istore_n (lv' := [some (.ref 1), some (.int (v1 + r2)), some (.int p2), some (.int p3), some (.int v4)]) dX3_allCake_44 rfl rfl rfl rfl ?_
      refine js_iinc (v := (v4 + (1 : Int32))) (lv' := [some (.ref 1), some (.int (v1 + r2)), some (.int p2), some (.int p3), some (.int (v4 + (1 : Int32)))]) dX3_allCake_45 rfl (kx_1 _) rfl rfl rfl ?_
      refine js_goto 23 dX3_allCake_48 rfl ?_
      exact ih3 (v1 + r2) (v4 + (1 : Int32))

def fX3_allCake_L14 (k57 : Int32 → Option Int32) (p2 : Int32) (σ : js_S) : Nat → Int32 → Int32 → Option Int32
  | 0, _, _ => none
  | n + 1, v1, v3 => (if (8 : Int32) ≤ v3 then k57 v1 else fX3_allCake_L23 (fun w3 => fX3_allCake_L14 k57 p2 σ n w3 (v3 + (1 : Int32))) p2 v3 σ js_FU v1 (0 : Int32))
set_option maxRecDepth 10000 in
theorem jX3_allCake_L14 (G : js_G) (k57 : Int32 → Option Int32) (p2 : Int32) (σ : js_S) (hk57 : ∀ (w1 : Int32), js_J G shC mX3_allCake (js_eI σ) 57 [some (.ref 1), some (.int w1), some (.int p2), none, none] [] σ (k57 w1)) : ∀ (n : Nat) (v1 : Int32) (v3 : Int32), js_J G shC mX3_allCake (js_eI σ) 14 [some (.ref 1), some (.int v1), some (.int p2), some (.int v3), none] [] σ (fX3_allCake_L14 k57 p2 σ n v1 v3) := by
  intro n
  induction n with
  | zero =>
    intros
    exact js_none
  | succ n ih2 =>
    intro v1 v3
    rw [fX3_allCake_L14]
    refine js_iload_n dX3_allCake_14 rfl rfl ?_
    refine js_bipush dX3_allCake_15 kb_8 ?_
    refine js_icmp_ge 57 dX3_allCake_17 rfl ?_ ?_
    · refine js_drop [true, true, true, false, false] (lv2 := [some (.ref 1), some (.int v1), some (.int p2), none, none]) rfl ?_
      exact hk57 v1
    · refine js_iconst dX3_allCake_20 ki_0 ?_
      refine js_istore (lv' := [some (.ref 1), some (.int v1), some (.int p2), some (.int v3), some (.int (0 : Int32))]) dX3_allCake_21 rfl rfl rfl ?_
      refine jX3_allCake_L23 G _ p2 v3 σ (fun w3 => ?_) _ v1 (0 : Int32)
      refine js_iinc (v := (v3 + (1 : Int32))) (lv' := [some (.ref 1), some (.int w3), some (.int p2), some (.int (v3 + (1 : Int32))), none]) dX3_allCake_51 rfl (kx_1 _) rfl rfl rfl ?_
      refine js_goto 14 dX3_allCake_54 rfl ?_
      exact ih2 w3 (v3 + (1 : Int32))

def fX3_allCake_L4 (σ : js_S) : Nat → Int32 → Int32 → Option Int32
  | 0, _, _ => none
  | n + 1, v1, v2 => (if (σ.1 1 2) ≤ v2 then some v1 else fX3_allCake_L14 (fun w4 => fX3_allCake_L4 σ n w4 (v2 + (1 : Int32))) v2 σ js_FU v1 (0 : Int32))
set_option maxRecDepth 10000 in
theorem jX3_allCake_L4 (G : js_G) (σ : js_S) : ∀ (n : Nat) (v1 : Int32) (v2 : Int32), js_J G shC mX3_allCake (js_eI σ) 4 [some (.ref 1), some (.int v1), some (.int v2), none, none] [] σ (fX3_allCake_L4 σ n v1 v2) := by
  intro n
  induction n with
  | zero =>
    intros
    exact js_none
  | succ n ih1 =>
    intro v1 v2
    rw [fX3_allCake_L4]
    refine js_iload_n dX3_allCake_4 rfl rfl ?_
    refine js_aload_n dX3_allCake_5 rfl rfl ?_
    refine js_getI dX3_allCake_6 fl_X3_18 rfl rfl ?_
    refine js_icmp_ge 63 dX3_allCake_9 rfl ?_ ?_
    · refine js_iload_n dX3_allCake_63 rfl rfl ?_
      exact js_iret dX3_allCake_64 rfl rfl
    · refine js_iconst dX3_allCake_12 ki_0 ?_
      refine js_istore_n (lv' := [some (.ref 1), some (.int v1), some (.int v2), some (.int (0 : Int32)), none]) dX3_allCake_13 rfl rfl rfl rfl ?_
      refine jX3_allCake_L14 G _ v2 σ (fun w4 => ?_) _ v1 (0 : Int32)
      refine js_iinc (v := (v2 + (1 : Int32))) (lv' := [some (.ref 1), some (.int w4), some (.int (v2 + (1 : Int32))), none, none]) dX3_allCake_57 rfl (kx_1 _) rfl rfl rfl ?_
      refine js_goto 4 dX3_allCake_60 rfl ?_
      exact ih1 w4 (v2 + (1 : Int32))

def fX3_allCake (σ : js_S) : Option Int32 := fX3_allCake_L4 σ js_FU (0 : Int32) (0 : Int32)
set_option maxRecDepth 10000 in
theorem jX3_allCake (G : js_G) (σ : js_S) : js_J G shC mX3_allCake (js_eI σ) 0 [some (.ref 1), none, none, none, none] [] σ (fX3_allCake σ) := by
  unfold fX3_allCake
  refine js_iconst dX3_allCake_0 ki_0 ?_
  refine js_istore_n (lv' := [some (.ref 1), some (.int (0 : Int32)), none, none, none]) dX3_allCake_1 rfl rfl rfl rfl ?_
  refine js_iconst dX3_allCake_2 ki_0 ?_
  refine js_istore_n (lv' := [some (.ref 1), some (.int (0 : Int32)), some (.int (0 : Int32)), none, none]) dX3_allCake_3 rfl rfl rfl rfl ?_
  exact jX3_allCake_L4 G σ  _ (0 : Int32) (0 : Int32)

theorem qX3_allCake (G : js_G) (σ : js_S) (r : Int32) (h : fX3_allCake σ = some r) : js_Con G shC mX3_allCake [(.ref 1)] σ ((js_eI σ) r) := js_con (mi := mX3_allCake) 4 pn_X3 rfl (Nat.le_of_ble_eq_true rfl) (jX3_allCake G σ) r h
def fX3_allWords_L4 (σ : js_S) : Nat → Int32 → Int32 → Option Int32
  | 0, _, _ => none
  | n + 1, v1, v2 => (if (σ.1 1 2) ≤ v2 then some v1 else (fX3_wordsIn v2 σ).bind fun r1 => fX3_allWords_L4 σ n (v1 ||| r1) (v2 + (1 : Int32)))
set_option maxRecDepth 10000 in
theorem jX3_allWords_L4 (G : js_G) (σ : js_S) : ∀ (n : Nat) (v1 : Int32) (v2 : Int32), js_J G shC mX3_allWords (js_eI σ) 4 [some (.ref 1), some (.int v1), some (.int v2)] [] σ (fX3_allWords_L4 σ n v1 v2) := by
  intro n
  induction n with
  | zero =>
    intros
    exact js_none
  | succ n ih1 =>
    intro v1 v2
    rw [fX3_allWords_L4]
    refine js_iload_n dX3_allWords_4 rfl rfl ?_
    refine js_aload_n dX3_allWords_5 rfl rfl ?_
    refine js_getI dX3_allWords_6 fl_X3_18 rfl rfl ?_
    refine js_icmp_ge 26 dX3_allWords_9 rfl ?_ ?_
    · refine js_iload_n dX3_allWords_26 rfl rfl ?_
      exact js_iret dX3_allWords_27 rfl rfl
    · refine js_iload_n dX3_allWords_12 rfl rfl ?_
      refine js_aload_n dX3_allWords_13 rfl rfl ?_
      refine js_iload_n dX3_allWords_14 rfl rfl ?_
      refine js_callV_I (mj := mX3_wordsIn) [(.int v2)] [(.int v1)] dX3_allWords_15 tw_404 cm_X3_wordsIn cv_X3_wordsIn rfl rfl rfl rfl rfl rfl (fun r h => qX3_wordsIn G v2 σ r h) (fun r1 => ?_)
      refine js_ior dX3_allWords_18 ?_
      refine js_istore_n (lv' := [some (.ref 1), some (.int (v1 ||| r1)), some (.int v2)]) dX3_allWords_19 rfl rfl rfl rfl ?_
      refine js_iinc (v := (v2 + (1 : Int32))) (lv' := [some (.ref 1), some (.int (v1 ||| r1)), some (.int (v2 + (1 : Int32)))]) dX3_allWords_20 rfl (kx_1 _) rfl rfl rfl ?_
      refine js_goto 4 dX3_allWords_23 rfl ?_
      exact ih1 (v1 ||| r1) (v2 + (1 : Int32))

def fX3_allWords (σ : js_S) : Option Int32 := fX3_allWords_L4 σ js_FU (0 : Int32) (0 : Int32)
set_option maxRecDepth 10000 in
theorem jX3_allWords (G : js_G) (σ : js_S) : js_J G shC mX3_allWords (js_eI σ) 0 [some (.ref 1), none, none] [] σ (fX3_allWords σ) := by
  unfold fX3_allWords
  refine js_iconst dX3_allWords_0 ki_0 ?_
  refine js_istore_n (lv' := [some (.ref 1), some (.int (0 : Int32)), none]) dX3_allWords_1 rfl rfl rfl rfl ?_
  refine js_iconst dX3_allWords_2 ki_0 ?_
  refine js_istore_n (lv' := [some (.ref 1), some (.int (0 : Int32)), some (.int (0 : Int32))]) dX3_allWords_3 rfl rfl rfl rfl ?_
  exact jX3_allWords_L4 G σ  _ (0 : Int32) (0 : Int32)

theorem qX3_allWords (G : js_G) (σ : js_S) (r : Int32) (h : fX3_allWords σ = some r) : js_Con G shC mX3_allWords [(.ref 1)] σ ((js_eI σ) r) := js_con (mi := mX3_allWords) 2 pn_X3 rfl (Nat.le_of_ble_eq_true rfl) (jX3_allWords G σ) r h
def fX3_allLayers_L4 (σ : js_S) : Nat → Int32 → Int32 → Option Int32
  | 0, _, _ => none
  | n + 1, v1, v2 => (if (σ.1 1 2) ≤ v2 then some v1 else (fX3_layersIn v2 σ).bind fun r1 => fX3_allLayers_L4 σ n (v1 + r1) (v2 + (1 : Int32)))
set_option maxRecDepth 10000 in
theorem jX3_allLayers_L4 (G : js_G) (σ : js_S) : ∀ (n : Nat) (v1 : Int32) (v2 : Int32), js_J G shC mX3_allLayers (js_eI σ) 4 [some (.ref 1), some (.int v1), some (.int v2)] [] σ (fX3_allLayers_L4 σ n v1 v2) := by
  intro n
  induction n with
  | zero =>
    intros
    exact js_none
  | succ n ih1 =>
    intro v1 v2
    rw [fX3_allLayers_L4]
    refine js_iload_n dX3_allLayers_4 rfl rfl ?_
    refine js_aload_n dX3_allLayers_5 rfl rfl ?_
    refine js_getI dX3_allLayers_6 fl_X3_18 rfl rfl ?_
    refine js_icmp_ge 26 dX3_allLayers_9 rfl ?_ ?_
    · refine js_iload_n dX3_allLayers_26 rfl rfl ?_
      exact js_iret dX3_allLayers_27 rfl rfl
    · refine js_iload_n dX3_allLayers_12 rfl rfl ?_
      refine js_aload_n dX3_allLayers_13 rfl rfl ?_
      refine js_iload_n dX3_allLayers_14 rfl rfl ?_
      refine js_callV_I (mj := mX3_layersIn) [(.int v2)] [(.int v1)] dX3_allLayers_15 tw_399 cm_X3_layersIn cv_X3_layersIn rfl rfl rfl rfl rfl rfl (fun r h => qX3_layersIn G v2 σ r h) (fun r1 => ?_)
      refine js_iadd dX3_allLayers_18 ?_
      refine js_istore_n (lv' := [some (.ref 1), some (.int (v1 + r1)), some (.int v2)]) dX3_allLayers_19 rfl rfl rfl rfl ?_
      refine js_iinc (v := (v2 + (1 : Int32))) (lv' := [some (.ref 1), some (.int (v1 + r1)), some (.int (v2 + (1 : Int32)))]) dX3_allLayers_20 rfl (kx_1 _) rfl rfl rfl ?_
      refine js_goto 4 dX3_allLayers_23 rfl ?_
      exact ih1 (v1 + r1) (v2 + (1 : Int32))

def fX3_allLayers (σ : js_S) : Option Int32 := fX3_allLayers_L4 σ js_FU (0 : Int32) (0 : Int32)
set_option maxRecDepth 10000 in
theorem jX3_allLayers (G : js_G) (σ : js_S) : js_J G shC mX3_allLayers (js_eI σ) 0 [some (.ref 1), none, none] [] σ (fX3_allLayers σ) := by
  unfold fX3_allLayers
  refine js_iconst dX3_allLayers_0 ki_0 ?_
  refine js_istore_n (lv' := [some (.ref 1), some (.int (0 : Int32)), none]) dX3_allLayers_1 rfl rfl rfl rfl ?_
  refine js_iconst dX3_allLayers_2 ki_0 ?_
  refine js_istore_n (lv' := [some (.ref 1), some (.int (0 : Int32)), some (.int (0 : Int32))]) dX3_allLayers_3 rfl rfl rfl rfl ?_
  exact jX3_allLayers_L4 G σ  _ (0 : Int32) (0 : Int32)

theorem qX3_allLayers (G : js_G) (σ : js_S) (r : Int32) (h : fX3_allLayers σ = some r) : js_Con G shC mX3_allLayers [(.ref 1)] σ ((js_eI σ) r) := js_con (mi := mX3_allLayers) 2 pn_X3 rfl (Nat.le_of_ble_eq_true rfl) (jX3_allLayers G σ) r h
def fX7_now (a1 : Int32) (σ : js_S) : Option (Int32 × js_S) := (if a1 = (0 : Int32) then some ((σ.1 1 0), σ) else (if a1 = (1 : Int32) then some ((σ.1 1 1), σ) else (if a1 = (2 : Int32) then (fX3_allLayers σ).bind fun r9 => some (r9, σ) else (if a1 = (3 : Int32) then (fX3_allWords σ).bind fun r8 => some (r8, σ) else (if a1 = (4 : Int32) then (fX3_allCake σ).bind fun r7 => some (r7, σ) else (fX7_found (-1000000001 : Int32) σ).bind fun r1 => some (r1.1, r1.2))))))
set_option maxRecDepth 10000 in
theorem jX7_now (G : js_G) (a1 : Int32) (σ : js_S) : js_J G shC mX7_now js_eW 0 [some (.ref 0), some (.int a1)] [] σ (fX7_now a1 σ) := by
  unfold fX7_now
  refine js_iload_n dX7_now_0 rfl rfl ?_
  refine js_split (fun h2 => ?_) (fun h2 => ?_)
  · refine js_tabI (0 : Int32) (off := 35) 36 dX7_now_1 h2 (by decide) ?_
    refine js_aload_n dX7_now_36 rfl rfl ?_
    refine js_getR dX7_now_37 fl_X7_10 rfl rfl ?_
    refine js_getI dX7_now_40 fl_X7_148 rfl rfl ?_
    exact js_iret dX7_now_43 rfl rfl
  · refine js_split (fun h3 => ?_) (fun h3 => ?_)
    · refine js_tabI (1 : Int32) (off := 43) 44 dX7_now_1 h3 (by decide) ?_
      refine js_aload_n dX7_now_44 rfl rfl ?_
      refine js_getR dX7_now_45 fl_X7_10 rfl rfl ?_
      refine js_getI dX7_now_48 fl_X7_97 rfl rfl ?_
      exact js_iret dX7_now_51 rfl rfl
    · refine js_split (fun h4 => ?_) (fun h4 => ?_)
      · refine js_tabI (2 : Int32) (off := 51) 52 dX7_now_1 h4 (by decide) ?_
        refine js_aload_n dX7_now_52 rfl rfl ?_
        refine js_getR dX7_now_53 fl_X7_10 rfl rfl ?_
        refine js_callV_I (mj := mX3_allLayers) [] [] dX7_now_56 tw_395 cm_X3_allLayers cv_X3_allLayers rfl rfl rfl rfl rfl rfl (fun r h => qX3_allLayers G σ r h) (fun r9 => ?_)
        exact js_iret dX7_now_59 rfl rfl
      · refine js_split (fun h5 => ?_) (fun h5 => ?_)
        · refine js_tabI (3 : Int32) (off := 59) 60 dX7_now_1 h5 (by decide) ?_
          refine js_aload_n dX7_now_60 rfl rfl ?_
          refine js_getR dX7_now_61 fl_X7_10 rfl rfl ?_
          refine js_callV_I (mj := mX3_allWords) [] [] dX7_now_64 tw_400 cm_X3_allWords cv_X3_allWords rfl rfl rfl rfl rfl rfl (fun r h => qX3_allWords G σ r h) (fun r8 => ?_)
          exact js_iret dX7_now_67 rfl rfl
        · refine js_split (fun h6 => ?_) (fun h6 => ?_)
          · refine js_tabI (4 : Int32) (off := 67) 68 dX7_now_1 h6 (by decide) ?_
            refine js_aload_n dX7_now_68 rfl rfl ?_
            refine js_getR dX7_now_69 fl_X7_10 rfl rfl ?_
            refine js_callV_I (mj := mX3_allCake) [] [] dX7_now_72 tw_405 cm_X3_allCake cv_X3_allCake rfl rfl rfl rfl rfl rfl (fun r h => qX3_allCake G σ r h) (fun r7 => ?_)
            exact js_iret dX7_now_75 rfl rfl
          · refine js_tabO 76 dX7_now_1 (by have eh2 := lv_neT h2 (k := (0 : Int32)) (a := 0) (by decide); have eh3 := lv_neT h3 (k := (1 : Int32)) (a := 1) (by decide); have eh4 := lv_neT h4 (k := (2 : Int32)) (a := 2) (by decide); have eh5 := lv_neT h5 (k := (3 : Int32)) (a := 3) (by decide); have eh6 := lv_neT h6 (k := (4 : Int32)) (a := 4) (by decide); omega) rfl ?_
            refine js_aload_n dX7_now_76 rfl rfl ?_
            refine js_ldc dX7_now_77 tw_217 ?_
            refine js_callV_W (mj := mX7_found) [(.int (-1000000001 : Int32))] [] dX7_now_79 tw_218 cm_X7_found cv_X7_found rfl rfl rfl rfl rfl rfl (fun r h => qX7_found G (-1000000001 : Int32) σ r h) (fun r1 => ?_)
            exact js_iret dX7_now_82 rfl rfl

theorem qX7_now (G : js_G) (a1 : Int32) (σ : js_S) (r : (Int32 × js_S)) (h : fX7_now a1 σ = some r) : js_Con G shC mX7_now [(.ref 0), (.int a1)] σ (js_eW r) := js_con (mi := mX7_now) 0 pn_X7 rfl (Nat.le_of_ble_eq_true rfl) (jX7_now G a1 σ) r h
def fX7_isStrength (a0 : Int32) : Int32 := (if a0 < (1 : Int32) then (0 : Int32) else (if (9 : Int32) < a0 then (0 : Int32) else (1 : Int32)))
set_option maxRecDepth 10000 in
theorem jX7_isStrength (G : js_G) (a0 : Int32) (σ : js_S) : js_J G shC mX7_isStrength (js_eI σ) 0 [some (.int a0)] [] σ (some (fX7_isStrength a0)) := by
  unfold fX7_isStrength
  refine js_iload_n dX7_isStrength_0 rfl rfl ?_
  refine js_iconst dX7_isStrength_1 ki_1 ?_
  refine js_pi ?_
  refine js_icmp_lt 15 dX7_isStrength_2 rfl ?_ ?_
  · refine js_iconst dX7_isStrength_15 ki_0 ?_
    exact js_zret dX7_isStrength_16 rfl nb_0.1 rfl
  · refine js_iload_n dX7_isStrength_5 rfl rfl ?_
    refine js_bipush dX7_isStrength_6 kb_9 ?_
    refine js_pi ?_
    refine js_icmp_gt 15 dX7_isStrength_8 rfl ?_ ?_
    · refine js_iconst dX7_isStrength_15 ki_0 ?_
      exact js_zret dX7_isStrength_16 rfl nb_0.1 rfl
    · refine js_iconst dX7_isStrength_11 ki_1 ?_
      refine js_goto 16 dX7_isStrength_12 rfl ?_
      exact js_zret dX7_isStrength_16 rfl nb_1.1 rfl

theorem qX7_isStrength (G : js_G) (a0 : Int32) (σ : js_S) : js_Con G shC mX7_isStrength [(.int a0)] σ (some (.int (fX7_isStrength a0)), σ) := js_con (mi := mX7_isStrength) (emb := (js_eI σ)) 0 pn_X7 rfl (Nat.le_of_ble_eq_true rfl) (jX7_isStrength G a0 σ) _ rfl
theorem zX7_isStrength (a0 : Int32) : fX7_isStrength a0 = 0 ∨ fX7_isStrength a0 = 1 := by
  unfold fX7_isStrength
  repeat' split
  all_goals first | exact Or.inl rfl | exact Or.inr rfl
def fX3_loose_L20 (p3 : Int32) (p4 : Int32) (p5 : Int32) (p6 : Int32) (σ : js_S) : Nat → Int32 → Option Int32
  | 0, _ => none
  | n + 1, v7 => (if p5 ≤ v7 then some p5 else js_gd (js_ix (p6 - v7) 288) ((if ((σ.1 5 (Int32.toNatClampNeg (p6 - v7))) + p4) < p3 then fX3_loose_L20 p3 p4 p5 p6 σ n (v7 + (1 : Int32)) else some v7)))
set_option maxRecDepth 10000 in
theorem jX3_loose_L20 (G : js_G) (p3 : Int32) (p4 : Int32) (p5 : Int32) (p6 : Int32) (σ : js_S) : ∀ (n : Nat) (v7 : Int32), js_J G shC mX3_loose (js_eI σ) 20 [some (.ref 1), none, none, some (.int p3), some (.int p4), some (.int p5), some (.int p6), some (.int v7)] [] σ (fX3_loose_L20 p3 p4 p5 p6 σ n v7) := by
  intro n
  induction n with
  | zero =>
    intros
    exact js_none
  | succ n ih1 =>
    intro v7
    rw [fX3_loose_L20]
    refine js_iload dX3_loose_20 rfl ?_
    refine js_iload dX3_loose_22 rfl ?_
    refine js_icmp_ge 53 dX3_loose_24 rfl ?_ ?_
    · refine js_iload dX3_loose_53 rfl ?_
      exact js_iret dX3_loose_55 rfl rfl
    · refine js_aload_n dX3_loose_27 rfl rfl ?_
      refine js_getR dX3_loose_28 fl_X3_31 rfl rfl ?_
      refine js_iload dX3_loose_31 rfl ?_
      refine js_iload dX3_loose_33 rfl ?_
      refine js_isub dX3_loose_35 ?_
      refine js_iald dX3_loose_36 rfl ?_
      refine js_iload dX3_loose_37 rfl ?_
      refine js_iadd dX3_loose_39 ?_
      refine js_iload_n dX3_loose_40 rfl rfl ?_
      refine js_icmp_lt 47 dX3_loose_41 rfl ?_ ?_
      · refine js_iinc (v := (v7 + (1 : Int32))) (lv' := [some (.ref 1), none, none, some (.int p3), some (.int p4), some (.int p5), some (.int p6), some (.int (v7 + (1 : Int32)))]) dX3_loose_47 rfl (kx_1 _) rfl rfl rfl ?_
        refine js_goto 20 dX3_loose_50 rfl ?_
        exact ih1 (v7 + (1 : Int32))
      · refine js_iload dX3_loose_44 rfl ?_
        exact js_iret dX3_loose_46 rfl rfl

def fX3_loose (a1 : Int32) (a2 : Int32) (a3 : Int32) (a4 : Int32) (σ : js_S) : Option Int32 := (fX3_height a1 a2 σ).bind fun r1 => (fX3_place a1 a2 (0 : Int32) σ).bind fun r2 => fX3_loose_L20 a3 a4 r1 r2 σ js_FU (0 : Int32)
set_option maxRecDepth 10000 in
theorem jX3_loose (G : js_G) (a1 : Int32) (a2 : Int32) (a3 : Int32) (a4 : Int32) (σ : js_S) : js_J G shC mX3_loose (js_eI σ) 0 [some (.ref 1), some (.int a1), some (.int a2), some (.int a3), some (.int a4), none, none, none] [] σ (fX3_loose a1 a2 a3 a4 σ) := by
  unfold fX3_loose
  refine js_aload_n dX3_loose_0 rfl rfl ?_
  refine js_iload_n dX3_loose_1 rfl rfl ?_
  refine js_iload_n dX3_loose_2 rfl rfl ?_
  refine js_callV_I (mj := mX3_height) [(.int a1), (.int a2)] [] dX3_loose_3 tw_244 cm_X3_height cv_X3_height rfl rfl rfl rfl rfl rfl (fun r h => qX3_height G a1 a2 σ r h) (fun r1 => ?_)
  refine js_istore (lv' := [some (.ref 1), some (.int a1), some (.int a2), some (.int a3), some (.int a4), some (.int r1), none, none]) dX3_loose_6 rfl rfl rfl ?_
  refine js_aload_n dX3_loose_8 rfl rfl ?_
  refine js_iload_n dX3_loose_9 rfl rfl ?_
  refine js_iload_n dX3_loose_10 rfl rfl ?_
  refine js_iconst dX3_loose_11 ki_0 ?_
  refine js_callV_I (mj := mX3_place) [(.int a1), (.int a2), (.int (0 : Int32))] [] dX3_loose_12 tw_259 cm_X3_place cv_X3_place rfl rfl rfl rfl rfl rfl (fun r h => qX3_place G a1 a2 (0 : Int32) σ r h) (fun r2 => ?_)
  refine js_istore (lv' := [some (.ref 1), some (.int a1), some (.int a2), some (.int a3), some (.int a4), some (.int r1), some (.int r2), none]) dX3_loose_15 rfl rfl rfl ?_
  refine js_iconst dX3_loose_17 ki_0 ?_
  refine js_istore (lv' := [some (.ref 1), some (.int a1), some (.int a2), some (.int a3), some (.int a4), some (.int r1), some (.int r2), some (.int (0 : Int32))]) dX3_loose_18 rfl rfl rfl ?_
  refine js_drop [true, false, false, true, true, true, true, true] (lv2 := [some (.ref 1), none, none, some (.int a3), some (.int a4), some (.int r1), some (.int r2), some (.int (0 : Int32))]) rfl ?_
  exact jX3_loose_L20 G a3 a4 r1 r2 σ  _ (0 : Int32)

theorem qX3_loose (G : js_G) (a1 : Int32) (a2 : Int32) (a3 : Int32) (a4 : Int32) (σ : js_S) (r : Int32) (h : fX3_loose a1 a2 a3 a4 σ = some r) : js_Con G shC mX3_loose [(.ref 1), (.int a1), (.int a2), (.int a3), (.int a4)] σ ((js_eI σ) r) := js_con (mi := mX3_loose) 3 pn_X3 rfl (Nat.le_of_ble_eq_true rfl) (jX3_loose G a1 a2 a3 a4 σ) r h
def fX3_takeDown_L6 (p1 : Int32) (p2 : Int32) (p3 : Int32) : Nat → Int32 → Int32 → js_S → Option (Int32 × js_S)
  | 0, _, _, _ => none
  | n + 1, v4, v5, σ => (if p2 < v5 then some (v4, σ) else (if (8 : Int32) ≤ v5 then some (v4, σ) else (fX3_loose p1 v5 p3 (0 : Int32) σ).bind fun r1 => (fX3_hasFlue p1 σ).bind fun r2 => (if r2 = 0 then fX3_takeDown_L6 p1 p2 p3 n (v4 + r1) (v5 + (1 : Int32)) σ else js_gd (js_ix ((p1 * (8 : Int32)) + v5) 48) (js_gd (js_ix ((p1 * (8 : Int32)) + v5) 48) (fX3_takeDown_L6 p1 p2 p3 n (v4 + r1) (v5 + (1 : Int32)) (js_sI σ 3 (Int32.toNatClampNeg ((p1 * (8 : Int32)) + v5)) ((σ.1 3 (Int32.toNatClampNeg ((p1 * (8 : Int32)) + v5))) - r1)))))))
set_option maxRecDepth 10000 in
theorem jX3_takeDown_L6 (G : js_G) (p1 : Int32) (p2 : Int32) (p3 : Int32) : ∀ (n : Nat) (v4 : Int32) (v5 : Int32) (σ : js_S), js_J G shC mX3_takeDown js_eW 6 [some (.ref 1), some (.int p1), some (.int p2), some (.int p3), some (.int v4), some (.int v5), none] [] σ (fX3_takeDown_L6 p1 p2 p3 n v4 v5 σ) := by
  intro n
  induction n with
  | zero =>
    intros
    exact js_none
  | succ n ih1 =>
    intro v4 v5 σ
    rw [fX3_takeDown_L6]
    refine js_iload dX3_takeDown_6 rfl ?_
    refine js_iload_n dX3_takeDown_8 rfl rfl ?_
    refine js_icmp_gt 68 dX3_takeDown_9 rfl ?_ ?_
    · refine js_iload dX3_takeDown_68 rfl ?_
      exact js_iret dX3_takeDown_70 rfl rfl
    · refine js_iload dX3_takeDown_12 rfl ?_
      refine js_bipush dX3_takeDown_14 kb_8 ?_
      refine js_icmp_ge 68 dX3_takeDown_16 rfl ?_ ?_
      · refine js_iload dX3_takeDown_68 rfl ?_
        exact js_iret dX3_takeDown_70 rfl rfl
      · refine js_aload_n dX3_takeDown_19 rfl rfl ?_
        refine js_iload_n dX3_takeDown_20 rfl rfl ?_
        refine js_iload dX3_takeDown_21 rfl ?_
        refine js_iload_n dX3_takeDown_23 rfl rfl ?_
        refine js_iconst dX3_takeDown_24 ki_0 ?_
        refine js_callV_I (mj := mX3_loose) [(.int p1), (.int v5), (.int p3), (.int (0 : Int32))] [] dX3_takeDown_25 tw_420 cm_X3_loose cv_X3_loose rfl rfl rfl rfl rfl rfl (fun r h => qX3_loose G p1 v5 p3 (0 : Int32) σ r h) (fun r1 => ?_)
        refine js_istore (lv' := [some (.ref 1), some (.int p1), some (.int p2), some (.int p3), some (.int v4), some (.int v5), some (.int r1)]) dX3_takeDown_28 rfl rfl rfl ?_
        refine js_aload_n dX3_takeDown_30 rfl rfl ?_
        refine js_iload_n dX3_takeDown_31 rfl rfl ?_
        refine js_callV_I (mj := mX3_hasFlue) [(.int p1)] [] dX3_takeDown_32 tw_239 cm_X3_hasFlue cv_X3_hasFlue rfl rfl rfl rfl rfl rfl (fun r h => qX3_hasFlue G p1 σ r h) (fun r2 => ?_)
        refine js_if_eq 55 dX3_takeDown_35 rfl ?_ ?_
        · refine js_iload dX3_takeDown_55 rfl ?_
          refine js_iload dX3_takeDown_57 rfl ?_
          refine js_iadd dX3_takeDown_59 ?_
          refine js_istore (lv' := [some (.ref 1), some (.int p1), some (.int p2), some (.int p3), some (.int (v4 + r1)), some (.int v5), some (.int r1)]) dX3_takeDown_60 rfl rfl rfl ?_
          refine js_iinc (v := (v5 + (1 : Int32))) (lv' := [some (.ref 1), some (.int p1), some (.int p2), some (.int p3), some (.int (v4 + r1)), some (.int (v5 + (1 : Int32))), some (.int r1)]) dX3_takeDown_62 rfl (kx_1 _) rfl rfl rfl ?_
          refine js_goto 6 dX3_takeDown_65 rfl ?_
          refine js_drop [true, true, true, true, true, true, false] (lv2 := [some (.ref 1), some (.int p1), some (.int p2), some (.int p3), some (.int (v4 + r1)), some (.int (v5 + (1 : Int32))), none]) rfl ?_
          exact ih1 (v4 + r1) (v5 + (1 : Int32)) σ
        · refine js_aload_n dX3_takeDown_38 rfl rfl ?_
          refine js_getR dX3_takeDown_39 fl_X3_25 rfl rfl ?_
          refine js_iload_n dX3_takeDown_42 rfl rfl ?_
          refine js_bipush dX3_takeDown_43 kb_8 ?_
          refine js_imul dX3_takeDown_45 ?_
          refine js_iload dX3_takeDown_46 rfl ?_
          refine js_iadd dX3_takeDown_48 ?_
          refine js_dup2 dX3_takeDown_49 rfl rfl ?_
          refine js_iald dX3_takeDown_50 rfl ?_
          refine js_iload dX3_takeDown_51 rfl ?_
          refine js_isub dX3_takeDown_53 ?_
          refine js_iast dX3_takeDown_54 rfl ?_
          refine js_iload dX3_takeDown_55 rfl ?_
          refine js_iload dX3_takeDown_57 rfl ?_
          refine js_iadd dX3_takeDown_59 ?_
          refine js_istore (lv' := [some (.ref 1), some (.int p1), some (.int p2), some (.int p3), some (.int (v4 + r1)), some (.int v5), some (.int r1)]) dX3_takeDown_60 rfl rfl rfl ?_
          refine js_iinc (v := (v5 + (1 : Int32))) (lv' := [some (.ref 1), some (.int p1), some (.int p2), some (.int p3), some (.int (v4 + r1)), some (.int (v5 + (1 : Int32))), some (.int r1)]) dX3_takeDown_62 rfl (kx_1 _) rfl rfl rfl ?_
          refine js_goto 6 dX3_takeDown_65 rfl ?_
          refine js_drop [true, true, true, true, true, true, false] (lv2 := [some (.ref 1), some (.int p1), some (.int p2), some (.int p3), some (.int (v4 + r1)), some (.int (v5 + (1 : Int32))), none]) rfl ?_
          exact ih1 (v4 + r1) (v5 + (1 : Int32)) (js_sI σ 3 (Int32.toNatClampNeg ((p1 * (8 : Int32)) + v5)) ((σ.1 3 (Int32.toNatClampNeg ((p1 * (8 : Int32)) + v5))) - r1))

def fX3_takeDown (a1 : Int32) (a2 : Int32) (a3 : Int32) (σ : js_S) : Option (Int32 × js_S) := fX3_takeDown_L6 a1 a2 a3 js_FU (0 : Int32) (0 : Int32) σ
set_option maxRecDepth 10000 in
theorem jX3_takeDown (G : js_G) (a1 : Int32) (a2 : Int32) (a3 : Int32) (σ : js_S) : js_J G shC mX3_takeDown js_eW 0 [some (.ref 1), some (.int a1), some (.int a2), some (.int a3), none, none, none] [] σ (fX3_takeDown a1 a2 a3 σ) := by
  unfold fX3_takeDown
  refine js_iconst dX3_takeDown_0 ki_0 ?_
  refine js_istore (lv' := [some (.ref 1), some (.int a1), some (.int a2), some (.int a3), some (.int (0 : Int32)), none, none]) dX3_takeDown_1 rfl rfl rfl ?_
  refine js_iconst dX3_takeDown_3 ki_0 ?_
  refine js_istore (lv' := [some (.ref 1), some (.int a1), some (.int a2), some (.int a3), some (.int (0 : Int32)), some (.int (0 : Int32)), none]) dX3_takeDown_4 rfl rfl rfl ?_
  exact jX3_takeDown_L6 G a1 a2 a3  _ (0 : Int32) (0 : Int32) σ

theorem qX3_takeDown (G : js_G) (a1 : Int32) (a2 : Int32) (a3 : Int32) (σ : js_S) (r : (Int32 × js_S)) (h : fX3_takeDown a1 a2 a3 σ = some r) : js_Con G shC mX3_takeDown [(.ref 1), (.int a1), (.int a2), (.int a3)] σ (js_eW r) := js_con (mi := mX3_takeDown) 3 pn_X3 rfl (Nat.le_of_ble_eq_true rfl) (jX3_takeDown G a1 a2 a3 σ) r h
def fX7_sweep (a1 : Int32) (a2 : Int32) (a3 : Int32) (σ : js_S) : Option (Int32 × js_S) := (fX7_isPlace a1 a2 σ).bind fun r1 => (if r1 = 0 then (fX7_found (-1000000001 : Int32) σ).bind fun r2 => some (r2.1, r2.2) else (if (fX7_isStrength a3) = 0 then (fX7_found (-1000000001 : Int32) σ).bind fun r4 => some (r4.1, r4.2) else (fX3_takeDown a1 a2 a3 σ).bind fun r3 => some (r3.1, r3.2)))
set_option maxRecDepth 10000 in
theorem jX7_sweep (G : js_G) (a1 : Int32) (a2 : Int32) (a3 : Int32) (σ : js_S) : js_J G shC mX7_sweep js_eW 0 [some (.ref 0), some (.int a1), some (.int a2), some (.int a3)] [] σ (fX7_sweep a1 a2 a3 σ) := by
  unfold fX7_sweep
  refine js_aload_n dX7_sweep_0 rfl rfl ?_
  refine js_iload_n dX7_sweep_1 rfl rfl ?_
  refine js_iload_n dX7_sweep_2 rfl rfl ?_
  refine js_callV_I (mj := mX7_isPlace) [(.int a1), (.int a2)] [] dX7_sweep_3 tw_277 cm_X7_isPlace cv_X7_isPlace rfl rfl rfl rfl rfl rfl (fun r h => qX7_isPlace G a1 a2 σ r h) (fun r1 => ?_)
  refine js_if_eq 16 dX7_sweep_6 rfl ?_ ?_
  · refine js_aload_n dX7_sweep_16 rfl rfl ?_
    refine js_ldc dX7_sweep_17 tw_217 ?_
    refine js_callV_W (mj := mX7_found) [(.int (-1000000001 : Int32))] [] dX7_sweep_19 tw_218 cm_X7_found cv_X7_found rfl rfl rfl rfl rfl rfl (fun r h => qX7_found G (-1000000001 : Int32) σ r h) (fun r2 => ?_)
    exact js_iret dX7_sweep_22 rfl rfl
  · refine js_iload_n dX7_sweep_9 rfl rfl ?_
    refine js_callS_P (mj := mX7_isStrength) [(.int a3)] [] dX7_sweep_10 tw_413 cm_X7_isStrength tw_414 rfl rfl rfl rfl (qX7_isStrength G a3 σ) ?_
    refine js_if_ne 23 dX7_sweep_13 rfl ?_ ?_
    · refine js_aload_n dX7_sweep_23 rfl rfl ?_
      refine js_getR dX7_sweep_24 fl_X7_10 rfl rfl ?_
      refine js_iload_n dX7_sweep_27 rfl rfl ?_
      refine js_iload_n dX7_sweep_28 rfl rfl ?_
      refine js_iload_n dX7_sweep_29 rfl rfl ?_
      refine js_callV_W (mj := mX3_takeDown) [(.int a1), (.int a2), (.int a3)] [] dX7_sweep_30 tw_416 cm_X3_takeDown cv_X3_takeDown rfl rfl rfl rfl rfl rfl (fun r h => qX3_takeDown G a1 a2 a3 σ r h) (fun r3 => ?_)
      exact js_iret dX7_sweep_33 rfl rfl
    · refine js_aload_n dX7_sweep_16 rfl rfl ?_
      refine js_ldc dX7_sweep_17 tw_217 ?_
      refine js_callV_W (mj := mX7_found) [(.int (-1000000001 : Int32))] [] dX7_sweep_19 tw_218 cm_X7_found cv_X7_found rfl rfl rfl rfl rfl rfl (fun r h => qX7_found G (-1000000001 : Int32) σ r h) (fun r4 => ?_)
      exact js_iret dX7_sweep_22 rfl rfl

theorem qX7_sweep (G : js_G) (a1 : Int32) (a2 : Int32) (a3 : Int32) (σ : js_S) (r : (Int32 × js_S)) (h : fX7_sweep a1 a2 a3 σ = some r) : js_Con G shC mX7_sweep [(.ref 0), (.int a1), (.int a2), (.int a3)] σ (js_eW r) := js_con (mi := mX7_sweep) 0 pn_X7 rfl (Nat.le_of_ble_eq_true rfl) (jX7_sweep G a1 a2 a3 σ) r h
def fX0_take (a1 : Int32) (σ : js_S) : Option js_S := (if (σ.1 11 0) < (48 : Int32) then js_gd (js_ix (σ.1 11 0) 48) (some (js_sI (js_sI (js_sI σ 12 (Int32.toNatClampNeg (σ.1 11 0)) a1) 11 0 (((js_sI σ 12 (Int32.toNatClampNeg (σ.1 11 0)) a1).1 11 0) + (1 : Int32))) 11 1 (((js_sI (js_sI σ 12 (Int32.toNatClampNeg (σ.1 11 0)) a1) 11 0 (((js_sI σ 12 (Int32.toNatClampNeg (σ.1 11 0)) a1).1 11 0) + (1 : Int32))).1 11 1) ||| ((1 : Int32) <<< (a1 &&& 31))))) else some σ)
set_option maxRecDepth 10000 in
theorem jX0_take (G : js_G) (a1 : Int32) (σ : js_S) : js_J G shC mX0_take js_eV 0 [some (.ref 11), some (.int a1)] [] σ (fX0_take a1 σ) := by
  unfold fX0_take
  refine js_aload_n dX0_take_0 rfl rfl ?_
  refine js_getI dX0_take_1 fl_X0_9 rfl rfl ?_
  refine js_aload_n dX0_take_4 rfl rfl ?_
  refine js_getR dX0_take_5 fl_X0_18 rfl rfl ?_
  refine js_alen (v := (48 : Int32)) dX0_take_8 rfl rfl ?_
  refine js_icmp_lt 13 dX0_take_9 rfl ?_ ?_
  · refine js_aload_n dX0_take_13 rfl rfl ?_
    refine js_getR dX0_take_14 fl_X0_18 rfl rfl ?_
    refine js_aload_n dX0_take_17 rfl rfl ?_
    refine js_getI dX0_take_18 fl_X0_9 rfl rfl ?_
    refine js_iload_n dX0_take_21 rfl rfl ?_
    refine js_iast dX0_take_22 rfl ?_
    refine js_aload_n dX0_take_23 rfl rfl ?_
    refine js_dup dX0_take_24 rfl ?_
    refine js_getI dX0_take_25 fl_X0_9 rfl rfl ?_
    refine js_iconst dX0_take_28 ki_1 ?_
    refine js_iadd dX0_take_29 ?_
    refine js_putI dX0_take_30 fp_X0_9 rfl rfl rfl rfl ?_
    refine js_aload_n dX0_take_33 rfl rfl ?_
    refine js_dup dX0_take_34 rfl ?_
    refine js_getI dX0_take_35 fl_X0_15 rfl rfl ?_
    refine js_iconst dX0_take_38 ki_1 ?_
    refine js_iload_n dX0_take_39 rfl rfl ?_
    refine js_ishl dX0_take_40 ?_
    refine js_ior dX0_take_41 ?_
    refine js_putI dX0_take_42 fp_X0_15 rfl rfl rfl rfl ?_
    exact js_vret dX0_take_45 rfl rfl
  · exact js_vret dX0_take_12 rfl rfl

theorem qX0_take (G : js_G) (a1 : Int32) (σ : js_S) (r : js_S) (h : fX0_take a1 σ = some r) : js_Con G shC mX0_take [(.ref 11), (.int a1)] σ (js_eV r) := js_con (mi := mX0_take) 0 pn_X0 rfl (Nat.le_of_ble_eq_true rfl) (jX0_take G a1 σ) r h
def fX0_putUp_L59 (k85 : js_S → Option js_S) (p2 : Int32) (p3 : Int32) (p4 : Int32) (p6 : Int32) (p7 : Int32) (p8 : Int32) : Nat → Int32 → js_S → Option js_S
  | 0, _, _ => none
  | n + 1, v9, σ => (if p8 ≤ v9 then k85 σ else (fX3_wordAt p2 p7 v9 σ).bind fun r3 => (fX0_take r3 σ).bind fun r4 => fX0_putUp_L59 k85 p2 p3 p4 p6 p7 p8 n (v9 + (1 : Int32)) r4)
set_option maxRecDepth 10000 in
theorem jX0_putUp_L59 (G : js_G) (k85 : js_S → Option js_S) (p2 : Int32) (p3 : Int32) (p4 : Int32) (p6 : Int32) (p7 : Int32) (p8 : Int32) (hk85 : ∀  (σ : js_S), js_J G shC mX0_putUp js_eV 85 [some (.ref 11), some (.ref 1), some (.int p2), some (.int p3), some (.int p4), none, some (.int p6), some (.int p7), none, none] [] σ (k85 σ)) : ∀ (n : Nat) (v9 : Int32) (σ : js_S), js_J G shC mX0_putUp js_eV 59 [some (.ref 11), some (.ref 1), some (.int p2), some (.int p3), some (.int p4), none, some (.int p6), some (.int p7), some (.int p8), some (.int v9)] [] σ (fX0_putUp_L59 k85 p2 p3 p4 p6 p7 p8 n v9 σ) := by
  intro n
  induction n with
  | zero =>
    intros
    exact js_none
  | succ n ih2 =>
    intro v9 σ
    rw [fX0_putUp_L59]
    refine js_iload dX0_putUp_59 rfl ?_
    refine js_iload dX0_putUp_61 rfl ?_
    refine js_icmp_ge 85 dX0_putUp_63 rfl ?_ ?_
    · refine js_drop [true, true, true, true, true, false, true, true, false, false] (lv2 := [some (.ref 11), some (.ref 1), some (.int p2), some (.int p3), some (.int p4), none, some (.int p6), some (.int p7), none, none]) rfl ?_
      exact hk85 σ
    · refine js_aload_n dX0_putUp_66 rfl rfl ?_
      refine js_aload_n dX0_putUp_67 rfl rfl ?_
      refine js_iload_n dX0_putUp_68 rfl rfl ?_
      refine js_iload dX0_putUp_69 rfl ?_
      refine js_iload dX0_putUp_71 rfl ?_
      refine js_callV_I (mj := mX3_wordAt) [(.int p2), (.int p7), (.int v9)] [(.ref 11)] dX0_putUp_73 tw_435 cm_X3_wordAt cv_X3_wordAt rfl rfl rfl rfl rfl rfl (fun r h => qX3_wordAt G p2 p7 v9 σ r h) (fun r3 => ?_)
      refine js_callV_V (mj := mX0_take) [(.int r3)] [] dX0_putUp_76 tw_436 cm_X0_take cv_X0_take rfl rfl rfl rfl rfl rfl (fun r h => qX0_take G r3 σ r h) (fun r4 => ?_)
      refine js_iinc (v := (v9 + (1 : Int32))) (lv' := [some (.ref 11), some (.ref 1), some (.int p2), some (.int p3), some (.int p4), none, some (.int p6), some (.int p7), some (.int p8), some (.int (v9 + (1 : Int32)))]) dX0_putUp_79 rfl (kx_1 _) rfl rfl rfl ?_
      refine js_goto 59 dX0_putUp_82 rfl ?_
      exact ih2 (v9 + (1 : Int32)) r4

def fX0_putUp_L30 (p2 : Int32) (p3 : Int32) (p4 : Int32) (p6 : Int32) : Nat → Int32 → js_S → Option js_S
  | 0, _, _ => none
  | n + 1, v7, σ => (if p3 < v7 then some σ else (if (8 : Int32) ≤ v7 then some σ else (fX3_loose p2 v7 p4 p6 σ).bind fun r2 => fX0_putUp_L59 (fun s5 => fX0_putUp_L30 p2 p3 p4 p6 n (v7 + (1 : Int32)) s5) p2 p3 p4 p6 v7 r2 js_FU (0 : Int32) σ))
set_option maxRecDepth 10000 in
theorem jX0_putUp_L30 (G : js_G) (p2 : Int32) (p3 : Int32) (p4 : Int32) (p6 : Int32) : ∀ (n : Nat) (v7 : Int32) (σ : js_S), js_J G shC mX0_putUp js_eV 30 [some (.ref 11), some (.ref 1), some (.int p2), some (.int p3), some (.int p4), none, some (.int p6), some (.int v7), none, none] [] σ (fX0_putUp_L30 p2 p3 p4 p6 n v7 σ) := by
  intro n
  induction n with
  | zero =>
    intros
    exact js_none
  | succ n ih1 =>
    intro v7 σ
    rw [fX0_putUp_L30]
    refine js_iload dX0_putUp_30 rfl ?_
    refine js_iload_n dX0_putUp_32 rfl rfl ?_
    refine js_icmp_gt 91 dX0_putUp_33 rfl ?_ ?_
    · exact js_vret dX0_putUp_91 rfl rfl
    · refine js_iload dX0_putUp_36 rfl ?_
      refine js_bipush dX0_putUp_38 kb_8 ?_
      refine js_icmp_ge 91 dX0_putUp_40 rfl ?_ ?_
      · exact js_vret dX0_putUp_91 rfl rfl
      · refine js_aload_n dX0_putUp_43 rfl rfl ?_
        refine js_iload_n dX0_putUp_44 rfl rfl ?_
        refine js_iload dX0_putUp_45 rfl ?_
        refine js_iload dX0_putUp_47 rfl ?_
        refine js_iload dX0_putUp_49 rfl ?_
        refine js_callV_I (mj := mX3_loose) [(.int p2), (.int v7), (.int p4), (.int p6)] [] dX0_putUp_51 tw_434 cm_X3_loose cv_X3_loose rfl rfl rfl rfl rfl rfl (fun r h => qX3_loose G p2 v7 p4 p6 σ r h) (fun r2 => ?_)
        refine js_istore (lv' := [some (.ref 11), some (.ref 1), some (.int p2), some (.int p3), some (.int p4), none, some (.int p6), some (.int v7), some (.int r2), none]) dX0_putUp_54 rfl rfl rfl ?_
        refine js_iconst dX0_putUp_56 ki_0 ?_
        refine js_istore (lv' := [some (.ref 11), some (.ref 1), some (.int p2), some (.int p3), some (.int p4), none, some (.int p6), some (.int v7), some (.int r2), some (.int (0 : Int32))]) dX0_putUp_57 rfl rfl rfl ?_
        refine jX0_putUp_L59 G _ p2 p3 p4 p6 v7 r2 (fun s5 => ?_) _ (0 : Int32) σ
        refine js_iinc (v := (v7 + (1 : Int32))) (lv' := [some (.ref 11), some (.ref 1), some (.int p2), some (.int p3), some (.int p4), none, some (.int p6), some (.int (v7 + (1 : Int32))), none, none]) dX0_putUp_85 rfl (kx_1 _) rfl rfl rfl ?_
        refine js_goto 30 dX0_putUp_88 rfl ?_
        exact ih1 (v7 + (1 : Int32)) s5

def fX0_putUp (a2 : Int32) (a3 : Int32) (a4 : Int32) (a5 : Int32) (σ : js_S) : Option js_S := (fX3_kindOf a2 σ).bind fun r1 => fX0_putUp_L30 a2 a3 a4 (a5 * (fX1_cakes r1 (σ.1 1 1))) js_FU (0 : Int32) (js_sI (js_sI σ 11 0 (0 : Int32)) 11 1 (0 : Int32))
set_option maxRecDepth 10000 in
theorem jX0_putUp (G : js_G) (a2 : Int32) (a3 : Int32) (a4 : Int32) (a5 : Int32) (σ : js_S) : js_J G shC mX0_putUp js_eV 0 [some (.ref 11), some (.ref 1), some (.int a2), some (.int a3), some (.int a4), some (.int a5), none, none, none, none] [] σ (fX0_putUp a2 a3 a4 a5 σ) := by
  unfold fX0_putUp
  refine js_iload dX0_putUp_0 rfl ?_
  refine js_aload_n dX0_putUp_2 rfl rfl ?_
  refine js_iload_n dX0_putUp_3 rfl rfl ?_
  refine js_callV_I (mj := mX3_kindOf) [(.int a2)] [(.int a5)] dX0_putUp_4 tw_432 cm_X3_kindOf cv_X3_kindOf rfl rfl rfl rfl rfl rfl (fun r h => qX3_kindOf G a2 σ r h) (fun r1 => ?_)
  refine js_aload_n dX0_putUp_7 rfl rfl ?_
  refine js_getI dX0_putUp_8 fl_X0_28 rfl rfl ?_
  refine js_callS_P (mj := mX1_cakes) [(.int r1), (.int (σ.1 1 1))] [(.int a5)] dX0_putUp_11 tw_433 cm_X1_cakes tw_268 rfl rfl rfl rfl (qX1_cakes G r1 (σ.1 1 1) σ) ?_
  refine js_imul dX0_putUp_14 ?_
  refine js_istore (lv' := [some (.ref 11), some (.ref 1), some (.int a2), some (.int a3), some (.int a4), some (.int a5), some (.int (a5 * (fX1_cakes r1 (σ.1 1 1)))), none, none, none]) dX0_putUp_15 rfl rfl rfl ?_
  refine js_aload_n dX0_putUp_17 rfl rfl ?_
  refine js_iconst dX0_putUp_18 ki_0 ?_
  refine js_putI dX0_putUp_19 fp_X0_9 rfl rfl rfl rfl ?_
  refine js_aload_n dX0_putUp_22 rfl rfl ?_
  refine js_iconst dX0_putUp_23 ki_0 ?_
  refine js_putI dX0_putUp_24 fp_X0_15 rfl rfl rfl rfl ?_
  refine js_iconst dX0_putUp_27 ki_0 ?_
  refine js_istore (lv' := [some (.ref 11), some (.ref 1), some (.int a2), some (.int a3), some (.int a4), some (.int a5), some (.int (a5 * (fX1_cakes r1 (σ.1 1 1)))), some (.int (0 : Int32)), none, none]) dX0_putUp_28 rfl rfl rfl ?_
  refine js_drop [true, true, true, true, true, false, true, true, false, false] (lv2 := [some (.ref 11), some (.ref 1), some (.int a2), some (.int a3), some (.int a4), none, some (.int (a5 * (fX1_cakes r1 (σ.1 1 1)))), some (.int (0 : Int32)), none, none]) rfl ?_
  exact jX0_putUp_L30 G a2 a3 a4 (a5 * (fX1_cakes r1 (σ.1 1 1)))  _ (0 : Int32) (js_sI (js_sI σ 11 0 (0 : Int32)) 11 1 (0 : Int32))

theorem qX0_putUp (G : js_G) (a2 : Int32) (a3 : Int32) (a4 : Int32) (a5 : Int32) (σ : js_S) (r : js_S) (h : fX0_putUp a2 a3 a4 a5 σ = some r) : js_Con G shC mX0_putUp [(.ref 11), (.ref 1), (.int a2), (.int a3), (.int a4), (.int a5)] σ (js_eV r) := js_con (mi := mX0_putUp) 4 pn_X0 rfl (Nat.le_of_ble_eq_true rfl) (jX0_putUp G a2 a3 a4 a5 σ) r h
def fX7_brought (a1 : Int32) (a2 : Int32) (a3 : Int32) (σ : js_S) : Option (Int32 × js_S) := (fX7_isPlace a1 a2 σ).bind fun r1 => (if r1 = 0 then (fX7_found (-1000000001 : Int32) σ).bind fun r2 => some (r2.1, r2.2) else (if (fX7_isStrength a3) = 0 then (fX7_found (-1000000001 : Int32) σ).bind fun r4 => some (r4.1, r4.2) else (fX0_putUp a1 a2 a3 (0 : Int32) σ).bind fun r3 => some ((r3.1 11 1), r3)))
set_option maxRecDepth 10000 in
theorem jX7_brought (G : js_G) (a1 : Int32) (a2 : Int32) (a3 : Int32) (σ : js_S) : js_J G shC mX7_brought js_eW 0 [some (.ref 0), some (.int a1), some (.int a2), some (.int a3)] [] σ (fX7_brought a1 a2 a3 σ) := by
  unfold fX7_brought
  refine js_aload_n dX7_brought_0 rfl rfl ?_
  refine js_iload_n dX7_brought_1 rfl rfl ?_
  refine js_iload_n dX7_brought_2 rfl rfl ?_
  refine js_callV_I (mj := mX7_isPlace) [(.int a1), (.int a2)] [] dX7_brought_3 tw_277 cm_X7_isPlace cv_X7_isPlace rfl rfl rfl rfl rfl rfl (fun r h => qX7_isPlace G a1 a2 σ r h) (fun r1 => ?_)
  refine js_if_eq 16 dX7_brought_6 rfl ?_ ?_
  · refine js_aload_n dX7_brought_16 rfl rfl ?_
    refine js_ldc dX7_brought_17 tw_217 ?_
    refine js_callV_W (mj := mX7_found) [(.int (-1000000001 : Int32))] [] dX7_brought_19 tw_218 cm_X7_found cv_X7_found rfl rfl rfl rfl rfl rfl (fun r h => qX7_found G (-1000000001 : Int32) σ r h) (fun r2 => ?_)
    exact js_iret dX7_brought_22 rfl rfl
  · refine js_iload_n dX7_brought_9 rfl rfl ?_
    refine js_callS_P (mj := mX7_isStrength) [(.int a3)] [] dX7_brought_10 tw_413 cm_X7_isStrength tw_414 rfl rfl rfl rfl (qX7_isStrength G a3 σ) ?_
    refine js_if_ne 23 dX7_brought_13 rfl ?_ ?_
    · refine js_aload_n dX7_brought_23 rfl rfl ?_
      refine js_getR dX7_brought_24 fl_X7_26 rfl rfl ?_
      refine js_aload_n dX7_brought_27 rfl rfl ?_
      refine js_getR dX7_brought_28 fl_X7_10 rfl rfl ?_
      refine js_iload_n dX7_brought_31 rfl rfl ?_
      refine js_iload_n dX7_brought_32 rfl rfl ?_
      refine js_iload_n dX7_brought_33 rfl rfl ?_
      refine js_iconst dX7_brought_34 ki_0 ?_
      refine js_callV_V (mj := mX0_putUp) [(.ref 1), (.int a1), (.int a2), (.int a3), (.int (0 : Int32))] [] dX7_brought_35 tw_428 cm_X0_putUp cv_X0_putUp rfl rfl rfl rfl rfl rfl (fun r h => qX0_putUp G a1 a2 a3 (0 : Int32) σ r h) (fun r3 => ?_)
      refine js_aload_n dX7_brought_38 rfl rfl ?_
      refine js_getR dX7_brought_39 fl_X7_26 rfl rfl ?_
      refine js_getI dX7_brought_42 fl_X7_190 rfl rfl ?_
      exact js_iret dX7_brought_45 rfl rfl
    · refine js_aload_n dX7_brought_16 rfl rfl ?_
      refine js_ldc dX7_brought_17 tw_217 ?_
      refine js_callV_W (mj := mX7_found) [(.int (-1000000001 : Int32))] [] dX7_brought_19 tw_218 cm_X7_found cv_X7_found rfl rfl rfl rfl rfl rfl (fun r h => qX7_found G (-1000000001 : Int32) σ r h) (fun r4 => ?_)
      exact js_iret dX7_brought_22 rfl rfl

theorem qX7_brought (G : js_G) (a1 : Int32) (a2 : Int32) (a3 : Int32) (σ : js_S) (r : (Int32 × js_S)) (h : fX7_brought a1 a2 a3 σ = some r) : js_Con G shC mX7_brought [(.ref 0), (.int a1), (.int a2), (.int a3)] σ (js_eW r) := js_con (mi := mX7_brought) 0 pn_X7 rfl (Nat.le_of_ble_eq_true rfl) (jX7_brought G a1 a2 a3 σ) r h
def fX0_word (a1 : Int32) (σ : js_S) : Option Int32 := (if a1 < 0 then some (-1 : Int32) else (if (σ.1 11 0) ≤ a1 then some (-1 : Int32) else js_gd (js_ix a1 48) (some (σ.1 12 (Int32.toNatClampNeg a1)))))
set_option maxRecDepth 10000 in
theorem jX0_word (G : js_G) (a1 : Int32) (σ : js_S) : js_J G shC mX0_word (js_eI σ) 0 [some (.ref 11), some (.int a1)] [] σ (fX0_word a1 σ) := by
  unfold fX0_word
  refine js_iload_n dX0_word_0 rfl rfl ?_
  refine js_if_lt 21 dX0_word_1 rfl ?_ ?_
  · refine js_iconst dX0_word_21 ki_m1 ?_
    exact js_iret dX0_word_22 rfl rfl
  · refine js_iload_n dX0_word_4 rfl rfl ?_
    refine js_aload_n dX0_word_5 rfl rfl ?_
    refine js_getI dX0_word_6 fl_X0_9 rfl rfl ?_
    refine js_icmp_ge 21 dX0_word_9 rfl ?_ ?_
    · refine js_iconst dX0_word_21 ki_m1 ?_
      exact js_iret dX0_word_22 rfl rfl
    · refine js_aload_n dX0_word_12 rfl rfl ?_
      refine js_getR dX0_word_13 fl_X0_18 rfl rfl ?_
      refine js_iload_n dX0_word_16 rfl rfl ?_
      refine js_iald dX0_word_17 rfl ?_
      refine js_goto 22 dX0_word_18 rfl ?_
      exact js_iret dX0_word_22 rfl rfl

theorem qX0_word (G : js_G) (a1 : Int32) (σ : js_S) (r : Int32) (h : fX0_word a1 σ = some r) : js_Con G shC mX0_word [(.ref 11), (.int a1)] σ ((js_eI σ) r) := js_con (mi := mX0_word) 0 pn_X0 rfl (Nat.le_of_ble_eq_true rfl) (jX0_word G a1 σ) r h
def fX7_order (a1 : Int32) (a2 : Int32) (a3 : Int32) (a4 : Int32) (σ : js_S) : Option (Int32 × js_S) := (fX7_isPlace a1 a2 σ).bind fun r1 => (if r1 = 0 then (fX7_found (-1000000001 : Int32) σ).bind fun r2 => some (r2.1, r2.2) else (if (fX7_isStrength a3) = 0 then (fX7_found (-1000000001 : Int32) σ).bind fun r3 => some (r3.1, r3.2) else (if 0 ≤ a4 then (fX0_putUp a1 a2 a3 (0 : Int32) σ).bind fun r4 => (if (r4.1 11 0) ≤ a4 then (fX7_found (-1000000004 : Int32) r4).bind fun r5 => some (r5.1, r5.2) else (fX0_word a4 r4).bind fun r6 => some (r6, r4)) else (fX7_found (-1000000001 : Int32) σ).bind fun r7 => some (r7.1, r7.2))))
set_option maxRecDepth 10000 in
theorem jX7_order (G : js_G) (a1 : Int32) (a2 : Int32) (a3 : Int32) (a4 : Int32) (σ : js_S) : js_J G shC mX7_order js_eW 0 [some (.ref 0), some (.int a1), some (.int a2), some (.int a3), some (.int a4)] [] σ (fX7_order a1 a2 a3 a4 σ) := by
  unfold fX7_order
  refine js_aload_n dX7_order_0 rfl rfl ?_
  refine js_iload_n dX7_order_1 rfl rfl ?_
  refine js_iload_n dX7_order_2 rfl rfl ?_
  refine js_callV_I (mj := mX7_isPlace) [(.int a1), (.int a2)] [] dX7_order_3 tw_277 cm_X7_isPlace cv_X7_isPlace rfl rfl rfl rfl rfl rfl (fun r h => qX7_isPlace G a1 a2 σ r h) (fun r1 => ?_)
  refine js_if_eq 21 dX7_order_6 rfl ?_ ?_
  · refine js_aload_n dX7_order_21 rfl rfl ?_
    refine js_ldc dX7_order_22 tw_217 ?_
    refine js_callV_W (mj := mX7_found) [(.int (-1000000001 : Int32))] [] dX7_order_24 tw_218 cm_X7_found cv_X7_found rfl rfl rfl rfl rfl rfl (fun r h => qX7_found G (-1000000001 : Int32) σ r h) (fun r2 => ?_)
    exact js_iret dX7_order_27 rfl rfl
  · refine js_iload_n dX7_order_9 rfl rfl ?_
    refine js_callS_P (mj := mX7_isStrength) [(.int a3)] [] dX7_order_10 tw_413 cm_X7_isStrength tw_414 rfl rfl rfl rfl (qX7_isStrength G a3 σ) ?_
    refine js_if_eq 21 dX7_order_13 rfl ?_ ?_
    · refine js_aload_n dX7_order_21 rfl rfl ?_
      refine js_ldc dX7_order_22 tw_217 ?_
      refine js_callV_W (mj := mX7_found) [(.int (-1000000001 : Int32))] [] dX7_order_24 tw_218 cm_X7_found cv_X7_found rfl rfl rfl rfl rfl rfl (fun r h => qX7_found G (-1000000001 : Int32) σ r h) (fun r3 => ?_)
      exact js_iret dX7_order_27 rfl rfl
    · refine js_iload dX7_order_16 rfl ?_
      refine js_if_ge 28 dX7_order_18 rfl ?_ ?_
      · refine js_aload_n dX7_order_28 rfl rfl ?_
        refine js_getR dX7_order_29 fl_X7_26 rfl rfl ?_
        refine js_aload_n dX7_order_32 rfl rfl ?_
        refine js_getR dX7_order_33 fl_X7_10 rfl rfl ?_
        refine js_iload_n dX7_order_36 rfl rfl ?_
        refine js_iload_n dX7_order_37 rfl rfl ?_
        refine js_iload_n dX7_order_38 rfl rfl ?_
        refine js_iconst dX7_order_39 ki_0 ?_
        refine js_callV_V (mj := mX0_putUp) [(.ref 1), (.int a1), (.int a2), (.int a3), (.int (0 : Int32))] [] dX7_order_40 tw_428 cm_X0_putUp cv_X0_putUp rfl rfl rfl rfl rfl rfl (fun r h => qX0_putUp G a1 a2 a3 (0 : Int32) σ r h) (fun r4 => ?_)
        refine js_iload dX7_order_43 rfl ?_
        refine js_aload_n dX7_order_45 rfl rfl ?_
        refine js_getR dX7_order_46 fl_X7_26 rfl rfl ?_
        refine js_getI dX7_order_49 fl_X7_193 rfl rfl ?_
        refine js_icmp_ge 67 dX7_order_52 rfl ?_ ?_
        · refine js_aload_n dX7_order_67 rfl rfl ?_
          refine js_ldc dX7_order_68 tw_295 ?_
          refine js_callV_W (mj := mX7_found) [(.int (-1000000004 : Int32))] [] dX7_order_70 tw_218 cm_X7_found cv_X7_found rfl rfl rfl rfl rfl rfl (fun r h => qX7_found G (-1000000004 : Int32) r4 r h) (fun r5 => ?_)
          exact js_iret dX7_order_73 rfl rfl
        · refine js_aload_n dX7_order_55 rfl rfl ?_
          refine js_getR dX7_order_56 fl_X7_26 rfl rfl ?_
          refine js_iload dX7_order_59 rfl ?_
          refine js_callV_I (mj := mX0_word) [(.int a4)] [] dX7_order_61 tw_444 cm_X0_word cv_X0_word rfl rfl rfl rfl rfl rfl (fun r h => qX0_word G a4 r4 r h) (fun r6 => ?_)
          refine js_goto 73 dX7_order_64 rfl ?_
          exact js_iret dX7_order_73 rfl rfl
      · refine js_aload_n dX7_order_21 rfl rfl ?_
        refine js_ldc dX7_order_22 tw_217 ?_
        refine js_callV_W (mj := mX7_found) [(.int (-1000000001 : Int32))] [] dX7_order_24 tw_218 cm_X7_found cv_X7_found rfl rfl rfl rfl rfl rfl (fun r h => qX7_found G (-1000000001 : Int32) σ r h) (fun r7 => ?_)
        exact js_iret dX7_order_27 rfl rfl

theorem qX7_order (G : js_G) (a1 : Int32) (a2 : Int32) (a3 : Int32) (a4 : Int32) (σ : js_S) (r : (Int32 × js_S)) (h : fX7_order a1 a2 a3 a4 σ = some r) : js_Con G shC mX7_order [(.ref 0), (.int a1), (.int a2), (.int a3), (.int a4)] σ (js_eW r) := js_con (mi := mX7_order) 0 pn_X7 rfl (Nat.le_of_ble_eq_true rfl) (jX7_order G a1 a2 a3 a4 σ) r h
def fX7_on (a1 : Int32) (a2 : Int32) (a3 : Int32) (a4 : Int32) (σ : js_S) : Option (Int32 × js_S) := (fX7_isPlace a1 a2 σ).bind fun r1 => (if r1 = 0 then (fX7_found (-1000000001 : Int32) σ).bind fun r2 => some (r2.1, r2.2) else (if (fX7_isStrength a3) = 0 then (fX7_found (-1000000001 : Int32) σ).bind fun r3 => some (r3.1, r3.2) else (if (fX7_isBelow a4 (61 : Int32)) = 0 then (fX7_found (-1000000001 : Int32) σ).bind fun r5 => some (r5.1, r5.2) else (fX0_putUp a1 a2 a3 a4 σ).bind fun r4 => some ((r4.1 11 0), r4))))
set_option maxRecDepth 10000 in
theorem jX7_on (G : js_G) (a1 : Int32) (a2 : Int32) (a3 : Int32) (a4 : Int32) (σ : js_S) : js_J G shC mX7_on js_eW 0 [some (.ref 0), some (.int a1), some (.int a2), some (.int a3), some (.int a4)] [] σ (fX7_on a1 a2 a3 a4 σ) := by
  unfold fX7_on
  refine js_aload_n dX7_on_0 rfl rfl ?_
  refine js_iload_n dX7_on_1 rfl rfl ?_
  refine js_iload_n dX7_on_2 rfl rfl ?_
  refine js_callV_I (mj := mX7_isPlace) [(.int a1), (.int a2)] [] dX7_on_3 tw_277 cm_X7_isPlace cv_X7_isPlace rfl rfl rfl rfl rfl rfl (fun r h => qX7_isPlace G a1 a2 σ r h) (fun r1 => ?_)
  refine js_if_eq 26 dX7_on_6 rfl ?_ ?_
  · refine js_aload_n dX7_on_26 rfl rfl ?_
    refine js_ldc dX7_on_27 tw_217 ?_
    refine js_callV_W (mj := mX7_found) [(.int (-1000000001 : Int32))] [] dX7_on_29 tw_218 cm_X7_found cv_X7_found rfl rfl rfl rfl rfl rfl (fun r h => qX7_found G (-1000000001 : Int32) σ r h) (fun r2 => ?_)
    exact js_iret dX7_on_32 rfl rfl
  · refine js_iload_n dX7_on_9 rfl rfl ?_
    refine js_callS_P (mj := mX7_isStrength) [(.int a3)] [] dX7_on_10 tw_413 cm_X7_isStrength tw_414 rfl rfl rfl rfl (qX7_isStrength G a3 σ) ?_
    refine js_if_eq 26 dX7_on_13 rfl ?_ ?_
    · refine js_aload_n dX7_on_26 rfl rfl ?_
      refine js_ldc dX7_on_27 tw_217 ?_
      refine js_callV_W (mj := mX7_found) [(.int (-1000000001 : Int32))] [] dX7_on_29 tw_218 cm_X7_found cv_X7_found rfl rfl rfl rfl rfl rfl (fun r h => qX7_found G (-1000000001 : Int32) σ r h) (fun r3 => ?_)
      exact js_iret dX7_on_32 rfl rfl
    · refine js_iload dX7_on_16 rfl ?_
      refine js_bipush dX7_on_18 kb_61 ?_
      refine js_callS_P (mj := mX7_isBelow) [(.int a4), (.int (61 : Int32))] [] dX7_on_20 tw_214 cm_X7_isBelow tw_215 rfl rfl rfl rfl (qX7_isBelow G a4 (61 : Int32) σ) ?_
      refine js_if_ne 33 dX7_on_23 rfl ?_ ?_
      · refine js_aload_n dX7_on_33 rfl rfl ?_
        refine js_getR dX7_on_34 fl_X7_26 rfl rfl ?_
        refine js_aload_n dX7_on_37 rfl rfl ?_
        refine js_getR dX7_on_38 fl_X7_10 rfl rfl ?_
        refine js_iload_n dX7_on_41 rfl rfl ?_
        refine js_iload_n dX7_on_42 rfl rfl ?_
        refine js_iload_n dX7_on_43 rfl rfl ?_
        refine js_iload dX7_on_44 rfl ?_
        refine js_callV_V (mj := mX0_putUp) [(.ref 1), (.int a1), (.int a2), (.int a3), (.int a4)] [] dX7_on_46 tw_428 cm_X0_putUp cv_X0_putUp rfl rfl rfl rfl rfl rfl (fun r h => qX0_putUp G a1 a2 a3 a4 σ r h) (fun r4 => ?_)
        refine js_aload_n dX7_on_49 rfl rfl ?_
        refine js_getR dX7_on_50 fl_X7_26 rfl rfl ?_
        refine js_getI dX7_on_53 fl_X7_193 rfl rfl ?_
        exact js_iret dX7_on_56 rfl rfl
      · refine js_aload_n dX7_on_26 rfl rfl ?_
        refine js_ldc dX7_on_27 tw_217 ?_
        refine js_callV_W (mj := mX7_found) [(.int (-1000000001 : Int32))] [] dX7_on_29 tw_218 cm_X7_found cv_X7_found rfl rfl rfl rfl rfl rfl (fun r h => qX7_found G (-1000000001 : Int32) σ r h) (fun r5 => ?_)
        exact js_iret dX7_on_32 rfl rfl

theorem qX7_on (G : js_G) (a1 : Int32) (a2 : Int32) (a3 : Int32) (a4 : Int32) (σ : js_S) (r : (Int32 × js_S)) (h : fX7_on a1 a2 a3 a4 σ = some r) : js_Con G shC mX7_on [(.ref 0), (.int a1), (.int a2), (.int a3), (.int a4)] σ (js_eW r) := js_con (mi := mX7_on) 0 pn_X7 rfl (Nat.le_of_ble_eq_true rfl) (jX7_on G a1 a2 a3 a4 σ) r h
def fX7_isSet (a0 : Int32) : Int32 := (fX7_isBelow a0 (65536 : Int32))
set_option maxRecDepth 10000 in
theorem jX7_isSet (G : js_G) (a0 : Int32) (σ : js_S) : js_J G shC mX7_isSet (js_eI σ) 0 [some (.int a0)] [] σ (some (fX7_isSet a0)) := by
  unfold fX7_isSet
  refine js_iload_n dX7_isSet_0 rfl rfl ?_
  refine js_ldcw dX7_isSet_1 tw_459 ?_
  refine js_callS_P (mj := mX7_isBelow) [(.int a0), (.int (65536 : Int32))] [] dX7_isSet_4 tw_214 cm_X7_isBelow tw_215 rfl rfl rfl rfl (qX7_isBelow G a0 (65536 : Int32) σ) ?_
  exact js_zret dX7_isSet_7 rfl (js_nb (zX7_isBelow a0 (65536 : Int32))) rfl

theorem qX7_isSet (G : js_G) (a0 : Int32) (σ : js_S) : js_Con G shC mX7_isSet [(.int a0)] σ (some (.int (fX7_isSet a0)), σ) := js_con (mi := mX7_isSet) (emb := (js_eI σ)) 0 pn_X7 rfl (Nat.le_of_ble_eq_true rfl) (jX7_isSet G a0 σ) _ rfl
theorem zX7_isSet (a0 : Int32) : fX7_isSet a0 = 0 ∨ fX7_isSet a0 = 1 := by
  unfold fX7_isSet
  repeat' split
  all_goals first | exact Or.inl rfl | exact Or.inr rfl | exact zX7_isBelow _ _
def fX0_brings (a1 : Int32) (σ : js_S) : Option Int32 := (if (a1 &&& ((σ.1 11 1) ^^^ (-1 : Int32))) = 0 then some (1 : Int32) else some (0 : Int32))
set_option maxRecDepth 10000 in
theorem jX0_brings (G : js_G) (a1 : Int32) (σ : js_S) : js_J G shC mX0_brings (js_eI σ) 0 [some (.ref 11), some (.int a1)] [] σ (fX0_brings a1 σ) := by
  unfold fX0_brings
  refine js_iload_n dX0_brings_0 rfl rfl ?_
  refine js_aload_n dX0_brings_1 rfl rfl ?_
  refine js_getI dX0_brings_2 fl_X0_15 rfl rfl ?_
  refine js_iconst dX0_brings_5 ki_m1 ?_
  refine js_ixor dX0_brings_6 ?_
  refine js_iand dX0_brings_7 ?_
  refine js_if_ne 15 dX0_brings_8 rfl ?_ ?_
  · refine js_iconst dX0_brings_15 ki_0 ?_
    exact js_zret dX0_brings_16 rfl nb_0.1 rfl
  · refine js_iconst dX0_brings_11 ki_1 ?_
    refine js_goto 16 dX0_brings_12 rfl ?_
    exact js_zret dX0_brings_16 rfl nb_1.1 rfl

theorem qX0_brings (G : js_G) (a1 : Int32) (σ : js_S) (r : Int32) (h : fX0_brings a1 σ = some r) : js_Con G shC mX0_brings [(.ref 11), (.int a1)] σ ((js_eI σ) r) := js_con (mi := mX0_brings) 0 pn_X0 rfl (Nat.le_of_ble_eq_true rfl) (jX0_brings G a1 σ) r h
def fX7_reach_L35 (p1 : Int32) (p2 : Int32) (p3 : Int32) : Nat → Int32 → js_S → Option (Int32 × js_S)
  | 0, _, _ => none
  | n + 1, v4, σ => (if (8 : Int32) ≤ v4 then (fX7_found (-1000000004 : Int32) σ).bind fun r4 => some (r4.1, r4.2) else (fX0_putUp p1 v4 p3 (0 : Int32) σ).bind fun r5 => (fX0_brings p2 r5).bind fun r6 => (if r6 = 0 then fX7_reach_L35 p1 p2 p3 n (v4 + (1 : Int32)) r5 else some (v4, r5)))
set_option maxRecDepth 10000 in
theorem jX7_reach_L35 (G : js_G) (p1 : Int32) (p2 : Int32) (p3 : Int32) : ∀ (n : Nat) (v4 : Int32) (σ : js_S), js_J G shC mX7_reach js_eW 35 [some (.ref 0), some (.int p1), some (.int p2), some (.int p3), some (.int v4)] [] σ (fX7_reach_L35 p1 p2 p3 n v4 σ) := by
  intro n
  induction n with
  | zero =>
    intros
    exact js_none
  | succ n ih1 =>
    intro v4 σ
    rw [fX7_reach_L35]
    refine js_iload dX7_reach_35 rfl ?_
    refine js_bipush dX7_reach_37 kb_8 ?_
    refine js_icmp_ge 78 dX7_reach_39 rfl ?_ ?_
    · refine js_aload_n dX7_reach_78 rfl rfl ?_
      refine js_ldc dX7_reach_79 tw_295 ?_
      refine js_callV_W (mj := mX7_found) [(.int (-1000000004 : Int32))] [] dX7_reach_81 tw_218 cm_X7_found cv_X7_found rfl rfl rfl rfl rfl rfl (fun r h => qX7_found G (-1000000004 : Int32) σ r h) (fun r4 => ?_)
      exact js_iret dX7_reach_84 rfl rfl
    · refine js_aload_n dX7_reach_42 rfl rfl ?_
      refine js_getR dX7_reach_43 fl_X7_26 rfl rfl ?_
      refine js_aload_n dX7_reach_46 rfl rfl ?_
      refine js_getR dX7_reach_47 fl_X7_10 rfl rfl ?_
      refine js_iload_n dX7_reach_50 rfl rfl ?_
      refine js_iload dX7_reach_51 rfl ?_
      refine js_iload_n dX7_reach_53 rfl rfl ?_
      refine js_iconst dX7_reach_54 ki_0 ?_
      refine js_callV_V (mj := mX0_putUp) [(.ref 1), (.int p1), (.int v4), (.int p3), (.int (0 : Int32))] [] dX7_reach_55 tw_428 cm_X0_putUp cv_X0_putUp rfl rfl rfl rfl rfl rfl (fun r h => qX0_putUp G p1 v4 p3 (0 : Int32) σ r h) (fun r5 => ?_)
      refine js_aload_n dX7_reach_58 rfl rfl ?_
      refine js_getR dX7_reach_59 fl_X7_26 rfl rfl ?_
      refine js_iload_n dX7_reach_62 rfl rfl ?_
      refine js_callV_I (mj := mX0_brings) [(.int p2)] [] dX7_reach_63 tw_460 cm_X0_brings cv_X0_brings rfl rfl rfl rfl rfl rfl (fun r h => qX0_brings G p2 r5 r h) (fun r6 => ?_)
      refine js_if_eq 72 dX7_reach_66 rfl ?_ ?_
      · refine js_iinc (v := (v4 + (1 : Int32))) (lv' := [some (.ref 0), some (.int p1), some (.int p2), some (.int p3), some (.int (v4 + (1 : Int32)))]) dX7_reach_72 rfl (kx_1 _) rfl rfl rfl ?_
        refine js_goto 35 dX7_reach_75 rfl ?_
        exact ih1 (v4 + (1 : Int32)) r5
      · refine js_iload dX7_reach_69 rfl ?_
        exact js_iret dX7_reach_71 rfl rfl

def fX7_reach (a1 : Int32) (a2 : Int32) (a3 : Int32) (σ : js_S) : Option (Int32 × js_S) := (fX3_hasFlue a1 σ).bind fun r1 => (if r1 = 0 then (fX7_found (-1000000001 : Int32) σ).bind fun r2 => some (r2.1, r2.2) else (if (fX7_isSet a2) = 0 then (fX7_found (-1000000001 : Int32) σ).bind fun r3 => some (r3.1, r3.2) else (if (fX7_isStrength a3) = 0 then (fX7_found (-1000000001 : Int32) σ).bind fun r7 => some (r7.1, r7.2) else fX7_reach_L35 a1 a2 a3 js_FU (0 : Int32) σ)))
set_option maxRecDepth 10000 in
theorem jX7_reach (G : js_G) (a1 : Int32) (a2 : Int32) (a3 : Int32) (σ : js_S) : js_J G shC mX7_reach js_eW 0 [some (.ref 0), some (.int a1), some (.int a2), some (.int a3), none] [] σ (fX7_reach a1 a2 a3 σ) := by
  unfold fX7_reach
  refine js_aload_n dX7_reach_0 rfl rfl ?_
  refine js_getR dX7_reach_1 fl_X7_10 rfl rfl ?_
  refine js_iload_n dX7_reach_4 rfl rfl ?_
  refine js_callV_I (mj := mX3_hasFlue) [(.int a1)] [] dX7_reach_5 tw_231 cm_X3_hasFlue cv_X3_hasFlue rfl rfl rfl rfl rfl rfl (fun r h => qX3_hasFlue G a1 σ r h) (fun r1 => ?_)
  refine js_if_eq 25 dX7_reach_8 rfl ?_ ?_
  · refine js_aload_n dX7_reach_25 rfl rfl ?_
    refine js_ldc dX7_reach_26 tw_217 ?_
    refine js_callV_W (mj := mX7_found) [(.int (-1000000001 : Int32))] [] dX7_reach_28 tw_218 cm_X7_found cv_X7_found rfl rfl rfl rfl rfl rfl (fun r h => qX7_found G (-1000000001 : Int32) σ r h) (fun r2 => ?_)
    exact js_iret dX7_reach_31 rfl rfl
  · refine js_iload_n dX7_reach_11 rfl rfl ?_
    refine js_callS_P (mj := mX7_isSet) [(.int a2)] [] dX7_reach_12 tw_456 cm_X7_isSet tw_457 rfl rfl rfl rfl (qX7_isSet G a2 σ) ?_
    refine js_if_eq 25 dX7_reach_15 rfl ?_ ?_
    · refine js_aload_n dX7_reach_25 rfl rfl ?_
      refine js_ldc dX7_reach_26 tw_217 ?_
      refine js_callV_W (mj := mX7_found) [(.int (-1000000001 : Int32))] [] dX7_reach_28 tw_218 cm_X7_found cv_X7_found rfl rfl rfl rfl rfl rfl (fun r h => qX7_found G (-1000000001 : Int32) σ r h) (fun r3 => ?_)
      exact js_iret dX7_reach_31 rfl rfl
    · refine js_iload_n dX7_reach_18 rfl rfl ?_
      refine js_callS_P (mj := mX7_isStrength) [(.int a3)] [] dX7_reach_19 tw_413 cm_X7_isStrength tw_414 rfl rfl rfl rfl (qX7_isStrength G a3 σ) ?_
      refine js_if_ne 32 dX7_reach_22 rfl ?_ ?_
      · refine js_iconst dX7_reach_32 ki_0 ?_
        refine js_istore (lv' := [some (.ref 0), some (.int a1), some (.int a2), some (.int a3), some (.int (0 : Int32))]) dX7_reach_33 rfl rfl rfl ?_
        exact jX7_reach_L35 G a1 a2 a3  _ (0 : Int32) σ
      · refine js_aload_n dX7_reach_25 rfl rfl ?_
        refine js_ldc dX7_reach_26 tw_217 ?_
        refine js_callV_W (mj := mX7_found) [(.int (-1000000001 : Int32))] [] dX7_reach_28 tw_218 cm_X7_found cv_X7_found rfl rfl rfl rfl rfl rfl (fun r h => qX7_found G (-1000000001 : Int32) σ r h) (fun r7 => ?_)
        exact js_iret dX7_reach_31 rfl rfl

theorem qX7_reach (G : js_G) (a1 : Int32) (a2 : Int32) (a3 : Int32) (σ : js_S) (r : (Int32 × js_S)) (h : fX7_reach a1 a2 a3 σ = some r) : js_Con G shC mX7_reach [(.ref 0), (.int a1), (.int a2), (.int a3)] σ (js_eW r) := js_con (mi := mX7_reach) 1 pn_X7 rfl (Nat.le_of_ble_eq_true rfl) (jX7_reach G a1 a2 a3 σ) r h
def fX7_strength_L26 (p1 : Int32) (p2 : Int32) (p3 : Int32) : Nat → Int32 → js_S → Option (Int32 × js_S)
  | 0, _, _ => none
  | n + 1, v4, σ => (if (9 : Int32) < v4 then (fX7_found (-1000000004 : Int32) σ).bind fun r3 => some (r3.1, r3.2) else (fX0_putUp p1 p2 v4 (0 : Int32) σ).bind fun r4 => (fX0_brings p3 r4).bind fun r5 => (if r5 = 0 then fX7_strength_L26 p1 p2 p3 n (v4 + (1 : Int32)) r4 else some (v4, r4)))
set_option maxRecDepth 10000 in
theorem jX7_strength_L26 (G : js_G) (p1 : Int32) (p2 : Int32) (p3 : Int32) : ∀ (n : Nat) (v4 : Int32) (σ : js_S), js_J G shC mX7_strength js_eW 26 [some (.ref 0), some (.int p1), some (.int p2), some (.int p3), some (.int v4)] [] σ (fX7_strength_L26 p1 p2 p3 n v4 σ) := by
  intro n
  induction n with
  | zero =>
    intros
    exact js_none
  | succ n ih1 =>
    intro v4 σ
    rw [fX7_strength_L26]
    refine js_iload dX7_strength_26 rfl ?_
    refine js_bipush dX7_strength_28 kb_9 ?_
    refine js_icmp_gt 69 dX7_strength_30 rfl ?_ ?_
    · refine js_aload_n dX7_strength_69 rfl rfl ?_
      refine js_ldc dX7_strength_70 tw_295 ?_
      refine js_callV_W (mj := mX7_found) [(.int (-1000000004 : Int32))] [] dX7_strength_72 tw_218 cm_X7_found cv_X7_found rfl rfl rfl rfl rfl rfl (fun r h => qX7_found G (-1000000004 : Int32) σ r h) (fun r3 => ?_)
      exact js_iret dX7_strength_75 rfl rfl
    · refine js_aload_n dX7_strength_33 rfl rfl ?_
      refine js_getR dX7_strength_34 fl_X7_26 rfl rfl ?_
      refine js_aload_n dX7_strength_37 rfl rfl ?_
      refine js_getR dX7_strength_38 fl_X7_10 rfl rfl ?_
      refine js_iload_n dX7_strength_41 rfl rfl ?_
      refine js_iload_n dX7_strength_42 rfl rfl ?_
      refine js_iload dX7_strength_43 rfl ?_
      refine js_iconst dX7_strength_45 ki_0 ?_
      refine js_callV_V (mj := mX0_putUp) [(.ref 1), (.int p1), (.int p2), (.int v4), (.int (0 : Int32))] [] dX7_strength_46 tw_428 cm_X0_putUp cv_X0_putUp rfl rfl rfl rfl rfl rfl (fun r h => qX0_putUp G p1 p2 v4 (0 : Int32) σ r h) (fun r4 => ?_)
      refine js_aload_n dX7_strength_49 rfl rfl ?_
      refine js_getR dX7_strength_50 fl_X7_26 rfl rfl ?_
      refine js_iload_n dX7_strength_53 rfl rfl ?_
      refine js_callV_I (mj := mX0_brings) [(.int p3)] [] dX7_strength_54 tw_460 cm_X0_brings cv_X0_brings rfl rfl rfl rfl rfl rfl (fun r h => qX0_brings G p3 r4 r h) (fun r5 => ?_)
      refine js_if_eq 63 dX7_strength_57 rfl ?_ ?_
      · refine js_iinc (v := (v4 + (1 : Int32))) (lv' := [some (.ref 0), some (.int p1), some (.int p2), some (.int p3), some (.int (v4 + (1 : Int32)))]) dX7_strength_63 rfl (kx_1 _) rfl rfl rfl ?_
        refine js_goto 26 dX7_strength_66 rfl ?_
        exact ih1 (v4 + (1 : Int32)) r4
      · refine js_iload dX7_strength_60 rfl ?_
        exact js_iret dX7_strength_62 rfl rfl

def fX7_strength (a1 : Int32) (a2 : Int32) (a3 : Int32) (σ : js_S) : Option (Int32 × js_S) := (fX7_isPlace a1 a2 σ).bind fun r1 => (if r1 = 0 then (fX7_found (-1000000001 : Int32) σ).bind fun r2 => some (r2.1, r2.2) else (if (fX7_isSet a3) = 0 then (fX7_found (-1000000001 : Int32) σ).bind fun r6 => some (r6.1, r6.2) else fX7_strength_L26 a1 a2 a3 js_FU (1 : Int32) σ))
set_option maxRecDepth 10000 in
theorem jX7_strength (G : js_G) (a1 : Int32) (a2 : Int32) (a3 : Int32) (σ : js_S) : js_J G shC mX7_strength js_eW 0 [some (.ref 0), some (.int a1), some (.int a2), some (.int a3), none] [] σ (fX7_strength a1 a2 a3 σ) := by
  unfold fX7_strength
  refine js_aload_n dX7_strength_0 rfl rfl ?_
  refine js_iload_n dX7_strength_1 rfl rfl ?_
  refine js_iload_n dX7_strength_2 rfl rfl ?_
  refine js_callV_I (mj := mX7_isPlace) [(.int a1), (.int a2)] [] dX7_strength_3 tw_277 cm_X7_isPlace cv_X7_isPlace rfl rfl rfl rfl rfl rfl (fun r h => qX7_isPlace G a1 a2 σ r h) (fun r1 => ?_)
  refine js_if_eq 16 dX7_strength_6 rfl ?_ ?_
  · refine js_aload_n dX7_strength_16 rfl rfl ?_
    refine js_ldc dX7_strength_17 tw_217 ?_
    refine js_callV_W (mj := mX7_found) [(.int (-1000000001 : Int32))] [] dX7_strength_19 tw_218 cm_X7_found cv_X7_found rfl rfl rfl rfl rfl rfl (fun r h => qX7_found G (-1000000001 : Int32) σ r h) (fun r2 => ?_)
    exact js_iret dX7_strength_22 rfl rfl
  · refine js_iload_n dX7_strength_9 rfl rfl ?_
    refine js_callS_P (mj := mX7_isSet) [(.int a3)] [] dX7_strength_10 tw_456 cm_X7_isSet tw_457 rfl rfl rfl rfl (qX7_isSet G a3 σ) ?_
    refine js_if_ne 23 dX7_strength_13 rfl ?_ ?_
    · refine js_iconst dX7_strength_23 ki_1 ?_
      refine js_istore (lv' := [some (.ref 0), some (.int a1), some (.int a2), some (.int a3), some (.int (1 : Int32))]) dX7_strength_24 rfl rfl rfl ?_
      exact jX7_strength_L26 G a1 a2 a3  _ (1 : Int32) σ
    · refine js_aload_n dX7_strength_16 rfl rfl ?_
      refine js_ldc dX7_strength_17 tw_217 ?_
      refine js_callV_W (mj := mX7_found) [(.int (-1000000001 : Int32))] [] dX7_strength_19 tw_218 cm_X7_found cv_X7_found rfl rfl rfl rfl rfl rfl (fun r h => qX7_found G (-1000000001 : Int32) σ r h) (fun r6 => ?_)
      exact js_iret dX7_strength_22 rfl rfl

theorem qX7_strength (G : js_G) (a1 : Int32) (a2 : Int32) (a3 : Int32) (σ : js_S) (r : (Int32 × js_S)) (h : fX7_strength a1 a2 a3 σ = some r) : js_Con G shC mX7_strength [(.ref 0), (.int a1), (.int a2), (.int a3)] σ (js_eW r) := js_con (mi := mX7_strength) 1 pn_X7 rfl (Nat.le_of_ble_eq_true rfl) (jX7_strength G a1 a2 a3 σ) r h
def fX7_secret_L45 (k107 : js_S → Option (Int32 × js_S)) (p1 : Int32) (p2 : Int32) (p3 : Int32) (p4 : Int32) : Nat → Int32 → js_S → Option (Int32 × js_S)
  | 0, _, _ => none
  | n + 1, v5, σ => (if (9 : Int32) < v5 then k107 σ else (fX0_putUp p1 p4 v5 (0 : Int32) σ).bind fun r5 => (fX0_brings p2 r5).bind fun r6 => (if r6 = 0 then fX7_secret_L45 k107 p1 p2 p3 p4 n (v5 + (1 : Int32)) r5 else (if ((r5.1 11 1) &&& p3) = 0 then some ((((10 : Int32) * p4) + v5), r5) else fX7_secret_L45 k107 p1 p2 p3 p4 n (v5 + (1 : Int32)) r5)))
set_option maxRecDepth 10000 in
theorem jX7_secret_L45 (G : js_G) (k107 : js_S → Option (Int32 × js_S)) (p1 : Int32) (p2 : Int32) (p3 : Int32) (p4 : Int32) (hk107 : ∀  (σ : js_S), js_J G shC mX7_secret js_eW 107 [some (.ref 0), some (.int p1), some (.int p2), some (.int p3), some (.int p4), none] [] σ (k107 σ)) : ∀ (n : Nat) (v5 : Int32) (σ : js_S), js_J G shC mX7_secret js_eW 45 [some (.ref 0), some (.int p1), some (.int p2), some (.int p3), some (.int p4), some (.int v5)] [] σ (fX7_secret_L45 k107 p1 p2 p3 p4 n v5 σ) := by
  intro n
  induction n with
  | zero =>
    intros
    exact js_none
  | succ n ih2 =>
    intro v5 σ
    rw [fX7_secret_L45]
    refine js_iload dX7_secret_45 rfl ?_
    refine js_bipush dX7_secret_47 kb_9 ?_
    refine js_icmp_gt 107 dX7_secret_49 rfl ?_ ?_
    · refine js_drop [true, true, true, true, true, false] (lv2 := [some (.ref 0), some (.int p1), some (.int p2), some (.int p3), some (.int p4), none]) rfl ?_
      exact hk107 σ
    · refine js_aload_n dX7_secret_52 rfl rfl ?_
      refine js_getR dX7_secret_53 fl_X7_26 rfl rfl ?_
      refine js_aload_n dX7_secret_56 rfl rfl ?_
      refine js_getR dX7_secret_57 fl_X7_10 rfl rfl ?_
      refine js_iload_n dX7_secret_60 rfl rfl ?_
      refine js_iload dX7_secret_61 rfl ?_
      refine js_iload dX7_secret_63 rfl ?_
      refine js_iconst dX7_secret_65 ki_0 ?_
      refine js_callV_V (mj := mX0_putUp) [(.ref 1), (.int p1), (.int p4), (.int v5), (.int (0 : Int32))] [] dX7_secret_66 tw_428 cm_X0_putUp cv_X0_putUp rfl rfl rfl rfl rfl rfl (fun r h => qX0_putUp G p1 p4 v5 (0 : Int32) σ r h) (fun r5 => ?_)
      refine js_aload_n dX7_secret_69 rfl rfl ?_
      refine js_getR dX7_secret_70 fl_X7_26 rfl rfl ?_
      refine js_iload_n dX7_secret_73 rfl rfl ?_
      refine js_callV_I (mj := mX0_brings) [(.int p2)] [] dX7_secret_74 tw_460 cm_X0_brings cv_X0_brings rfl rfl rfl rfl rfl rfl (fun r h => qX0_brings G p2 r5 r h) (fun r6 => ?_)
      refine js_if_eq 101 dX7_secret_77 rfl ?_ ?_
      · refine js_iinc (v := (v5 + (1 : Int32))) (lv' := [some (.ref 0), some (.int p1), some (.int p2), some (.int p3), some (.int p4), some (.int (v5 + (1 : Int32)))]) dX7_secret_101 rfl (kx_1 _) rfl rfl rfl ?_
        refine js_goto 45 dX7_secret_104 rfl ?_
        exact ih2 (v5 + (1 : Int32)) r5
      · refine js_aload_n dX7_secret_80 rfl rfl ?_
        refine js_getR dX7_secret_81 fl_X7_26 rfl rfl ?_
        refine js_getI dX7_secret_84 fl_X7_190 rfl rfl ?_
        refine js_iload_n dX7_secret_87 rfl rfl ?_
        refine js_iand dX7_secret_88 ?_
        refine js_if_ne 101 dX7_secret_89 rfl ?_ ?_
        · refine js_iinc (v := (v5 + (1 : Int32))) (lv' := [some (.ref 0), some (.int p1), some (.int p2), some (.int p3), some (.int p4), some (.int (v5 + (1 : Int32)))]) dX7_secret_101 rfl (kx_1 _) rfl rfl rfl ?_
          refine js_goto 45 dX7_secret_104 rfl ?_
          exact ih2 (v5 + (1 : Int32)) r5
        · refine js_bipush dX7_secret_92 kb_10 ?_
          refine js_iload dX7_secret_94 rfl ?_
          refine js_imul dX7_secret_96 ?_
          refine js_iload dX7_secret_97 rfl ?_
          refine js_iadd dX7_secret_99 ?_
          exact js_iret dX7_secret_100 rfl rfl

def fX7_secret_L35 (p1 : Int32) (p2 : Int32) (p3 : Int32) : Nat → Int32 → js_S → Option (Int32 × js_S)
  | 0, _, _ => none
  | n + 1, v4, σ => (if (8 : Int32) ≤ v4 then (fX7_found (-1000000004 : Int32) σ).bind fun r4 => some (r4.1, r4.2) else fX7_secret_L45 (fun s7 => fX7_secret_L35 p1 p2 p3 n (v4 + (1 : Int32)) s7) p1 p2 p3 v4 js_FU (1 : Int32) σ)
set_option maxRecDepth 10000 in
theorem jX7_secret_L35 (G : js_G) (p1 : Int32) (p2 : Int32) (p3 : Int32) : ∀ (n : Nat) (v4 : Int32) (σ : js_S), js_J G shC mX7_secret js_eW 35 [some (.ref 0), some (.int p1), some (.int p2), some (.int p3), some (.int v4), none] [] σ (fX7_secret_L35 p1 p2 p3 n v4 σ) := by
  intro n
  induction n with
  | zero =>
    intros
    exact js_none
  | succ n ih1 =>
    intro v4 σ
    rw [fX7_secret_L35]
    refine js_iload dX7_secret_35 rfl ?_
    refine js_bipush dX7_secret_37 kb_8 ?_
    refine js_icmp_ge 113 dX7_secret_39 rfl ?_ ?_
    · refine js_aload_n dX7_secret_113 rfl rfl ?_
      refine js_ldc dX7_secret_114 tw_295 ?_
      refine js_callV_W (mj := mX7_found) [(.int (-1000000004 : Int32))] [] dX7_secret_116 tw_218 cm_X7_found cv_X7_found rfl rfl rfl rfl rfl rfl (fun r h => qX7_found G (-1000000004 : Int32) σ r h) (fun r4 => ?_)
      exact js_iret dX7_secret_119 rfl rfl
    · refine js_iconst dX7_secret_42 ki_1 ?_
      refine js_istore (lv' := [some (.ref 0), some (.int p1), some (.int p2), some (.int p3), some (.int v4), some (.int (1 : Int32))]) dX7_secret_43 rfl rfl rfl ?_
      refine jX7_secret_L45 G _ p1 p2 p3 v4 (fun s7 => ?_) _ (1 : Int32) σ
      refine js_iinc (v := (v4 + (1 : Int32))) (lv' := [some (.ref 0), some (.int p1), some (.int p2), some (.int p3), some (.int (v4 + (1 : Int32))), none]) dX7_secret_107 rfl (kx_1 _) rfl rfl rfl ?_
      refine js_goto 35 dX7_secret_110 rfl ?_
      exact ih1 (v4 + (1 : Int32)) s7

def fX7_secret (a1 : Int32) (a2 : Int32) (a3 : Int32) (σ : js_S) : Option (Int32 × js_S) := (fX3_hasFlue a1 σ).bind fun r1 => (if r1 = 0 then (fX7_found (-1000000001 : Int32) σ).bind fun r2 => some (r2.1, r2.2) else (if (fX7_isSet a2) = 0 then (fX7_found (-1000000001 : Int32) σ).bind fun r3 => some (r3.1, r3.2) else (if (fX7_isSet a3) = 0 then (fX7_found (-1000000001 : Int32) σ).bind fun r8 => some (r8.1, r8.2) else fX7_secret_L35 a1 a2 a3 js_FU (0 : Int32) σ)))
set_option maxRecDepth 10000 in
theorem jX7_secret (G : js_G) (a1 : Int32) (a2 : Int32) (a3 : Int32) (σ : js_S) : js_J G shC mX7_secret js_eW 0 [some (.ref 0), some (.int a1), some (.int a2), some (.int a3), none, none] [] σ (fX7_secret a1 a2 a3 σ) := by
  unfold fX7_secret
  refine js_aload_n dX7_secret_0 rfl rfl ?_
  refine js_getR dX7_secret_1 fl_X7_10 rfl rfl ?_
  refine js_iload_n dX7_secret_4 rfl rfl ?_
  refine js_callV_I (mj := mX3_hasFlue) [(.int a1)] [] dX7_secret_5 tw_231 cm_X3_hasFlue cv_X3_hasFlue rfl rfl rfl rfl rfl rfl (fun r h => qX3_hasFlue G a1 σ r h) (fun r1 => ?_)
  refine js_if_eq 25 dX7_secret_8 rfl ?_ ?_
  · refine js_aload_n dX7_secret_25 rfl rfl ?_
    refine js_ldc dX7_secret_26 tw_217 ?_
    refine js_callV_W (mj := mX7_found) [(.int (-1000000001 : Int32))] [] dX7_secret_28 tw_218 cm_X7_found cv_X7_found rfl rfl rfl rfl rfl rfl (fun r h => qX7_found G (-1000000001 : Int32) σ r h) (fun r2 => ?_)
    exact js_iret dX7_secret_31 rfl rfl
  · refine js_iload_n dX7_secret_11 rfl rfl ?_
    refine js_callS_P (mj := mX7_isSet) [(.int a2)] [] dX7_secret_12 tw_456 cm_X7_isSet tw_457 rfl rfl rfl rfl (qX7_isSet G a2 σ) ?_
    refine js_if_eq 25 dX7_secret_15 rfl ?_ ?_
    · refine js_aload_n dX7_secret_25 rfl rfl ?_
      refine js_ldc dX7_secret_26 tw_217 ?_
      refine js_callV_W (mj := mX7_found) [(.int (-1000000001 : Int32))] [] dX7_secret_28 tw_218 cm_X7_found cv_X7_found rfl rfl rfl rfl rfl rfl (fun r h => qX7_found G (-1000000001 : Int32) σ r h) (fun r3 => ?_)
      exact js_iret dX7_secret_31 rfl rfl
    · refine js_iload_n dX7_secret_18 rfl rfl ?_
      refine js_callS_P (mj := mX7_isSet) [(.int a3)] [] dX7_secret_19 tw_456 cm_X7_isSet tw_457 rfl rfl rfl rfl (qX7_isSet G a3 σ) ?_
      refine js_if_ne 32 dX7_secret_22 rfl ?_ ?_
      · refine js_iconst dX7_secret_32 ki_0 ?_
        refine js_istore (lv' := [some (.ref 0), some (.int a1), some (.int a2), some (.int a3), some (.int (0 : Int32)), none]) dX7_secret_33 rfl rfl rfl ?_
        exact jX7_secret_L35 G a1 a2 a3  _ (0 : Int32) σ
      · refine js_aload_n dX7_secret_25 rfl rfl ?_
        refine js_ldc dX7_secret_26 tw_217 ?_
        refine js_callV_W (mj := mX7_found) [(.int (-1000000001 : Int32))] [] dX7_secret_28 tw_218 cm_X7_found cv_X7_found rfl rfl rfl rfl rfl rfl (fun r h => qX7_found G (-1000000001 : Int32) σ r h) (fun r8 => ?_)
        exact js_iret dX7_secret_31 rfl rfl

theorem qX7_secret (G : js_G) (a1 : Int32) (a2 : Int32) (a3 : Int32) (σ : js_S) (r : (Int32 × js_S)) (h : fX7_secret a1 a2 a3 σ = some r) : js_Con G shC mX7_secret [(.ref 0), (.int a1), (.int a2), (.int a3)] σ (js_eW r) := js_con (mi := mX7_secret) 2 pn_X7 rfl (Nat.le_of_ble_eq_true rfl) (jX7_secret G a1 a2 a3 σ) r h
def fX7_hasBit (a0 : Int32) (a1 : Int32) : Int32 := (if ((a0 >>> (a1 &&& 31)) &&& (1 : Int32)) = (1 : Int32) then (1 : Int32) else (0 : Int32))
set_option maxRecDepth 10000 in
theorem jX7_hasBit (G : js_G) (a0 : Int32) (a1 : Int32) (σ : js_S) : js_J G shC mX7_hasBit (js_eI σ) 0 [some (.int a0), some (.int a1)] [] σ (some (fX7_hasBit a0 a1)) := by
  unfold fX7_hasBit
  refine js_iload_n dX7_hasBit_0 rfl rfl ?_
  refine js_iload_n dX7_hasBit_1 rfl rfl ?_
  refine js_ishr dX7_hasBit_2 ?_
  refine js_iconst dX7_hasBit_3 ki_1 ?_
  refine js_iand dX7_hasBit_4 ?_
  refine js_iconst dX7_hasBit_5 ki_1 ?_
  refine js_pi ?_
  refine js_icmp_ne 13 dX7_hasBit_6 rfl ?_ ?_
  · refine js_iconst dX7_hasBit_13 ki_0 ?_
    exact js_zret dX7_hasBit_14 rfl nb_0.1 rfl
  · refine js_iconst dX7_hasBit_9 ki_1 ?_
    refine js_goto 14 dX7_hasBit_10 rfl ?_
    exact js_zret dX7_hasBit_14 rfl nb_1.1 rfl

theorem qX7_hasBit (G : js_G) (a0 : Int32) (a1 : Int32) (σ : js_S) : js_Con G shC mX7_hasBit [(.int a0), (.int a1)] σ (some (.int (fX7_hasBit a0 a1)), σ) := js_con (mi := mX7_hasBit) (emb := (js_eI σ)) 0 pn_X7 rfl (Nat.le_of_ble_eq_true rfl) (jX7_hasBit G a0 a1 σ) _ rfl
theorem zX7_hasBit (a0 : Int32) (a1 : Int32) : fX7_hasBit a0 a1 = 0 ∨ fX7_hasBit a0 a1 = 1 := by
  unfold fX7_hasBit
  repeat' split
  all_goals first | exact Or.inl rfl | exact Or.inr rfl
def fX7_joined_L4 (p1 : Int32) (σ : js_S) : Nat → Int32 → Int32 → Option Int32
  | 0, _, _ => none
  | n + 1, v2, v3 => (if (6 : Int32) ≤ v3 then some v2 else (if (fX7_hasBit p1 v3) = 0 then fX7_joined_L4 p1 σ n v2 (v3 + (1 : Int32)) else js_gd (js_ix v3 6) (fX7_joined_L4 p1 σ n (v2 ||| (σ.1 23 (Int32.toNatClampNeg v3))) (v3 + (1 : Int32)))))
set_option maxRecDepth 10000 in
theorem jX7_joined_L4 (G : js_G) (p1 : Int32) (σ : js_S) : ∀ (n : Nat) (v2 : Int32) (v3 : Int32), js_J G shC mX7_joined (js_eI σ) 4 [some (.ref 0), some (.int p1), some (.int v2), some (.int v3)] [] σ (fX7_joined_L4 p1 σ n v2 v3) := by
  intro n
  induction n with
  | zero =>
    intros
    exact js_none
  | succ n ih1 =>
    intro v2 v3
    rw [fX7_joined_L4]
    refine js_iload_n dX7_joined_4 rfl rfl ?_
    refine js_bipush dX7_joined_5 kb_6 ?_
    refine js_icmp_ge 33 dX7_joined_7 rfl ?_ ?_
    · refine js_iload_n dX7_joined_33 rfl rfl ?_
      exact js_iret dX7_joined_34 rfl rfl
    · refine js_iload_n dX7_joined_10 rfl rfl ?_
      refine js_iload_n dX7_joined_11 rfl rfl ?_
      refine js_callS_P (mj := mX7_hasBit) [(.int p1), (.int v3)] [] dX7_joined_12 tw_486 cm_X7_hasBit tw_487 rfl rfl rfl rfl (qX7_hasBit G p1 v3 σ) ?_
      refine js_if_eq 27 dX7_joined_15 rfl ?_ ?_
      · refine js_iinc (v := (v3 + (1 : Int32))) (lv' := [some (.ref 0), some (.int p1), some (.int v2), some (.int (v3 + (1 : Int32)))]) dX7_joined_27 rfl (kx_1 _) rfl rfl rfl ?_
        refine js_goto 4 dX7_joined_30 rfl ?_
        exact ih1 v2 (v3 + (1 : Int32))
      · refine js_iload_n dX7_joined_18 rfl rfl ?_
        refine js_aload_n dX7_joined_19 rfl rfl ?_
        refine js_getR dX7_joined_20 fl_X7_62 rfl rfl ?_
        refine js_iload_n dX7_joined_23 rfl rfl ?_
        refine js_iald dX7_joined_24 rfl ?_
        refine js_ior dX7_joined_25 ?_
        refine js_istore_n (lv' := [some (.ref 0), some (.int p1), some (.int (v2 ||| (σ.1 23 (Int32.toNatClampNeg v3)))), some (.int v3)]) dX7_joined_26 rfl rfl rfl rfl ?_
        refine js_iinc (v := (v3 + (1 : Int32))) (lv' := [some (.ref 0), some (.int p1), some (.int (v2 ||| (σ.1 23 (Int32.toNatClampNeg v3)))), some (.int (v3 + (1 : Int32)))]) dX7_joined_27 rfl (kx_1 _) rfl rfl rfl ?_
        refine js_goto 4 dX7_joined_30 rfl ?_
        exact ih1 (v2 ||| (σ.1 23 (Int32.toNatClampNeg v3))) (v3 + (1 : Int32))

def fX7_joined (a1 : Int32) (σ : js_S) : Option Int32 := fX7_joined_L4 a1 σ js_FU (0 : Int32) (0 : Int32)
set_option maxRecDepth 10000 in
theorem jX7_joined (G : js_G) (a1 : Int32) (σ : js_S) : js_J G shC mX7_joined (js_eI σ) 0 [some (.ref 0), some (.int a1), none, none] [] σ (fX7_joined a1 σ) := by
  unfold fX7_joined
  refine js_iconst dX7_joined_0 ki_0 ?_
  refine js_istore_n (lv' := [some (.ref 0), some (.int a1), some (.int (0 : Int32)), none]) dX7_joined_1 rfl rfl rfl rfl ?_
  refine js_iconst dX7_joined_2 ki_0 ?_
  refine js_istore_n (lv' := [some (.ref 0), some (.int a1), some (.int (0 : Int32)), some (.int (0 : Int32))]) dX7_joined_3 rfl rfl rfl rfl ?_
  exact jX7_joined_L4 G a1 σ  _ (0 : Int32) (0 : Int32)

theorem qX7_joined (G : js_G) (a1 : Int32) (σ : js_S) (r : Int32) (h : fX7_joined a1 σ = some r) : js_Con G shC mX7_joined [(.ref 0), (.int a1)] σ ((js_eI σ) r) := js_con (mi := mX7_joined) 2 pn_X7 rfl (Nat.le_of_ble_eq_true rfl) (jX7_joined G a1 σ) r h
def fJ6_bitCount_0f7a4 (a0 : Int32) : Int32 := ((((((((a0 - ((UInt32.toInt32 (Int32.toUInt32 a0 >>> (Int32.toUInt32 (1 : Int32) &&& Int32.toUInt32 31))) &&& (1431655765 : Int32))) &&& (858993459 : Int32)) + ((UInt32.toInt32 (Int32.toUInt32 (a0 - ((UInt32.toInt32 (Int32.toUInt32 a0 >>> (Int32.toUInt32 (1 : Int32) &&& Int32.toUInt32 31))) &&& (1431655765 : Int32))) >>> (Int32.toUInt32 (2 : Int32) &&& Int32.toUInt32 31))) &&& (858993459 : Int32))) + (UInt32.toInt32 (Int32.toUInt32 (((a0 - ((UInt32.toInt32 (Int32.toUInt32 a0 >>> (Int32.toUInt32 (1 : Int32) &&& Int32.toUInt32 31))) &&& (1431655765 : Int32))) &&& (858993459 : Int32)) + ((UInt32.toInt32 (Int32.toUInt32 (a0 - ((UInt32.toInt32 (Int32.toUInt32 a0 >>> (Int32.toUInt32 (1 : Int32) &&& Int32.toUInt32 31))) &&& (1431655765 : Int32))) >>> (Int32.toUInt32 (2 : Int32) &&& Int32.toUInt32 31))) &&& (858993459 : Int32))) >>> (Int32.toUInt32 (4 : Int32) &&& Int32.toUInt32 31)))) &&& (252645135 : Int32)) + (UInt32.toInt32 (Int32.toUInt32 (((((a0 - ((UInt32.toInt32 (Int32.toUInt32 a0 >>> (Int32.toUInt32 (1 : Int32) &&& Int32.toUInt32 31))) &&& (1431655765 : Int32))) &&& (858993459 : Int32)) + ((UInt32.toInt32 (Int32.toUInt32 (a0 - ((UInt32.toInt32 (Int32.toUInt32 a0 >>> (Int32.toUInt32 (1 : Int32) &&& Int32.toUInt32 31))) &&& (1431655765 : Int32))) >>> (Int32.toUInt32 (2 : Int32) &&& Int32.toUInt32 31))) &&& (858993459 : Int32))) + (UInt32.toInt32 (Int32.toUInt32 (((a0 - ((UInt32.toInt32 (Int32.toUInt32 a0 >>> (Int32.toUInt32 (1 : Int32) &&& Int32.toUInt32 31))) &&& (1431655765 : Int32))) &&& (858993459 : Int32)) + ((UInt32.toInt32 (Int32.toUInt32 (a0 - ((UInt32.toInt32 (Int32.toUInt32 a0 >>> (Int32.toUInt32 (1 : Int32) &&& Int32.toUInt32 31))) &&& (1431655765 : Int32))) >>> (Int32.toUInt32 (2 : Int32) &&& Int32.toUInt32 31))) &&& (858993459 : Int32))) >>> (Int32.toUInt32 (4 : Int32) &&& Int32.toUInt32 31)))) &&& (252645135 : Int32)) >>> (Int32.toUInt32 (8 : Int32) &&& Int32.toUInt32 31)))) + (UInt32.toInt32 (Int32.toUInt32 ((((((a0 - ((UInt32.toInt32 (Int32.toUInt32 a0 >>> (Int32.toUInt32 (1 : Int32) &&& Int32.toUInt32 31))) &&& (1431655765 : Int32))) &&& (858993459 : Int32)) + ((UInt32.toInt32 (Int32.toUInt32 (a0 - ((UInt32.toInt32 (Int32.toUInt32 a0 >>> (Int32.toUInt32 (1 : Int32) &&& Int32.toUInt32 31))) &&& (1431655765 : Int32))) >>> (Int32.toUInt32 (2 : Int32) &&& Int32.toUInt32 31))) &&& (858993459 : Int32))) + (UInt32.toInt32 (Int32.toUInt32 (((a0 - ((UInt32.toInt32 (Int32.toUInt32 a0 >>> (Int32.toUInt32 (1 : Int32) &&& Int32.toUInt32 31))) &&& (1431655765 : Int32))) &&& (858993459 : Int32)) + ((UInt32.toInt32 (Int32.toUInt32 (a0 - ((UInt32.toInt32 (Int32.toUInt32 a0 >>> (Int32.toUInt32 (1 : Int32) &&& Int32.toUInt32 31))) &&& (1431655765 : Int32))) >>> (Int32.toUInt32 (2 : Int32) &&& Int32.toUInt32 31))) &&& (858993459 : Int32))) >>> (Int32.toUInt32 (4 : Int32) &&& Int32.toUInt32 31)))) &&& (252645135 : Int32)) + (UInt32.toInt32 (Int32.toUInt32 (((((a0 - ((UInt32.toInt32 (Int32.toUInt32 a0 >>> (Int32.toUInt32 (1 : Int32) &&& Int32.toUInt32 31))) &&& (1431655765 : Int32))) &&& (858993459 : Int32)) + ((UInt32.toInt32 (Int32.toUInt32 (a0 - ((UInt32.toInt32 (Int32.toUInt32 a0 >>> (Int32.toUInt32 (1 : Int32) &&& Int32.toUInt32 31))) &&& (1431655765 : Int32))) >>> (Int32.toUInt32 (2 : Int32) &&& Int32.toUInt32 31))) &&& (858993459 : Int32))) + (UInt32.toInt32 (Int32.toUInt32 (((a0 - ((UInt32.toInt32 (Int32.toUInt32 a0 >>> (Int32.toUInt32 (1 : Int32) &&& Int32.toUInt32 31))) &&& (1431655765 : Int32))) &&& (858993459 : Int32)) + ((UInt32.toInt32 (Int32.toUInt32 (a0 - ((UInt32.toInt32 (Int32.toUInt32 a0 >>> (Int32.toUInt32 (1 : Int32) &&& Int32.toUInt32 31))) &&& (1431655765 : Int32))) >>> (Int32.toUInt32 (2 : Int32) &&& Int32.toUInt32 31))) &&& (858993459 : Int32))) >>> (Int32.toUInt32 (4 : Int32) &&& Int32.toUInt32 31)))) &&& (252645135 : Int32)) >>> (Int32.toUInt32 (8 : Int32) &&& Int32.toUInt32 31)))) >>> (Int32.toUInt32 (16 : Int32) &&& Int32.toUInt32 31)))) &&& (63 : Int32))
set_option maxRecDepth 10000 in
theorem jJ6_bitCount_0f7a4 (G : js_G) (a0 : Int32) (σ : js_S) : js_J G shC mJ6_bitCount_0f7a4 (js_eI σ) 0 [some (.int a0)] [] σ (some (fJ6_bitCount_0f7a4 a0)) := by
  unfold fJ6_bitCount_0f7a4
  refine js_iload_n dJ6_bitCount_0f7a4_0 rfl rfl ?_
  refine js_iload_n dJ6_bitCount_0f7a4_1 rfl rfl ?_
  refine js_iconst dJ6_bitCount_0f7a4_2 ki_1 ?_
  refine js_iushr dJ6_bitCount_0f7a4_3 ?_
  refine js_ldcw dJ6_bitCount_0f7a4_4 tw_479 ?_
  refine js_iand dJ6_bitCount_0f7a4_7 ?_
  refine js_isub dJ6_bitCount_0f7a4_8 ?_
  refine js_istore_n (lv' := [some (.int (a0 - ((UInt32.toInt32 (Int32.toUInt32 a0 >>> (Int32.toUInt32 (1 : Int32) &&& Int32.toUInt32 31))) &&& (1431655765 : Int32))))]) dJ6_bitCount_0f7a4_9 rfl rfl rfl rfl ?_
  refine js_iload_n dJ6_bitCount_0f7a4_10 rfl rfl ?_
  refine js_ldcw dJ6_bitCount_0f7a4_11 tw_480 ?_
  refine js_iand dJ6_bitCount_0f7a4_14 ?_
  refine js_iload_n dJ6_bitCount_0f7a4_15 rfl rfl ?_
  refine js_iconst dJ6_bitCount_0f7a4_16 ki_2 ?_
  refine js_iushr dJ6_bitCount_0f7a4_17 ?_
  refine js_ldcw dJ6_bitCount_0f7a4_18 tw_480 ?_
  refine js_iand dJ6_bitCount_0f7a4_21 ?_
  refine js_iadd dJ6_bitCount_0f7a4_22 ?_
  refine js_istore_n (lv' := [some (.int (((a0 - ((UInt32.toInt32 (Int32.toUInt32 a0 >>> (Int32.toUInt32 (1 : Int32) &&& Int32.toUInt32 31))) &&& (1431655765 : Int32))) &&& (858993459 : Int32)) + ((UInt32.toInt32 (Int32.toUInt32 (a0 - ((UInt32.toInt32 (Int32.toUInt32 a0 >>> (Int32.toUInt32 (1 : Int32) &&& Int32.toUInt32 31))) &&& (1431655765 : Int32))) >>> (Int32.toUInt32 (2 : Int32) &&& Int32.toUInt32 31))) &&& (858993459 : Int32))))]) dJ6_bitCount_0f7a4_23 rfl rfl rfl rfl ?_
  refine js_iload_n dJ6_bitCount_0f7a4_24 rfl rfl ?_
  refine js_iload_n dJ6_bitCount_0f7a4_25 rfl rfl ?_
  refine js_iconst dJ6_bitCount_0f7a4_26 ki_4 ?_
  refine js_iushr dJ6_bitCount_0f7a4_27 ?_
  refine js_iadd dJ6_bitCount_0f7a4_28 ?_
  refine js_ldcw dJ6_bitCount_0f7a4_29 tw_481 ?_
  refine js_iand dJ6_bitCount_0f7a4_32 ?_
  refine js_istore_n (lv' := [some (.int (((((a0 - ((UInt32.toInt32 (Int32.toUInt32 a0 >>> (Int32.toUInt32 (1 : Int32) &&& Int32.toUInt32 31))) &&& (1431655765 : Int32))) &&& (858993459 : Int32)) + ((UInt32.toInt32 (Int32.toUInt32 (a0 - ((UInt32.toInt32 (Int32.toUInt32 a0 >>> (Int32.toUInt32 (1 : Int32) &&& Int32.toUInt32 31))) &&& (1431655765 : Int32))) >>> (Int32.toUInt32 (2 : Int32) &&& Int32.toUInt32 31))) &&& (858993459 : Int32))) + (UInt32.toInt32 (Int32.toUInt32 (((a0 - ((UInt32.toInt32 (Int32.toUInt32 a0 >>> (Int32.toUInt32 (1 : Int32) &&& Int32.toUInt32 31))) &&& (1431655765 : Int32))) &&& (858993459 : Int32)) + ((UInt32.toInt32 (Int32.toUInt32 (a0 - ((UInt32.toInt32 (Int32.toUInt32 a0 >>> (Int32.toUInt32 (1 : Int32) &&& Int32.toUInt32 31))) &&& (1431655765 : Int32))) >>> (Int32.toUInt32 (2 : Int32) &&& Int32.toUInt32 31))) &&& (858993459 : Int32))) >>> (Int32.toUInt32 (4 : Int32) &&& Int32.toUInt32 31)))) &&& (252645135 : Int32)))]) dJ6_bitCount_0f7a4_33 rfl rfl rfl rfl ?_
  refine js_iload_n dJ6_bitCount_0f7a4_34 rfl rfl ?_
  refine js_iload_n dJ6_bitCount_0f7a4_35 rfl rfl ?_
  refine js_bipush dJ6_bitCount_0f7a4_36 kb_8 ?_
  refine js_iushr dJ6_bitCount_0f7a4_38 ?_
  refine js_iadd dJ6_bitCount_0f7a4_39 ?_
  refine js_istore_n (lv' := [some (.int ((((((a0 - ((UInt32.toInt32 (Int32.toUInt32 a0 >>> (Int32.toUInt32 (1 : Int32) &&& Int32.toUInt32 31))) &&& (1431655765 : Int32))) &&& (858993459 : Int32)) + ((UInt32.toInt32 (Int32.toUInt32 (a0 - ((UInt32.toInt32 (Int32.toUInt32 a0 >>> (Int32.toUInt32 (1 : Int32) &&& Int32.toUInt32 31))) &&& (1431655765 : Int32))) >>> (Int32.toUInt32 (2 : Int32) &&& Int32.toUInt32 31))) &&& (858993459 : Int32))) + (UInt32.toInt32 (Int32.toUInt32 (((a0 - ((UInt32.toInt32 (Int32.toUInt32 a0 >>> (Int32.toUInt32 (1 : Int32) &&& Int32.toUInt32 31))) &&& (1431655765 : Int32))) &&& (858993459 : Int32)) + ((UInt32.toInt32 (Int32.toUInt32 (a0 - ((UInt32.toInt32 (Int32.toUInt32 a0 >>> (Int32.toUInt32 (1 : Int32) &&& Int32.toUInt32 31))) &&& (1431655765 : Int32))) >>> (Int32.toUInt32 (2 : Int32) &&& Int32.toUInt32 31))) &&& (858993459 : Int32))) >>> (Int32.toUInt32 (4 : Int32) &&& Int32.toUInt32 31)))) &&& (252645135 : Int32)) + (UInt32.toInt32 (Int32.toUInt32 (((((a0 - ((UInt32.toInt32 (Int32.toUInt32 a0 >>> (Int32.toUInt32 (1 : Int32) &&& Int32.toUInt32 31))) &&& (1431655765 : Int32))) &&& (858993459 : Int32)) + ((UInt32.toInt32 (Int32.toUInt32 (a0 - ((UInt32.toInt32 (Int32.toUInt32 a0 >>> (Int32.toUInt32 (1 : Int32) &&& Int32.toUInt32 31))) &&& (1431655765 : Int32))) >>> (Int32.toUInt32 (2 : Int32) &&& Int32.toUInt32 31))) &&& (858993459 : Int32))) + (UInt32.toInt32 (Int32.toUInt32 (((a0 - ((UInt32.toInt32 (Int32.toUInt32 a0 >>> (Int32.toUInt32 (1 : Int32) &&& Int32.toUInt32 31))) &&& (1431655765 : Int32))) &&& (858993459 : Int32)) + ((UInt32.toInt32 (Int32.toUInt32 (a0 - ((UInt32.toInt32 (Int32.toUInt32 a0 >>> (Int32.toUInt32 (1 : Int32) &&& Int32.toUInt32 31))) &&& (1431655765 : Int32))) >>> (Int32.toUInt32 (2 : Int32) &&& Int32.toUInt32 31))) &&& (858993459 : Int32))) >>> (Int32.toUInt32 (4 : Int32) &&& Int32.toUInt32 31)))) &&& (252645135 : Int32)) >>> (Int32.toUInt32 (8 : Int32) &&& Int32.toUInt32 31)))))]) dJ6_bitCount_0f7a4_40 rfl rfl rfl rfl ?_
  refine js_iload_n dJ6_bitCount_0f7a4_41 rfl rfl ?_
  refine js_iload_n dJ6_bitCount_0f7a4_42 rfl rfl ?_
  refine js_bipush dJ6_bitCount_0f7a4_43 kb_16 ?_
  refine js_iushr dJ6_bitCount_0f7a4_45 ?_
  refine js_iadd dJ6_bitCount_0f7a4_46 ?_
  refine js_istore_n (lv' := [some (.int (((((((a0 - ((UInt32.toInt32 (Int32.toUInt32 a0 >>> (Int32.toUInt32 (1 : Int32) &&& Int32.toUInt32 31))) &&& (1431655765 : Int32))) &&& (858993459 : Int32)) + ((UInt32.toInt32 (Int32.toUInt32 (a0 - ((UInt32.toInt32 (Int32.toUInt32 a0 >>> (Int32.toUInt32 (1 : Int32) &&& Int32.toUInt32 31))) &&& (1431655765 : Int32))) >>> (Int32.toUInt32 (2 : Int32) &&& Int32.toUInt32 31))) &&& (858993459 : Int32))) + (UInt32.toInt32 (Int32.toUInt32 (((a0 - ((UInt32.toInt32 (Int32.toUInt32 a0 >>> (Int32.toUInt32 (1 : Int32) &&& Int32.toUInt32 31))) &&& (1431655765 : Int32))) &&& (858993459 : Int32)) + ((UInt32.toInt32 (Int32.toUInt32 (a0 - ((UInt32.toInt32 (Int32.toUInt32 a0 >>> (Int32.toUInt32 (1 : Int32) &&& Int32.toUInt32 31))) &&& (1431655765 : Int32))) >>> (Int32.toUInt32 (2 : Int32) &&& Int32.toUInt32 31))) &&& (858993459 : Int32))) >>> (Int32.toUInt32 (4 : Int32) &&& Int32.toUInt32 31)))) &&& (252645135 : Int32)) + (UInt32.toInt32 (Int32.toUInt32 (((((a0 - ((UInt32.toInt32 (Int32.toUInt32 a0 >>> (Int32.toUInt32 (1 : Int32) &&& Int32.toUInt32 31))) &&& (1431655765 : Int32))) &&& (858993459 : Int32)) + ((UInt32.toInt32 (Int32.toUInt32 (a0 - ((UInt32.toInt32 (Int32.toUInt32 a0 >>> (Int32.toUInt32 (1 : Int32) &&& Int32.toUInt32 31))) &&& (1431655765 : Int32))) >>> (Int32.toUInt32 (2 : Int32) &&& Int32.toUInt32 31))) &&& (858993459 : Int32))) + (UInt32.toInt32 (Int32.toUInt32 (((a0 - ((UInt32.toInt32 (Int32.toUInt32 a0 >>> (Int32.toUInt32 (1 : Int32) &&& Int32.toUInt32 31))) &&& (1431655765 : Int32))) &&& (858993459 : Int32)) + ((UInt32.toInt32 (Int32.toUInt32 (a0 - ((UInt32.toInt32 (Int32.toUInt32 a0 >>> (Int32.toUInt32 (1 : Int32) &&& Int32.toUInt32 31))) &&& (1431655765 : Int32))) >>> (Int32.toUInt32 (2 : Int32) &&& Int32.toUInt32 31))) &&& (858993459 : Int32))) >>> (Int32.toUInt32 (4 : Int32) &&& Int32.toUInt32 31)))) &&& (252645135 : Int32)) >>> (Int32.toUInt32 (8 : Int32) &&& Int32.toUInt32 31)))) + (UInt32.toInt32 (Int32.toUInt32 ((((((a0 - ((UInt32.toInt32 (Int32.toUInt32 a0 >>> (Int32.toUInt32 (1 : Int32) &&& Int32.toUInt32 31))) &&& (1431655765 : Int32))) &&& (858993459 : Int32)) + ((UInt32.toInt32 (Int32.toUInt32 (a0 - ((UInt32.toInt32 (Int32.toUInt32 a0 >>> (Int32.toUInt32 (1 : Int32) &&& Int32.toUInt32 31))) &&& (1431655765 : Int32))) >>> (Int32.toUInt32 (2 : Int32) &&& Int32.toUInt32 31))) &&& (858993459 : Int32))) + (UInt32.toInt32 (Int32.toUInt32 (((a0 - ((UInt32.toInt32 (Int32.toUInt32 a0 >>> (Int32.toUInt32 (1 : Int32) &&& Int32.toUInt32 31))) &&& (1431655765 : Int32))) &&& (858993459 : Int32)) + ((UInt32.toInt32 (Int32.toUInt32 (a0 - ((UInt32.toInt32 (Int32.toUInt32 a0 >>> (Int32.toUInt32 (1 : Int32) &&& Int32.toUInt32 31))) &&& (1431655765 : Int32))) >>> (Int32.toUInt32 (2 : Int32) &&& Int32.toUInt32 31))) &&& (858993459 : Int32))) >>> (Int32.toUInt32 (4 : Int32) &&& Int32.toUInt32 31)))) &&& (252645135 : Int32)) + (UInt32.toInt32 (Int32.toUInt32 (((((a0 - ((UInt32.toInt32 (Int32.toUInt32 a0 >>> (Int32.toUInt32 (1 : Int32) &&& Int32.toUInt32 31))) &&& (1431655765 : Int32))) &&& (858993459 : Int32)) + ((UInt32.toInt32 (Int32.toUInt32 (a0 - ((UInt32.toInt32 (Int32.toUInt32 a0 >>> (Int32.toUInt32 (1 : Int32) &&& Int32.toUInt32 31))) &&& (1431655765 : Int32))) >>> (Int32.toUInt32 (2 : Int32) &&& Int32.toUInt32 31))) &&& (858993459 : Int32))) + (UInt32.toInt32 (Int32.toUInt32 (((a0 - ((UInt32.toInt32 (Int32.toUInt32 a0 >>> (Int32.toUInt32 (1 : Int32) &&& Int32.toUInt32 31))) &&& (1431655765 : Int32))) &&& (858993459 : Int32)) + ((UInt32.toInt32 (Int32.toUInt32 (a0 - ((UInt32.toInt32 (Int32.toUInt32 a0 >>> (Int32.toUInt32 (1 : Int32) &&& Int32.toUInt32 31))) &&& (1431655765 : Int32))) >>> (Int32.toUInt32 (2 : Int32) &&& Int32.toUInt32 31))) &&& (858993459 : Int32))) >>> (Int32.toUInt32 (4 : Int32) &&& Int32.toUInt32 31)))) &&& (252645135 : Int32)) >>> (Int32.toUInt32 (8 : Int32) &&& Int32.toUInt32 31)))) >>> (Int32.toUInt32 (16 : Int32) &&& Int32.toUInt32 31)))))]) dJ6_bitCount_0f7a4_47 rfl rfl rfl rfl ?_
  refine js_iload_n dJ6_bitCount_0f7a4_48 rfl rfl ?_
  refine js_bipush dJ6_bitCount_0f7a4_49 kb_63 ?_
  refine js_iand dJ6_bitCount_0f7a4_51 ?_
  exact js_iret dJ6_bitCount_0f7a4_52 rfl rfl

theorem qJ6_bitCount_0f7a4 (G : js_G) (a0 : Int32) (σ : js_S) : js_Con G shC mJ6_bitCount_0f7a4 [(.int a0)] σ (some (.int (fJ6_bitCount_0f7a4 a0)), σ) := js_con (mi := mJ6_bitCount_0f7a4) (emb := (js_eI σ)) 0 pn_J6 rfl (Nat.le_of_ble_eq_true rfl) (jJ6_bitCount_0f7a4 G a0 σ) _ rfl
def fX7_fewest_L23 (k75 : js_S → Option (Int32 × js_S)) (p1 : Int32) (p2 : Int32) : Nat → Int32 → js_S → Option (Int32 × js_S)
  | 0, _, _ => none
  | n + 1, v3, σ => (if (σ.1 1 2) ≤ v3 then k75 σ else (if (6 : Int32) ≤ v3 then k75 σ else (fX0_putUp v3 (7 : Int32) p2 (0 : Int32) σ).bind fun r2 => js_gd (js_ix v3 6) (fX7_fewest_L23 k75 p1 p2 n (v3 + (1 : Int32)) (js_sI r2 23 (Int32.toNatClampNeg v3) (r2.1 11 1)))))
set_option maxRecDepth 10000 in
theorem jX7_fewest_L23 (G : js_G) (k75 : js_S → Option (Int32 × js_S)) (p1 : Int32) (p2 : Int32) (hk75 : ∀  (σ : js_S), js_J G shC mX7_fewest js_eW 75 [some (.ref 0), some (.int p1), none, none, none, none] [] σ (k75 σ)) : ∀ (n : Nat) (v3 : Int32) (σ : js_S), js_J G shC mX7_fewest js_eW 23 [some (.ref 0), some (.int p1), some (.int p2), some (.int v3), none, none] [] σ (fX7_fewest_L23 k75 p1 p2 n v3 σ) := by
  intro n
  induction n with
  | zero =>
    intros
    exact js_none
  | succ n ih1 =>
    intro v3 σ
    rw [fX7_fewest_L23]
    refine js_iload_n dX7_fewest_23 rfl rfl ?_
    refine js_aload_n dX7_fewest_24 rfl rfl ?_
    refine js_getR dX7_fewest_25 fl_X7_10 rfl rfl ?_
    refine js_getI dX7_fewest_28 fl_X7_74 rfl rfl ?_
    refine js_icmp_ge 75 dX7_fewest_31 rfl ?_ ?_
    · refine js_drop [true, true, false, false, false, false] (lv2 := [some (.ref 0), some (.int p1), none, none, none, none]) rfl ?_
      exact hk75 σ
    · refine js_iload_n dX7_fewest_34 rfl rfl ?_
      refine js_bipush dX7_fewest_35 kb_6 ?_
      refine js_icmp_ge 75 dX7_fewest_37 rfl ?_ ?_
      · refine js_drop [true, true, false, false, false, false] (lv2 := [some (.ref 0), some (.int p1), none, none, none, none]) rfl ?_
        exact hk75 σ
      · refine js_aload_n dX7_fewest_40 rfl rfl ?_
        refine js_getR dX7_fewest_41 fl_X7_26 rfl rfl ?_
        refine js_aload_n dX7_fewest_44 rfl rfl ?_
        refine js_getR dX7_fewest_45 fl_X7_10 rfl rfl ?_
        refine js_iload_n dX7_fewest_48 rfl rfl ?_
        refine js_bipush dX7_fewest_49 kb_7 ?_
        refine js_iload_n dX7_fewest_51 rfl rfl ?_
        refine js_iconst dX7_fewest_52 ki_0 ?_
        refine js_callV_V (mj := mX0_putUp) [(.ref 1), (.int v3), (.int (7 : Int32)), (.int p2), (.int (0 : Int32))] [] dX7_fewest_53 tw_428 cm_X0_putUp cv_X0_putUp rfl rfl rfl rfl rfl rfl (fun r h => qX0_putUp G v3 (7 : Int32) p2 (0 : Int32) σ r h) (fun r2 => ?_)
        refine js_aload_n dX7_fewest_56 rfl rfl ?_
        refine js_getR dX7_fewest_57 fl_X7_62 rfl rfl ?_
        refine js_iload_n dX7_fewest_60 rfl rfl ?_
        refine js_aload_n dX7_fewest_61 rfl rfl ?_
        refine js_getR dX7_fewest_62 fl_X7_26 rfl rfl ?_
        refine js_getI dX7_fewest_65 fl_X7_190 rfl rfl ?_
        refine js_iast dX7_fewest_68 rfl ?_
        refine js_iinc (v := (v3 + (1 : Int32))) (lv' := [some (.ref 0), some (.int p1), some (.int p2), some (.int (v3 + (1 : Int32))), none, none]) dX7_fewest_69 rfl (kx_1 _) rfl rfl rfl ?_
        refine js_goto 23 dX7_fewest_72 rfl ?_
        exact ih1 (v3 + (1 : Int32)) (js_sI r2 23 (Int32.toNatClampNeg v3) (r2.1 11 1))

def fX7_fewest_L80 (p1 : Int32) : Nat → Int32 → Int32 → js_S → Option (Int32 × js_S)
  | 0, _, _, _ => none
  | n + 1, v3, v4, σ => (if ((1 : Int32) <<< ((σ.1 1 2) &&& 31)) ≤ v4 then (if v3 = (-1 : Int32) then (fX7_found (-1000000004 : Int32) σ).bind fun r4 => some (r4.1, r4.2) else some (v3, σ)) else (if v3 = (-1 : Int32) then (if (1 : Int32) = 0 then fX7_fewest_L80 p1 n v3 (v4 + (1 : Int32)) σ else (fX7_joined v4 σ).bind fun r5 => (if (p1 &&& (r5 ^^^ (-1 : Int32))) = 0 then fX7_fewest_L80 p1 n v4 (v4 + (1 : Int32)) σ else fX7_fewest_L80 p1 n v3 (v4 + (1 : Int32)) σ)) else (if (fJ6_bitCount_0f7a4 v3) ≤ (fJ6_bitCount_0f7a4 v4) then (if (0 : Int32) = 0 then fX7_fewest_L80 p1 n v3 (v4 + (1 : Int32)) σ else (fX7_joined v4 σ).bind fun r6 => (if (p1 &&& (r6 ^^^ (-1 : Int32))) = 0 then fX7_fewest_L80 p1 n v4 (v4 + (1 : Int32)) σ else fX7_fewest_L80 p1 n v3 (v4 + (1 : Int32)) σ)) else (if (1 : Int32) = 0 then fX7_fewest_L80 p1 n v3 (v4 + (1 : Int32)) σ else (fX7_joined v4 σ).bind fun r7 => (if (p1 &&& (r7 ^^^ (-1 : Int32))) = 0 then fX7_fewest_L80 p1 n v4 (v4 + (1 : Int32)) σ else fX7_fewest_L80 p1 n v3 (v4 + (1 : Int32)) σ)))))
set_option maxRecDepth 10000 in
theorem jX7_fewest_L80 (G : js_G) (p1 : Int32) : ∀ (n : Nat) (v3 : Int32) (v4 : Int32) (σ : js_S), js_J G shC mX7_fewest js_eW 80 [some (.ref 0), some (.int p1), none, some (.int v3), some (.int v4), none] [] σ (fX7_fewest_L80 p1 n v3 v4 σ) := by
  intro n
  induction n with
  | zero =>
    intros
    exact js_none
  | succ n ih2 =>
    intro v3 v4 σ
    rw [fX7_fewest_L80]
    refine js_iload dX7_fewest_80 rfl ?_
    refine js_iconst dX7_fewest_82 ki_1 ?_
    refine js_aload_n dX7_fewest_83 rfl rfl ?_
    refine js_getR dX7_fewest_84 fl_X7_10 rfl rfl ?_
    refine js_getI dX7_fewest_87 fl_X7_74 rfl rfl ?_
    refine js_ishl dX7_fewest_90 ?_
    refine js_icmp_ge 145 dX7_fewest_91 rfl ?_ ?_
    · refine js_iload_n dX7_fewest_145 rfl rfl ?_
      refine js_iconst dX7_fewest_146 ki_m1 ?_
      refine js_icmp_ne 159 dX7_fewest_147 rfl ?_ ?_
      · refine js_iload_n dX7_fewest_159 rfl rfl ?_
        exact js_iret dX7_fewest_160 rfl rfl
      · refine js_aload_n dX7_fewest_150 rfl rfl ?_
        refine js_ldc dX7_fewest_151 tw_295 ?_
        refine js_callV_W (mj := mX7_found) [(.int (-1000000004 : Int32))] [] dX7_fewest_153 tw_218 cm_X7_found cv_X7_found rfl rfl rfl rfl rfl rfl (fun r h => qX7_found G (-1000000004 : Int32) σ r h) (fun r4 => ?_)
        refine js_goto 160 dX7_fewest_156 rfl ?_
        exact js_iret dX7_fewest_160 rfl rfl
    · refine js_iload_n dX7_fewest_94 rfl rfl ?_
      refine js_iconst dX7_fewest_95 ki_m1 ?_
      refine js_icmp_eq 111 dX7_fewest_96 rfl ?_ ?_
      · refine js_iconst dX7_fewest_111 ki_1 ?_
        refine js_goto 116 dX7_fewest_112 rfl ?_
        refine js_istore (lv' := [some (.ref 0), some (.int p1), none, some (.int v3), some (.int v4), some (.int (1 : Int32))]) dX7_fewest_116 rfl rfl rfl ?_
        refine js_iload dX7_fewest_118 rfl ?_
        refine js_if_eq 139 dX7_fewest_120 rfl ?_ ?_
        · refine js_iinc (v := (v4 + (1 : Int32))) (lv' := [some (.ref 0), some (.int p1), none, some (.int v3), some (.int (v4 + (1 : Int32))), some (.int (1 : Int32))]) dX7_fewest_139 rfl (kx_1 _) rfl rfl rfl ?_
          refine js_goto 80 dX7_fewest_142 rfl ?_
          refine js_drop [true, true, false, true, true, false] (lv2 := [some (.ref 0), some (.int p1), none, some (.int v3), some (.int (v4 + (1 : Int32))), none]) rfl ?_
          exact ih2 v3 (v4 + (1 : Int32)) σ
        · refine js_iload_n dX7_fewest_123 rfl rfl ?_
          refine js_aload_n dX7_fewest_124 rfl rfl ?_
          refine js_iload dX7_fewest_125 rfl ?_
          refine js_callV_I (mj := mX7_joined) [(.int v4)] [(.int p1)] dX7_fewest_127 tw_482 cm_X7_joined cv_X7_joined rfl rfl rfl rfl rfl rfl (fun r h => qX7_joined G v4 σ r h) (fun r5 => ?_)
          refine js_iconst dX7_fewest_130 ki_m1 ?_
          refine js_ixor dX7_fewest_131 ?_
          refine js_iand dX7_fewest_132 ?_
          refine js_if_ne 139 dX7_fewest_133 rfl ?_ ?_
          · refine js_iinc (v := (v4 + (1 : Int32))) (lv' := [some (.ref 0), some (.int p1), none, some (.int v3), some (.int (v4 + (1 : Int32))), some (.int (1 : Int32))]) dX7_fewest_139 rfl (kx_1 _) rfl rfl rfl ?_
            refine js_goto 80 dX7_fewest_142 rfl ?_
            refine js_drop [true, true, false, true, true, false] (lv2 := [some (.ref 0), some (.int p1), none, some (.int v3), some (.int (v4 + (1 : Int32))), none]) rfl ?_
            exact ih2 v3 (v4 + (1 : Int32)) σ
          · refine js_iload dX7_fewest_136 rfl ?_
            refine js_istore_n (lv' := [some (.ref 0), some (.int p1), none, some (.int v4), some (.int v4), some (.int (1 : Int32))]) dX7_fewest_138 rfl rfl rfl rfl ?_
            refine js_iinc (v := (v4 + (1 : Int32))) (lv' := [some (.ref 0), some (.int p1), none, some (.int v4), some (.int (v4 + (1 : Int32))), some (.int (1 : Int32))]) dX7_fewest_139 rfl (kx_1 _) rfl rfl rfl ?_
            refine js_goto 80 dX7_fewest_142 rfl ?_
            refine js_drop [true, true, false, true, true, false] (lv2 := [some (.ref 0), some (.int p1), none, some (.int v4), some (.int (v4 + (1 : Int32))), none]) rfl ?_
            exact ih2 v4 (v4 + (1 : Int32)) σ
      · refine js_iload dX7_fewest_99 rfl ?_
        refine js_callS_P (mj := mJ6_bitCount_0f7a4) [(.int v4)] [] dX7_fewest_101 tw_476 cm_J6_bitCount_0f7a4 tw_477 rfl rfl rfl rfl (qJ6_bitCount_0f7a4 G v4 σ) ?_
        refine js_iload_n dX7_fewest_104 rfl rfl ?_
        refine js_callS_P (mj := mJ6_bitCount_0f7a4) [(.int v3)] [(.int (fJ6_bitCount_0f7a4 v4))] dX7_fewest_105 tw_476 cm_J6_bitCount_0f7a4 tw_477 rfl rfl rfl rfl (qJ6_bitCount_0f7a4 G v3 σ) ?_
        refine js_icmp_ge 115 dX7_fewest_108 rfl ?_ ?_
        · refine js_iconst dX7_fewest_115 ki_0 ?_
          refine js_istore (lv' := [some (.ref 0), some (.int p1), none, some (.int v3), some (.int v4), some (.int (0 : Int32))]) dX7_fewest_116 rfl rfl rfl ?_
          refine js_iload dX7_fewest_118 rfl ?_
          refine js_if_eq 139 dX7_fewest_120 rfl ?_ ?_
          · refine js_iinc (v := (v4 + (1 : Int32))) (lv' := [some (.ref 0), some (.int p1), none, some (.int v3), some (.int (v4 + (1 : Int32))), some (.int (0 : Int32))]) dX7_fewest_139 rfl (kx_1 _) rfl rfl rfl ?_
            refine js_goto 80 dX7_fewest_142 rfl ?_
            refine js_drop [true, true, false, true, true, false] (lv2 := [some (.ref 0), some (.int p1), none, some (.int v3), some (.int (v4 + (1 : Int32))), none]) rfl ?_
            exact ih2 v3 (v4 + (1 : Int32)) σ
          · refine js_iload_n dX7_fewest_123 rfl rfl ?_
            refine js_aload_n dX7_fewest_124 rfl rfl ?_
            refine js_iload dX7_fewest_125 rfl ?_
            refine js_callV_I (mj := mX7_joined) [(.int v4)] [(.int p1)] dX7_fewest_127 tw_482 cm_X7_joined cv_X7_joined rfl rfl rfl rfl rfl rfl (fun r h => qX7_joined G v4 σ r h) (fun r6 => ?_)
            refine js_iconst dX7_fewest_130 ki_m1 ?_
            refine js_ixor dX7_fewest_131 ?_
            refine js_iand dX7_fewest_132 ?_
            refine js_if_ne 139 dX7_fewest_133 rfl ?_ ?_
            · refine js_iinc (v := (v4 + (1 : Int32))) (lv' := [some (.ref 0), some (.int p1), none, some (.int v3), some (.int (v4 + (1 : Int32))), some (.int (0 : Int32))]) dX7_fewest_139 rfl (kx_1 _) rfl rfl rfl ?_
              refine js_goto 80 dX7_fewest_142 rfl ?_
              refine js_drop [true, true, false, true, true, false] (lv2 := [some (.ref 0), some (.int p1), none, some (.int v3), some (.int (v4 + (1 : Int32))), none]) rfl ?_
              exact ih2 v3 (v4 + (1 : Int32)) σ
            · refine js_iload dX7_fewest_136 rfl ?_
              refine js_istore_n (lv' := [some (.ref 0), some (.int p1), none, some (.int v4), some (.int v4), some (.int (0 : Int32))]) dX7_fewest_138 rfl rfl rfl rfl ?_
              refine js_iinc (v := (v4 + (1 : Int32))) (lv' := [some (.ref 0), some (.int p1), none, some (.int v4), some (.int (v4 + (1 : Int32))), some (.int (0 : Int32))]) dX7_fewest_139 rfl (kx_1 _) rfl rfl rfl ?_
              refine js_goto 80 dX7_fewest_142 rfl ?_
              refine js_drop [true, true, false, true, true, false] (lv2 := [some (.ref 0), some (.int p1), none, some (.int v4), some (.int (v4 + (1 : Int32))), none]) rfl ?_
              exact ih2 v4 (v4 + (1 : Int32)) σ
        · refine js_iconst dX7_fewest_111 ki_1 ?_
          refine js_goto 116 dX7_fewest_112 rfl ?_
          refine js_istore (lv' := [some (.ref 0), some (.int p1), none, some (.int v3), some (.int v4), some (.int (1 : Int32))]) dX7_fewest_116 rfl rfl rfl ?_
          refine js_iload dX7_fewest_118 rfl ?_
          refine js_if_eq 139 dX7_fewest_120 rfl ?_ ?_
          · refine js_iinc (v := (v4 + (1 : Int32))) (lv' := [some (.ref 0), some (.int p1), none, some (.int v3), some (.int (v4 + (1 : Int32))), some (.int (1 : Int32))]) dX7_fewest_139 rfl (kx_1 _) rfl rfl rfl ?_
            refine js_goto 80 dX7_fewest_142 rfl ?_
            refine js_drop [true, true, false, true, true, false] (lv2 := [some (.ref 0), some (.int p1), none, some (.int v3), some (.int (v4 + (1 : Int32))), none]) rfl ?_
            exact ih2 v3 (v4 + (1 : Int32)) σ
          · refine js_iload_n dX7_fewest_123 rfl rfl ?_
            refine js_aload_n dX7_fewest_124 rfl rfl ?_
            refine js_iload dX7_fewest_125 rfl ?_
            refine js_callV_I (mj := mX7_joined) [(.int v4)] [(.int p1)] dX7_fewest_127 tw_482 cm_X7_joined cv_X7_joined rfl rfl rfl rfl rfl rfl (fun r h => qX7_joined G v4 σ r h) (fun r7 => ?_)
            refine js_iconst dX7_fewest_130 ki_m1 ?_
            refine js_ixor dX7_fewest_131 ?_
            refine js_iand dX7_fewest_132 ?_
            refine js_if_ne 139 dX7_fewest_133 rfl ?_ ?_
            · refine js_iinc (v := (v4 + (1 : Int32))) (lv' := [some (.ref 0), some (.int p1), none, some (.int v3), some (.int (v4 + (1 : Int32))), some (.int (1 : Int32))]) dX7_fewest_139 rfl (kx_1 _) rfl rfl rfl ?_
              refine js_goto 80 dX7_fewest_142 rfl ?_
              refine js_drop [true, true, false, true, true, false] (lv2 := [some (.ref 0), some (.int p1), none, some (.int v3), some (.int (v4 + (1 : Int32))), none]) rfl ?_
              exact ih2 v3 (v4 + (1 : Int32)) σ
            · refine js_iload dX7_fewest_136 rfl ?_
              refine js_istore_n (lv' := [some (.ref 0), some (.int p1), none, some (.int v4), some (.int v4), some (.int (1 : Int32))]) dX7_fewest_138 rfl rfl rfl rfl ?_
              refine js_iinc (v := (v4 + (1 : Int32))) (lv' := [some (.ref 0), some (.int p1), none, some (.int v4), some (.int (v4 + (1 : Int32))), some (.int (1 : Int32))]) dX7_fewest_139 rfl (kx_1 _) rfl rfl rfl ?_
              refine js_goto 80 dX7_fewest_142 rfl ?_
              refine js_drop [true, true, false, true, true, false] (lv2 := [some (.ref 0), some (.int p1), none, some (.int v4), some (.int (v4 + (1 : Int32))), none]) rfl ?_
              exact ih2 v4 (v4 + (1 : Int32)) σ

def fX7_fewest (a1 : Int32) (a2 : Int32) (σ : js_S) : Option (Int32 × js_S) := (if (fX7_isSet a1) = 0 then (fX7_found (-1000000001 : Int32) σ).bind fun r1 => some (r1.1, r1.2) else (if (fX7_isStrength a2) = 0 then (fX7_found (-1000000001 : Int32) σ).bind fun r8 => some (r8.1, r8.2) else fX7_fewest_L23 (fun s3 => fX7_fewest_L80 a1 js_FU (-1 : Int32) (0 : Int32) s3) a1 a2 js_FU (0 : Int32) σ))
set_option maxRecDepth 10000 in
theorem jX7_fewest (G : js_G) (a1 : Int32) (a2 : Int32) (σ : js_S) : js_J G shC mX7_fewest js_eW 0 [some (.ref 0), some (.int a1), some (.int a2), none, none, none] [] σ (fX7_fewest a1 a2 σ) := by
  unfold fX7_fewest
  refine js_iload_n dX7_fewest_0 rfl rfl ?_
  refine js_callS_P (mj := mX7_isSet) [(.int a1)] [] dX7_fewest_1 tw_456 cm_X7_isSet tw_457 rfl rfl rfl rfl (qX7_isSet G a1 σ) ?_
  refine js_if_eq 14 dX7_fewest_4 rfl ?_ ?_
  · refine js_aload_n dX7_fewest_14 rfl rfl ?_
    refine js_ldc dX7_fewest_15 tw_217 ?_
    refine js_callV_W (mj := mX7_found) [(.int (-1000000001 : Int32))] [] dX7_fewest_17 tw_218 cm_X7_found cv_X7_found rfl rfl rfl rfl rfl rfl (fun r h => qX7_found G (-1000000001 : Int32) σ r h) (fun r1 => ?_)
    exact js_iret dX7_fewest_20 rfl rfl
  · refine js_iload_n dX7_fewest_7 rfl rfl ?_
    refine js_callS_P (mj := mX7_isStrength) [(.int a2)] [] dX7_fewest_8 tw_413 cm_X7_isStrength tw_414 rfl rfl rfl rfl (qX7_isStrength G a2 σ) ?_
    refine js_if_ne 21 dX7_fewest_11 rfl ?_ ?_
    · refine js_iconst dX7_fewest_21 ki_0 ?_
      refine js_istore_n (lv' := [some (.ref 0), some (.int a1), some (.int a2), some (.int (0 : Int32)), none, none]) dX7_fewest_22 rfl rfl rfl rfl ?_
      refine jX7_fewest_L23 G _ a1 a2 (fun s3 => ?_) _ (0 : Int32) σ
      refine js_iconst dX7_fewest_75 ki_m1 ?_
      refine js_istore_n (lv' := [some (.ref 0), some (.int a1), none, some (.int (-1 : Int32)), none, none]) dX7_fewest_76 rfl rfl rfl rfl ?_
      refine js_iconst dX7_fewest_77 ki_0 ?_
      refine js_istore (lv' := [some (.ref 0), some (.int a1), none, some (.int (-1 : Int32)), some (.int (0 : Int32)), none]) dX7_fewest_78 rfl rfl rfl ?_
      exact jX7_fewest_L80 G a1  _ (-1 : Int32) (0 : Int32) s3
    · refine js_aload_n dX7_fewest_14 rfl rfl ?_
      refine js_ldc dX7_fewest_15 tw_217 ?_
      refine js_callV_W (mj := mX7_found) [(.int (-1000000001 : Int32))] [] dX7_fewest_17 tw_218 cm_X7_found cv_X7_found rfl rfl rfl rfl rfl rfl (fun r h => qX7_found G (-1000000001 : Int32) σ r h) (fun r8 => ?_)
      exact js_iret dX7_fewest_20 rfl rfl

theorem qX7_fewest (G : js_G) (a1 : Int32) (a2 : Int32) (σ : js_S) (r : (Int32 × js_S)) (h : fX7_fewest a1 a2 σ = some r) : js_Con G shC mX7_fewest [(.ref 0), (.int a1), (.int a2)] σ (js_eW r) := js_con (mi := mX7_fewest) 3 pn_X7 rfl (Nat.le_of_ble_eq_true rfl) (jX7_fewest G a1 a2 σ) r h
