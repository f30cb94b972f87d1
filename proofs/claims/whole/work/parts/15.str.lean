/-! the String methods that are used, over the String constants -/
section JT
variable {G : js_G} {sh : List js_Shp} {mi : js_M} {α : Type} {emb : α → Option Value × js_S} {pc : Nat} {lv : List (Option Value)} {st : List Value} {σ : js_S} {o : Option α}
theorem js_if_eqN {x : Int32} {off : Int} (tgt : Nat) (h : ¬ x = 0) (hd : decode (js_c mi) pc = .ok (.ifCond .eq off, 3)) (ht : (pc : Int) + off = (tgt : Int)) (k : js_J G sh mi emb (pc + 3) lv st σ o) : js_J G sh mi emb pc lv (.int x :: st) σ o := by
  have h1 := js_if_eq (o1 := none) tgt hd ht js_none k (x := x)
  rwa [if_neg h] at h1
theorem js_if_neN {x : Int32} {off : Int} (tgt : Nat) (h : x = 0) (hd : decode (js_c mi) pc = .ok (.ifCond .ne off, 3)) (ht : (pc : Int) + off = (tgt : Int)) (k : js_J G sh mi emb (pc + 3) lv st σ o) : js_J G sh mi emb pc lv (.int x :: st) σ o := by
  have h1 := js_if_ne (o1 := none) tgt hd ht js_none k (x := x)
  rwa [if_pos h] at h1
theorem js_cmp {idx : Nat} (hd : decode (js_c mi) pc = .ok (.getstatic idx, 3)) (hw : Cond.fieldLink (js_y mi).cls idx "java/lang/String" "COMPACT_STRINGS" "Z" ∈ js_good) (k : js_J G sh mi emb (pc + 3) lv (.int 1 :: st) σ o) : js_J G sh mi emb pc lv st σ o :=
  fun r hr p e s m args below meth c H locs ls C hl hP hS => va_gets C.1 C.2.1 C.2.2.2.2.2.2.2.2.2.2.2.2.2.2.1 hS C.2.2.2.1 (C.2.2.2.2.1 _ hw) (fun _ h => h) hd (k r hr p e s m args below meth c H locs ls C hl hP hS)
theorem js_fmt {idx : Nat} (hd : decode (js_c mi) pc = .ok (.getstatic idx, 3)) (hw : Cond.fieldLink (js_y mi).cls idx "jdk/internal/util/Preconditions" "SIOOBE_FORMATTER" "Ljava/util/function/BiFunction;" ∈ js_good) (k1 : js_J G sh mi emb (pc + 3) lv (.null :: st) σ o) (k2 : js_J G sh mi emb (pc + 3) lv (.ref 2001 :: st) σ o) : js_J G sh mi emb pc lv st σ o := by
  intro r hr p e s m args below meth c H locs ls C hl hP hS
  rcases C.2.2.2.2.2.2.2.2.2.2.2.2.2.2.2 with h | h
  · exact va_gets C.1 C.2.1 h hS C.2.2.2.1 (C.2.2.2.2.1 _ hw) (fun _ h => h) hd (k1 r hr p e s m args below meth c H locs ls C hl hP hS)
  · exact va_gets C.1 C.2.1 h hS C.2.2.2.1 (C.2.2.2.2.1 _ hw) (fun _ h => h) hd (k2 r hr p e s m args below meth c H locs ls C hl hP hS)
theorem js_strV {idx i : Nat} (hd : decode (js_c mi) pc = .ok (.getfield idx, 3)) (hw : Cond.fieldLink (js_y mi).cls idx "java/lang/String" "value" "[B" ∈ js_good) (hi : i < 11) (k : js_J G sh mi emb (pc + 3) lv (.ref (1100 + i) :: st) σ o) : js_J G sh mi emb pc lv (.ref (1000 + i) :: st) σ o :=
  fun r hr p e s m args below meth c H locs ls C hl hP hS => vk_getf C.1 C.2.1 (C.2.2.2.2.2.2.2.2.2.2.2.2.1.1 i hi).2.2.1 hS C.2.2.2.1 (C.2.2.2.2.1 _ hw) (fun _ h => h) hd (k r hr p e s m args below meth c H locs ls C hl hP hS)
theorem js_strC {idx i : Nat} (hd : decode (js_c mi) pc = .ok (.getfield idx, 3)) (hw : Cond.fieldLink (js_y mi).cls idx "java/lang/String" "coder" "B" ∈ js_good) (hi : i < 11) (k : js_J G sh mi emb (pc + 3) lv (.int 0 :: st) σ o) : js_J G sh mi emb pc lv (.ref (1000 + i) :: st) σ o :=
  fun r hr p e s m args below meth c H locs ls C hl hP hS => vk_getf C.1 C.2.1 (C.2.2.2.2.2.2.2.2.2.2.2.2.1.1 i hi).2.1 hS C.2.2.2.1 (C.2.2.2.2.1 _ hw) (fun _ h => h) hd (k r hr p e s m args below meth c H locs ls C hl hP hS)
theorem js_blen {i : Nat} (hd : decode (js_c mi) pc = .ok (.arraylength, 1)) (hi : i < 11) (k : js_J G sh mi emb (pc + 1) lv (.int (Int32.ofNat (js_len.getD i 0)) :: st) σ o) : js_J G sh mi emb pc lv (.ref (1100 + i) :: st) σ o :=
  fun r hr p e s m args below meth c H locs ls C hl hP hS => va_tlen C.1 C.2.1 (C.2.2.2.2.2.2.2.2.2.2.2.2.1.1 i hi).2.2.2 hS rfl hd (k r hr p e s m args below meth c H locs ls C hl hP hS)
theorem js_bld {i : Nat} {x : Int32} (hd : decode (js_c mi) pc = .ok (.baload, 1)) (hi : i < 11) (k : js_J G sh mi emb (pc + 1) lv (.int ((js_byt.getD i []).getD x.toNatClampNeg 0) :: st) σ o) : js_J G sh mi emb pc lv (.int x :: .ref (1100 + i) :: st) σ (js_gd (js_ix x (js_len.getD i 0)) o) := by
  intro r hr p e s m args below meth c H locs ls C hl hP hS
  obtain ⟨hx, hr⟩ := js_gd_of hr
  exact va_tb C.1 C.2.1 (C.2.2.2.2.2.2.2.2.2.2.2.2.1.1 i hi).2.2.2 hS (js_ix_in hx) rfl hd (k r hr p e s m args below meth c H locs ls C hl hP hS)
end JT
theorem ct_isLatin1 (G : js_G) (i : Nat) (σ : js_S) (hi : i < 11) : js_Con G shC mJ0_isLatin1_aae02 [.ref (1000 + i)] σ (some (.int 1), σ) := by
  refine js_con (mi := mJ0_isLatin1_aae02) (emb := js_eI σ) (o := some 1) 0 pn_J0 rfl (Nat.le_of_ble_eq_true rfl) ?_ _ rfl
  refine js_cmp dJ0_isLatin1_aae02_0 tw_592 ?_
  refine js_if_eqN 17 (by decide) dJ0_isLatin1_aae02_3 rfl ?_
  refine js_aload_n dJ0_isLatin1_aae02_6 rfl rfl ?_
  refine js_strC dJ0_isLatin1_aae02_7 tw_1283 hi ?_
  refine js_if_neN 17 rfl dJ0_isLatin1_aae02_10 rfl ?_
  refine js_iconst dJ0_isLatin1_aae02_13 ki_1 ?_
  refine js_goto 18 dJ0_isLatin1_aae02_14 rfl ?_
  exact js_zret dJ0_isLatin1_aae02_18 rfl nb_1.1 rfl
theorem ct_coder (G : js_G) (i : Nat) (σ : js_S) (hi : i < 11) : js_Con G shC mJ0_coder_7d493 [.ref (1000 + i)] σ (some (.int 0), σ) := by
  refine js_con (mi := mJ0_coder_7d493) (emb := js_eI σ) (o := some 0) 0 pn_J0 rfl (Nat.le_of_ble_eq_true rfl) ?_ _ rfl
  refine js_cmp dJ0_coder_7d493_0 tw_592 ?_
  refine js_if_eqN 13 (by decide) dJ0_coder_7d493_3 rfl ?_
  refine js_aload_n dJ0_coder_7d493_6 rfl rfl ?_
  refine js_strC dJ0_coder_7d493_7 tw_1283 hi ?_
  refine js_goto 14 dJ0_coder_7d493_10 rfl ?_
  exact js_cret dJ0_coder_7d493_14 .byte rfl (by decide) rfl
def js_slen (i : Nat) : Option Int32 := some (Int32.ofNat (js_len.getD i 0) >>> ((0 : Int32) &&& 31))
theorem ct_length (G : js_G) (i : Nat) (σ : js_S) (hi : i < 11) (r : Int32) (h : js_slen i = some r) : js_Con G shC mJ0_length_8abf5 [.ref (1000 + i)] σ (js_eI σ r) := by
  refine js_con (mi := mJ0_length_8abf5) (emb := js_eI σ) (o := js_slen i) 0 pn_J0 rfl (Nat.le_of_ble_eq_true rfl) ?_ _ h
  unfold js_slen
  refine js_aload_n dJ0_length_8abf5_0 rfl rfl ?_
  refine js_strV dJ0_length_8abf5_1 tw_1282 hi ?_
  refine js_blen dJ0_length_8abf5_4 hi ?_
  refine js_aload_n dJ0_length_8abf5_5 rfl rfl ?_
  refine js_callT_P (mj := mJ0_coder_7d493) (i := i) [] [.int (Int32.ofNat (js_len.getD i 0))] dJ0_length_8abf5_6 tw_588 cm_J0_coder_7d493 cv_J0_coder_7d493 rfl rfl rfl hi rfl rfl (ct_coder G i σ hi) ?_
  refine js_ishr dJ0_length_8abf5_9 ?_
  exact js_iret dJ0_length_8abf5_10 rfl rfl
def js_chk (x n : Int32) : Option Int32 := if x < 0 then none else if x < n then some x else none
theorem ct_pchk (G : js_G) (x n : Int32) (v : Value) (hv : v = .null ∨ v = .ref 2001) (σ : js_S) (r : Int32) (h : js_chk x n = some r) : js_Con G shC mJ3_checkIndex_8e157 [.int x, .int n, v] σ (js_eI σ r) := by
  have key : ∀ lv : List (Option Value), lv[0]? = some (some (.int x)) → lv[1]? = some (some (.int n)) → js_J G shC mJ3_checkIndex_8e157 (js_eI σ) 0 lv [] σ (js_chk x n) := by
    intro lv h0 h1
    unfold js_chk
    refine js_iload_n dJ3_checkIndex_8e157_0 rfl h0 ?_
    refine js_if_lt 9 dJ3_checkIndex_8e157_1 rfl js_none ?_
    refine js_iload_n dJ3_checkIndex_8e157_4 rfl h0 ?_
    refine js_iload_n dJ3_checkIndex_8e157_5 rfl h1 ?_
    refine js_icmp_lt 16 dJ3_checkIndex_8e157_6 rfl ?_ js_none
    refine js_iload_n dJ3_checkIndex_8e157_16 rfl h0 ?_
    exact js_iret dJ3_checkIndex_8e157_17 rfl rfl
  rcases hv with rfl | rfl
  · exact js_con (mi := mJ3_checkIndex_8e157) (emb := js_eI σ) 0 pn_J3 rfl (Nat.le_of_ble_eq_true rfl) (key _ rfl rfl) r h
  · exact js_con (mi := mJ3_checkIndex_8e157) (emb := js_eI σ) 0 pn_J3 rfl (Nat.le_of_ble_eq_true rfl) (key _ rfl rfl) r h
def js_chk2 (x n : Int32) : Option Unit := (js_chk x n).bind fun _ => some ()
theorem ct_chk (G : js_G) (x n : Int32) (σ : js_S) (r : Unit) (h : js_chk2 x n = some r) : js_Con G shC mJ0_checkIndex_df160 [.int x, .int n] σ (js_eU σ r) := by
  refine js_con (mi := mJ0_checkIndex_df160) (emb := js_eU σ) (o := js_chk2 x n) 0 pn_J0 rfl (Nat.le_of_ble_eq_true rfl) ?_ _ h
  unfold js_chk2
  refine js_iload_n dJ0_checkIndex_df160_0 rfl rfl ?_
  refine js_iload_n dJ0_checkIndex_df160_1 rfl rfl ?_
  refine js_fmt dJ0_checkIndex_df160_2 tw_608 ?_ ?_
  · refine js_callS_I (mj := mJ3_checkIndex_8e157) [.int x, .int n, .null] [] dJ0_checkIndex_df160_5 tw_610 cm_J3_checkIndex_8e157 tw_611 rfl rfl rfl rfl (fun r h => ct_pchk G x n .null (Or.inl rfl) σ r h) (fun r1 => ?_)
    refine js_pop dJ0_checkIndex_df160_8 rfl ?_
    exact js_vret dJ0_checkIndex_df160_9 rfl rfl
  · refine js_callS_I (mj := mJ3_checkIndex_8e157) [.int x, .int n, .ref 2001] [] dJ0_checkIndex_df160_5 tw_610 cm_J3_checkIndex_8e157 tw_611 rfl rfl rfl rfl (fun r h => ct_pchk G x n (.ref 2001) (Or.inr rfl) σ r h) (fun r1 => ?_)
    refine js_pop dJ0_checkIndex_df160_8 rfl ?_
    exact js_vret dJ0_checkIndex_df160_9 rfl rfl
def js_schar (i : Nat) (x : Int32) : Option Int32 := (js_chk2 x (Int32.ofNat (js_len.getD i 0))).bind fun _ => js_gd (js_ix x (js_len.getD i 0)) (some (UInt32.toInt32 (Int32.toUInt32 ((js_byt.getD i []).getD x.toNatClampNeg 0 &&& (255 : Int32)) % 65536)))
theorem js_ks255 : (Int16.ofInt 255).toInt32 = (255 : Int32) := by decide
theorem ct_lat (G : js_G) (i : Nat) (x : Int32) (σ : js_S) (hi : i < 11) (r : Int32) (h : js_schar i x = some r) : js_Con G shC mJ1_charAt_3b067 [.ref (1100 + i), .int x] σ (js_eI σ r) := by
  refine js_con (mi := mJ1_charAt_3b067) (emb := js_eI σ) (o := js_schar i x) 0 pn_J1 rfl (Nat.le_of_ble_eq_true rfl) ?_ _ h
  unfold js_schar
  refine js_iload_n dJ1_charAt_3b067_0 rfl rfl ?_
  refine js_aload_n dJ1_charAt_3b067_1 rfl rfl ?_
  refine js_blen dJ1_charAt_3b067_2 hi ?_
  refine js_callS_U (mj := mJ0_checkIndex_df160) [.int x, .int (Int32.ofNat (js_len.getD i 0))] [] dJ1_charAt_3b067_3 tw_605 cm_J0_checkIndex_df160 tw_606 rfl rfl rfl rfl (fun r h => ct_chk G x _ σ r h) (fun r1 => ?_)
  refine js_aload_n dJ1_charAt_3b067_6 rfl rfl ?_
  refine js_iload_n dJ1_charAt_3b067_7 rfl rfl ?_
  refine js_bld dJ1_charAt_3b067_8 hi ?_
  refine js_sipush dJ1_charAt_3b067_9 js_ks255 ?_
  refine js_iand dJ1_charAt_3b067_12 ?_
  refine js_i2c dJ1_charAt_3b067_13 ?_
  exact js_cret dJ1_charAt_3b067_14 .char rfl (pk_nc _) rfl
theorem js_schar_nc {i : Nat} {x r : Int32} (h : js_schar i x = some r) : narrow .char (.int r) = .int r := by
  unfold js_schar at h
  cases hc : js_chk2 x (Int32.ofNat (js_len.getD i 0)) with
  | none => rw [hc] at h; cases h
  | some u =>
    rw [hc] at h
    obtain ⟨-, h2⟩ := js_gd_of h
    cases h2
    exact pk_nc _
theorem ct_charAt (G : js_G) (i : Nat) (x : Int32) (σ : js_S) (hi : i < 11) (r : Int32) (h : js_schar i x = some r) : js_Con G shC mJ0_charAt_5068e [.ref (1000 + i), .int x] σ (js_eI σ r) := by
  refine js_con (mi := mJ0_charAt_5068e) (emb := js_eI σ) (o := (some ()).bind fun _ => some r) 0 pn_J0 rfl (Nat.le_of_ble_eq_true rfl) ?_ _ rfl
  refine js_aload_n dJ0_charAt_5068e_0 rfl rfl ?_
  refine js_callT_P (mj := mJ0_isLatin1_aae02) (i := i) [] [] dJ0_charAt_5068e_1 tw_598 cm_J0_isLatin1_aae02 cv_J0_isLatin1_aae02 rfl rfl rfl hi rfl rfl (ct_isLatin1 G i σ hi) ?_
  refine js_if_eqN 16 (by decide) dJ0_charAt_5068e_4 rfl ?_
  refine js_aload_n dJ0_charAt_5068e_7 rfl rfl ?_
  refine js_strV dJ0_charAt_5068e_8 tw_1282 hi ?_
  refine js_iload_n dJ0_charAt_5068e_11 rfl rfl ?_
  refine js_callS_P (mj := mJ1_charAt_3b067) [.ref (1100 + i), .int x] [] dJ0_charAt_5068e_12 tw_602 cm_J1_charAt_3b067 tw_603 rfl rfl rfl rfl (ct_lat G i x σ hi r h) ?_
  exact js_cret dJ0_charAt_5068e_15 .char rfl (js_schar_nc h) rfl
