/-! words of the law's links -/
theorem tl_13 : Cond.methodLink RL 13 yX7_flue ∈ js_good := List.mem_filter.mpr ⟨List.mem_append_right _ (List.mem_of_getElem? (i := 207) (by decide +kernel)), by decide +kernel⟩
theorem tl_17 : Cond.methodLink RL 17 yX8_flue ∈ js_good := List.mem_filter.mpr ⟨List.mem_append_right _ (List.mem_of_getElem? (i := 852) (by decide +kernel)), by decide +kernel⟩
theorem tl_18 : Cond.methodLink RL 18 yX7_of ∈ js_good := List.mem_filter.mpr ⟨List.mem_append_right _ (List.mem_of_getElem? (i := 227) (by decide +kernel)), by decide +kernel⟩
theorem tl_22 : Cond.methodLink RL 22 yX8_of ∈ js_good := List.mem_filter.mpr ⟨List.mem_append_right _ (List.mem_of_getElem? (i := 876) (by decide +kernel)), by decide +kernel⟩
theorem tl_23 : Cond.methodLink RL 23 yX7_bend ∈ js_good := List.mem_filter.mpr ⟨List.mem_append_right _ (List.mem_of_getElem? (i := 273) (by decide +kernel)), by decide +kernel⟩
theorem tl_27 : Cond.methodLink RL 27 yX8_bend ∈ js_good := List.mem_filter.mpr ⟨List.mem_append_right _ (List.mem_of_getElem? (i := 916) (by decide +kernel)), by decide +kernel⟩
theorem tl_28 : Cond.methodLink RL 28 yX7_layer ∈ js_good := List.mem_filter.mpr ⟨List.mem_append_right _ (List.mem_of_getElem? (i := 287) (by decide +kernel)), by decide +kernel⟩
theorem tl_32 : Cond.methodLink RL 32 yX8_layer ∈ js_good := List.mem_filter.mpr ⟨List.mem_append_right _ (List.mem_of_getElem? (i := 929) (by decide +kernel)), by decide +kernel⟩
theorem tl_33 : Cond.methodLink RL 33 yX7_turn ∈ js_good := List.mem_filter.mpr ⟨List.mem_append_right _ (List.mem_of_getElem? (i := 305) (by decide +kernel)), by decide +kernel⟩
theorem tl_36 : Cond.methodLink RL 36 yX8_turn ∈ js_good := List.mem_filter.mpr ⟨List.mem_append_right _ (List.mem_of_getElem? (i := 934) (by decide +kernel)), by decide +kernel⟩
theorem tl_37 : Cond.methodLink RL 37 yX7_as ∈ js_good := List.mem_filter.mpr ⟨List.mem_append_right _ (List.mem_of_getElem? (i := 313) (by decide +kernel)), by decide +kernel⟩
theorem tl_40 : Cond.methodLink RL 40 yX8_as ∈ js_good := List.mem_filter.mpr ⟨List.mem_append_right _ (List.mem_of_getElem? (i := 942) (by decide +kernel)), by decide +kernel⟩
theorem tl_41 : Cond.methodLink RL 41 yX7_damp ∈ js_good := List.mem_filter.mpr ⟨List.mem_append_right _ (List.mem_of_getElem? (i := 323) (by decide +kernel)), by decide +kernel⟩
theorem tl_44 : Cond.methodLink RL 44 yX8_damp ∈ js_good := List.mem_filter.mpr ⟨List.mem_append_right _ (List.mem_of_getElem? (i := 950) (by decide +kernel)), by decide +kernel⟩
theorem tl_45 : Cond.methodLink RL 45 yX7_rises ∈ js_good := List.mem_filter.mpr ⟨List.mem_append_right _ (List.mem_of_getElem? (i := 327) (by decide +kernel)), by decide +kernel⟩
theorem tl_48 : Cond.methodLink RL 48 yX8_rises ∈ js_good := List.mem_filter.mpr ⟨List.mem_append_right _ (List.mem_of_getElem? (i := 955) (by decide +kernel)), by decide +kernel⟩
theorem tl_49 : Cond.methodLink RL 49 yX7_say ∈ js_good := List.mem_filter.mpr ⟨List.mem_append_right _ (List.mem_of_getElem? (i := 343) (by decide +kernel)), by decide +kernel⟩
theorem tl_52 : Cond.methodLink RL 52 yX8_say ∈ js_good := List.mem_filter.mpr ⟨List.mem_append_right _ (List.mem_of_getElem? (i := 970) (by decide +kernel)), by decide +kernel⟩
theorem tl_53 : Cond.methodLink RL 53 yX7_cake ∈ js_good := List.mem_filter.mpr ⟨List.mem_append_right _ (List.mem_of_getElem? (i := 366) (by decide +kernel)), by decide +kernel⟩
theorem tl_56 : Cond.methodLink RL 56 yX8_cake ∈ js_good := List.mem_filter.mpr ⟨List.mem_append_right _ (List.mem_of_getElem? (i := 990) (by decide +kernel)), by decide +kernel⟩
theorem tl_57 : Cond.methodLink RL 57 yX7_days ∈ js_good := List.mem_filter.mpr ⟨List.mem_append_right _ (List.mem_of_getElem? (i := 374) (by decide +kernel)), by decide +kernel⟩
theorem tl_60 : Cond.methodLink RL 60 yX8_days ∈ js_good := List.mem_filter.mpr ⟨List.mem_append_right _ (List.mem_of_getElem? (i := 994) (by decide +kernel)), by decide +kernel⟩
theorem tl_61 : Cond.methodLink RL 61 yX7_now ∈ js_good := List.mem_filter.mpr ⟨List.mem_append_right _ (List.mem_of_getElem? (i := 391) (by decide +kernel)), by decide +kernel⟩
theorem tl_64 : Cond.methodLink RL 64 yX8_now ∈ js_good := List.mem_filter.mpr ⟨List.mem_append_right _ (List.mem_of_getElem? (i := 1012) (by decide +kernel)), by decide +kernel⟩
theorem tl_65 : Cond.methodLink RL 65 yX7_sweep ∈ js_good := List.mem_filter.mpr ⟨List.mem_append_right _ (List.mem_of_getElem? (i := 409) (by decide +kernel)), by decide +kernel⟩
theorem tl_68 : Cond.methodLink RL 68 yX8_sweep ∈ js_good := List.mem_filter.mpr ⟨List.mem_append_right _ (List.mem_of_getElem? (i := 1028) (by decide +kernel)), by decide +kernel⟩
theorem tl_69 : Cond.methodLink RL 69 yX7_brought ∈ js_good := List.mem_filter.mpr ⟨List.mem_append_right _ (List.mem_of_getElem? (i := 424) (by decide +kernel)), by decide +kernel⟩
theorem tl_72 : Cond.methodLink RL 72 yX8_brought ∈ js_good := List.mem_filter.mpr ⟨List.mem_append_right _ (List.mem_of_getElem? (i := 1043) (by decide +kernel)), by decide +kernel⟩
theorem tl_73 : Cond.methodLink RL 73 yX7_order ∈ js_good := List.mem_filter.mpr ⟨List.mem_append_right _ (List.mem_of_getElem? (i := 440) (by decide +kernel)), by decide +kernel⟩
theorem tl_76 : Cond.methodLink RL 76 yX8_order ∈ js_good := List.mem_filter.mpr ⟨List.mem_append_right _ (List.mem_of_getElem? (i := 1055) (by decide +kernel)), by decide +kernel⟩
theorem tl_77 : Cond.methodLink RL 77 yX7_on ∈ js_good := List.mem_filter.mpr ⟨List.mem_append_right _ (List.mem_of_getElem? (i := 448) (by decide +kernel)), by decide +kernel⟩
theorem tl_80 : Cond.methodLink RL 80 yX8_on ∈ js_good := List.mem_filter.mpr ⟨List.mem_append_right _ (List.mem_of_getElem? (i := 1059) (by decide +kernel)), by decide +kernel⟩
theorem tl_81 : Cond.methodLink RL 81 yX7_reach ∈ js_good := List.mem_filter.mpr ⟨List.mem_append_right _ (List.mem_of_getElem? (i := 452) (by decide +kernel)), by decide +kernel⟩
theorem tl_84 : Cond.methodLink RL 84 yX8_reach ∈ js_good := List.mem_filter.mpr ⟨List.mem_append_right _ (List.mem_of_getElem? (i := 1071) (by decide +kernel)), by decide +kernel⟩
theorem tl_85 : Cond.methodLink RL 85 yX7_strength ∈ js_good := List.mem_filter.mpr ⟨List.mem_append_right _ (List.mem_of_getElem? (i := 464) (by decide +kernel)), by decide +kernel⟩
theorem tl_88 : Cond.methodLink RL 88 yX8_strength ∈ js_good := List.mem_filter.mpr ⟨List.mem_append_right _ (List.mem_of_getElem? (i := 1079) (by decide +kernel)), by decide +kernel⟩
theorem tl_89 : Cond.methodLink RL 89 yX7_secret ∈ js_good := List.mem_filter.mpr ⟨List.mem_append_right _ (List.mem_of_getElem? (i := 468) (by decide +kernel)), by decide +kernel⟩
theorem tl_92 : Cond.methodLink RL 92 yX8_secret ∈ js_good := List.mem_filter.mpr ⟨List.mem_append_right _ (List.mem_of_getElem? (i := 1083) (by decide +kernel)), by decide +kernel⟩
theorem tl_93 : Cond.methodLink RL 93 yX7_fewest ∈ js_good := List.mem_filter.mpr ⟨List.mem_append_right _ (List.mem_of_getElem? (i := 472) (by decide +kernel)), by decide +kernel⟩
theorem tl_96 : Cond.methodLink RL 96 yX8_fewest ∈ js_good := List.mem_filter.mpr ⟨List.mem_append_right _ (List.mem_of_getElem? (i := 1087) (by decide +kernel)), by decide +kernel⟩
theorem tl_97 : Cond.methodLink RL 97 yX7_where ∈ js_good := List.mem_filter.mpr ⟨List.mem_append_right _ (List.mem_of_getElem? (i := 489) (by decide +kernel)), by decide +kernel⟩
theorem tl_100 : Cond.methodLink RL 100 yX8_where ∈ js_good := List.mem_filter.mpr ⟨List.mem_append_right _ (List.mem_of_getElem? (i := 1095) (by decide +kernel)), by decide +kernel⟩
theorem tl_101 : Cond.methodLink RL 101 yX7_lost ∈ js_good := List.mem_filter.mpr ⟨List.mem_append_right _ (List.mem_of_getElem? (i := 493) (by decide +kernel)), by decide +kernel⟩
theorem tl_104 : Cond.methodLink RL 104 yX8_lost ∈ js_good := List.mem_filter.mpr ⟨List.mem_append_right _ (List.mem_of_getElem? (i := 1099) (by decide +kernel)), by decide +kernel⟩
theorem tl_105 : Cond.methodLink RL 105 yX7_covers ∈ js_good := List.mem_filter.mpr ⟨List.mem_append_right _ (List.mem_of_getElem? (i := 497) (by decide +kernel)), by decide +kernel⟩
theorem tl_108 : Cond.methodLink RL 108 yX8_covers ∈ js_good := List.mem_filter.mpr ⟨List.mem_append_right _ (List.mem_of_getElem? (i := 1103) (by decide +kernel)), by decide +kernel⟩
theorem tl_109 : Cond.methodLink RL 109 yX7_kind ∈ js_good := List.mem_filter.mpr ⟨List.mem_append_right _ (List.mem_of_getElem? (i := 507) (by decide +kernel)), by decide +kernel⟩
theorem tl_112 : Cond.methodLink RL 112 yX8_kind ∈ js_good := List.mem_filter.mpr ⟨List.mem_append_right _ (List.mem_of_getElem? (i := 1107) (by decide +kernel)), by decide +kernel⟩
theorem tl_113 : Cond.methodLink RL 113 yX7_best ∈ js_good := List.mem_filter.mpr ⟨List.mem_append_right _ (List.mem_of_getElem? (i := 524) (by decide +kernel)), by decide +kernel⟩
theorem tl_116 : Cond.methodLink RL 116 yX8_best ∈ js_good := List.mem_filter.mpr ⟨List.mem_append_right _ (List.mem_of_getElem? (i := 1115) (by decide +kernel)), by decide +kernel⟩
theorem tl_117 : Cond.methodLink RL 117 yX7_richest ∈ js_good := List.mem_filter.mpr ⟨List.mem_append_right _ (List.mem_of_getElem? (i := 528) (by decide +kernel)), by decide +kernel⟩
theorem tl_120 : Cond.methodLink RL 120 yX8_richest ∈ js_good := List.mem_filter.mpr ⟨List.mem_append_right _ (List.mem_of_getElem? (i := 1119) (by decide +kernel)), by decide +kernel⟩
theorem tl_121 : Cond.methodLink RL 121 yX7_feed ∈ js_good := List.mem_filter.mpr ⟨List.mem_append_right _ (List.mem_of_getElem? (i := 532) (by decide +kernel)), by decide +kernel⟩
theorem tl_124 : Cond.methodLink RL 124 yX8_feed ∈ js_good := List.mem_filter.mpr ⟨List.mem_append_right _ (List.mem_of_getElem? (i := 1123) (by decide +kernel)), by decide +kernel⟩
theorem tl_125 : Cond.methodLink RL 125 yX7_wipe ∈ js_good := List.mem_filter.mpr ⟨List.mem_append_right _ (List.mem_of_getElem? (i := 544) (by decide +kernel)), by decide +kernel⟩
theorem tl_129 : Cond.methodLink RL 129 yX8_wipe ∈ js_good := List.mem_filter.mpr ⟨List.mem_append_right _ (List.mem_of_getElem? (i := 1127) (by decide +kernel)), by decide +kernel⟩
theorem tl_130 : Cond.methodLink RL 130 yX7_house ∈ js_good := List.mem_filter.mpr ⟨List.mem_append_right _ (List.mem_of_getElem? (i := 548) (by decide +kernel)), by decide +kernel⟩
theorem tl_133 : Cond.methodLink RL 133 yX8_house ∈ js_good := List.mem_filter.mpr ⟨List.mem_append_right _ (List.mem_of_getElem? (i := 1131) (by decide +kernel)), by decide +kernel⟩
theorem tl_134 : Cond.methodLink RL 134 yX7_sheet ∈ js_good := List.mem_filter.mpr ⟨List.mem_append_right _ (List.mem_of_getElem? (i := 674) (by decide +kernel)), by decide +kernel⟩
theorem tl_137 : Cond.methodLink RL 137 yX8_sheet ∈ js_good := List.mem_filter.mpr ⟨List.mem_append_right _ (List.mem_of_getElem? (i := 1210) (by decide +kernel)), by decide +kernel⟩
theorem tl_140 : Cond.methodLink RL 140 yX7_write ∈ js_good := List.mem_filter.mpr ⟨List.mem_append_right _ (List.mem_of_getElem? (i := 690) (by decide +kernel)), by decide +kernel⟩
theorem tl_144 : Cond.methodLink RL 144 yX8_write ∈ js_good := List.mem_filter.mpr ⟨List.mem_append_right _ (List.mem_of_getElem? (i := 1219) (by decide +kernel)), by decide +kernel⟩
theorem tl_145 : Cond.methodLink RL 145 yX7_copy ∈ js_good := List.mem_filter.mpr ⟨List.mem_append_right _ (List.mem_of_getElem? (i := 727) (by decide +kernel)), by decide +kernel⟩
theorem tl_149 : Cond.methodLink RL 149 yX8_copy ∈ js_good := List.mem_filter.mpr ⟨List.mem_append_right _ (List.mem_of_getElem? (i := 1231) (by decide +kernel)), by decide +kernel⟩
theorem tl_150 : Cond.methodLink RL 150 yX7_lays ∈ js_good := List.mem_filter.mpr ⟨List.mem_append_right _ (List.mem_of_getElem? (i := 740) (by decide +kernel)), by decide +kernel⟩
theorem tl_153 : Cond.methodLink RL 153 yX8_lays ∈ js_good := List.mem_filter.mpr ⟨List.mem_append_right _ (List.mem_of_getElem? (i := 1235) (by decide +kernel)), by decide +kernel⟩
theorem tl_154 : Cond.methodLink RL 154 yX7_book ∈ js_good := List.mem_filter.mpr ⟨List.mem_append_right _ (List.mem_of_getElem? (i := 749) (by decide +kernel)), by decide +kernel⟩
theorem tl_157 : Cond.methodLink RL 157 yX8_book ∈ js_good := List.mem_filter.mpr ⟨List.mem_append_right _ (List.mem_of_getElem? (i := 1243) (by decide +kernel)), by decide +kernel⟩
theorem tl_158 : Cond.methodLink RL 158 yX7_read ∈ js_good := List.mem_filter.mpr ⟨List.mem_append_right _ (List.mem_of_getElem? (i := 754) (by decide +kernel)), by decide +kernel⟩
theorem tl_161 : Cond.methodLink RL 161 yX8_read ∈ js_good := List.mem_filter.mpr ⟨List.mem_append_right _ (List.mem_of_getElem? (i := 1248) (by decide +kernel)), by decide +kernel⟩
theorem tl_162 : Cond.methodLink RL 162 yX7_image ∈ js_good := List.mem_filter.mpr ⟨List.mem_append_right _ (List.mem_of_getElem? (i := 762) (by decide +kernel)), by decide +kernel⟩
theorem tl_165 : Cond.methodLink RL 165 yX8_image ∈ js_good := List.mem_filter.mpr ⟨List.mem_append_right _ (List.mem_of_getElem? (i := 1256) (by decide +kernel)), by decide +kernel⟩
theorem tl_166 : Cond.methodLink RL 166 yX7_undo ∈ js_good := List.mem_filter.mpr ⟨List.mem_append_right _ (List.mem_of_getElem? (i := 771) (by decide +kernel)), by decide +kernel⟩
theorem tl_169 : Cond.methodLink RL 169 yX8_undo ∈ js_good := List.mem_filter.mpr ⟨List.mem_append_right _ (List.mem_of_getElem? (i := 1260) (by decide +kernel)), by decide +kernel⟩
theorem tl_170 : Cond.methodLink RL 170 yX7_tear ∈ js_good := List.mem_filter.mpr ⟨List.mem_append_right _ (List.mem_of_getElem? (i := 775) (by decide +kernel)), by decide +kernel⟩
theorem tl_173 : Cond.methodLink RL 173 yX8_tear ∈ js_good := List.mem_filter.mpr ⟨List.mem_append_right _ (List.mem_of_getElem? (i := 1264) (by decide +kernel)), by decide +kernel⟩
theorem tl_174 : Cond.methodLink RL 174 yX7_count ∈ js_good := List.mem_filter.mpr ⟨List.mem_append_right _ (List.mem_of_getElem? (i := 779) (by decide +kernel)), by decide +kernel⟩
theorem tl_177 : Cond.methodLink RL 177 yX8_count ∈ js_good := List.mem_filter.mpr ⟨List.mem_append_right _ (List.mem_of_getElem? (i := 1268) (by decide +kernel)), by decide +kernel⟩
theorem tl_178 : Cond.methodLink RL 178 yX7_status ∈ js_good := List.mem_filter.mpr ⟨List.mem_append_right _ (List.mem_of_getElem? (i := 787) (by decide +kernel)), by decide +kernel⟩
theorem tl_181 : Cond.methodLink RL 181 yX8_status ∈ js_good := List.mem_filter.mpr ⟨List.mem_append_right _ (List.mem_of_getElem? (i := 1276) (by decide +kernel)), by decide +kernel⟩
theorem tl_c : Cond.constantLong RL 138 4294967295 ∈ js_good := List.mem_filter.mpr ⟨List.mem_append_right _ (List.mem_of_getElem? (i := 1281) (by decide +kernel)), by decide +kernel⟩
theorem bl_k0 {X : bl_T} {k : Nat} {σ τ : js_S} (C : bl_C X) (hk : k + 6 ≤ bl_L X) (h : pv_R σ τ) (kk : ∀ σ2 τ2, pv_R σ2 τ2 → bl_I X 1619 k [] σ2 τ2) : bl_I X 208 k [] σ τ := by
  obtain ⟨r, σ2, τ2, h1, h2, h3⟩ := pg_flue h ((bl_xs X k 1))
  refine bl_ldC C dL_law_208 ?_
  refine bl_arg C hk 1 dL_law_209 dL_law_210 dL_law_211 rfl (by decide) dL_law_212 dL_law_213 ?_
  refine bl_callC (mj := mX7_flue) C [.int (bl_xs X k 1)] [] dL_law_214 tl_13 cm_X7_flue cv_X7_flue rfl rfl rfl rfl rfl (qX7_flue _ _ σ _ h1) rfl rfl ?_
  refine bl_ldM C dL_law_217 ?_
  refine bl_arg C hk 1 dL_law_218 dL_law_219 dL_law_220 rfl (by decide) dL_law_221 dL_law_222 ?_
  refine bl_callM (mj := mX8_flue) C [.int (bl_xs X k 1)] [.int r] dL_law_223 tl_17 cm_X8_flue cv_X8_flue rfl rfl rfl rfl rfl (qX8_flue _ _ τ _ h2) rfl rfl ?_
  exact bl_same C dL_law_226 rfl (kk σ2 τ2 h3)
theorem bl_k1 {X : bl_T} {k : Nat} {σ τ : js_S} (C : bl_C X) (hk : k + 6 ≤ bl_L X) (h : pv_R σ τ) (kk : ∀ σ2 τ2, pv_R σ2 τ2 → bl_I X 1619 k [] σ2 τ2) : bl_I X 231 k [] σ τ := by
  obtain ⟨r, σ2, τ2, h1, h2, h3⟩ := pg_of h ((bl_xs X k 1)) ((bl_xs X k 2))
  refine bl_ldC C dL_law_231 ?_
  refine bl_arg C hk 1 dL_law_232 dL_law_233 dL_law_234 rfl (by decide) dL_law_235 dL_law_236 ?_
  refine bl_arg C hk 2 dL_law_237 dL_law_238 dL_law_239 rfl (by decide) dL_law_240 dL_law_241 ?_
  refine bl_callC (mj := mX7_of) C [.int (bl_xs X k 1), .int (bl_xs X k 2)] [] dL_law_242 tl_18 cm_X7_of cv_X7_of rfl rfl rfl rfl rfl (qX7_of _ _ _ σ _ h1) rfl rfl ?_
  refine bl_ldM C dL_law_245 ?_
  refine bl_arg C hk 1 dL_law_246 dL_law_247 dL_law_248 rfl (by decide) dL_law_249 dL_law_250 ?_
  refine bl_arg C hk 2 dL_law_251 dL_law_252 dL_law_253 rfl (by decide) dL_law_254 dL_law_255 ?_
  refine bl_callM (mj := mX8_of) C [.int (bl_xs X k 1), .int (bl_xs X k 2)] [.int r] dL_law_256 tl_22 cm_X8_of cv_X8_of rfl rfl rfl rfl rfl (qX8_of _ _ _ τ _ h2) rfl rfl ?_
  exact bl_same C dL_law_259 rfl (kk σ2 τ2 h3)
theorem bl_k2 {X : bl_T} {k : Nat} {σ τ : js_S} (C : bl_C X) (hk : k + 6 ≤ bl_L X) (h : pv_R σ τ) (kk : ∀ σ2 τ2, pv_R σ2 τ2 → bl_I X 1619 k [] σ2 τ2) : bl_I X 264 k [] σ τ := by
  obtain ⟨r, σ2, τ2, h1, h2, h3⟩ := pg_bend h ((bl_xs X k 1)) ((bl_xs X k 2)) ((bl_xs X k 3))
  refine bl_ldC C dL_law_264 ?_
  refine bl_arg C hk 1 dL_law_265 dL_law_266 dL_law_267 rfl (by decide) dL_law_268 dL_law_269 ?_
  refine bl_arg C hk 2 dL_law_270 dL_law_271 dL_law_272 rfl (by decide) dL_law_273 dL_law_274 ?_
  refine bl_arg C hk 3 dL_law_275 dL_law_276 dL_law_277 rfl (by decide) dL_law_278 dL_law_279 ?_
  refine bl_callC (mj := mX7_bend) C [.int (bl_xs X k 1), .int (bl_xs X k 2), .int (bl_xs X k 3)] [] dL_law_280 tl_23 cm_X7_bend cv_X7_bend rfl rfl rfl rfl rfl (qX7_bend _ _ _ _ σ _ h1) rfl rfl ?_
  refine bl_ldM C dL_law_283 ?_
  refine bl_arg C hk 1 dL_law_284 dL_law_285 dL_law_286 rfl (by decide) dL_law_287 dL_law_288 ?_
  refine bl_arg C hk 2 dL_law_289 dL_law_290 dL_law_291 rfl (by decide) dL_law_292 dL_law_293 ?_
  refine bl_arg C hk 3 dL_law_294 dL_law_295 dL_law_296 rfl (by decide) dL_law_297 dL_law_298 ?_
  refine bl_callM (mj := mX8_bend) C [.int (bl_xs X k 1), .int (bl_xs X k 2), .int (bl_xs X k 3)] [.int r] dL_law_299 tl_27 cm_X8_bend cv_X8_bend rfl rfl rfl rfl rfl (qX8_bend _ _ _ _ τ _ h2) rfl rfl ?_
  exact bl_same C dL_law_302 rfl (kk σ2 τ2 h3)
theorem bl_k3 {X : bl_T} {k : Nat} {σ τ : js_S} (C : bl_C X) (hk : k + 6 ≤ bl_L X) (h : pv_R σ τ) (kk : ∀ σ2 τ2, pv_R σ2 τ2 → bl_I X 1619 k [] σ2 τ2) : bl_I X 307 k [] σ τ := by
  obtain ⟨r, σ2, τ2, h1, h2, h3⟩ := pg_layer h ((bl_xs X k 1)) ((bl_xs X k 2)) ((bl_xs X k 3)) ((bl_xs X k 4))
  refine bl_ldC C dL_law_307 ?_
  refine bl_arg C hk 1 dL_law_308 dL_law_309 dL_law_310 rfl (by decide) dL_law_311 dL_law_312 ?_
  refine bl_arg C hk 2 dL_law_313 dL_law_314 dL_law_315 rfl (by decide) dL_law_316 dL_law_317 ?_
  refine bl_arg C hk 3 dL_law_318 dL_law_319 dL_law_320 rfl (by decide) dL_law_321 dL_law_322 ?_
  refine bl_arg C hk 4 dL_law_323 dL_law_324 dL_law_325 rfl (by decide) dL_law_326 dL_law_327 ?_
  refine bl_callC (mj := mX7_layer) C [.int (bl_xs X k 1), .int (bl_xs X k 2), .int (bl_xs X k 3), .int (bl_xs X k 4)] [] dL_law_328 tl_28 cm_X7_layer cv_X7_layer rfl rfl rfl rfl rfl (qX7_layer _ _ _ _ _ σ _ h1) rfl rfl ?_
  refine bl_ldM C dL_law_331 ?_
  refine bl_arg C hk 1 dL_law_332 dL_law_333 dL_law_334 rfl (by decide) dL_law_335 dL_law_336 ?_
  refine bl_arg C hk 2 dL_law_337 dL_law_338 dL_law_339 rfl (by decide) dL_law_340 dL_law_341 ?_
  refine bl_arg C hk 3 dL_law_342 dL_law_343 dL_law_344 rfl (by decide) dL_law_345 dL_law_346 ?_
  refine bl_arg C hk 4 dL_law_347 dL_law_348 dL_law_349 rfl (by decide) dL_law_350 dL_law_351 ?_
  refine bl_callM (mj := mX8_layer) C [.int (bl_xs X k 1), .int (bl_xs X k 2), .int (bl_xs X k 3), .int (bl_xs X k 4)] [.int r] dL_law_352 tl_32 cm_X8_layer cv_X8_layer rfl rfl rfl rfl rfl (qX8_layer _ _ _ _ _ τ _ h2) rfl rfl ?_
  exact bl_same C dL_law_355 rfl (kk σ2 τ2 h3)
theorem bl_k4 {X : bl_T} {k : Nat} {σ τ : js_S} (C : bl_C X) (hk : k + 6 ≤ bl_L X) (h : pv_R σ τ) (kk : ∀ σ2 τ2, pv_R σ2 τ2 → bl_I X 1619 k [] σ2 τ2) : bl_I X 360 k [] σ τ := by
  obtain ⟨r, σ2, τ2, h1, h2, h3⟩ := pg_turn h ((bl_xs X k 1)) ((bl_xs X k 2))
  refine bl_ldC C dL_law_360 ?_
  refine bl_arg C hk 1 dL_law_361 dL_law_362 dL_law_363 rfl (by decide) dL_law_364 dL_law_365 ?_
  refine bl_arg C hk 2 dL_law_366 dL_law_367 dL_law_368 rfl (by decide) dL_law_369 dL_law_370 ?_
  refine bl_callC (mj := mX7_turn) C [.int (bl_xs X k 1), .int (bl_xs X k 2)] [] dL_law_371 tl_33 cm_X7_turn cv_X7_turn rfl rfl rfl rfl rfl (qX7_turn _ _ _ σ _ h1) rfl rfl ?_
  refine bl_ldM C dL_law_374 ?_
  refine bl_arg C hk 1 dL_law_375 dL_law_376 dL_law_377 rfl (by decide) dL_law_378 dL_law_379 ?_
  refine bl_arg C hk 2 dL_law_380 dL_law_381 dL_law_382 rfl (by decide) dL_law_383 dL_law_384 ?_
  refine bl_callM (mj := mX8_turn) C [.int (bl_xs X k 1), .int (bl_xs X k 2)] [.int r] dL_law_385 tl_36 cm_X8_turn cv_X8_turn rfl rfl rfl rfl rfl (qX8_turn _ _ _ τ _ h2) rfl rfl ?_
  exact bl_same C dL_law_388 rfl (kk σ2 τ2 h3)
theorem bl_k5 {X : bl_T} {k : Nat} {σ τ : js_S} (C : bl_C X) (hk : k + 6 ≤ bl_L X) (h : pv_R σ τ) (kk : ∀ σ2 τ2, pv_R σ2 τ2 → bl_I X 1619 k [] σ2 τ2) : bl_I X 393 k [] σ τ := by
  obtain ⟨r, σ2, τ2, h1, h2, h3⟩ := pg_as h ((bl_xs X k 1)) ((bl_xs X k 2))
  refine bl_ldC C dL_law_393 ?_
  refine bl_arg C hk 1 dL_law_394 dL_law_395 dL_law_396 rfl (by decide) dL_law_397 dL_law_398 ?_
  refine bl_arg C hk 2 dL_law_399 dL_law_400 dL_law_401 rfl (by decide) dL_law_402 dL_law_403 ?_
  refine bl_callC (mj := mX7_as) C [.int (bl_xs X k 1), .int (bl_xs X k 2)] [] dL_law_404 tl_37 cm_X7_as cv_X7_as rfl rfl rfl rfl rfl (qX7_as _ _ _ σ _ h1) rfl rfl ?_
  refine bl_ldM C dL_law_407 ?_
  refine bl_arg C hk 1 dL_law_408 dL_law_409 dL_law_410 rfl (by decide) dL_law_411 dL_law_412 ?_
  refine bl_arg C hk 2 dL_law_413 dL_law_414 dL_law_415 rfl (by decide) dL_law_416 dL_law_417 ?_
  refine bl_callM (mj := mX8_as) C [.int (bl_xs X k 1), .int (bl_xs X k 2)] [.int r] dL_law_418 tl_40 cm_X8_as cv_X8_as rfl rfl rfl rfl rfl (qX8_as _ _ _ τ _ h2) rfl rfl ?_
  exact bl_same C dL_law_421 rfl (kk σ2 τ2 h3)
theorem bl_k6 {X : bl_T} {k : Nat} {σ τ : js_S} (C : bl_C X) (hk : k + 6 ≤ bl_L X) (h : pv_R σ τ) (kk : ∀ σ2 τ2, pv_R σ2 τ2 → bl_I X 1619 k [] σ2 τ2) : bl_I X 426 k [] σ τ := by
  obtain ⟨r, σ2, τ2, h1, h2, h3⟩ := pg_damp h ((bl_xs X k 1))
  refine bl_ldC C dL_law_426 ?_
  refine bl_arg C hk 1 dL_law_427 dL_law_428 dL_law_429 rfl (by decide) dL_law_430 dL_law_431 ?_
  refine bl_callC (mj := mX7_damp) C [.int (bl_xs X k 1)] [] dL_law_432 tl_41 cm_X7_damp cv_X7_damp rfl rfl rfl rfl rfl (qX7_damp _ _ σ _ h1) rfl rfl ?_
  refine bl_ldM C dL_law_435 ?_
  refine bl_arg C hk 1 dL_law_436 dL_law_437 dL_law_438 rfl (by decide) dL_law_439 dL_law_440 ?_
  refine bl_callM (mj := mX8_damp) C [.int (bl_xs X k 1)] [.int r] dL_law_441 tl_44 cm_X8_damp cv_X8_damp rfl rfl rfl rfl rfl (qX8_damp _ _ τ _ h2) rfl rfl ?_
  exact bl_same C dL_law_444 rfl (kk σ2 τ2 h3)
theorem bl_k7 {X : bl_T} {k : Nat} {σ τ : js_S} (C : bl_C X) (hk : k + 6 ≤ bl_L X) (h : pv_R σ τ) (kk : ∀ σ2 τ2, pv_R σ2 τ2 → bl_I X 1619 k [] σ2 τ2) : bl_I X 449 k [] σ τ := by
  obtain ⟨r, σ2, τ2, h1, h2, h3⟩ := pg_rises h ((bl_xs X k 1)) ((bl_xs X k 2)) ((bl_xs X k 3))
  refine bl_ldC C dL_law_449 ?_
  refine bl_arg C hk 1 dL_law_450 dL_law_451 dL_law_452 rfl (by decide) dL_law_453 dL_law_454 ?_
  refine bl_arg C hk 2 dL_law_455 dL_law_456 dL_law_457 rfl (by decide) dL_law_458 dL_law_459 ?_
  refine bl_arg C hk 3 dL_law_460 dL_law_461 dL_law_462 rfl (by decide) dL_law_463 dL_law_464 ?_
  refine bl_callC (mj := mX7_rises) C [.int (bl_xs X k 1), .int (bl_xs X k 2), .int (bl_xs X k 3)] [] dL_law_465 tl_45 cm_X7_rises cv_X7_rises rfl rfl rfl rfl rfl (qX7_rises _ _ _ _ σ _ h1) rfl rfl ?_
  refine bl_ldM C dL_law_468 ?_
  refine bl_arg C hk 1 dL_law_469 dL_law_470 dL_law_471 rfl (by decide) dL_law_472 dL_law_473 ?_
  refine bl_arg C hk 2 dL_law_474 dL_law_475 dL_law_476 rfl (by decide) dL_law_477 dL_law_478 ?_
  refine bl_arg C hk 3 dL_law_479 dL_law_480 dL_law_481 rfl (by decide) dL_law_482 dL_law_483 ?_
  refine bl_callM (mj := mX8_rises) C [.int (bl_xs X k 1), .int (bl_xs X k 2), .int (bl_xs X k 3)] [.int r] dL_law_484 tl_48 cm_X8_rises cv_X8_rises rfl rfl rfl rfl rfl (qX8_rises _ _ _ _ τ _ h2) rfl rfl ?_
  exact bl_same C dL_law_487 rfl (kk σ2 τ2 h3)
theorem bl_k8 {X : bl_T} {k : Nat} {σ τ : js_S} (C : bl_C X) (hk : k + 6 ≤ bl_L X) (h : pv_R σ τ) (kk : ∀ σ2 τ2, pv_R σ2 τ2 → bl_I X 1619 k [] σ2 τ2) : bl_I X 492 k [] σ τ := by
  obtain ⟨r, σ2, τ2, h1, h2, h3⟩ := pg_say h ((bl_xs X k 1)) ((bl_xs X k 2)) ((bl_xs X k 3))
  refine bl_ldC C dL_law_492 ?_
  refine bl_arg C hk 1 dL_law_493 dL_law_494 dL_law_495 rfl (by decide) dL_law_496 dL_law_497 ?_
  refine bl_arg C hk 2 dL_law_498 dL_law_499 dL_law_500 rfl (by decide) dL_law_501 dL_law_502 ?_
  refine bl_arg C hk 3 dL_law_503 dL_law_504 dL_law_505 rfl (by decide) dL_law_506 dL_law_507 ?_
  refine bl_callC (mj := mX7_say) C [.int (bl_xs X k 1), .int (bl_xs X k 2), .int (bl_xs X k 3)] [] dL_law_508 tl_49 cm_X7_say cv_X7_say rfl rfl rfl rfl rfl (qX7_say _ _ _ _ σ _ h1) rfl rfl ?_
  refine bl_ldM C dL_law_511 ?_
  refine bl_arg C hk 1 dL_law_512 dL_law_513 dL_law_514 rfl (by decide) dL_law_515 dL_law_516 ?_
  refine bl_arg C hk 2 dL_law_517 dL_law_518 dL_law_519 rfl (by decide) dL_law_520 dL_law_521 ?_
  refine bl_arg C hk 3 dL_law_522 dL_law_523 dL_law_524 rfl (by decide) dL_law_525 dL_law_526 ?_
  refine bl_callM (mj := mX8_say) C [.int (bl_xs X k 1), .int (bl_xs X k 2), .int (bl_xs X k 3)] [.int r] dL_law_527 tl_52 cm_X8_say cv_X8_say rfl rfl rfl rfl rfl (qX8_say _ _ _ _ τ _ h2) rfl rfl ?_
  exact bl_same C dL_law_530 rfl (kk σ2 τ2 h3)
theorem bl_k9 {X : bl_T} {k : Nat} {σ τ : js_S} (C : bl_C X) (hk : k + 6 ≤ bl_L X) (h : pv_R σ τ) (kk : ∀ σ2 τ2, pv_R σ2 τ2 → bl_I X 1619 k [] σ2 τ2) : bl_I X 535 k [] σ τ := by
  obtain ⟨r, σ2, τ2, h1, h2, h3⟩ := pg_cake h ((bl_xs X k 1)) ((bl_xs X k 2)) ((bl_xs X k 3)) ((bl_xs X k 4))
  refine bl_ldC C dL_law_535 ?_
  refine bl_arg C hk 1 dL_law_536 dL_law_537 dL_law_538 rfl (by decide) dL_law_539 dL_law_540 ?_
  refine bl_arg C hk 2 dL_law_541 dL_law_542 dL_law_543 rfl (by decide) dL_law_544 dL_law_545 ?_
  refine bl_arg C hk 3 dL_law_546 dL_law_547 dL_law_548 rfl (by decide) dL_law_549 dL_law_550 ?_
  refine bl_arg C hk 4 dL_law_551 dL_law_552 dL_law_553 rfl (by decide) dL_law_554 dL_law_555 ?_
  refine bl_callC (mj := mX7_cake) C [.int (bl_xs X k 1), .int (bl_xs X k 2), .int (bl_xs X k 3), .int (bl_xs X k 4)] [] dL_law_556 tl_53 cm_X7_cake cv_X7_cake rfl rfl rfl rfl rfl (qX7_cake _ _ _ _ _ σ _ h1) rfl rfl ?_
  refine bl_ldM C dL_law_559 ?_
  refine bl_arg C hk 1 dL_law_560 dL_law_561 dL_law_562 rfl (by decide) dL_law_563 dL_law_564 ?_
  refine bl_arg C hk 2 dL_law_565 dL_law_566 dL_law_567 rfl (by decide) dL_law_568 dL_law_569 ?_
  refine bl_arg C hk 3 dL_law_570 dL_law_571 dL_law_572 rfl (by decide) dL_law_573 dL_law_574 ?_
  refine bl_arg C hk 4 dL_law_575 dL_law_576 dL_law_577 rfl (by decide) dL_law_578 dL_law_579 ?_
  refine bl_callM (mj := mX8_cake) C [.int (bl_xs X k 1), .int (bl_xs X k 2), .int (bl_xs X k 3), .int (bl_xs X k 4)] [.int r] dL_law_580 tl_56 cm_X8_cake cv_X8_cake rfl rfl rfl rfl rfl (qX8_cake _ _ _ _ _ τ _ h2) rfl rfl ?_
  exact bl_same C dL_law_583 rfl (kk σ2 τ2 h3)
theorem bl_k10 {X : bl_T} {k : Nat} {σ τ : js_S} (C : bl_C X) (hk : k + 6 ≤ bl_L X) (h : pv_R σ τ) (kk : ∀ σ2 τ2, pv_R σ2 τ2 → bl_I X 1619 k [] σ2 τ2) : bl_I X 588 k [] σ τ := by
  obtain ⟨r, σ2, τ2, h1, h2, h3⟩ := pg_days h ((bl_xs X k 1))
  refine bl_ldC C dL_law_588 ?_
  refine bl_arg C hk 1 dL_law_589 dL_law_590 dL_law_591 rfl (by decide) dL_law_592 dL_law_593 ?_
  refine bl_callC (mj := mX7_days) C [.int (bl_xs X k 1)] [] dL_law_594 tl_57 cm_X7_days cv_X7_days rfl rfl rfl rfl rfl (qX7_days _ _ σ _ h1) rfl rfl ?_
  refine bl_ldM C dL_law_597 ?_
  refine bl_arg C hk 1 dL_law_598 dL_law_599 dL_law_600 rfl (by decide) dL_law_601 dL_law_602 ?_
  refine bl_callM (mj := mX8_days) C [.int (bl_xs X k 1)] [.int r] dL_law_603 tl_60 cm_X8_days cv_X8_days rfl rfl rfl rfl rfl (qX8_days _ _ τ _ h2) rfl rfl ?_
  exact bl_same C dL_law_606 rfl (kk σ2 τ2 h3)
theorem bl_k11 {X : bl_T} {k : Nat} {σ τ : js_S} (C : bl_C X) (hk : k + 6 ≤ bl_L X) (h : pv_R σ τ) (kk : ∀ σ2 τ2, pv_R σ2 τ2 → bl_I X 1619 k [] σ2 τ2) : bl_I X 611 k [] σ τ := by
  obtain ⟨r, σ2, τ2, h1, h2, h3⟩ := pg_now h ((bl_xs X k 1))
  refine bl_ldC C dL_law_611 ?_
  refine bl_arg C hk 1 dL_law_612 dL_law_613 dL_law_614 rfl (by decide) dL_law_615 dL_law_616 ?_
  refine bl_callC (mj := mX7_now) C [.int (bl_xs X k 1)] [] dL_law_617 tl_61 cm_X7_now cv_X7_now rfl rfl rfl rfl rfl (qX7_now _ _ σ _ h1) rfl rfl ?_
  refine bl_ldM C dL_law_620 ?_
  refine bl_arg C hk 1 dL_law_621 dL_law_622 dL_law_623 rfl (by decide) dL_law_624 dL_law_625 ?_
  refine bl_callM (mj := mX8_now) C [.int (bl_xs X k 1)] [.int r] dL_law_626 tl_64 cm_X8_now cv_X8_now rfl rfl rfl rfl rfl (qX8_now _ _ τ _ h2) rfl rfl ?_
  exact bl_same C dL_law_629 rfl (kk σ2 τ2 h3)
theorem bl_k12 {X : bl_T} {k : Nat} {σ τ : js_S} (C : bl_C X) (hk : k + 6 ≤ bl_L X) (h : pv_R σ τ) (kk : ∀ σ2 τ2, pv_R σ2 τ2 → bl_I X 1619 k [] σ2 τ2) : bl_I X 634 k [] σ τ := by
  obtain ⟨r, σ2, τ2, h1, h2, h3⟩ := pg_sweep h ((bl_xs X k 1)) ((bl_xs X k 2)) ((bl_xs X k 3))
  refine bl_ldC C dL_law_634 ?_
  refine bl_arg C hk 1 dL_law_635 dL_law_636 dL_law_637 rfl (by decide) dL_law_638 dL_law_639 ?_
  refine bl_arg C hk 2 dL_law_640 dL_law_641 dL_law_642 rfl (by decide) dL_law_643 dL_law_644 ?_
  refine bl_arg C hk 3 dL_law_645 dL_law_646 dL_law_647 rfl (by decide) dL_law_648 dL_law_649 ?_
  refine bl_callC (mj := mX7_sweep) C [.int (bl_xs X k 1), .int (bl_xs X k 2), .int (bl_xs X k 3)] [] dL_law_650 tl_65 cm_X7_sweep cv_X7_sweep rfl rfl rfl rfl rfl (qX7_sweep _ _ _ _ σ _ h1) rfl rfl ?_
  refine bl_ldM C dL_law_653 ?_
  refine bl_arg C hk 1 dL_law_654 dL_law_655 dL_law_656 rfl (by decide) dL_law_657 dL_law_658 ?_
  refine bl_arg C hk 2 dL_law_659 dL_law_660 dL_law_661 rfl (by decide) dL_law_662 dL_law_663 ?_
  refine bl_arg C hk 3 dL_law_664 dL_law_665 dL_law_666 rfl (by decide) dL_law_667 dL_law_668 ?_
  refine bl_callM (mj := mX8_sweep) C [.int (bl_xs X k 1), .int (bl_xs X k 2), .int (bl_xs X k 3)] [.int r] dL_law_669 tl_68 cm_X8_sweep cv_X8_sweep rfl rfl rfl rfl rfl (qX8_sweep _ _ _ _ τ _ h2) rfl rfl ?_
  exact bl_same C dL_law_672 rfl (kk σ2 τ2 h3)
theorem bl_k13 {X : bl_T} {k : Nat} {σ τ : js_S} (C : bl_C X) (hk : k + 6 ≤ bl_L X) (h : pv_R σ τ) (kk : ∀ σ2 τ2, pv_R σ2 τ2 → bl_I X 1619 k [] σ2 τ2) : bl_I X 677 k [] σ τ := by
  obtain ⟨r, σ2, τ2, h1, h2, h3⟩ := pg_brought h ((bl_xs X k 1)) ((bl_xs X k 2)) ((bl_xs X k 3))
  refine bl_ldC C dL_law_677 ?_
  refine bl_arg C hk 1 dL_law_678 dL_law_679 dL_law_680 rfl (by decide) dL_law_681 dL_law_682 ?_
  refine bl_arg C hk 2 dL_law_683 dL_law_684 dL_law_685 rfl (by decide) dL_law_686 dL_law_687 ?_
  refine bl_arg C hk 3 dL_law_688 dL_law_689 dL_law_690 rfl (by decide) dL_law_691 dL_law_692 ?_
  refine bl_callC (mj := mX7_brought) C [.int (bl_xs X k 1), .int (bl_xs X k 2), .int (bl_xs X k 3)] [] dL_law_693 tl_69 cm_X7_brought cv_X7_brought rfl rfl rfl rfl rfl (qX7_brought _ _ _ _ σ _ h1) rfl rfl ?_
  refine bl_ldM C dL_law_696 ?_
  refine bl_arg C hk 1 dL_law_697 dL_law_698 dL_law_699 rfl (by decide) dL_law_700 dL_law_701 ?_
  refine bl_arg C hk 2 dL_law_702 dL_law_703 dL_law_704 rfl (by decide) dL_law_705 dL_law_706 ?_
  refine bl_arg C hk 3 dL_law_707 dL_law_708 dL_law_709 rfl (by decide) dL_law_710 dL_law_711 ?_
  refine bl_callM (mj := mX8_brought) C [.int (bl_xs X k 1), .int (bl_xs X k 2), .int (bl_xs X k 3)] [.int r] dL_law_712 tl_72 cm_X8_brought cv_X8_brought rfl rfl rfl rfl rfl (qX8_brought _ _ _ _ τ _ h2) rfl rfl ?_
  exact bl_same C dL_law_715 rfl (kk σ2 τ2 h3)
theorem bl_k14 {X : bl_T} {k : Nat} {σ τ : js_S} (C : bl_C X) (hk : k + 6 ≤ bl_L X) (h : pv_R σ τ) (kk : ∀ σ2 τ2, pv_R σ2 τ2 → bl_I X 1619 k [] σ2 τ2) : bl_I X 720 k [] σ τ := by
  obtain ⟨r, σ2, τ2, h1, h2, h3⟩ := pg_order h ((bl_xs X k 1)) ((bl_xs X k 2)) ((bl_xs X k 3)) ((bl_xs X k 4))
  refine bl_ldC C dL_law_720 ?_
  refine bl_arg C hk 1 dL_law_721 dL_law_722 dL_law_723 rfl (by decide) dL_law_724 dL_law_725 ?_
  refine bl_arg C hk 2 dL_law_726 dL_law_727 dL_law_728 rfl (by decide) dL_law_729 dL_law_730 ?_
  refine bl_arg C hk 3 dL_law_731 dL_law_732 dL_law_733 rfl (by decide) dL_law_734 dL_law_735 ?_
  refine bl_arg C hk 4 dL_law_736 dL_law_737 dL_law_738 rfl (by decide) dL_law_739 dL_law_740 ?_
  refine bl_callC (mj := mX7_order) C [.int (bl_xs X k 1), .int (bl_xs X k 2), .int (bl_xs X k 3), .int (bl_xs X k 4)] [] dL_law_741 tl_73 cm_X7_order cv_X7_order rfl rfl rfl rfl rfl (qX7_order _ _ _ _ _ σ _ h1) rfl rfl ?_
  refine bl_ldM C dL_law_744 ?_
  refine bl_arg C hk 1 dL_law_745 dL_law_746 dL_law_747 rfl (by decide) dL_law_748 dL_law_749 ?_
  refine bl_arg C hk 2 dL_law_750 dL_law_751 dL_law_752 rfl (by decide) dL_law_753 dL_law_754 ?_
  refine bl_arg C hk 3 dL_law_755 dL_law_756 dL_law_757 rfl (by decide) dL_law_758 dL_law_759 ?_
  refine bl_arg C hk 4 dL_law_760 dL_law_761 dL_law_762 rfl (by decide) dL_law_763 dL_law_764 ?_
  refine bl_callM (mj := mX8_order) C [.int (bl_xs X k 1), .int (bl_xs X k 2), .int (bl_xs X k 3), .int (bl_xs X k 4)] [.int r] dL_law_765 tl_76 cm_X8_order cv_X8_order rfl rfl rfl rfl rfl (qX8_order _ _ _ _ _ τ _ h2) rfl rfl ?_
  exact bl_same C dL_law_768 rfl (kk σ2 τ2 h3)
theorem bl_k15 {X : bl_T} {k : Nat} {σ τ : js_S} (C : bl_C X) (hk : k + 6 ≤ bl_L X) (h : pv_R σ τ) (kk : ∀ σ2 τ2, pv_R σ2 τ2 → bl_I X 1619 k [] σ2 τ2) : bl_I X 773 k [] σ τ := by
  obtain ⟨r, σ2, τ2, h1, h2, h3⟩ := pg_on h ((bl_xs X k 1)) ((bl_xs X k 2)) ((bl_xs X k 3)) ((bl_xs X k 4))
  refine bl_ldC C dL_law_773 ?_
  refine bl_arg C hk 1 dL_law_774 dL_law_775 dL_law_776 rfl (by decide) dL_law_777 dL_law_778 ?_
  refine bl_arg C hk 2 dL_law_779 dL_law_780 dL_law_781 rfl (by decide) dL_law_782 dL_law_783 ?_
  refine bl_arg C hk 3 dL_law_784 dL_law_785 dL_law_786 rfl (by decide) dL_law_787 dL_law_788 ?_
  refine bl_arg C hk 4 dL_law_789 dL_law_790 dL_law_791 rfl (by decide) dL_law_792 dL_law_793 ?_
  refine bl_callC (mj := mX7_on) C [.int (bl_xs X k 1), .int (bl_xs X k 2), .int (bl_xs X k 3), .int (bl_xs X k 4)] [] dL_law_794 tl_77 cm_X7_on cv_X7_on rfl rfl rfl rfl rfl (qX7_on _ _ _ _ _ σ _ h1) rfl rfl ?_
  refine bl_ldM C dL_law_797 ?_
  refine bl_arg C hk 1 dL_law_798 dL_law_799 dL_law_800 rfl (by decide) dL_law_801 dL_law_802 ?_
  refine bl_arg C hk 2 dL_law_803 dL_law_804 dL_law_805 rfl (by decide) dL_law_806 dL_law_807 ?_
  refine bl_arg C hk 3 dL_law_808 dL_law_809 dL_law_810 rfl (by decide) dL_law_811 dL_law_812 ?_
  refine bl_arg C hk 4 dL_law_813 dL_law_814 dL_law_815 rfl (by decide) dL_law_816 dL_law_817 ?_
  refine bl_callM (mj := mX8_on) C [.int (bl_xs X k 1), .int (bl_xs X k 2), .int (bl_xs X k 3), .int (bl_xs X k 4)] [.int r] dL_law_818 tl_80 cm_X8_on cv_X8_on rfl rfl rfl rfl rfl (qX8_on _ _ _ _ _ τ _ h2) rfl rfl ?_
  exact bl_same C dL_law_821 rfl (kk σ2 τ2 h3)
theorem bl_k16 {X : bl_T} {k : Nat} {σ τ : js_S} (C : bl_C X) (hk : k + 6 ≤ bl_L X) (h : pv_R σ τ) (kk : ∀ σ2 τ2, pv_R σ2 τ2 → bl_I X 1619 k [] σ2 τ2) : bl_I X 826 k [] σ τ := by
  obtain ⟨r, σ2, τ2, h1, h2, h3⟩ := pg_reach h ((bl_xs X k 1)) ((bl_xs X k 2)) ((bl_xs X k 3))
  refine bl_ldC C dL_law_826 ?_
  refine bl_arg C hk 1 dL_law_827 dL_law_828 dL_law_829 rfl (by decide) dL_law_830 dL_law_831 ?_
  refine bl_arg C hk 2 dL_law_832 dL_law_833 dL_law_834 rfl (by decide) dL_law_835 dL_law_836 ?_
  refine bl_arg C hk 3 dL_law_837 dL_law_838 dL_law_839 rfl (by decide) dL_law_840 dL_law_841 ?_
  refine bl_callC (mj := mX7_reach) C [.int (bl_xs X k 1), .int (bl_xs X k 2), .int (bl_xs X k 3)] [] dL_law_842 tl_81 cm_X7_reach cv_X7_reach rfl rfl rfl rfl rfl (qX7_reach _ _ _ _ σ _ h1) rfl rfl ?_
  refine bl_ldM C dL_law_845 ?_
  refine bl_arg C hk 1 dL_law_846 dL_law_847 dL_law_848 rfl (by decide) dL_law_849 dL_law_850 ?_
  refine bl_arg C hk 2 dL_law_851 dL_law_852 dL_law_853 rfl (by decide) dL_law_854 dL_law_855 ?_
  refine bl_arg C hk 3 dL_law_856 dL_law_857 dL_law_858 rfl (by decide) dL_law_859 dL_law_860 ?_
  refine bl_callM (mj := mX8_reach) C [.int (bl_xs X k 1), .int (bl_xs X k 2), .int (bl_xs X k 3)] [.int r] dL_law_861 tl_84 cm_X8_reach cv_X8_reach rfl rfl rfl rfl rfl (qX8_reach _ _ _ _ τ _ h2) rfl rfl ?_
  exact bl_same C dL_law_864 rfl (kk σ2 τ2 h3)
theorem bl_k17 {X : bl_T} {k : Nat} {σ τ : js_S} (C : bl_C X) (hk : k + 6 ≤ bl_L X) (h : pv_R σ τ) (kk : ∀ σ2 τ2, pv_R σ2 τ2 → bl_I X 1619 k [] σ2 τ2) : bl_I X 869 k [] σ τ := by
  obtain ⟨r, σ2, τ2, h1, h2, h3⟩ := pg_strength h ((bl_xs X k 1)) ((bl_xs X k 2)) ((bl_xs X k 3))
  refine bl_ldC C dL_law_869 ?_
  refine bl_arg C hk 1 dL_law_870 dL_law_871 dL_law_872 rfl (by decide) dL_law_873 dL_law_874 ?_
  refine bl_arg C hk 2 dL_law_875 dL_law_876 dL_law_877 rfl (by decide) dL_law_878 dL_law_879 ?_
  refine bl_arg C hk 3 dL_law_880 dL_law_881 dL_law_882 rfl (by decide) dL_law_883 dL_law_884 ?_
  refine bl_callC (mj := mX7_strength) C [.int (bl_xs X k 1), .int (bl_xs X k 2), .int (bl_xs X k 3)] [] dL_law_885 tl_85 cm_X7_strength cv_X7_strength rfl rfl rfl rfl rfl (qX7_strength _ _ _ _ σ _ h1) rfl rfl ?_
  refine bl_ldM C dL_law_888 ?_
  refine bl_arg C hk 1 dL_law_889 dL_law_890 dL_law_891 rfl (by decide) dL_law_892 dL_law_893 ?_
  refine bl_arg C hk 2 dL_law_894 dL_law_895 dL_law_896 rfl (by decide) dL_law_897 dL_law_898 ?_
  refine bl_arg C hk 3 dL_law_899 dL_law_900 dL_law_901 rfl (by decide) dL_law_902 dL_law_903 ?_
  refine bl_callM (mj := mX8_strength) C [.int (bl_xs X k 1), .int (bl_xs X k 2), .int (bl_xs X k 3)] [.int r] dL_law_904 tl_88 cm_X8_strength cv_X8_strength rfl rfl rfl rfl rfl (qX8_strength _ _ _ _ τ _ h2) rfl rfl ?_
  exact bl_same C dL_law_907 rfl (kk σ2 τ2 h3)
theorem bl_k18 {X : bl_T} {k : Nat} {σ τ : js_S} (C : bl_C X) (hk : k + 6 ≤ bl_L X) (h : pv_R σ τ) (kk : ∀ σ2 τ2, pv_R σ2 τ2 → bl_I X 1619 k [] σ2 τ2) : bl_I X 912 k [] σ τ := by
  obtain ⟨r, σ2, τ2, h1, h2, h3⟩ := pg_secret h ((bl_xs X k 1)) ((bl_xs X k 2)) ((bl_xs X k 3))
  refine bl_ldC C dL_law_912 ?_
  refine bl_arg C hk 1 dL_law_913 dL_law_914 dL_law_915 rfl (by decide) dL_law_916 dL_law_917 ?_
  refine bl_arg C hk 2 dL_law_918 dL_law_919 dL_law_920 rfl (by decide) dL_law_921 dL_law_922 ?_
  refine bl_arg C hk 3 dL_law_923 dL_law_924 dL_law_925 rfl (by decide) dL_law_926 dL_law_927 ?_
  refine bl_callC (mj := mX7_secret) C [.int (bl_xs X k 1), .int (bl_xs X k 2), .int (bl_xs X k 3)] [] dL_law_928 tl_89 cm_X7_secret cv_X7_secret rfl rfl rfl rfl rfl (qX7_secret _ _ _ _ σ _ h1) rfl rfl ?_
  refine bl_ldM C dL_law_931 ?_
  refine bl_arg C hk 1 dL_law_932 dL_law_933 dL_law_934 rfl (by decide) dL_law_935 dL_law_936 ?_
  refine bl_arg C hk 2 dL_law_937 dL_law_938 dL_law_939 rfl (by decide) dL_law_940 dL_law_941 ?_
  refine bl_arg C hk 3 dL_law_942 dL_law_943 dL_law_944 rfl (by decide) dL_law_945 dL_law_946 ?_
  refine bl_callM (mj := mX8_secret) C [.int (bl_xs X k 1), .int (bl_xs X k 2), .int (bl_xs X k 3)] [.int r] dL_law_947 tl_92 cm_X8_secret cv_X8_secret rfl rfl rfl rfl rfl (qX8_secret _ _ _ _ τ _ h2) rfl rfl ?_
  exact bl_same C dL_law_950 rfl (kk σ2 τ2 h3)
theorem bl_k19 {X : bl_T} {k : Nat} {σ τ : js_S} (C : bl_C X) (hk : k + 6 ≤ bl_L X) (h : pv_R σ τ) (kk : ∀ σ2 τ2, pv_R σ2 τ2 → bl_I X 1619 k [] σ2 τ2) : bl_I X 955 k [] σ τ := by
  obtain ⟨r, σ2, τ2, h1, h2, h3⟩ := pg_fewest h ((bl_xs X k 1)) ((bl_xs X k 2))
  refine bl_ldC C dL_law_955 ?_
  refine bl_arg C hk 1 dL_law_956 dL_law_957 dL_law_958 rfl (by decide) dL_law_959 dL_law_960 ?_
  refine bl_arg C hk 2 dL_law_961 dL_law_962 dL_law_963 rfl (by decide) dL_law_964 dL_law_965 ?_
  refine bl_callC (mj := mX7_fewest) C [.int (bl_xs X k 1), .int (bl_xs X k 2)] [] dL_law_966 tl_93 cm_X7_fewest cv_X7_fewest rfl rfl rfl rfl rfl (qX7_fewest _ _ _ σ _ h1) rfl rfl ?_
  refine bl_ldM C dL_law_969 ?_
  refine bl_arg C hk 1 dL_law_970 dL_law_971 dL_law_972 rfl (by decide) dL_law_973 dL_law_974 ?_
  refine bl_arg C hk 2 dL_law_975 dL_law_976 dL_law_977 rfl (by decide) dL_law_978 dL_law_979 ?_
  refine bl_callM (mj := mX8_fewest) C [.int (bl_xs X k 1), .int (bl_xs X k 2)] [.int r] dL_law_980 tl_96 cm_X8_fewest cv_X8_fewest rfl rfl rfl rfl rfl (qX8_fewest _ _ _ τ _ h2) rfl rfl ?_
  exact bl_same C dL_law_983 rfl (kk σ2 τ2 h3)
