theorem bl_k20 {X : bl_T} {k : Nat} {σ τ : js_S} (C : bl_C X) (hk : k + 6 ≤ bl_L X) (h : pv_R σ τ) (kk : ∀ σ2 τ2, pv_R σ2 τ2 → bl_I X 1619 k [] σ2 τ2) : bl_I X 988 k [] σ τ := by
  obtain ⟨r, σ2, τ2, h1, h2, h3⟩ := pg_where h ((bl_xs X k 1))
  refine bl_ldC C dL_law_988 ?_
  refine bl_arg C hk 1 dL_law_989 dL_law_990 dL_law_991 rfl (by decide) dL_law_992 dL_law_993 ?_
  refine bl_callC (mj := mX7_where) C [.int (bl_xs X k 1)] [] dL_law_994 tl_97 cm_X7_where cv_X7_where rfl rfl rfl rfl rfl (qX7_where _ _ σ _ h1) rfl rfl ?_
  refine bl_ldM C dL_law_997 ?_
  refine bl_arg C hk 1 dL_law_998 dL_law_999 dL_law_1000 rfl (by decide) dL_law_1001 dL_law_1002 ?_
  refine bl_callM (mj := mX8_where) C [.int (bl_xs X k 1)] [.int r] dL_law_1003 tl_100 cm_X8_where cv_X8_where rfl rfl rfl rfl rfl (qX8_where _ _ τ _ h2) rfl rfl ?_
  exact bl_same C dL_law_1006 rfl (kk σ2 τ2 h3)
theorem bl_k21 {X : bl_T} {k : Nat} {σ τ : js_S} (C : bl_C X) (hk : k + 6 ≤ bl_L X) (h : pv_R σ τ) (kk : ∀ σ2 τ2, pv_R σ2 τ2 → bl_I X 1619 k [] σ2 τ2) : bl_I X 1011 k [] σ τ := by
  obtain ⟨r, σ2, τ2, h1, h2, h3⟩ := pg_lost h ((bl_xs X k 1)) ((bl_xs X k 2)) ((bl_xs X k 3))
  refine bl_ldC C dL_law_1011 ?_
  refine bl_arg C hk 1 dL_law_1012 dL_law_1013 dL_law_1014 rfl (by decide) dL_law_1015 dL_law_1016 ?_
  refine bl_arg C hk 2 dL_law_1017 dL_law_1018 dL_law_1019 rfl (by decide) dL_law_1020 dL_law_1021 ?_
  refine bl_arg C hk 3 dL_law_1022 dL_law_1023 dL_law_1024 rfl (by decide) dL_law_1025 dL_law_1026 ?_
  refine bl_callC (mj := mX7_lost) C [.int (bl_xs X k 1), .int (bl_xs X k 2), .int (bl_xs X k 3)] [] dL_law_1027 tl_101 cm_X7_lost cv_X7_lost rfl rfl rfl rfl rfl (qX7_lost _ _ _ _ σ _ h1) rfl rfl ?_
  refine bl_ldM C dL_law_1030 ?_
  refine bl_arg C hk 1 dL_law_1031 dL_law_1032 dL_law_1033 rfl (by decide) dL_law_1034 dL_law_1035 ?_
  refine bl_arg C hk 2 dL_law_1036 dL_law_1037 dL_law_1038 rfl (by decide) dL_law_1039 dL_law_1040 ?_
  refine bl_arg C hk 3 dL_law_1041 dL_law_1042 dL_law_1043 rfl (by decide) dL_law_1044 dL_law_1045 ?_
  refine bl_callM (mj := mX8_lost) C [.int (bl_xs X k 1), .int (bl_xs X k 2), .int (bl_xs X k 3)] [.int r] dL_law_1046 tl_104 cm_X8_lost cv_X8_lost rfl rfl rfl rfl rfl (qX8_lost _ _ _ _ τ _ h2) rfl rfl ?_
  exact bl_same C dL_law_1049 rfl (kk σ2 τ2 h3)
theorem bl_k22 {X : bl_T} {k : Nat} {σ τ : js_S} (C : bl_C X) (hk : k + 6 ≤ bl_L X) (h : pv_R σ τ) (kk : ∀ σ2 τ2, pv_R σ2 τ2 → bl_I X 1619 k [] σ2 τ2) : bl_I X 1054 k [] σ τ := by
  obtain ⟨r, σ2, τ2, h1, h2, h3⟩ := pg_covers h ((bl_xs X k 1)) ((bl_xs X k 2)) ((bl_xs X k 3))
  refine bl_ldC C dL_law_1054 ?_
  refine bl_arg C hk 1 dL_law_1055 dL_law_1056 dL_law_1057 rfl (by decide) dL_law_1058 dL_law_1059 ?_
  refine bl_arg C hk 2 dL_law_1060 dL_law_1061 dL_law_1062 rfl (by decide) dL_law_1063 dL_law_1064 ?_
  refine bl_arg C hk 3 dL_law_1065 dL_law_1066 dL_law_1067 rfl (by decide) dL_law_1068 dL_law_1069 ?_
  refine bl_callC (mj := mX7_covers) C [.int (bl_xs X k 1), .int (bl_xs X k 2), .int (bl_xs X k 3)] [] dL_law_1070 tl_105 cm_X7_covers cv_X7_covers rfl rfl rfl rfl rfl (qX7_covers _ _ _ _ σ _ h1) rfl rfl ?_
  refine bl_ldM C dL_law_1073 ?_
  refine bl_arg C hk 1 dL_law_1074 dL_law_1075 dL_law_1076 rfl (by decide) dL_law_1077 dL_law_1078 ?_
  refine bl_arg C hk 2 dL_law_1079 dL_law_1080 dL_law_1081 rfl (by decide) dL_law_1082 dL_law_1083 ?_
  refine bl_arg C hk 3 dL_law_1084 dL_law_1085 dL_law_1086 rfl (by decide) dL_law_1087 dL_law_1088 ?_
  refine bl_callM (mj := mX8_covers) C [.int (bl_xs X k 1), .int (bl_xs X k 2), .int (bl_xs X k 3)] [.int r] dL_law_1089 tl_108 cm_X8_covers cv_X8_covers rfl rfl rfl rfl rfl (qX8_covers _ _ _ _ τ _ h2) rfl rfl ?_
  exact bl_same C dL_law_1092 rfl (kk σ2 τ2 h3)
theorem bl_k23 {X : bl_T} {k : Nat} {σ τ : js_S} (C : bl_C X) (hk : k + 6 ≤ bl_L X) (h : pv_R σ τ) (kk : ∀ σ2 τ2, pv_R σ2 τ2 → bl_I X 1619 k [] σ2 τ2) : bl_I X 1097 k [] σ τ := by
  obtain ⟨r, σ2, τ2, h1, h2, h3⟩ := pg_kind h ((bl_xs X k 1)) ((bl_xs X k 2)) ((bl_xs X k 3))
  refine bl_ldC C dL_law_1097 ?_
  refine bl_arg C hk 1 dL_law_1098 dL_law_1099 dL_law_1100 rfl (by decide) dL_law_1101 dL_law_1102 ?_
  refine bl_arg C hk 2 dL_law_1103 dL_law_1104 dL_law_1105 rfl (by decide) dL_law_1106 dL_law_1107 ?_
  refine bl_arg C hk 3 dL_law_1108 dL_law_1109 dL_law_1110 rfl (by decide) dL_law_1111 dL_law_1112 ?_
  refine bl_callC (mj := mX7_kind) C [.int (bl_xs X k 1), .int (bl_xs X k 2), .int (bl_xs X k 3)] [] dL_law_1113 tl_109 cm_X7_kind cv_X7_kind rfl rfl rfl rfl rfl (qX7_kind _ _ _ _ σ _ h1) rfl rfl ?_
  refine bl_ldM C dL_law_1116 ?_
  refine bl_arg C hk 1 dL_law_1117 dL_law_1118 dL_law_1119 rfl (by decide) dL_law_1120 dL_law_1121 ?_
  refine bl_arg C hk 2 dL_law_1122 dL_law_1123 dL_law_1124 rfl (by decide) dL_law_1125 dL_law_1126 ?_
  refine bl_arg C hk 3 dL_law_1127 dL_law_1128 dL_law_1129 rfl (by decide) dL_law_1130 dL_law_1131 ?_
  refine bl_callM (mj := mX8_kind) C [.int (bl_xs X k 1), .int (bl_xs X k 2), .int (bl_xs X k 3)] [.int r] dL_law_1132 tl_112 cm_X8_kind cv_X8_kind rfl rfl rfl rfl rfl (qX8_kind _ _ _ _ τ _ h2) rfl rfl ?_
  exact bl_same C dL_law_1135 rfl (kk σ2 τ2 h3)
theorem bl_k24 {X : bl_T} {k : Nat} {σ τ : js_S} (C : bl_C X) (hk : k + 6 ≤ bl_L X) (h : pv_R σ τ) (kk : ∀ σ2 τ2, pv_R σ2 τ2 → bl_I X 1619 k [] σ2 τ2) : bl_I X 1140 k [] σ τ := by
  obtain ⟨r, σ2, τ2, h1, h2, h3⟩ := pg_best h ((bl_xs X k 1)) ((bl_xs X k 2))
  refine bl_ldC C dL_law_1140 ?_
  refine bl_arg C hk 1 dL_law_1141 dL_law_1142 dL_law_1143 rfl (by decide) dL_law_1144 dL_law_1145 ?_
  refine bl_arg C hk 2 dL_law_1146 dL_law_1147 dL_law_1148 rfl (by decide) dL_law_1149 dL_law_1150 ?_
  refine bl_callC (mj := mX7_best) C [.int (bl_xs X k 1), .int (bl_xs X k 2)] [] dL_law_1151 tl_113 cm_X7_best cv_X7_best rfl rfl rfl rfl rfl (qX7_best _ _ _ σ _ h1) rfl rfl ?_
  refine bl_ldM C dL_law_1154 ?_
  refine bl_arg C hk 1 dL_law_1155 dL_law_1156 dL_law_1157 rfl (by decide) dL_law_1158 dL_law_1159 ?_
  refine bl_arg C hk 2 dL_law_1160 dL_law_1161 dL_law_1162 rfl (by decide) dL_law_1163 dL_law_1164 ?_
  refine bl_callM (mj := mX8_best) C [.int (bl_xs X k 1), .int (bl_xs X k 2)] [.int r] dL_law_1165 tl_116 cm_X8_best cv_X8_best rfl rfl rfl rfl rfl (qX8_best _ _ _ τ _ h2) rfl rfl ?_
  exact bl_same C dL_law_1168 rfl (kk σ2 τ2 h3)
theorem bl_k25 {X : bl_T} {k : Nat} {σ τ : js_S} (C : bl_C X) (hk : k + 6 ≤ bl_L X) (h : pv_R σ τ) (kk : ∀ σ2 τ2, pv_R σ2 τ2 → bl_I X 1619 k [] σ2 τ2) : bl_I X 1173 k [] σ τ := by
  obtain ⟨r, σ2, τ2, h1, h2, h3⟩ := pg_richest h ((bl_xs X k 1))
  refine bl_ldC C dL_law_1173 ?_
  refine bl_arg C hk 1 dL_law_1174 dL_law_1175 dL_law_1176 rfl (by decide) dL_law_1177 dL_law_1178 ?_
  refine bl_callC (mj := mX7_richest) C [.int (bl_xs X k 1)] [] dL_law_1179 tl_117 cm_X7_richest cv_X7_richest rfl rfl rfl rfl rfl (qX7_richest _ _ σ _ h1) rfl rfl ?_
  refine bl_ldM C dL_law_1182 ?_
  refine bl_arg C hk 1 dL_law_1183 dL_law_1184 dL_law_1185 rfl (by decide) dL_law_1186 dL_law_1187 ?_
  refine bl_callM (mj := mX8_richest) C [.int (bl_xs X k 1)] [.int r] dL_law_1188 tl_120 cm_X8_richest cv_X8_richest rfl rfl rfl rfl rfl (qX8_richest _ _ τ _ h2) rfl rfl ?_
  exact bl_same C dL_law_1191 rfl (kk σ2 τ2 h3)
theorem bl_k26 {X : bl_T} {k : Nat} {σ τ : js_S} (C : bl_C X) (hk : k + 6 ≤ bl_L X) (h : pv_R σ τ) (kk : ∀ σ2 τ2, pv_R σ2 τ2 → bl_I X 1619 k [] σ2 τ2) : bl_I X 1196 k [] σ τ := by
  obtain ⟨r, σ2, τ2, h1, h2, h3⟩ := pg_feed h ((bl_xs X k 1)) ((bl_xs X k 2))
  refine bl_ldC C dL_law_1196 ?_
  refine bl_arg C hk 1 dL_law_1197 dL_law_1198 dL_law_1199 rfl (by decide) dL_law_1200 dL_law_1201 ?_
  refine bl_arg C hk 2 dL_law_1202 dL_law_1203 dL_law_1204 rfl (by decide) dL_law_1205 dL_law_1206 ?_
  refine bl_callC (mj := mX7_feed) C [.int (bl_xs X k 1), .int (bl_xs X k 2)] [] dL_law_1207 tl_121 cm_X7_feed cv_X7_feed rfl rfl rfl rfl rfl (qX7_feed _ _ _ σ _ h1) rfl rfl ?_
  refine bl_ldM C dL_law_1210 ?_
  refine bl_arg C hk 1 dL_law_1211 dL_law_1212 dL_law_1213 rfl (by decide) dL_law_1214 dL_law_1215 ?_
  refine bl_arg C hk 2 dL_law_1216 dL_law_1217 dL_law_1218 rfl (by decide) dL_law_1219 dL_law_1220 ?_
  refine bl_callM (mj := mX8_feed) C [.int (bl_xs X k 1), .int (bl_xs X k 2)] [.int r] dL_law_1221 tl_124 cm_X8_feed cv_X8_feed rfl rfl rfl rfl rfl (qX8_feed _ _ _ τ _ h2) rfl rfl ?_
  exact bl_same C dL_law_1224 rfl (kk σ2 τ2 h3)
theorem bl_k27 {X : bl_T} {k : Nat} {σ τ : js_S} (C : bl_C X) (h : pv_R σ τ) (kk : ∀ σ2 τ2, pv_R σ2 τ2 → bl_I X 1619 k [] σ2 τ2) : bl_I X 1229 k [] σ τ := by
  obtain ⟨r, σ2, τ2, h1, h2, h3⟩ := pg_wipe h 
  refine bl_ldC C dL_law_1229 ?_
  refine bl_callC (mj := mX7_wipe) C [] [] dL_law_1230 tl_125 cm_X7_wipe cv_X7_wipe rfl rfl rfl rfl rfl (qX7_wipe _  σ _ h1) rfl rfl ?_
  refine bl_ldM C dL_law_1233 ?_
  refine bl_callM (mj := mX8_wipe) C [] [.int r] dL_law_1234 tl_129 cm_X8_wipe cv_X8_wipe rfl rfl rfl rfl rfl (qX8_wipe _  τ _ h2) rfl rfl ?_
  exact bl_same C dL_law_1237 rfl (kk σ2 τ2 h3)
theorem bl_k28 {X : bl_T} {k : Nat} {σ τ : js_S} (C : bl_C X) (h : pv_R σ τ) (kk : ∀ σ2 τ2, pv_R σ2 τ2 → bl_I X 1619 k [] σ2 τ2) : bl_I X 1242 k [] σ τ := by
  obtain ⟨r, σ2, τ2, h1, h2, h3⟩ := pg_house h 
  refine bl_ldC C dL_law_1242 ?_
  refine bl_callC (mj := mX7_house) C [] [] dL_law_1243 tl_130 cm_X7_house cv_X7_house rfl rfl rfl rfl rfl (qX7_house _  σ _ h1) rfl rfl ?_
  refine bl_ldM C dL_law_1246 ?_
  refine bl_callM (mj := mX8_house) C [] [.int r] dL_law_1247 tl_133 cm_X8_house cv_X8_house rfl rfl rfl rfl rfl (qX8_house _  τ _ h2) rfl rfl ?_
  exact bl_same C dL_law_1250 rfl (kk σ2 τ2 h3)
theorem bl_k29 {X : bl_T} {k : Nat} {σ τ : js_S} (C : bl_C X) (hk : k + 6 ≤ bl_L X) (h : pv_R σ τ) (kk : ∀ σ2 τ2, pv_R σ2 τ2 → bl_I X 1619 k [] σ2 τ2) : bl_I X 1255 k [] σ τ := by
  obtain ⟨r, σ2, τ2, h1, h2, h3⟩ := pg_sheet h ((bl_xs X k 1)) ((bl_xs X k 2)) ((bl_xs X k 3))
  refine bl_ldC C dL_law_1255 ?_
  refine bl_arg C hk 1 dL_law_1256 dL_law_1257 dL_law_1258 rfl (by decide) dL_law_1259 dL_law_1260 ?_
  refine bl_arg C hk 2 dL_law_1261 dL_law_1262 dL_law_1263 rfl (by decide) dL_law_1264 dL_law_1265 ?_
  refine bl_arg C hk 3 dL_law_1266 dL_law_1267 dL_law_1268 rfl (by decide) dL_law_1269 dL_law_1270 ?_
  refine bl_callC (mj := mX7_sheet) C [.int (bl_xs X k 1), .int (bl_xs X k 2), .int (bl_xs X k 3)] [] dL_law_1271 tl_134 cm_X7_sheet cv_X7_sheet rfl rfl rfl rfl rfl (qX7_sheet _ _ _ _ σ _ h1) rfl rfl ?_
  refine bl_ldM C dL_law_1274 ?_
  refine bl_arg C hk 1 dL_law_1275 dL_law_1276 dL_law_1277 rfl (by decide) dL_law_1278 dL_law_1279 ?_
  refine bl_arg C hk 2 dL_law_1280 dL_law_1281 dL_law_1282 rfl (by decide) dL_law_1283 dL_law_1284 ?_
  refine bl_arg C hk 3 dL_law_1285 dL_law_1286 dL_law_1287 rfl (by decide) dL_law_1288 dL_law_1289 ?_
  refine bl_callM (mj := mX8_sheet) C [.int (bl_xs X k 1), .int (bl_xs X k 2), .int (bl_xs X k 3)] [.int r] dL_law_1290 tl_137 cm_X8_sheet cv_X8_sheet rfl rfl rfl rfl rfl (qX8_sheet _ _ _ _ τ _ h2) rfl rfl ?_
  exact bl_same C dL_law_1293 rfl (kk σ2 τ2 h3)
theorem bl_k30 {X : bl_T} {k : Nat} {σ τ : js_S} (C : bl_C X) (hk : k + 6 ≤ bl_L X) (h : pv_R σ τ) (kk : ∀ σ2 τ2, pv_R σ2 τ2 → bl_I X 1619 k [] σ2 τ2) : bl_I X 1298 k [] σ τ := by
  obtain ⟨r, σ2, τ2, h1, h2, h3⟩ := pg_write h ((bl_xs X k 1)) ((bl_xs X k 2)) ((bl_lg (bl_xs X k 3) (bl_xs X k 4)))
  refine bl_ldC C dL_law_1298 ?_
  refine bl_arg C hk 1 dL_law_1299 dL_law_1300 dL_law_1301 rfl (by decide) dL_law_1302 dL_law_1303 ?_
  refine bl_arg C hk 2 dL_law_1304 dL_law_1305 dL_law_1306 rfl (by decide) dL_law_1307 dL_law_1308 ?_
  refine bl_arg C hk 3 dL_law_1309 dL_law_1310 dL_law_1311 rfl (by decide) dL_law_1312 dL_law_1313 ?_
  refine bl_i2l C dL_law_1314 ?_
  refine bl_shl C dL_law_1315 dL_law_1317 ?_
  refine bl_arg C hk 4 dL_law_1318 dL_law_1319 dL_law_1320 rfl (by decide) dL_law_1321 dL_law_1322 ?_
  refine bl_i2l C dL_law_1323 ?_
  refine bl_low C dL_law_1324 tl_c dL_law_1327 dL_law_1328 ?_
  refine bl_callC (mj := mX7_write) C [.int (bl_xs X k 1), .int (bl_xs X k 2), .long (bl_lg (bl_xs X k 3) (bl_xs X k 4))] [] dL_law_1329 tl_140 cm_X7_write cv_X7_write rfl rfl rfl rfl rfl (qX7_write _ _ _ _ σ _ h1) rfl rfl ?_
  refine bl_ldM C dL_law_1332 ?_
  refine bl_arg C hk 1 dL_law_1333 dL_law_1334 dL_law_1335 rfl (by decide) dL_law_1336 dL_law_1337 ?_
  refine bl_arg C hk 2 dL_law_1338 dL_law_1339 dL_law_1340 rfl (by decide) dL_law_1341 dL_law_1342 ?_
  refine bl_arg C hk 3 dL_law_1343 dL_law_1344 dL_law_1345 rfl (by decide) dL_law_1346 dL_law_1347 ?_
  refine bl_i2l C dL_law_1348 ?_
  refine bl_shl C dL_law_1349 dL_law_1351 ?_
  refine bl_arg C hk 4 dL_law_1352 dL_law_1353 dL_law_1354 rfl (by decide) dL_law_1355 dL_law_1356 ?_
  refine bl_i2l C dL_law_1357 ?_
  refine bl_low C dL_law_1358 tl_c dL_law_1361 dL_law_1362 ?_
  refine bl_callM (mj := mX8_write) C [.int (bl_xs X k 1), .int (bl_xs X k 2), .long (bl_lg (bl_xs X k 3) (bl_xs X k 4))] [.long r] dL_law_1363 tl_144 cm_X8_write cv_X8_write rfl rfl rfl rfl rfl (qX8_write _ _ _ _ τ _ h2) rfl rfl ?_
  exact bl_sameL C dL_law_1366 dL_law_1367 rfl (kk σ2 τ2 h3)
theorem bl_k31 {X : bl_T} {k : Nat} {σ τ : js_S} (C : bl_C X) (hk : k + 6 ≤ bl_L X) (h : pv_R σ τ) (kk : ∀ σ2 τ2, pv_R σ2 τ2 → bl_I X 1619 k [] σ2 τ2) : bl_I X 1372 k [] σ τ := by
  obtain ⟨r, σ2, τ2, h1, h2, h3⟩ := pg_copy h ((bl_xs X k 1)) ((bl_xs X k 2)) ((bl_xs X k 3)) ((bl_xs X k 4)) ((bl_xs X k 5))
  refine bl_ldC C dL_law_1372 ?_
  refine bl_arg C hk 1 dL_law_1373 dL_law_1374 dL_law_1375 rfl (by decide) dL_law_1376 dL_law_1377 ?_
  refine bl_arg C hk 2 dL_law_1378 dL_law_1379 dL_law_1380 rfl (by decide) dL_law_1381 dL_law_1382 ?_
  refine bl_arg C hk 3 dL_law_1383 dL_law_1384 dL_law_1385 rfl (by decide) dL_law_1386 dL_law_1387 ?_
  refine bl_arg C hk 4 dL_law_1388 dL_law_1389 dL_law_1390 rfl (by decide) dL_law_1391 dL_law_1392 ?_
  refine bl_arg C hk 5 dL_law_1393 dL_law_1394 dL_law_1395 rfl (by decide) dL_law_1396 dL_law_1397 ?_
  refine bl_callC (mj := mX7_copy) C [.int (bl_xs X k 1), .int (bl_xs X k 2), .int (bl_xs X k 3), .int (bl_xs X k 4), .int (bl_xs X k 5)] [] dL_law_1398 tl_145 cm_X7_copy cv_X7_copy rfl rfl rfl rfl rfl (qX7_copy _ _ _ _ _ _ σ _ h1) rfl rfl ?_
  refine bl_ldM C dL_law_1401 ?_
  refine bl_arg C hk 1 dL_law_1402 dL_law_1403 dL_law_1404 rfl (by decide) dL_law_1405 dL_law_1406 ?_
  refine bl_arg C hk 2 dL_law_1407 dL_law_1408 dL_law_1409 rfl (by decide) dL_law_1410 dL_law_1411 ?_
  refine bl_arg C hk 3 dL_law_1412 dL_law_1413 dL_law_1414 rfl (by decide) dL_law_1415 dL_law_1416 ?_
  refine bl_arg C hk 4 dL_law_1417 dL_law_1418 dL_law_1419 rfl (by decide) dL_law_1420 dL_law_1421 ?_
  refine bl_arg C hk 5 dL_law_1422 dL_law_1423 dL_law_1424 rfl (by decide) dL_law_1425 dL_law_1426 ?_
  refine bl_callM (mj := mX8_copy) C [.int (bl_xs X k 1), .int (bl_xs X k 2), .int (bl_xs X k 3), .int (bl_xs X k 4), .int (bl_xs X k 5)] [.int r] dL_law_1427 tl_149 cm_X8_copy cv_X8_copy rfl rfl rfl rfl rfl (qX8_copy _ _ _ _ _ _ τ _ h2) rfl rfl ?_
  exact bl_same C dL_law_1430 rfl (kk σ2 τ2 h3)
theorem bl_k32 {X : bl_T} {k : Nat} {σ τ : js_S} (C : bl_C X) (hk : k + 6 ≤ bl_L X) (h : pv_R σ τ) (kk : ∀ σ2 τ2, pv_R σ2 τ2 → bl_I X 1619 k [] σ2 τ2) : bl_I X 1435 k [] σ τ := by
  obtain ⟨r, σ2, τ2, h1, h2, h3⟩ := pg_lays h ((bl_xs X k 1)) ((bl_xs X k 2))
  refine bl_ldC C dL_law_1435 ?_
  refine bl_arg C hk 1 dL_law_1436 dL_law_1437 dL_law_1438 rfl (by decide) dL_law_1439 dL_law_1440 ?_
  refine bl_arg C hk 2 dL_law_1441 dL_law_1442 dL_law_1443 rfl (by decide) dL_law_1444 dL_law_1445 ?_
  refine bl_callC (mj := mX7_lays) C [.int (bl_xs X k 1), .int (bl_xs X k 2)] [] dL_law_1446 tl_150 cm_X7_lays cv_X7_lays rfl rfl rfl rfl rfl (qX7_lays _ _ _ σ _ h1) rfl rfl ?_
  refine bl_ldM C dL_law_1449 ?_
  refine bl_arg C hk 1 dL_law_1450 dL_law_1451 dL_law_1452 rfl (by decide) dL_law_1453 dL_law_1454 ?_
  refine bl_arg C hk 2 dL_law_1455 dL_law_1456 dL_law_1457 rfl (by decide) dL_law_1458 dL_law_1459 ?_
  refine bl_callM (mj := mX8_lays) C [.int (bl_xs X k 1), .int (bl_xs X k 2)] [.int r] dL_law_1460 tl_153 cm_X8_lays cv_X8_lays rfl rfl rfl rfl rfl (qX8_lays _ _ _ τ _ h2) rfl rfl ?_
  exact bl_same C dL_law_1463 rfl (kk σ2 τ2 h3)
theorem bl_k33 {X : bl_T} {k : Nat} {σ τ : js_S} (C : bl_C X) (hk : k + 6 ≤ bl_L X) (h : pv_R σ τ) (kk : ∀ σ2 τ2, pv_R σ2 τ2 → bl_I X 1619 k [] σ2 τ2) : bl_I X 1468 k [] σ τ := by
  obtain ⟨r, σ2, τ2, h1, h2, h3⟩ := pg_book h ((bl_xs X k 1)) ((bl_xs X k 2))
  refine bl_ldC C dL_law_1468 ?_
  refine bl_arg C hk 1 dL_law_1469 dL_law_1470 dL_law_1471 rfl (by decide) dL_law_1472 dL_law_1473 ?_
  refine bl_arg C hk 2 dL_law_1474 dL_law_1475 dL_law_1476 rfl (by decide) dL_law_1477 dL_law_1478 ?_
  refine bl_callC (mj := mX7_book) C [.int (bl_xs X k 1), .int (bl_xs X k 2)] [] dL_law_1479 tl_154 cm_X7_book cv_X7_book rfl rfl rfl rfl rfl (qX7_book _ _ _ σ _ h1) rfl rfl ?_
  refine bl_ldM C dL_law_1482 ?_
  refine bl_arg C hk 1 dL_law_1483 dL_law_1484 dL_law_1485 rfl (by decide) dL_law_1486 dL_law_1487 ?_
  refine bl_arg C hk 2 dL_law_1488 dL_law_1489 dL_law_1490 rfl (by decide) dL_law_1491 dL_law_1492 ?_
  refine bl_callM (mj := mX8_book) C [.int (bl_xs X k 1), .int (bl_xs X k 2)] [.int r] dL_law_1493 tl_157 cm_X8_book cv_X8_book rfl rfl rfl rfl rfl (qX8_book _ _ _ τ _ h2) rfl rfl ?_
  exact bl_same C dL_law_1496 rfl (kk σ2 τ2 h3)
theorem bl_k34 {X : bl_T} {k : Nat} {σ τ : js_S} (C : bl_C X) (hk : k + 6 ≤ bl_L X) (h : pv_R σ τ) (kk : ∀ σ2 τ2, pv_R σ2 τ2 → bl_I X 1619 k [] σ2 τ2) : bl_I X 1501 k [] σ τ := by
  obtain ⟨r, σ2, τ2, h1, h2, h3⟩ := pg_read h ((bl_xs X k 1)) ((bl_xs X k 2))
  refine bl_ldC C dL_law_1501 ?_
  refine bl_arg C hk 1 dL_law_1502 dL_law_1503 dL_law_1504 rfl (by decide) dL_law_1505 dL_law_1506 ?_
  refine bl_arg C hk 2 dL_law_1507 dL_law_1508 dL_law_1509 rfl (by decide) dL_law_1510 dL_law_1511 ?_
  refine bl_callC (mj := mX7_read) C [.int (bl_xs X k 1), .int (bl_xs X k 2)] [] dL_law_1512 tl_158 cm_X7_read cv_X7_read rfl rfl rfl rfl rfl (qX7_read _ _ _ σ _ h1) rfl rfl ?_
  refine bl_ldM C dL_law_1515 ?_
  refine bl_arg C hk 1 dL_law_1516 dL_law_1517 dL_law_1518 rfl (by decide) dL_law_1519 dL_law_1520 ?_
  refine bl_arg C hk 2 dL_law_1521 dL_law_1522 dL_law_1523 rfl (by decide) dL_law_1524 dL_law_1525 ?_
  refine bl_callM (mj := mX8_read) C [.int (bl_xs X k 1), .int (bl_xs X k 2)] [.int r] dL_law_1526 tl_161 cm_X8_read cv_X8_read rfl rfl rfl rfl rfl (qX8_read _ _ _ τ _ h2) rfl rfl ?_
  exact bl_same C dL_law_1529 rfl (kk σ2 τ2 h3)
theorem bl_k35 {X : bl_T} {k : Nat} {σ τ : js_S} (C : bl_C X) (h : pv_R σ τ) (kk : ∀ σ2 τ2, pv_R σ2 τ2 → bl_I X 1619 k [] σ2 τ2) : bl_I X 1534 k [] σ τ := by
  obtain ⟨r, σ2, τ2, h1, h2, h3⟩ := pg_image h 
  refine bl_ldC C dL_law_1534 ?_
  refine bl_callC (mj := mX7_image) C [] [] dL_law_1535 tl_162 cm_X7_image cv_X7_image rfl rfl rfl rfl rfl (qX7_image _  σ _ h1) rfl rfl ?_
  refine bl_ldM C dL_law_1538 ?_
  refine bl_callM (mj := mX8_image) C [] [.int r] dL_law_1539 tl_165 cm_X8_image cv_X8_image rfl rfl rfl rfl rfl (qX8_image _  τ _ h2) rfl rfl ?_
  exact bl_same C dL_law_1542 rfl (kk σ2 τ2 h3)
theorem bl_k36 {X : bl_T} {k : Nat} {σ τ : js_S} (C : bl_C X) (h : pv_R σ τ) (kk : ∀ σ2 τ2, pv_R σ2 τ2 → bl_I X 1619 k [] σ2 τ2) : bl_I X 1547 k [] σ τ := by
  obtain ⟨r, σ2, τ2, h1, h2, h3⟩ := pg_undo h 
  refine bl_ldC C dL_law_1547 ?_
  refine bl_callC (mj := mX7_undo) C [] [] dL_law_1548 tl_166 cm_X7_undo cv_X7_undo rfl rfl rfl rfl rfl (qX7_undo _  σ _ h1) rfl rfl ?_
  refine bl_ldM C dL_law_1551 ?_
  refine bl_callM (mj := mX8_undo) C [] [.int r] dL_law_1552 tl_169 cm_X8_undo cv_X8_undo rfl rfl rfl rfl rfl (qX8_undo _  τ _ h2) rfl rfl ?_
  exact bl_same C dL_law_1555 rfl (kk σ2 τ2 h3)
theorem bl_k37 {X : bl_T} {k : Nat} {σ τ : js_S} (C : bl_C X) (h : pv_R σ τ) (kk : ∀ σ2 τ2, pv_R σ2 τ2 → bl_I X 1619 k [] σ2 τ2) : bl_I X 1560 k [] σ τ := by
  obtain ⟨r, σ2, τ2, h1, h2, h3⟩ := pg_tear h 
  refine bl_ldC C dL_law_1560 ?_
  refine bl_callC (mj := mX7_tear) C [] [] dL_law_1561 tl_170 cm_X7_tear cv_X7_tear rfl rfl rfl rfl rfl (qX7_tear _  σ _ h1) rfl rfl ?_
  refine bl_ldM C dL_law_1564 ?_
  refine bl_callM (mj := mX8_tear) C [] [.int r] dL_law_1565 tl_173 cm_X8_tear cv_X8_tear rfl rfl rfl rfl rfl (qX8_tear _  τ _ h2) rfl rfl ?_
  exact bl_same C dL_law_1568 rfl (kk σ2 τ2 h3)
theorem bl_k38 {X : bl_T} {k : Nat} {σ τ : js_S} (C : bl_C X) (hk : k + 6 ≤ bl_L X) (h : pv_R σ τ) (kk : ∀ σ2 τ2, pv_R σ2 τ2 → bl_I X 1619 k [] σ2 τ2) : bl_I X 1573 k [] σ τ := by
  obtain ⟨r, σ2, τ2, h1, h2, h3⟩ := pg_count h ((bl_xs X k 1))
  refine bl_ldC C dL_law_1573 ?_
  refine bl_arg C hk 1 dL_law_1574 dL_law_1575 dL_law_1576 rfl (by decide) dL_law_1577 dL_law_1578 ?_
  refine bl_callC (mj := mX7_count) C [.int (bl_xs X k 1)] [] dL_law_1579 tl_174 cm_X7_count cv_X7_count rfl rfl rfl rfl rfl (qX7_count _ _ σ _ h1) rfl rfl ?_
  refine bl_ldM C dL_law_1582 ?_
  refine bl_arg C hk 1 dL_law_1583 dL_law_1584 dL_law_1585 rfl (by decide) dL_law_1586 dL_law_1587 ?_
  refine bl_callM (mj := mX8_count) C [.int (bl_xs X k 1)] [.int r] dL_law_1588 tl_177 cm_X8_count cv_X8_count rfl rfl rfl rfl rfl (qX8_count _ _ τ _ h2) rfl rfl ?_
  exact bl_same C dL_law_1591 rfl (kk σ2 τ2 h3)
theorem bl_k39 {X : bl_T} {k : Nat} {σ τ : js_S} (C : bl_C X) (hk : k + 6 ≤ bl_L X) (h : pv_R σ τ) (kk : ∀ σ2 τ2, pv_R σ2 τ2 → bl_I X 1619 k [] σ2 τ2) : bl_I X 1596 k [] σ τ := by
  obtain ⟨r, σ2, τ2, h1, h2, h3⟩ := pg_status h ((bl_xs X k 1))
  refine bl_ldC C dL_law_1596 ?_
  refine bl_arg C hk 1 dL_law_1597 dL_law_1598 dL_law_1599 rfl (by decide) dL_law_1600 dL_law_1601 ?_
  refine bl_callC (mj := mX7_status) C [.int (bl_xs X k 1)] [] dL_law_1602 tl_178 cm_X7_status cv_X7_status rfl rfl rfl rfl rfl (qX7_status _ _ σ _ h1) rfl rfl ?_
  refine bl_ldM C dL_law_1605 ?_
  refine bl_arg C hk 1 dL_law_1606 dL_law_1607 dL_law_1608 rfl (by decide) dL_law_1609 dL_law_1610 ?_
  refine bl_callM (mj := mX8_status) C [.int (bl_xs X k 1)] [.int r] dL_law_1611 tl_181 cm_X8_status cv_X8_status rfl rfl rfl rfl rfl (qX8_status _ _ τ _ h2) rfl rfl ?_
  exact bl_same C dL_law_1614 rfl (kk σ2 τ2 h3)
