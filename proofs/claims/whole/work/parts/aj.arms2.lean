section ARM
variable {h : eg_H} {σ : eg_S} {tm i L g : Nat} {xs : Nat → Int32} {nm : String}
theorem arm_19 (LL : LI h σ B00 tm) (ht : tm < 1000) (hi : i + 6 ≤ L) (hL : L ≤ 3072) (kk : ∀ (h' : eg_H) (σ' : eg_S), LI h' σ' B00 (tm + 1) → eg_AW (RLw, cL_law, 7, 460, some (L, xs, g), nm, ret) lz_Z 3000 70000 h00 2717 [(4, .int (nI i)), (3, .ref 94), (2, .ref 54), (1, .ref 16), (0, .ref 0)] [] h') : eg_AW (RLw, cL_law, 7, 460, some (L, xs, g), nm, ret) lz_Z 3000 70000 h00 1162 [(4, .int (nI i)), (3, .ref 94), (2, .ref 54), (1, .ref 16), (0, .ref 0)] [] h := by
  have ld1 := ld_1 hi hL
  have ld2 := ld_2 hi hL
  refine eg_aload_n (i := 1) 3 dL_law_1162 rfl rfl ?_
  refine eg_aload_n (i := 0) 4 dL_law_1163 rfl rfl ?_
  refine eg_iload (i := 4) 0 dL_law_1164 rfl ?_
  refine eg_iconst (v := (1 : Int32)) dL_law_1166 (by decide) ?_
  refine eg_iadd dL_law_1167 ?_
  refine eg_sld dL_law_1168 ld1 ?_
  refine eg_aload_n (i := 0) 4 dL_law_1169 rfl rfl ?_
  refine eg_iload (i := 4) 0 dL_law_1170 rfl ?_
  refine eg_iconst (v := (2 : Int32)) dL_law_1172 (by decide) ?_
  refine eg_iadd dL_law_1173 ?_
  refine eg_sld dL_law_1174 ld2 ?_
  obtain ⟨h1, h2, e1, e2, LN⟩ := L_strong LL (xs ((nI i) + (1 : Int32)).toNatClampNeg) (xs ((nI i) + (2 : Int32)).toNatClampNeg)
  refine eg_callV (c := 12) (n := 2) [.int ((xs ((nI i) + (1 : Int32)).toNatClampNeg)), .int ((xs ((nI i) + (2 : Int32)).toNatClampNeg))] dL_law_1175 (mX12_strong e1) rfl (fX12_strong_O e1) (Nat.le_of_ble_eq_true rfl) rfl ew_1250 ew_1251 ew_1252 ew_100 ew_1253 hy_X12_strong rfl (Nat.le_of_ble_eq_true rfl) (Nat.le_of_ble_eq_true rfl) (Nat.le_of_ble_eq_true rfl) ?_
  refine eg_aload_n (i := 2) 2 dL_law_1178 rfl rfl ?_
  refine eg_aload_n (i := 0) 4 dL_law_1179 rfl rfl ?_
  refine eg_iload (i := 4) 0 dL_law_1180 rfl ?_
  refine eg_iconst (v := (1 : Int32)) dL_law_1182 (by decide) ?_
  refine eg_iadd dL_law_1183 ?_
  refine eg_sld dL_law_1184 ld1 ?_
  refine eg_aload_n (i := 0) 4 dL_law_1185 rfl rfl ?_
  refine eg_iload (i := 4) 0 dL_law_1186 rfl ?_
  refine eg_iconst (v := (2 : Int32)) dL_law_1188 (by decide) ?_
  refine eg_iadd dL_law_1189 ?_
  refine eg_sld dL_law_1190 ld2 ?_
  refine eg_callV (c := 13) (n := 2) [.int ((xs ((nI i) + (1 : Int32)).toNatClampNeg)), .int ((xs ((nI i) + (2 : Int32)).toNatClampNeg))] dL_law_1191 (mX13_strong e2) rfl (fX13_strong_O e2) (Nat.le_of_ble_eq_true rfl) rfl ew_2016 ew_2017 ew_2018 ew_110 ew_2019 hy_X13_strong rfl (Nat.le_of_ble_eq_true rfl) (Nat.le_of_ble_eq_true rfl) (Nat.le_of_ble_eq_true rfl) ?_
  refine eg_ic_eq 2717 dL_law_1194 rfl (fun _ => ?_) (fun z => absurd rfl z)
  exact kk _ _ LN
theorem arm_20 (LL : LI h σ B00 tm) (ht : tm < 1000) (hi : i + 6 ≤ L) (hL : L ≤ 3072) (kk : ∀ (h' : eg_H) (σ' : eg_S), LI h' σ' B00 (tm + 1) → eg_AW (RLw, cL_law, 7, 460, some (L, xs, g), nm, ret) lz_Z 3000 70000 h00 2717 [(4, .int (nI i)), (3, .ref 94), (2, .ref 54), (1, .ref 16), (0, .ref 0)] [] h') : eg_AW (RLw, cL_law, 7, 460, some (L, xs, g), nm, ret) lz_Z 3000 70000 h00 1199 [(4, .int (nI i)), (3, .ref 94), (2, .ref 54), (1, .ref 16), (0, .ref 0)] [] h := by
  have ld1 := ld_1 hi hL
  have ld2 := ld_2 hi hL
  have ld3 := ld_3 hi hL
  have ld4 := ld_4 hi hL
  have ld5 := ld_5 hi hL
  refine eg_aload_n (i := 1) 3 dL_law_1199 rfl rfl ?_
  refine eg_aload_n (i := 0) 4 dL_law_1200 rfl rfl ?_
  refine eg_iload (i := 4) 0 dL_law_1201 rfl ?_
  refine eg_iconst (v := (1 : Int32)) dL_law_1203 (by decide) ?_
  refine eg_iadd dL_law_1204 ?_
  refine eg_sld dL_law_1205 ld1 ?_
  refine eg_aload_n (i := 0) 4 dL_law_1206 rfl rfl ?_
  refine eg_iload (i := 4) 0 dL_law_1207 rfl ?_
  refine eg_iconst (v := (2 : Int32)) dL_law_1209 (by decide) ?_
  refine eg_iadd dL_law_1210 ?_
  refine eg_sld dL_law_1211 ld2 ?_
  refine eg_aload_n (i := 0) 4 dL_law_1212 rfl rfl ?_
  refine eg_iload (i := 4) 0 dL_law_1213 rfl ?_
  refine eg_iconst (v := (3 : Int32)) dL_law_1215 (by decide) ?_
  refine eg_iadd dL_law_1216 ?_
  refine eg_sld dL_law_1217 ld3 ?_
  refine eg_aload_n (i := 0) 4 dL_law_1218 rfl rfl ?_
  refine eg_iload (i := 4) 0 dL_law_1219 rfl ?_
  refine eg_iconst (v := (4 : Int32)) dL_law_1221 (by decide) ?_
  refine eg_iadd dL_law_1222 ?_
  refine eg_sld dL_law_1223 ld4 ?_
  refine eg_aload_n (i := 0) 4 dL_law_1224 rfl rfl ?_
  refine eg_iload (i := 4) 0 dL_law_1225 rfl ?_
  refine eg_iconst (v := (5 : Int32)) dL_law_1227 (by decide) ?_
  refine eg_iadd dL_law_1228 ?_
  refine eg_sld dL_law_1229 ld5 ?_
  obtain ⟨h1, h2, e1, e2, LN⟩ := L_arms LL (xs ((nI i) + (1 : Int32)).toNatClampNeg) (xs ((nI i) + (2 : Int32)).toNatClampNeg) (xs ((nI i) + (3 : Int32)).toNatClampNeg) (xs ((nI i) + (4 : Int32)).toNatClampNeg) (xs ((nI i) + (5 : Int32)).toNatClampNeg)
  refine eg_callV (c := 12) (n := 5) [.int ((xs ((nI i) + (1 : Int32)).toNatClampNeg)), .int ((xs ((nI i) + (2 : Int32)).toNatClampNeg)), .int ((xs ((nI i) + (3 : Int32)).toNatClampNeg)), .int ((xs ((nI i) + (4 : Int32)).toNatClampNeg)), .int ((xs ((nI i) + (5 : Int32)).toNatClampNeg))] dL_law_1230 (mX12_arms e1) rfl (fX12_arms_O e1) (Nat.le_of_ble_eq_true rfl) rfl ew_881 ew_882 ew_883 ew_100 ew_884 hy_X12_arms rfl (Nat.le_of_ble_eq_true rfl) (Nat.le_of_ble_eq_true rfl) (Nat.le_of_ble_eq_true rfl) ?_
  refine eg_aload_n (i := 2) 2 dL_law_1233 rfl rfl ?_
  refine eg_aload_n (i := 0) 4 dL_law_1234 rfl rfl ?_
  refine eg_iload (i := 4) 0 dL_law_1235 rfl ?_
  refine eg_iconst (v := (1 : Int32)) dL_law_1237 (by decide) ?_
  refine eg_iadd dL_law_1238 ?_
  refine eg_sld dL_law_1239 ld1 ?_
  refine eg_aload_n (i := 0) 4 dL_law_1240 rfl rfl ?_
  refine eg_iload (i := 4) 0 dL_law_1241 rfl ?_
  refine eg_iconst (v := (2 : Int32)) dL_law_1243 (by decide) ?_
  refine eg_iadd dL_law_1244 ?_
  refine eg_sld dL_law_1245 ld2 ?_
  refine eg_aload_n (i := 0) 4 dL_law_1246 rfl rfl ?_
  refine eg_iload (i := 4) 0 dL_law_1247 rfl ?_
  refine eg_iconst (v := (3 : Int32)) dL_law_1249 (by decide) ?_
  refine eg_iadd dL_law_1250 ?_
  refine eg_sld dL_law_1251 ld3 ?_
  refine eg_aload_n (i := 0) 4 dL_law_1252 rfl rfl ?_
  refine eg_iload (i := 4) 0 dL_law_1253 rfl ?_
  refine eg_iconst (v := (4 : Int32)) dL_law_1255 (by decide) ?_
  refine eg_iadd dL_law_1256 ?_
  refine eg_sld dL_law_1257 ld4 ?_
  refine eg_aload_n (i := 0) 4 dL_law_1258 rfl rfl ?_
  refine eg_iload (i := 4) 0 dL_law_1259 rfl ?_
  refine eg_iconst (v := (5 : Int32)) dL_law_1261 (by decide) ?_
  refine eg_iadd dL_law_1262 ?_
  refine eg_sld dL_law_1263 ld5 ?_
  refine eg_callV (c := 13) (n := 5) [.int ((xs ((nI i) + (1 : Int32)).toNatClampNeg)), .int ((xs ((nI i) + (2 : Int32)).toNatClampNeg)), .int ((xs ((nI i) + (3 : Int32)).toNatClampNeg)), .int ((xs ((nI i) + (4 : Int32)).toNatClampNeg)), .int ((xs ((nI i) + (5 : Int32)).toNatClampNeg))] dL_law_1264 (mX13_arms e2) rfl (fX13_arms_O e2) (Nat.le_of_ble_eq_true rfl) rfl ew_2020 ew_2021 ew_2022 ew_110 ew_2023 hy_X13_arms rfl (Nat.le_of_ble_eq_true rfl) (Nat.le_of_ble_eq_true rfl) (Nat.le_of_ble_eq_true rfl) ?_
  refine eg_ic_eq 2717 dL_law_1267 rfl (fun _ => ?_) (fun z => absurd rfl z)
  exact kk _ _ LN
theorem arm_21 (LL : LI h σ B00 tm) (ht : tm < 1000) (hi : i + 6 ≤ L) (hL : L ≤ 3072) (kk : ∀ (h' : eg_H) (σ' : eg_S), LI h' σ' B00 (tm + 1) → eg_AW (RLw, cL_law, 7, 460, some (L, xs, g), nm, ret) lz_Z 3000 70000 h00 2717 [(4, .int (nI i)), (3, .ref 94), (2, .ref 54), (1, .ref 16), (0, .ref 0)] [] h') : eg_AW (RLw, cL_law, 7, 460, some (L, xs, g), nm, ret) lz_Z 3000 70000 h00 1272 [(4, .int (nI i)), (3, .ref 94), (2, .ref 54), (1, .ref 16), (0, .ref 0)] [] h := by
  have ld1 := ld_1 hi hL
  have ld2 := ld_2 hi hL
  have ld3 := ld_3 hi hL
  have ld4 := ld_4 hi hL
  have ld5 := ld_5 hi hL
  refine eg_aload_n (i := 1) 3 dL_law_1272 rfl rfl ?_
  refine eg_aload_n (i := 0) 4 dL_law_1273 rfl rfl ?_
  refine eg_iload (i := 4) 0 dL_law_1274 rfl ?_
  refine eg_iconst (v := (1 : Int32)) dL_law_1276 (by decide) ?_
  refine eg_iadd dL_law_1277 ?_
  refine eg_sld dL_law_1278 ld1 ?_
  refine eg_aload_n (i := 0) 4 dL_law_1279 rfl rfl ?_
  refine eg_iload (i := 4) 0 dL_law_1280 rfl ?_
  refine eg_iconst (v := (2 : Int32)) dL_law_1282 (by decide) ?_
  refine eg_iadd dL_law_1283 ?_
  refine eg_sld dL_law_1284 ld2 ?_
  refine eg_aload_n (i := 0) 4 dL_law_1285 rfl rfl ?_
  refine eg_iload (i := 4) 0 dL_law_1286 rfl ?_
  refine eg_iconst (v := (3 : Int32)) dL_law_1288 (by decide) ?_
  refine eg_iadd dL_law_1289 ?_
  refine eg_sld dL_law_1290 ld3 ?_
  refine eg_aload_n (i := 0) 4 dL_law_1291 rfl rfl ?_
  refine eg_iload (i := 4) 0 dL_law_1292 rfl ?_
  refine eg_iconst (v := (4 : Int32)) dL_law_1294 (by decide) ?_
  refine eg_iadd dL_law_1295 ?_
  refine eg_sld dL_law_1296 ld4 ?_
  refine eg_aload_n (i := 0) 4 dL_law_1297 rfl rfl ?_
  refine eg_iload (i := 4) 0 dL_law_1298 rfl ?_
  refine eg_iconst (v := (5 : Int32)) dL_law_1300 (by decide) ?_
  refine eg_iadd dL_law_1301 ?_
  refine eg_sld dL_law_1302 ld5 ?_
  obtain ⟨h1, h2, e1, e2, LN⟩ := L_bold LL (xs ((nI i) + (1 : Int32)).toNatClampNeg) (xs ((nI i) + (2 : Int32)).toNatClampNeg) (xs ((nI i) + (3 : Int32)).toNatClampNeg) (xs ((nI i) + (4 : Int32)).toNatClampNeg) (xs ((nI i) + (5 : Int32)).toNatClampNeg)
  refine eg_callV (c := 12) (n := 5) [.int ((xs ((nI i) + (1 : Int32)).toNatClampNeg)), .int ((xs ((nI i) + (2 : Int32)).toNatClampNeg)), .int ((xs ((nI i) + (3 : Int32)).toNatClampNeg)), .int ((xs ((nI i) + (4 : Int32)).toNatClampNeg)), .int ((xs ((nI i) + (5 : Int32)).toNatClampNeg))] dL_law_1303 (mX12_bold e1) rfl (fX12_bold_O e1) (Nat.le_of_ble_eq_true rfl) rfl ew_1110 ew_1111 ew_1112 ew_100 ew_1113 hy_X12_bold rfl (Nat.le_of_ble_eq_true rfl) (Nat.le_of_ble_eq_true rfl) (Nat.le_of_ble_eq_true rfl) ?_
  refine eg_aload_n (i := 2) 2 dL_law_1306 rfl rfl ?_
  refine eg_aload_n (i := 0) 4 dL_law_1307 rfl rfl ?_
  refine eg_iload (i := 4) 0 dL_law_1308 rfl ?_
  refine eg_iconst (v := (1 : Int32)) dL_law_1310 (by decide) ?_
  refine eg_iadd dL_law_1311 ?_
  refine eg_sld dL_law_1312 ld1 ?_
  refine eg_aload_n (i := 0) 4 dL_law_1313 rfl rfl ?_
  refine eg_iload (i := 4) 0 dL_law_1314 rfl ?_
  refine eg_iconst (v := (2 : Int32)) dL_law_1316 (by decide) ?_
  refine eg_iadd dL_law_1317 ?_
  refine eg_sld dL_law_1318 ld2 ?_
  refine eg_aload_n (i := 0) 4 dL_law_1319 rfl rfl ?_
  refine eg_iload (i := 4) 0 dL_law_1320 rfl ?_
  refine eg_iconst (v := (3 : Int32)) dL_law_1322 (by decide) ?_
  refine eg_iadd dL_law_1323 ?_
  refine eg_sld dL_law_1324 ld3 ?_
  refine eg_aload_n (i := 0) 4 dL_law_1325 rfl rfl ?_
  refine eg_iload (i := 4) 0 dL_law_1326 rfl ?_
  refine eg_iconst (v := (4 : Int32)) dL_law_1328 (by decide) ?_
  refine eg_iadd dL_law_1329 ?_
  refine eg_sld dL_law_1330 ld4 ?_
  refine eg_aload_n (i := 0) 4 dL_law_1331 rfl rfl ?_
  refine eg_iload (i := 4) 0 dL_law_1332 rfl ?_
  refine eg_iconst (v := (5 : Int32)) dL_law_1334 (by decide) ?_
  refine eg_iadd dL_law_1335 ?_
  refine eg_sld dL_law_1336 ld5 ?_
  refine eg_callV (c := 13) (n := 5) [.int ((xs ((nI i) + (1 : Int32)).toNatClampNeg)), .int ((xs ((nI i) + (2 : Int32)).toNatClampNeg)), .int ((xs ((nI i) + (3 : Int32)).toNatClampNeg)), .int ((xs ((nI i) + (4 : Int32)).toNatClampNeg)), .int ((xs ((nI i) + (5 : Int32)).toNatClampNeg))] dL_law_1337 (mX13_bold e2) rfl (fX13_bold_O e2) (Nat.le_of_ble_eq_true rfl) rfl ew_2025 ew_2026 ew_2027 ew_110 ew_2028 hy_X13_bold rfl (Nat.le_of_ble_eq_true rfl) (Nat.le_of_ble_eq_true rfl) (Nat.le_of_ble_eq_true rfl) ?_
  refine eg_ic_eq 2717 dL_law_1340 rfl (fun _ => ?_) (fun z => absurd rfl z)
  exact kk _ _ LN
theorem arm_22 (LL : LI h σ B00 tm) (ht : tm < 1000) (hi : i + 6 ≤ L) (hL : L ≤ 3072) (kk : ∀ (h' : eg_H) (σ' : eg_S), LI h' σ' B00 (tm + 1) → eg_AW (RLw, cL_law, 7, 460, some (L, xs, g), nm, ret) lz_Z 3000 70000 h00 2717 [(4, .int (nI i)), (3, .ref 94), (2, .ref 54), (1, .ref 16), (0, .ref 0)] [] h') : eg_AW (RLw, cL_law, 7, 460, some (L, xs, g), nm, ret) lz_Z 3000 70000 h00 1345 [(4, .int (nI i)), (3, .ref 94), (2, .ref 54), (1, .ref 16), (0, .ref 0)] [] h := by
  have ld1 := ld_1 hi hL
  have ld2 := ld_2 hi hL
  have ld3 := ld_3 hi hL
  have ld4 := ld_4 hi hL
  refine eg_aload_n (i := 1) 3 dL_law_1345 rfl rfl ?_
  refine eg_aload_n (i := 0) 4 dL_law_1346 rfl rfl ?_
  refine eg_iload (i := 4) 0 dL_law_1347 rfl ?_
  refine eg_iconst (v := (1 : Int32)) dL_law_1349 (by decide) ?_
  refine eg_iadd dL_law_1350 ?_
  refine eg_sld dL_law_1351 ld1 ?_
  refine eg_aload_n (i := 0) 4 dL_law_1352 rfl rfl ?_
  refine eg_iload (i := 4) 0 dL_law_1353 rfl ?_
  refine eg_iconst (v := (2 : Int32)) dL_law_1355 (by decide) ?_
  refine eg_iadd dL_law_1356 ?_
  refine eg_sld dL_law_1357 ld2 ?_
  refine eg_aload_n (i := 0) 4 dL_law_1358 rfl rfl ?_
  refine eg_iload (i := 4) 0 dL_law_1359 rfl ?_
  refine eg_iconst (v := (3 : Int32)) dL_law_1361 (by decide) ?_
  refine eg_iadd dL_law_1362 ?_
  refine eg_sld dL_law_1363 ld3 ?_
  refine eg_aload_n (i := 0) 4 dL_law_1364 rfl rfl ?_
  refine eg_iload (i := 4) 0 dL_law_1365 rfl ?_
  refine eg_iconst (v := (4 : Int32)) dL_law_1367 (by decide) ?_
  refine eg_iadd dL_law_1368 ?_
  refine eg_sld dL_law_1369 ld4 ?_
  obtain ⟨h1, h2, e1, e2, LN⟩ := L_duel LL (xs ((nI i) + (1 : Int32)).toNatClampNeg) (xs ((nI i) + (2 : Int32)).toNatClampNeg) (xs ((nI i) + (3 : Int32)).toNatClampNeg) (xs ((nI i) + (4 : Int32)).toNatClampNeg)
  refine eg_callV (c := 12) (n := 4) [.int ((xs ((nI i) + (1 : Int32)).toNatClampNeg)), .int ((xs ((nI i) + (2 : Int32)).toNatClampNeg)), .int ((xs ((nI i) + (3 : Int32)).toNatClampNeg)), .int ((xs ((nI i) + (4 : Int32)).toNatClampNeg))] dL_law_1370 (mX12_duel e1) rfl (fX12_duel_O e1) (Nat.le_of_ble_eq_true rfl) rfl ew_1123 ew_1124 ew_1125 ew_100 ew_1126 hy_X12_duel rfl (Nat.le_of_ble_eq_true rfl) (Nat.le_of_ble_eq_true rfl) (Nat.le_of_ble_eq_true rfl) ?_
  refine eg_aload_n (i := 2) 2 dL_law_1373 rfl rfl ?_
  refine eg_aload_n (i := 0) 4 dL_law_1374 rfl rfl ?_
  refine eg_iload (i := 4) 0 dL_law_1375 rfl ?_
  refine eg_iconst (v := (1 : Int32)) dL_law_1377 (by decide) ?_
  refine eg_iadd dL_law_1378 ?_
  refine eg_sld dL_law_1379 ld1 ?_
  refine eg_aload_n (i := 0) 4 dL_law_1380 rfl rfl ?_
  refine eg_iload (i := 4) 0 dL_law_1381 rfl ?_
  refine eg_iconst (v := (2 : Int32)) dL_law_1383 (by decide) ?_
  refine eg_iadd dL_law_1384 ?_
  refine eg_sld dL_law_1385 ld2 ?_
  refine eg_aload_n (i := 0) 4 dL_law_1386 rfl rfl ?_
  refine eg_iload (i := 4) 0 dL_law_1387 rfl ?_
  refine eg_iconst (v := (3 : Int32)) dL_law_1389 (by decide) ?_
  refine eg_iadd dL_law_1390 ?_
  refine eg_sld dL_law_1391 ld3 ?_
  refine eg_aload_n (i := 0) 4 dL_law_1392 rfl rfl ?_
  refine eg_iload (i := 4) 0 dL_law_1393 rfl ?_
  refine eg_iconst (v := (4 : Int32)) dL_law_1395 (by decide) ?_
  refine eg_iadd dL_law_1396 ?_
  refine eg_sld dL_law_1397 ld4 ?_
  refine eg_callV (c := 13) (n := 4) [.int ((xs ((nI i) + (1 : Int32)).toNatClampNeg)), .int ((xs ((nI i) + (2 : Int32)).toNatClampNeg)), .int ((xs ((nI i) + (3 : Int32)).toNatClampNeg)), .int ((xs ((nI i) + (4 : Int32)).toNatClampNeg))] dL_law_1398 (mX13_duel e2) rfl (fX13_duel_O e2) (Nat.le_of_ble_eq_true rfl) rfl ew_2033 ew_2034 ew_2035 ew_110 ew_2036 hy_X13_duel rfl (Nat.le_of_ble_eq_true rfl) (Nat.le_of_ble_eq_true rfl) (Nat.le_of_ble_eq_true rfl) ?_
  refine eg_lc_eq 2717 dL_law_1401 dL_law_1402 rfl (fun _ => ?_) (fun z => absurd rfl z)
  exact kk _ _ LN
theorem arm_23 (LL : LI h σ B00 tm) (ht : tm < 1000) (hi : i + 6 ≤ L) (hL : L ≤ 3072) (kk : ∀ (h' : eg_H) (σ' : eg_S), LI h' σ' B00 (tm + 1) → eg_AW (RLw, cL_law, 7, 460, some (L, xs, g), nm, ret) lz_Z 3000 70000 h00 2717 [(4, .int (nI i)), (3, .ref 94), (2, .ref 54), (1, .ref 16), (0, .ref 0)] [] h') : eg_AW (RLw, cL_law, 7, 460, some (L, xs, g), nm, ret) lz_Z 3000 70000 h00 1407 [(4, .int (nI i)), (3, .ref 94), (2, .ref 54), (1, .ref 16), (0, .ref 0)] [] h := by
  have ld1 := ld_1 hi hL
  have ld2 := ld_2 hi hL
  refine eg_aload_n (i := 1) 3 dL_law_1407 rfl rfl ?_
  refine eg_aload_n (i := 0) 4 dL_law_1408 rfl rfl ?_
  refine eg_iload (i := 4) 0 dL_law_1409 rfl ?_
  refine eg_iconst (v := (1 : Int32)) dL_law_1411 (by decide) ?_
  refine eg_iadd dL_law_1412 ?_
  refine eg_sld dL_law_1413 ld1 ?_
  refine eg_aload_n (i := 0) 4 dL_law_1414 rfl rfl ?_
  refine eg_iload (i := 4) 0 dL_law_1415 rfl ?_
  refine eg_iconst (v := (2 : Int32)) dL_law_1417 (by decide) ?_
  refine eg_iadd dL_law_1418 ?_
  refine eg_sld dL_law_1419 ld2 ?_
  obtain ⟨h1, h2, e1, e2, LN⟩ := L_lot LL (xs ((nI i) + (1 : Int32)).toNatClampNeg) (xs ((nI i) + (2 : Int32)).toNatClampNeg)
  refine eg_callV (c := 12) (n := 2) [.int ((xs ((nI i) + (1 : Int32)).toNatClampNeg)), .int ((xs ((nI i) + (2 : Int32)).toNatClampNeg))] dL_law_1420 (mX12_lot e1) rfl (fX12_lot_O e1) (Nat.le_of_ble_eq_true rfl) rfl ew_1004 ew_1005 ew_1006 ew_100 ew_1007 hy_X12_lot rfl (Nat.le_of_ble_eq_true rfl) (Nat.le_of_ble_eq_true rfl) (Nat.le_of_ble_eq_true rfl) ?_
  refine eg_aload_n (i := 2) 2 dL_law_1423 rfl rfl ?_
  refine eg_aload_n (i := 0) 4 dL_law_1424 rfl rfl ?_
  refine eg_iload (i := 4) 0 dL_law_1425 rfl ?_
  refine eg_iconst (v := (1 : Int32)) dL_law_1427 (by decide) ?_
  refine eg_iadd dL_law_1428 ?_
  refine eg_sld dL_law_1429 ld1 ?_
  refine eg_aload_n (i := 0) 4 dL_law_1430 rfl rfl ?_
  refine eg_iload (i := 4) 0 dL_law_1431 rfl ?_
  refine eg_iconst (v := (2 : Int32)) dL_law_1433 (by decide) ?_
  refine eg_iadd dL_law_1434 ?_
  refine eg_sld dL_law_1435 ld2 ?_
  refine eg_callV (c := 13) (n := 2) [.int ((xs ((nI i) + (1 : Int32)).toNatClampNeg)), .int ((xs ((nI i) + (2 : Int32)).toNatClampNeg))] dL_law_1436 (mX13_lot e2) rfl (fX13_lot_O e2) (Nat.le_of_ble_eq_true rfl) rfl ew_2042 ew_2043 ew_2044 ew_110 ew_2045 hy_X13_lot rfl (Nat.le_of_ble_eq_true rfl) (Nat.le_of_ble_eq_true rfl) (Nat.le_of_ble_eq_true rfl) ?_
  refine eg_lc_eq 2717 dL_law_1439 dL_law_1440 rfl (fun _ => ?_) (fun z => absurd rfl z)
  exact kk _ _ LN
theorem arm_24 (LL : LI h σ B00 tm) (ht : tm < 1000) (hi : i + 6 ≤ L) (hL : L ≤ 3072) (kk : ∀ (h' : eg_H) (σ' : eg_S), LI h' σ' B00 (tm + 1) → eg_AW (RLw, cL_law, 7, 460, some (L, xs, g), nm, ret) lz_Z 3000 70000 h00 2717 [(4, .int (nI i)), (3, .ref 94), (2, .ref 54), (1, .ref 16), (0, .ref 0)] [] h') : eg_AW (RLw, cL_law, 7, 460, some (L, xs, g), nm, ret) lz_Z 3000 70000 h00 1445 [(4, .int (nI i)), (3, .ref 94), (2, .ref 54), (1, .ref 16), (0, .ref 0)] [] h := by
  have ld1 := ld_1 hi hL
  have ld2 := ld_2 hi hL
  refine eg_aload_n (i := 1) 3 dL_law_1445 rfl rfl ?_
  refine eg_aload_n (i := 0) 4 dL_law_1446 rfl rfl ?_
  refine eg_iload (i := 4) 0 dL_law_1447 rfl ?_
  refine eg_iconst (v := (1 : Int32)) dL_law_1449 (by decide) ?_
  refine eg_iadd dL_law_1450 ?_
  refine eg_sld dL_law_1451 ld1 ?_
  refine eg_aload_n (i := 0) 4 dL_law_1452 rfl rfl ?_
  refine eg_iload (i := 4) 0 dL_law_1453 rfl ?_
  refine eg_iconst (v := (2 : Int32)) dL_law_1455 (by decide) ?_
  refine eg_iadd dL_law_1456 ?_
  refine eg_sld dL_law_1457 ld2 ?_
  obtain ⟨h1, h2, e1, e2, LN⟩ := L_safe LL (xs ((nI i) + (1 : Int32)).toNatClampNeg) (xs ((nI i) + (2 : Int32)).toNatClampNeg)
  refine eg_callV (c := 12) (n := 2) [.int ((xs ((nI i) + (1 : Int32)).toNatClampNeg)), .int ((xs ((nI i) + (2 : Int32)).toNatClampNeg))] dL_law_1458 (mX12_safe e1) rfl (fX12_safe_O e1) (Nat.le_of_ble_eq_true rfl) rfl ew_897 ew_898 ew_899 ew_100 ew_900 hy_X12_safe rfl (Nat.le_of_ble_eq_true rfl) (Nat.le_of_ble_eq_true rfl) (Nat.le_of_ble_eq_true rfl) ?_
  refine eg_aload_n (i := 2) 2 dL_law_1461 rfl rfl ?_
  refine eg_aload_n (i := 0) 4 dL_law_1462 rfl rfl ?_
  refine eg_iload (i := 4) 0 dL_law_1463 rfl ?_
  refine eg_iconst (v := (1 : Int32)) dL_law_1465 (by decide) ?_
  refine eg_iadd dL_law_1466 ?_
  refine eg_sld dL_law_1467 ld1 ?_
  refine eg_aload_n (i := 0) 4 dL_law_1468 rfl rfl ?_
  refine eg_iload (i := 4) 0 dL_law_1469 rfl ?_
  refine eg_iconst (v := (2 : Int32)) dL_law_1471 (by decide) ?_
  refine eg_iadd dL_law_1472 ?_
  refine eg_sld dL_law_1473 ld2 ?_
  refine eg_callV (c := 13) (n := 2) [.int ((xs ((nI i) + (1 : Int32)).toNatClampNeg)), .int ((xs ((nI i) + (2 : Int32)).toNatClampNeg))] dL_law_1474 (mX13_safe e2) rfl (fX13_safe_O e2) (Nat.le_of_ble_eq_true rfl) rfl ew_2046 ew_2047 ew_2048 ew_110 ew_2049 hy_X13_safe rfl (Nat.le_of_ble_eq_true rfl) (Nat.le_of_ble_eq_true rfl) (Nat.le_of_ble_eq_true rfl) ?_
  refine eg_ic_eq 2717 dL_law_1477 rfl (fun _ => ?_) (fun z => absurd rfl z)
  exact kk _ _ LN
theorem arm_25 (LL : LI h σ B00 tm) (ht : tm < 1000) (hi : i + 6 ≤ L) (hL : L ≤ 3072) (kk : ∀ (h' : eg_H) (σ' : eg_S), LI h' σ' B00 (tm + 1) → eg_AW (RLw, cL_law, 7, 460, some (L, xs, g), nm, ret) lz_Z 3000 70000 h00 2717 [(4, .int (nI i)), (3, .ref 94), (2, .ref 54), (1, .ref 16), (0, .ref 0)] [] h') : eg_AW (RLw, cL_law, 7, 460, some (L, xs, g), nm, ret) lz_Z 3000 70000 h00 1482 [(4, .int (nI i)), (3, .ref 94), (2, .ref 54), (1, .ref 16), (0, .ref 0)] [] h := by
  have ld1 := ld_1 hi hL
  have ld2 := ld_2 hi hL
  have ld3 := ld_3 hi hL
  have ld4 := ld_4 hi hL
  refine eg_aload_n (i := 1) 3 dL_law_1482 rfl rfl ?_
  refine eg_aload_n (i := 0) 4 dL_law_1483 rfl rfl ?_
  refine eg_iload (i := 4) 0 dL_law_1484 rfl ?_
  refine eg_iconst (v := (1 : Int32)) dL_law_1486 (by decide) ?_
  refine eg_iadd dL_law_1487 ?_
  refine eg_sld dL_law_1488 ld1 ?_
  refine eg_aload_n (i := 0) 4 dL_law_1489 rfl rfl ?_
  refine eg_iload (i := 4) 0 dL_law_1490 rfl ?_
  refine eg_iconst (v := (2 : Int32)) dL_law_1492 (by decide) ?_
  refine eg_iadd dL_law_1493 ?_
  refine eg_sld dL_law_1494 ld2 ?_
  refine eg_aload_n (i := 0) 4 dL_law_1495 rfl rfl ?_
  refine eg_iload (i := 4) 0 dL_law_1496 rfl ?_
  refine eg_iconst (v := (3 : Int32)) dL_law_1498 (by decide) ?_
  refine eg_iadd dL_law_1499 ?_
  refine eg_sld dL_law_1500 ld3 ?_
  refine eg_aload_n (i := 0) 4 dL_law_1501 rfl rfl ?_
  refine eg_iload (i := 4) 0 dL_law_1502 rfl ?_
  refine eg_iconst (v := (4 : Int32)) dL_law_1504 (by decide) ?_
  refine eg_iadd dL_law_1505 ?_
  refine eg_sld dL_law_1506 ld4 ?_
  obtain ⟨h1, h2, e1, e2, LN⟩ := L_spots LL (xs ((nI i) + (1 : Int32)).toNatClampNeg) (xs ((nI i) + (2 : Int32)).toNatClampNeg) (xs ((nI i) + (3 : Int32)).toNatClampNeg) (xs ((nI i) + (4 : Int32)).toNatClampNeg)
  refine eg_callV (c := 12) (n := 4) [.int ((xs ((nI i) + (1 : Int32)).toNatClampNeg)), .int ((xs ((nI i) + (2 : Int32)).toNatClampNeg)), .int ((xs ((nI i) + (3 : Int32)).toNatClampNeg)), .int ((xs ((nI i) + (4 : Int32)).toNatClampNeg))] dL_law_1507 (mX12_spots e1) rfl (fX12_spots_O e1) (Nat.le_of_ble_eq_true rfl) rfl ew_910 ew_911 ew_912 ew_100 ew_913 hy_X12_spots rfl (Nat.le_of_ble_eq_true rfl) (Nat.le_of_ble_eq_true rfl) (Nat.le_of_ble_eq_true rfl) ?_
  refine eg_aload_n (i := 2) 2 dL_law_1510 rfl rfl ?_
  refine eg_aload_n (i := 0) 4 dL_law_1511 rfl rfl ?_
  refine eg_iload (i := 4) 0 dL_law_1512 rfl ?_
  refine eg_iconst (v := (1 : Int32)) dL_law_1514 (by decide) ?_
  refine eg_iadd dL_law_1515 ?_
  refine eg_sld dL_law_1516 ld1 ?_
  refine eg_aload_n (i := 0) 4 dL_law_1517 rfl rfl ?_
  refine eg_iload (i := 4) 0 dL_law_1518 rfl ?_
  refine eg_iconst (v := (2 : Int32)) dL_law_1520 (by decide) ?_
  refine eg_iadd dL_law_1521 ?_
  refine eg_sld dL_law_1522 ld2 ?_
  refine eg_aload_n (i := 0) 4 dL_law_1523 rfl rfl ?_
  refine eg_iload (i := 4) 0 dL_law_1524 rfl ?_
  refine eg_iconst (v := (3 : Int32)) dL_law_1526 (by decide) ?_
  refine eg_iadd dL_law_1527 ?_
  refine eg_sld dL_law_1528 ld3 ?_
  refine eg_aload_n (i := 0) 4 dL_law_1529 rfl rfl ?_
  refine eg_iload (i := 4) 0 dL_law_1530 rfl ?_
  refine eg_iconst (v := (4 : Int32)) dL_law_1532 (by decide) ?_
  refine eg_iadd dL_law_1533 ?_
  refine eg_sld dL_law_1534 ld4 ?_
  refine eg_callV (c := 13) (n := 4) [.int ((xs ((nI i) + (1 : Int32)).toNatClampNeg)), .int ((xs ((nI i) + (2 : Int32)).toNatClampNeg)), .int ((xs ((nI i) + (3 : Int32)).toNatClampNeg)), .int ((xs ((nI i) + (4 : Int32)).toNatClampNeg))] dL_law_1535 (mX13_spots e2) rfl (fX13_spots_O e2) (Nat.le_of_ble_eq_true rfl) rfl ew_2050 ew_2051 ew_2052 ew_110 ew_2053 hy_X13_spots rfl (Nat.le_of_ble_eq_true rfl) (Nat.le_of_ble_eq_true rfl) (Nat.le_of_ble_eq_true rfl) ?_
  refine eg_ic_eq 2717 dL_law_1538 rfl (fun _ => ?_) (fun z => absurd rfl z)
  exact kk _ _ LN
theorem arm_26 (LL : LI h σ B00 tm) (ht : tm < 1000) (hi : i + 6 ≤ L) (hL : L ≤ 3072) (kk : ∀ (h' : eg_H) (σ' : eg_S), LI h' σ' B00 (tm + 1) → eg_AW (RLw, cL_law, 7, 460, some (L, xs, g), nm, ret) lz_Z 3000 70000 h00 2717 [(4, .int (nI i)), (3, .ref 94), (2, .ref 54), (1, .ref 16), (0, .ref 0)] [] h') : eg_AW (RLw, cL_law, 7, 460, some (L, xs, g), nm, ret) lz_Z 3000 70000 h00 1543 [(4, .int (nI i)), (3, .ref 94), (2, .ref 54), (1, .ref 16), (0, .ref 0)] [] h := by
  have ld1 := ld_1 hi hL
  have ld2 := ld_2 hi hL
  have ld3 := ld_3 hi hL
  have ld4 := ld_4 hi hL
  have ld5 := ld_5 hi hL
  refine eg_aload_n (i := 1) 3 dL_law_1543 rfl rfl ?_
  refine eg_aload_n (i := 0) 4 dL_law_1544 rfl rfl ?_
  refine eg_iload (i := 4) 0 dL_law_1545 rfl ?_
  refine eg_iconst (v := (1 : Int32)) dL_law_1547 (by decide) ?_
  refine eg_iadd dL_law_1548 ?_
  refine eg_sld dL_law_1549 ld1 ?_
  refine eg_aload_n (i := 0) 4 dL_law_1550 rfl rfl ?_
  refine eg_iload (i := 4) 0 dL_law_1551 rfl ?_
  refine eg_iconst (v := (2 : Int32)) dL_law_1553 (by decide) ?_
  refine eg_iadd dL_law_1554 ?_
  refine eg_sld dL_law_1555 ld2 ?_
  refine eg_aload_n (i := 0) 4 dL_law_1556 rfl rfl ?_
  refine eg_iload (i := 4) 0 dL_law_1557 rfl ?_
  refine eg_iconst (v := (3 : Int32)) dL_law_1559 (by decide) ?_
  refine eg_iadd dL_law_1560 ?_
  refine eg_sld dL_law_1561 ld3 ?_
  refine eg_aload_n (i := 0) 4 dL_law_1562 rfl rfl ?_
  refine eg_iload (i := 4) 0 dL_law_1563 rfl ?_
  refine eg_iconst (v := (4 : Int32)) dL_law_1565 (by decide) ?_
  refine eg_iadd dL_law_1566 ?_
  refine eg_sld dL_law_1567 ld4 ?_
  refine eg_aload_n (i := 0) 4 dL_law_1568 rfl rfl ?_
  refine eg_iload (i := 4) 0 dL_law_1569 rfl ?_
  refine eg_iconst (v := (5 : Int32)) dL_law_1571 (by decide) ?_
  refine eg_iadd dL_law_1572 ?_
  refine eg_sld dL_law_1573 ld5 ?_
  obtain ⟨h1, h2, e1, e2, LN⟩ := L_legs LL (xs ((nI i) + (1 : Int32)).toNatClampNeg) (xs ((nI i) + (2 : Int32)).toNatClampNeg) (xs ((nI i) + (3 : Int32)).toNatClampNeg) (xs ((nI i) + (4 : Int32)).toNatClampNeg) (xs ((nI i) + (5 : Int32)).toNatClampNeg)
  refine eg_callV (c := 12) (n := 5) [.int ((xs ((nI i) + (1 : Int32)).toNatClampNeg)), .int ((xs ((nI i) + (2 : Int32)).toNatClampNeg)), .int ((xs ((nI i) + (3 : Int32)).toNatClampNeg)), .int ((xs ((nI i) + (4 : Int32)).toNatClampNeg)), .int ((xs ((nI i) + (5 : Int32)).toNatClampNeg))] dL_law_1574 (mX12_legs e1) rfl (fX12_legs_O e1) (Nat.le_of_ble_eq_true rfl) rfl ew_889 ew_890 ew_891 ew_100 ew_892 hy_X12_legs rfl (Nat.le_of_ble_eq_true rfl) (Nat.le_of_ble_eq_true rfl) (Nat.le_of_ble_eq_true rfl) ?_
  refine eg_aload_n (i := 2) 2 dL_law_1577 rfl rfl ?_
  refine eg_aload_n (i := 0) 4 dL_law_1578 rfl rfl ?_
  refine eg_iload (i := 4) 0 dL_law_1579 rfl ?_
  refine eg_iconst (v := (1 : Int32)) dL_law_1581 (by decide) ?_
  refine eg_iadd dL_law_1582 ?_
  refine eg_sld dL_law_1583 ld1 ?_
  refine eg_aload_n (i := 0) 4 dL_law_1584 rfl rfl ?_
  refine eg_iload (i := 4) 0 dL_law_1585 rfl ?_
  refine eg_iconst (v := (2 : Int32)) dL_law_1587 (by decide) ?_
  refine eg_iadd dL_law_1588 ?_
  refine eg_sld dL_law_1589 ld2 ?_
  refine eg_aload_n (i := 0) 4 dL_law_1590 rfl rfl ?_
  refine eg_iload (i := 4) 0 dL_law_1591 rfl ?_
  refine eg_iconst (v := (3 : Int32)) dL_law_1593 (by decide) ?_
  refine eg_iadd dL_law_1594 ?_
  refine eg_sld dL_law_1595 ld3 ?_
  refine eg_aload_n (i := 0) 4 dL_law_1596 rfl rfl ?_
  refine eg_iload (i := 4) 0 dL_law_1597 rfl ?_
  refine eg_iconst (v := (4 : Int32)) dL_law_1599 (by decide) ?_
  refine eg_iadd dL_law_1600 ?_
  refine eg_sld dL_law_1601 ld4 ?_
  refine eg_aload_n (i := 0) 4 dL_law_1602 rfl rfl ?_
  refine eg_iload (i := 4) 0 dL_law_1603 rfl ?_
  refine eg_iconst (v := (5 : Int32)) dL_law_1605 (by decide) ?_
  refine eg_iadd dL_law_1606 ?_
  refine eg_sld dL_law_1607 ld5 ?_
  refine eg_callV (c := 13) (n := 5) [.int ((xs ((nI i) + (1 : Int32)).toNatClampNeg)), .int ((xs ((nI i) + (2 : Int32)).toNatClampNeg)), .int ((xs ((nI i) + (3 : Int32)).toNatClampNeg)), .int ((xs ((nI i) + (4 : Int32)).toNatClampNeg)), .int ((xs ((nI i) + (5 : Int32)).toNatClampNeg))] dL_law_1608 (mX13_legs e2) rfl (fX13_legs_O e2) (Nat.le_of_ble_eq_true rfl) rfl ew_2054 ew_2055 ew_2056 ew_110 ew_2057 hy_X13_legs rfl (Nat.le_of_ble_eq_true rfl) (Nat.le_of_ble_eq_true rfl) (Nat.le_of_ble_eq_true rfl) ?_
  refine eg_ic_eq 2717 dL_law_1611 rfl (fun _ => ?_) (fun z => absurd rfl z)
  exact kk _ _ LN
theorem arm_27 (LL : LI h σ B00 tm) (ht : tm < 1000) (hi : i + 6 ≤ L) (hL : L ≤ 3072) (kk : ∀ (h' : eg_H) (σ' : eg_S), LI h' σ' B00 (tm + 1) → eg_AW (RLw, cL_law, 7, 460, some (L, xs, g), nm, ret) lz_Z 3000 70000 h00 2717 [(4, .int (nI i)), (3, .ref 94), (2, .ref 54), (1, .ref 16), (0, .ref 0)] [] h') : eg_AW (RLw, cL_law, 7, 460, some (L, xs, g), nm, ret) lz_Z 3000 70000 h00 1616 [(4, .int (nI i)), (3, .ref 94), (2, .ref 54), (1, .ref 16), (0, .ref 0)] [] h := by
  have ld1 := ld_1 hi hL
  have ld2 := ld_2 hi hL
  have ld3 := ld_3 hi hL
  refine eg_aload_n (i := 1) 3 dL_law_1616 rfl rfl ?_
  refine eg_aload_n (i := 0) 4 dL_law_1617 rfl rfl ?_
  refine eg_iload (i := 4) 0 dL_law_1618 rfl ?_
  refine eg_iconst (v := (1 : Int32)) dL_law_1620 (by decide) ?_
  refine eg_iadd dL_law_1621 ?_
  refine eg_sld dL_law_1622 ld1 ?_
  refine eg_aload_n (i := 0) 4 dL_law_1623 rfl rfl ?_
  refine eg_iload (i := 4) 0 dL_law_1624 rfl ?_
  refine eg_iconst (v := (2 : Int32)) dL_law_1626 (by decide) ?_
  refine eg_iadd dL_law_1627 ?_
  refine eg_sld dL_law_1628 ld2 ?_
  refine eg_aload_n (i := 0) 4 dL_law_1629 rfl rfl ?_
  refine eg_iload (i := 4) 0 dL_law_1630 rfl ?_
  refine eg_iconst (v := (3 : Int32)) dL_law_1632 (by decide) ?_
  refine eg_iadd dL_law_1633 ?_
  refine eg_sld dL_law_1634 ld3 ?_
  obtain ⟨h1, h2, e1, e2, LN⟩ := L_stride LL (xs ((nI i) + (1 : Int32)).toNatClampNeg) (xs ((nI i) + (2 : Int32)).toNatClampNeg) (xs ((nI i) + (3 : Int32)).toNatClampNeg)
  refine eg_callV (c := 12) (n := 3) [.int ((xs ((nI i) + (1 : Int32)).toNatClampNeg)), .int ((xs ((nI i) + (2 : Int32)).toNatClampNeg)), .int ((xs ((nI i) + (3 : Int32)).toNatClampNeg))] dL_law_1635 (mX12_stride e1) rfl (fX12_stride_O e1) (Nat.le_of_ble_eq_true rfl) rfl ew_1008 ew_1009 ew_1010 ew_100 ew_1011 hy_X12_stride rfl (Nat.le_of_ble_eq_true rfl) (Nat.le_of_ble_eq_true rfl) (Nat.le_of_ble_eq_true rfl) ?_
  refine eg_aload_n (i := 2) 2 dL_law_1638 rfl rfl ?_
  refine eg_aload_n (i := 0) 4 dL_law_1639 rfl rfl ?_
  refine eg_iload (i := 4) 0 dL_law_1640 rfl ?_
  refine eg_iconst (v := (1 : Int32)) dL_law_1642 (by decide) ?_
  refine eg_iadd dL_law_1643 ?_
  refine eg_sld dL_law_1644 ld1 ?_
  refine eg_aload_n (i := 0) 4 dL_law_1645 rfl rfl ?_
  refine eg_iload (i := 4) 0 dL_law_1646 rfl ?_
  refine eg_iconst (v := (2 : Int32)) dL_law_1648 (by decide) ?_
  refine eg_iadd dL_law_1649 ?_
  refine eg_sld dL_law_1650 ld2 ?_
  refine eg_aload_n (i := 0) 4 dL_law_1651 rfl rfl ?_
  refine eg_iload (i := 4) 0 dL_law_1652 rfl ?_
  refine eg_iconst (v := (3 : Int32)) dL_law_1654 (by decide) ?_
  refine eg_iadd dL_law_1655 ?_
  refine eg_sld dL_law_1656 ld3 ?_
  refine eg_callV (c := 13) (n := 3) [.int ((xs ((nI i) + (1 : Int32)).toNatClampNeg)), .int ((xs ((nI i) + (2 : Int32)).toNatClampNeg)), .int ((xs ((nI i) + (3 : Int32)).toNatClampNeg))] dL_law_1657 (mX13_stride e2) rfl (fX13_stride_O e2) (Nat.le_of_ble_eq_true rfl) rfl ew_2058 ew_2059 ew_2060 ew_110 ew_2061 hy_X13_stride rfl (Nat.le_of_ble_eq_true rfl) (Nat.le_of_ble_eq_true rfl) (Nat.le_of_ble_eq_true rfl) ?_
  refine eg_lc_eq 2717 dL_law_1660 dL_law_1661 rfl (fun _ => ?_) (fun z => absurd rfl z)
  exact kk _ _ LN
end ARM
