/-! the law: cases 35 to 41 -/
theorem d_law_1239 : decode code 1239 = .ok (.aload_n 1, 1) := by decide +kernel
theorem d_law_1240 : decode code 1240 = .ok (.aload_n 0, 1) := by decide +kernel
theorem d_law_1241 : decode code 1241 = .ok (.iload_n 3, 1) := by decide +kernel
theorem d_law_1242 : decode code 1242 = .ok (.iconst 1, 1) := by decide +kernel
theorem d_law_1243 : decode code 1243 = .ok (.iadd, 1) := by decide +kernel
theorem d_law_1244 : decode code 1244 = .ok (.iaload, 1) := by decide +kernel
theorem d_law_1245 : decode code 1245 = .ok (.invokevirtual 159, 3) := by decide +kernel
theorem d_law_1248 : decode code 1248 = .ok (.aload_n 2, 1) := by decide +kernel
theorem d_law_1249 : decode code 1249 = .ok (.aload_n 0, 1) := by decide +kernel
theorem d_law_1250 : decode code 1250 = .ok (.iload_n 3, 1) := by decide +kernel
theorem d_law_1251 : decode code 1251 = .ok (.iconst 1, 1) := by decide +kernel
theorem d_law_1252 : decode code 1252 = .ok (.iadd, 1) := by decide +kernel
theorem d_law_1253 : decode code 1253 = .ok (.iaload, 1) := by decide +kernel
theorem d_law_1254 : decode code 1254 = .ok (.invokevirtual 162, 3) := by decide +kernel
theorem d_law_1257 : decode code 1257 = .ok (.if_icmp .eq 337, 3) := by decide +kernel
theorem law_c35 {Γ : GmT} {b L : Nat} {xs : Nat → Int32} {CL SL : Nat} {G : Dt → Nat → List (Nat × Value) → List Value → Prop} (C : LawG Γ b L xs CL SL G) {D : Dt} {i : Int32} (hI : Inv D) (hin : vp_in (i + 1) L ∧ vp_in (i + 2) L ∧ vp_in (i + 3) L ∧ vp_in (i + 4) L ∧ vp_in (i + 5) L) (next : ∀ D2, Inv D2 → G D2 1594 (lvL Γ b i) []) : G D 1239 (lvL Γ b i) [] := by
  obtain ⟨x, D1, D2, h1, h2, hI2⟩ := both_look hI (xs (i + 1).toNatClampNeg)
  refine l_aload C 1 d_law_1239 rfl rfl ?_
  refine l_arg C d_law_1240 d_law_1241 d_law_1242 rfl d_law_1243 d_law_1244 rfl rfl hin.1 ?_
  refine l_call C (As := [.int (xs (i + 1).toNatClampNeg)]) (rest := []) ok_Root_look (List.mem_of_getElem? (i := 847) (by decide +kernel)) k_id0 (by decide) ⟨Nat.le_of_ble_eq_true rfl, Nat.le_of_ble_eq_true rfl⟩ rfl rfl (Nat.le_of_ble_eq_true rfl) d_law_1245 (c_Root_look Γ h1) ?_
  refine l_aload C 2 d_law_1248 rfl rfl ?_
  refine l_arg C d_law_1249 d_law_1250 d_law_1251 rfl d_law_1252 d_law_1253 rfl rfl hin.1 ?_
  refine l_call C (As := [.int (xs (i + 1).toNatClampNeg)]) (rest := [.int x]) ok_Model_look (List.mem_of_getElem? (i := 1518) (by decide +kernel)) k_id176 (by decide) ⟨Nat.le_of_ble_eq_true rfl, Nat.le_of_ble_eq_true rfl⟩ rfl rfl (Nat.le_of_ble_eq_true rfl) d_law_1254 (c_Model_look Γ h2) ?_
  refine l_icmpeq C d_law_1257 (tgt := 1594) (by decide) ?_
  exact next D2 hI2
theorem d_law_1262 : decode code 1262 = .ok (.aload_n 1, 1) := by decide +kernel
theorem d_law_1263 : decode code 1263 = .ok (.aload_n 0, 1) := by decide +kernel
theorem d_law_1264 : decode code 1264 = .ok (.iload_n 3, 1) := by decide +kernel
theorem d_law_1265 : decode code 1265 = .ok (.iconst 1, 1) := by decide +kernel
theorem d_law_1266 : decode code 1266 = .ok (.iadd, 1) := by decide +kernel
theorem d_law_1267 : decode code 1267 = .ok (.iaload, 1) := by decide +kernel
theorem d_law_1268 : decode code 1268 = .ok (.aload_n 0, 1) := by decide +kernel
theorem d_law_1269 : decode code 1269 = .ok (.iload_n 3, 1) := by decide +kernel
theorem d_law_1270 : decode code 1270 = .ok (.iconst 2, 1) := by decide +kernel
theorem d_law_1271 : decode code 1271 = .ok (.iadd, 1) := by decide +kernel
theorem d_law_1272 : decode code 1272 = .ok (.iaload, 1) := by decide +kernel
theorem d_law_1273 : decode code 1273 = .ok (.invokevirtual 163, 3) := by decide +kernel
theorem d_law_1276 : decode code 1276 = .ok (.aload_n 2, 1) := by decide +kernel
theorem d_law_1277 : decode code 1277 = .ok (.aload_n 0, 1) := by decide +kernel
theorem d_law_1278 : decode code 1278 = .ok (.iload_n 3, 1) := by decide +kernel
theorem d_law_1279 : decode code 1279 = .ok (.iconst 1, 1) := by decide +kernel
theorem d_law_1280 : decode code 1280 = .ok (.iadd, 1) := by decide +kernel
theorem d_law_1281 : decode code 1281 = .ok (.iaload, 1) := by decide +kernel
theorem d_law_1282 : decode code 1282 = .ok (.aload_n 0, 1) := by decide +kernel
theorem d_law_1283 : decode code 1283 = .ok (.iload_n 3, 1) := by decide +kernel
theorem d_law_1284 : decode code 1284 = .ok (.iconst 2, 1) := by decide +kernel
theorem d_law_1285 : decode code 1285 = .ok (.iadd, 1) := by decide +kernel
theorem d_law_1286 : decode code 1286 = .ok (.iaload, 1) := by decide +kernel
theorem d_law_1287 : decode code 1287 = .ok (.invokevirtual 166, 3) := by decide +kernel
theorem d_law_1290 : decode code 1290 = .ok (.if_icmp .eq 304, 3) := by decide +kernel
theorem law_c36 {Γ : GmT} {b L : Nat} {xs : Nat → Int32} {CL SL : Nat} {G : Dt → Nat → List (Nat × Value) → List Value → Prop} (C : LawG Γ b L xs CL SL G) {D : Dt} {i : Int32} (hI : Inv D) (hin : vp_in (i + 1) L ∧ vp_in (i + 2) L ∧ vp_in (i + 3) L ∧ vp_in (i + 4) L ∧ vp_in (i + 5) L) (next : ∀ D2, Inv D2 → G D2 1594 (lvL Γ b i) []) : G D 1262 (lvL Γ b i) [] := by
  obtain ⟨x, D1, D2, h1, h2, hI2⟩ := both_raise hI (xs (i + 1).toNatClampNeg) (xs (i + 2).toNatClampNeg)
  refine l_aload C 1 d_law_1262 rfl rfl ?_
  refine l_arg C d_law_1263 d_law_1264 d_law_1265 rfl d_law_1266 d_law_1267 rfl rfl hin.1 ?_
  refine l_arg C d_law_1268 d_law_1269 d_law_1270 rfl d_law_1271 d_law_1272 rfl rfl hin.2.1 ?_
  refine l_call C (As := [.int (xs (i + 1).toNatClampNeg), .int (xs (i + 2).toNatClampNeg)]) (rest := []) ok_Root_raise (List.mem_of_getElem? (i := 860) (by decide +kernel)) k_id0 (by decide) ⟨Nat.le_of_ble_eq_true rfl, Nat.le_of_ble_eq_true rfl⟩ rfl rfl (Nat.le_of_ble_eq_true rfl) d_law_1273 (c_Root_raise Γ h1) ?_
  refine l_aload C 2 d_law_1276 rfl rfl ?_
  refine l_arg C d_law_1277 d_law_1278 d_law_1279 rfl d_law_1280 d_law_1281 rfl rfl hin.1 ?_
  refine l_arg C d_law_1282 d_law_1283 d_law_1284 rfl d_law_1285 d_law_1286 rfl rfl hin.2.1 ?_
  refine l_call C (As := [.int (xs (i + 1).toNatClampNeg), .int (xs (i + 2).toNatClampNeg)]) (rest := [.int x]) ok_Model_raise (List.mem_of_getElem? (i := 1526) (by decide +kernel)) k_id176 (by decide) ⟨Nat.le_of_ble_eq_true rfl, Nat.le_of_ble_eq_true rfl⟩ rfl rfl (Nat.le_of_ble_eq_true rfl) d_law_1287 (c_Model_raise Γ h2) ?_
  refine l_icmpeq C d_law_1290 (tgt := 1594) (by decide) ?_
  exact next D2 hI2
theorem d_law_1295 : decode code 1295 = .ok (.aload_n 1, 1) := by decide +kernel
theorem d_law_1296 : decode code 1296 = .ok (.aload_n 0, 1) := by decide +kernel
theorem d_law_1297 : decode code 1297 = .ok (.iload_n 3, 1) := by decide +kernel
theorem d_law_1298 : decode code 1298 = .ok (.iconst 1, 1) := by decide +kernel
theorem d_law_1299 : decode code 1299 = .ok (.iadd, 1) := by decide +kernel
theorem d_law_1300 : decode code 1300 = .ok (.iaload, 1) := by decide +kernel
theorem d_law_1301 : decode code 1301 = .ok (.invokevirtual 167, 3) := by decide +kernel
theorem d_law_1304 : decode code 1304 = .ok (.aload_n 2, 1) := by decide +kernel
theorem d_law_1305 : decode code 1305 = .ok (.aload_n 0, 1) := by decide +kernel
theorem d_law_1306 : decode code 1306 = .ok (.iload_n 3, 1) := by decide +kernel
theorem d_law_1307 : decode code 1307 = .ok (.iconst 1, 1) := by decide +kernel
theorem d_law_1308 : decode code 1308 = .ok (.iadd, 1) := by decide +kernel
theorem d_law_1309 : decode code 1309 = .ok (.iaload, 1) := by decide +kernel
theorem d_law_1310 : decode code 1310 = .ok (.invokevirtual 170, 3) := by decide +kernel
theorem d_law_1313 : decode code 1313 = .ok (.if_icmp .eq 281, 3) := by decide +kernel
theorem law_c37 {Γ : GmT} {b L : Nat} {xs : Nat → Int32} {CL SL : Nat} {G : Dt → Nat → List (Nat × Value) → List Value → Prop} (C : LawG Γ b L xs CL SL G) {D : Dt} {i : Int32} (hI : Inv D) (hin : vp_in (i + 1) L ∧ vp_in (i + 2) L ∧ vp_in (i + 3) L ∧ vp_in (i + 4) L ∧ vp_in (i + 5) L) (next : ∀ D2, Inv D2 → G D2 1594 (lvL Γ b i) []) : G D 1295 (lvL Γ b i) [] := by
  obtain ⟨x, D1, D2, h1, h2, hI2⟩ := both_whose hI (xs (i + 1).toNatClampNeg)
  refine l_aload C 1 d_law_1295 rfl rfl ?_
  refine l_arg C d_law_1296 d_law_1297 d_law_1298 rfl d_law_1299 d_law_1300 rfl rfl hin.1 ?_
  refine l_call C (As := [.int (xs (i + 1).toNatClampNeg)]) (rest := []) ok_Root_whose (List.mem_of_getElem? (i := 869) (by decide +kernel)) k_id0 (by decide) ⟨Nat.le_of_ble_eq_true rfl, Nat.le_of_ble_eq_true rfl⟩ rfl rfl (Nat.le_of_ble_eq_true rfl) d_law_1301 (c_Root_whose Γ h1) ?_
  refine l_aload C 2 d_law_1304 rfl rfl ?_
  refine l_arg C d_law_1305 d_law_1306 d_law_1307 rfl d_law_1308 d_law_1309 rfl rfl hin.1 ?_
  refine l_call C (As := [.int (xs (i + 1).toNatClampNeg)]) (rest := [.int x]) ok_Model_whose (List.mem_of_getElem? (i := 1534) (by decide +kernel)) k_id176 (by decide) ⟨Nat.le_of_ble_eq_true rfl, Nat.le_of_ble_eq_true rfl⟩ rfl rfl (Nat.le_of_ble_eq_true rfl) d_law_1310 (c_Model_whose Γ h2) ?_
  refine l_icmpeq C d_law_1313 (tgt := 1594) (by decide) ?_
  exact next D2 hI2
theorem d_law_1318 : decode code 1318 = .ok (.aload_n 1, 1) := by decide +kernel
theorem d_law_1319 : decode code 1319 = .ok (.aload_n 0, 1) := by decide +kernel
theorem d_law_1320 : decode code 1320 = .ok (.iload_n 3, 1) := by decide +kernel
theorem d_law_1321 : decode code 1321 = .ok (.iconst 1, 1) := by decide +kernel
theorem d_law_1322 : decode code 1322 = .ok (.iadd, 1) := by decide +kernel
theorem d_law_1323 : decode code 1323 = .ok (.iaload, 1) := by decide +kernel
theorem d_law_1324 : decode code 1324 = .ok (.aload_n 0, 1) := by decide +kernel
theorem d_law_1325 : decode code 1325 = .ok (.iload_n 3, 1) := by decide +kernel
theorem d_law_1326 : decode code 1326 = .ok (.iconst 2, 1) := by decide +kernel
theorem d_law_1327 : decode code 1327 = .ok (.iadd, 1) := by decide +kernel
theorem d_law_1328 : decode code 1328 = .ok (.iaload, 1) := by decide +kernel
theorem d_law_1329 : decode code 1329 = .ok (.aload_n 0, 1) := by decide +kernel
theorem d_law_1330 : decode code 1330 = .ok (.iload_n 3, 1) := by decide +kernel
theorem d_law_1331 : decode code 1331 = .ok (.iconst 3, 1) := by decide +kernel
theorem d_law_1332 : decode code 1332 = .ok (.iadd, 1) := by decide +kernel
theorem d_law_1333 : decode code 1333 = .ok (.iaload, 1) := by decide +kernel
theorem d_law_1334 : decode code 1334 = .ok (.invokevirtual 171, 3) := by decide +kernel
theorem d_law_1337 : decode code 1337 = .ok (.aload_n 2, 1) := by decide +kernel
theorem d_law_1338 : decode code 1338 = .ok (.aload_n 0, 1) := by decide +kernel
theorem d_law_1339 : decode code 1339 = .ok (.iload_n 3, 1) := by decide +kernel
theorem d_law_1340 : decode code 1340 = .ok (.iconst 1, 1) := by decide +kernel
theorem d_law_1341 : decode code 1341 = .ok (.iadd, 1) := by decide +kernel
theorem d_law_1342 : decode code 1342 = .ok (.iaload, 1) := by decide +kernel
theorem d_law_1343 : decode code 1343 = .ok (.aload_n 0, 1) := by decide +kernel
theorem d_law_1344 : decode code 1344 = .ok (.iload_n 3, 1) := by decide +kernel
theorem d_law_1345 : decode code 1345 = .ok (.iconst 2, 1) := by decide +kernel
theorem d_law_1346 : decode code 1346 = .ok (.iadd, 1) := by decide +kernel
theorem d_law_1347 : decode code 1347 = .ok (.iaload, 1) := by decide +kernel
theorem d_law_1348 : decode code 1348 = .ok (.aload_n 0, 1) := by decide +kernel
theorem d_law_1349 : decode code 1349 = .ok (.iload_n 3, 1) := by decide +kernel
theorem d_law_1350 : decode code 1350 = .ok (.iconst 3, 1) := by decide +kernel
theorem d_law_1351 : decode code 1351 = .ok (.iadd, 1) := by decide +kernel
theorem d_law_1352 : decode code 1352 = .ok (.iaload, 1) := by decide +kernel
theorem d_law_1353 : decode code 1353 = .ok (.invokevirtual 174, 3) := by decide +kernel
theorem d_law_1356 : decode code 1356 = .ok (.if_icmp .eq 238, 3) := by decide +kernel
theorem law_c38 {Γ : GmT} {b L : Nat} {xs : Nat → Int32} {CL SL : Nat} {G : Dt → Nat → List (Nat × Value) → List Value → Prop} (C : LawG Γ b L xs CL SL G) {D : Dt} {i : Int32} (hI : Inv D) (hin : vp_in (i + 1) L ∧ vp_in (i + 2) L ∧ vp_in (i + 3) L ∧ vp_in (i + 4) L ∧ vp_in (i + 5) L) (next : ∀ D2, Inv D2 → G D2 1594 (lvL Γ b i) []) : G D 1318 (lvL Γ b i) [] := by
  obtain ⟨x, D1, D2, h1, h2, hI2⟩ := both_work hI (xs (i + 1).toNatClampNeg) (xs (i + 2).toNatClampNeg) (xs (i + 3).toNatClampNeg)
  refine l_aload C 1 d_law_1318 rfl rfl ?_
  refine l_arg C d_law_1319 d_law_1320 d_law_1321 rfl d_law_1322 d_law_1323 rfl rfl hin.1 ?_
  refine l_arg C d_law_1324 d_law_1325 d_law_1326 rfl d_law_1327 d_law_1328 rfl rfl hin.2.1 ?_
  refine l_arg C d_law_1329 d_law_1330 d_law_1331 rfl d_law_1332 d_law_1333 rfl rfl hin.2.2.1 ?_
  refine l_call C (As := [.int (xs (i + 1).toNatClampNeg), .int (xs (i + 2).toNatClampNeg), .int (xs (i + 3).toNatClampNeg)]) (rest := []) ok_Root_work (List.mem_of_getElem? (i := 877) (by decide +kernel)) k_id0 (by decide) ⟨Nat.le_of_ble_eq_true rfl, Nat.le_of_ble_eq_true rfl⟩ rfl rfl (Nat.le_of_ble_eq_true rfl) d_law_1334 (c_Root_work Γ h1) ?_
  refine l_aload C 2 d_law_1337 rfl rfl ?_
  refine l_arg C d_law_1338 d_law_1339 d_law_1340 rfl d_law_1341 d_law_1342 rfl rfl hin.1 ?_
  refine l_arg C d_law_1343 d_law_1344 d_law_1345 rfl d_law_1346 d_law_1347 rfl rfl hin.2.1 ?_
  refine l_arg C d_law_1348 d_law_1349 d_law_1350 rfl d_law_1351 d_law_1352 rfl rfl hin.2.2.1 ?_
  refine l_call C (As := [.int (xs (i + 1).toNatClampNeg), .int (xs (i + 2).toNatClampNeg), .int (xs (i + 3).toNatClampNeg)]) (rest := [.int x]) ok_Model_work (List.mem_of_getElem? (i := 1538) (by decide +kernel)) k_id176 (by decide) ⟨Nat.le_of_ble_eq_true rfl, Nat.le_of_ble_eq_true rfl⟩ rfl rfl (Nat.le_of_ble_eq_true rfl) d_law_1353 (c_Model_work Γ h2) ?_
  refine l_icmpeq C d_law_1356 (tgt := 1594) (by decide) ?_
  exact next D2 hI2
theorem d_law_1361 : decode code 1361 = .ok (.aload_n 1, 1) := by decide +kernel
theorem d_law_1362 : decode code 1362 = .ok (.aload_n 0, 1) := by decide +kernel
theorem d_law_1363 : decode code 1363 = .ok (.iload_n 3, 1) := by decide +kernel
theorem d_law_1364 : decode code 1364 = .ok (.iconst 1, 1) := by decide +kernel
theorem d_law_1365 : decode code 1365 = .ok (.iadd, 1) := by decide +kernel
theorem d_law_1366 : decode code 1366 = .ok (.iaload, 1) := by decide +kernel
theorem d_law_1367 : decode code 1367 = .ok (.aload_n 0, 1) := by decide +kernel
theorem d_law_1368 : decode code 1368 = .ok (.iload_n 3, 1) := by decide +kernel
theorem d_law_1369 : decode code 1369 = .ok (.iconst 2, 1) := by decide +kernel
theorem d_law_1370 : decode code 1370 = .ok (.iadd, 1) := by decide +kernel
theorem d_law_1371 : decode code 1371 = .ok (.iaload, 1) := by decide +kernel
theorem d_law_1372 : decode code 1372 = .ok (.invokevirtual 175, 3) := by decide +kernel
theorem d_law_1375 : decode code 1375 = .ok (.aload_n 2, 1) := by decide +kernel
theorem d_law_1376 : decode code 1376 = .ok (.aload_n 0, 1) := by decide +kernel
theorem d_law_1377 : decode code 1377 = .ok (.iload_n 3, 1) := by decide +kernel
theorem d_law_1378 : decode code 1378 = .ok (.iconst 1, 1) := by decide +kernel
theorem d_law_1379 : decode code 1379 = .ok (.iadd, 1) := by decide +kernel
theorem d_law_1380 : decode code 1380 = .ok (.iaload, 1) := by decide +kernel
theorem d_law_1381 : decode code 1381 = .ok (.aload_n 0, 1) := by decide +kernel
theorem d_law_1382 : decode code 1382 = .ok (.iload_n 3, 1) := by decide +kernel
theorem d_law_1383 : decode code 1383 = .ok (.iconst 2, 1) := by decide +kernel
theorem d_law_1384 : decode code 1384 = .ok (.iadd, 1) := by decide +kernel
theorem d_law_1385 : decode code 1385 = .ok (.iaload, 1) := by decide +kernel
theorem d_law_1386 : decode code 1386 = .ok (.invokevirtual 178, 3) := by decide +kernel
theorem d_law_1389 : decode code 1389 = .ok (.if_icmp .eq 205, 3) := by decide +kernel
theorem law_c39 {Γ : GmT} {b L : Nat} {xs : Nat → Int32} {CL SL : Nat} {G : Dt → Nat → List (Nat × Value) → List Value → Prop} (C : LawG Γ b L xs CL SL G) {D : Dt} {i : Int32} (hI : Inv D) (hin : vp_in (i + 1) L ∧ vp_in (i + 2) L ∧ vp_in (i + 3) L ∧ vp_in (i + 4) L ∧ vp_in (i + 5) L) (next : ∀ D2, Inv D2 → G D2 1594 (lvL Γ b i) []) : G D 1361 (lvL Γ b i) [] := by
  obtain ⟨x, D1, D2, h1, h2, hI2⟩ := both_done hI (xs (i + 1).toNatClampNeg) (xs (i + 2).toNatClampNeg)
  refine l_aload C 1 d_law_1361 rfl rfl ?_
  refine l_arg C d_law_1362 d_law_1363 d_law_1364 rfl d_law_1365 d_law_1366 rfl rfl hin.1 ?_
  refine l_arg C d_law_1367 d_law_1368 d_law_1369 rfl d_law_1370 d_law_1371 rfl rfl hin.2.1 ?_
  refine l_call C (As := [.int (xs (i + 1).toNatClampNeg), .int (xs (i + 2).toNatClampNeg)]) (rest := []) ok_Root_done (List.mem_of_getElem? (i := 914) (by decide +kernel)) k_id0 (by decide) ⟨Nat.le_of_ble_eq_true rfl, Nat.le_of_ble_eq_true rfl⟩ rfl rfl (Nat.le_of_ble_eq_true rfl) d_law_1372 (c_Root_done Γ h1) ?_
  refine l_aload C 2 d_law_1375 rfl rfl ?_
  refine l_arg C d_law_1376 d_law_1377 d_law_1378 rfl d_law_1379 d_law_1380 rfl rfl hin.1 ?_
  refine l_arg C d_law_1381 d_law_1382 d_law_1383 rfl d_law_1384 d_law_1385 rfl rfl hin.2.1 ?_
  refine l_call C (As := [.int (xs (i + 1).toNatClampNeg), .int (xs (i + 2).toNatClampNeg)]) (rest := [.int x]) ok_Model_done (List.mem_of_getElem? (i := 1551) (by decide +kernel)) k_id176 (by decide) ⟨Nat.le_of_ble_eq_true rfl, Nat.le_of_ble_eq_true rfl⟩ rfl rfl (Nat.le_of_ble_eq_true rfl) d_law_1386 (c_Model_done Γ h2) ?_
  refine l_icmpeq C d_law_1389 (tgt := 1594) (by decide) ?_
  exact next D2 hI2
theorem d_law_1394 : decode code 1394 = .ok (.aload_n 1, 1) := by decide +kernel
theorem d_law_1395 : decode code 1395 = .ok (.aload_n 0, 1) := by decide +kernel
theorem d_law_1396 : decode code 1396 = .ok (.iload_n 3, 1) := by decide +kernel
theorem d_law_1397 : decode code 1397 = .ok (.iconst 1, 1) := by decide +kernel
theorem d_law_1398 : decode code 1398 = .ok (.iadd, 1) := by decide +kernel
theorem d_law_1399 : decode code 1399 = .ok (.iaload, 1) := by decide +kernel
theorem d_law_1400 : decode code 1400 = .ok (.aload_n 0, 1) := by decide +kernel
theorem d_law_1401 : decode code 1401 = .ok (.iload_n 3, 1) := by decide +kernel
theorem d_law_1402 : decode code 1402 = .ok (.iconst 2, 1) := by decide +kernel
theorem d_law_1403 : decode code 1403 = .ok (.iadd, 1) := by decide +kernel
theorem d_law_1404 : decode code 1404 = .ok (.iaload, 1) := by decide +kernel
theorem d_law_1405 : decode code 1405 = .ok (.aload_n 0, 1) := by decide +kernel
theorem d_law_1406 : decode code 1406 = .ok (.iload_n 3, 1) := by decide +kernel
theorem d_law_1407 : decode code 1407 = .ok (.iconst 3, 1) := by decide +kernel
theorem d_law_1408 : decode code 1408 = .ok (.iadd, 1) := by decide +kernel
theorem d_law_1409 : decode code 1409 = .ok (.iaload, 1) := by decide +kernel
theorem d_law_1410 : decode code 1410 = .ok (.aload_n 0, 1) := by decide +kernel
theorem d_law_1411 : decode code 1411 = .ok (.iload_n 3, 1) := by decide +kernel
theorem d_law_1412 : decode code 1412 = .ok (.iconst 4, 1) := by decide +kernel
theorem d_law_1413 : decode code 1413 = .ok (.iadd, 1) := by decide +kernel
theorem d_law_1414 : decode code 1414 = .ok (.iaload, 1) := by decide +kernel
theorem d_law_1415 : decode code 1415 = .ok (.invokevirtual 179, 3) := by decide +kernel
theorem d_law_1418 : decode code 1418 = .ok (.aload_n 2, 1) := by decide +kernel
theorem d_law_1419 : decode code 1419 = .ok (.aload_n 0, 1) := by decide +kernel
theorem d_law_1420 : decode code 1420 = .ok (.iload_n 3, 1) := by decide +kernel
theorem d_law_1421 : decode code 1421 = .ok (.iconst 1, 1) := by decide +kernel
theorem d_law_1422 : decode code 1422 = .ok (.iadd, 1) := by decide +kernel
theorem d_law_1423 : decode code 1423 = .ok (.iaload, 1) := by decide +kernel
theorem d_law_1424 : decode code 1424 = .ok (.aload_n 0, 1) := by decide +kernel
theorem d_law_1425 : decode code 1425 = .ok (.iload_n 3, 1) := by decide +kernel
theorem d_law_1426 : decode code 1426 = .ok (.iconst 2, 1) := by decide +kernel
theorem d_law_1427 : decode code 1427 = .ok (.iadd, 1) := by decide +kernel
theorem d_law_1428 : decode code 1428 = .ok (.iaload, 1) := by decide +kernel
theorem d_law_1429 : decode code 1429 = .ok (.aload_n 0, 1) := by decide +kernel
theorem d_law_1430 : decode code 1430 = .ok (.iload_n 3, 1) := by decide +kernel
theorem d_law_1431 : decode code 1431 = .ok (.iconst 3, 1) := by decide +kernel
theorem d_law_1432 : decode code 1432 = .ok (.iadd, 1) := by decide +kernel
theorem d_law_1433 : decode code 1433 = .ok (.iaload, 1) := by decide +kernel
theorem d_law_1434 : decode code 1434 = .ok (.aload_n 0, 1) := by decide +kernel
theorem d_law_1435 : decode code 1435 = .ok (.iload_n 3, 1) := by decide +kernel
theorem d_law_1436 : decode code 1436 = .ok (.iconst 4, 1) := by decide +kernel
theorem d_law_1437 : decode code 1437 = .ok (.iadd, 1) := by decide +kernel
theorem d_law_1438 : decode code 1438 = .ok (.iaload, 1) := by decide +kernel
theorem d_law_1439 : decode code 1439 = .ok (.invokevirtual 182, 3) := by decide +kernel
theorem d_law_1442 : decode code 1442 = .ok (.if_icmp .eq 152, 3) := by decide +kernel
theorem law_c40 {Γ : GmT} {b L : Nat} {xs : Nat → Int32} {CL SL : Nat} {G : Dt → Nat → List (Nat × Value) → List Value → Prop} (C : LawG Γ b L xs CL SL G) {D : Dt} {i : Int32} (hI : Inv D) (hin : vp_in (i + 1) L ∧ vp_in (i + 2) L ∧ vp_in (i + 3) L ∧ vp_in (i + 4) L ∧ vp_in (i + 5) L) (next : ∀ D2, Inv D2 → G D2 1594 (lvL Γ b i) []) : G D 1394 (lvL Γ b i) [] := by
  obtain ⟨x, D1, D2, h1, h2, hI2⟩ := both_calendar hI (xs (i + 1).toNatClampNeg) (xs (i + 2).toNatClampNeg) (xs (i + 3).toNatClampNeg) (xs (i + 4).toNatClampNeg)
  refine l_aload C 1 d_law_1394 rfl rfl ?_
  refine l_arg C d_law_1395 d_law_1396 d_law_1397 rfl d_law_1398 d_law_1399 rfl rfl hin.1 ?_
  refine l_arg C d_law_1400 d_law_1401 d_law_1402 rfl d_law_1403 d_law_1404 rfl rfl hin.2.1 ?_
  refine l_arg C d_law_1405 d_law_1406 d_law_1407 rfl d_law_1408 d_law_1409 rfl rfl hin.2.2.1 ?_
  refine l_arg C d_law_1410 d_law_1411 d_law_1412 rfl d_law_1413 d_law_1414 rfl rfl hin.2.2.2.1 ?_
  refine l_call C (As := [.int (xs (i + 1).toNatClampNeg), .int (xs (i + 2).toNatClampNeg), .int (xs (i + 3).toNatClampNeg), .int (xs (i + 4).toNatClampNeg)]) (rest := []) ok_Root_calendar (List.mem_of_getElem? (i := 932) (by decide +kernel)) k_id0 (by decide) ⟨Nat.le_of_ble_eq_true rfl, Nat.le_of_ble_eq_true rfl⟩ rfl rfl (Nat.le_of_ble_eq_true rfl) d_law_1415 (c_Root_calendar Γ h1) ?_
  refine l_aload C 2 d_law_1418 rfl rfl ?_
  refine l_arg C d_law_1419 d_law_1420 d_law_1421 rfl d_law_1422 d_law_1423 rfl rfl hin.1 ?_
  refine l_arg C d_law_1424 d_law_1425 d_law_1426 rfl d_law_1427 d_law_1428 rfl rfl hin.2.1 ?_
  refine l_arg C d_law_1429 d_law_1430 d_law_1431 rfl d_law_1432 d_law_1433 rfl rfl hin.2.2.1 ?_
  refine l_arg C d_law_1434 d_law_1435 d_law_1436 rfl d_law_1437 d_law_1438 rfl rfl hin.2.2.2.1 ?_
  refine l_call C (As := [.int (xs (i + 1).toNatClampNeg), .int (xs (i + 2).toNatClampNeg), .int (xs (i + 3).toNatClampNeg), .int (xs (i + 4).toNatClampNeg)]) (rest := [.int x]) ok_Model_calendar (List.mem_of_getElem? (i := 1559) (by decide +kernel)) k_id176 (by decide) ⟨Nat.le_of_ble_eq_true rfl, Nat.le_of_ble_eq_true rfl⟩ rfl rfl (Nat.le_of_ble_eq_true rfl) d_law_1439 (c_Model_calendar Γ h2) ?_
  refine l_icmpeq C d_law_1442 (tgt := 1594) (by decide) ?_
  exact next D2 hI2
theorem d_law_1447 : decode code 1447 = .ok (.aload_n 1, 1) := by decide +kernel
theorem d_law_1448 : decode code 1448 = .ok (.aload_n 0, 1) := by decide +kernel
theorem d_law_1449 : decode code 1449 = .ok (.iload_n 3, 1) := by decide +kernel
theorem d_law_1450 : decode code 1450 = .ok (.iconst 1, 1) := by decide +kernel
theorem d_law_1451 : decode code 1451 = .ok (.iadd, 1) := by decide +kernel
theorem d_law_1452 : decode code 1452 = .ok (.iaload, 1) := by decide +kernel
theorem d_law_1453 : decode code 1453 = .ok (.aload_n 0, 1) := by decide +kernel
theorem d_law_1454 : decode code 1454 = .ok (.iload_n 3, 1) := by decide +kernel
theorem d_law_1455 : decode code 1455 = .ok (.iconst 2, 1) := by decide +kernel
theorem d_law_1456 : decode code 1456 = .ok (.iadd, 1) := by decide +kernel
theorem d_law_1457 : decode code 1457 = .ok (.iaload, 1) := by decide +kernel
theorem d_law_1458 : decode code 1458 = .ok (.invokevirtual 183, 3) := by decide +kernel
theorem d_law_1461 : decode code 1461 = .ok (.aload_n 2, 1) := by decide +kernel
theorem d_law_1462 : decode code 1462 = .ok (.aload_n 0, 1) := by decide +kernel
theorem d_law_1463 : decode code 1463 = .ok (.iload_n 3, 1) := by decide +kernel
theorem d_law_1464 : decode code 1464 = .ok (.iconst 1, 1) := by decide +kernel
theorem d_law_1465 : decode code 1465 = .ok (.iadd, 1) := by decide +kernel
theorem d_law_1466 : decode code 1466 = .ok (.iaload, 1) := by decide +kernel
theorem d_law_1467 : decode code 1467 = .ok (.aload_n 0, 1) := by decide +kernel
theorem d_law_1468 : decode code 1468 = .ok (.iload_n 3, 1) := by decide +kernel
theorem d_law_1469 : decode code 1469 = .ok (.iconst 2, 1) := by decide +kernel
theorem d_law_1470 : decode code 1470 = .ok (.iadd, 1) := by decide +kernel
theorem d_law_1471 : decode code 1471 = .ok (.iaload, 1) := by decide +kernel
theorem d_law_1472 : decode code 1472 = .ok (.invokevirtual 186, 3) := by decide +kernel
theorem d_law_1475 : decode code 1475 = .ok (.if_icmp .eq 119, 3) := by decide +kernel
theorem law_c41 {Γ : GmT} {b L : Nat} {xs : Nat → Int32} {CL SL : Nat} {G : Dt → Nat → List (Nat × Value) → List Value → Prop} (C : LawG Γ b L xs CL SL G) {D : Dt} {i : Int32} (hI : Inv D) (hin : vp_in (i + 1) L ∧ vp_in (i + 2) L ∧ vp_in (i + 3) L ∧ vp_in (i + 4) L ∧ vp_in (i + 5) L) (next : ∀ D2, Inv D2 → G D2 1594 (lvL Γ b i) []) : G D 1447 (lvL Γ b i) [] := by
  obtain ⟨x, D1, D2, h1, h2, hI2⟩ := both_years hI (xs (i + 1).toNatClampNeg) (xs (i + 2).toNatClampNeg)
  refine l_aload C 1 d_law_1447 rfl rfl ?_
  refine l_arg C d_law_1448 d_law_1449 d_law_1450 rfl d_law_1451 d_law_1452 rfl rfl hin.1 ?_
  refine l_arg C d_law_1453 d_law_1454 d_law_1455 rfl d_law_1456 d_law_1457 rfl rfl hin.2.1 ?_
  refine l_call C (As := [.int (xs (i + 1).toNatClampNeg), .int (xs (i + 2).toNatClampNeg)]) (rest := []) ok_Root_years (List.mem_of_getElem? (i := 939) (by decide +kernel)) k_id0 (by decide) ⟨Nat.le_of_ble_eq_true rfl, Nat.le_of_ble_eq_true rfl⟩ rfl rfl (Nat.le_of_ble_eq_true rfl) d_law_1458 (c_Root_years Γ h1) ?_
  refine l_aload C 2 d_law_1461 rfl rfl ?_
  refine l_arg C d_law_1462 d_law_1463 d_law_1464 rfl d_law_1465 d_law_1466 rfl rfl hin.1 ?_
  refine l_arg C d_law_1467 d_law_1468 d_law_1469 rfl d_law_1470 d_law_1471 rfl rfl hin.2.1 ?_
  refine l_call C (As := [.int (xs (i + 1).toNatClampNeg), .int (xs (i + 2).toNatClampNeg)]) (rest := [.int x]) ok_Model_years (List.mem_of_getElem? (i := 1563) (by decide +kernel)) k_id176 (by decide) ⟨Nat.le_of_ble_eq_true rfl, Nat.le_of_ble_eq_true rfl⟩ rfl rfl (Nat.le_of_ble_eq_true rfl) d_law_1472 (c_Model_years Γ h2) ?_
  refine l_icmpeq C d_law_1475 (tgt := 1594) (by decide) ?_
  exact next D2 hI2
