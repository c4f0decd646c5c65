theorem dL_law_1303 : decode code 1303 = .ok (.aload_n 1, 1) := by decide +kernel
theorem dL_law_1304 : decode code 1304 = .ok (.aload_n 0, 1) := by decide +kernel
theorem dL_law_1305 : decode code 1305 = .ok (.iload 4, 2) := by decide +kernel
theorem dL_law_1307 : decode code 1307 = .ok (.iconst 1, 1) := by decide +kernel
theorem dL_law_1308 : decode code 1308 = .ok (.iadd, 1) := by decide +kernel
theorem dL_law_1309 : decode code 1309 = .ok (.iaload, 1) := by decide +kernel
theorem dL_law_1310 : decode code 1310 = .ok (.aload_n 0, 1) := by decide +kernel
theorem dL_law_1311 : decode code 1311 = .ok (.iload 4, 2) := by decide +kernel
theorem dL_law_1313 : decode code 1313 = .ok (.iconst 2, 1) := by decide +kernel
theorem dL_law_1314 : decode code 1314 = .ok (.iadd, 1) := by decide +kernel
theorem dL_law_1315 : decode code 1315 = .ok (.iaload, 1) := by decide +kernel
theorem dL_law_1316 : decode code 1316 = .ok (.invokevirtual 153, 3) := by decide +kernel
theorem dL_law_1319 : decode code 1319 = .ok (.aload_n 2, 1) := by decide +kernel
theorem dL_law_1320 : decode code 1320 = .ok (.aload_n 0, 1) := by decide +kernel
theorem dL_law_1321 : decode code 1321 = .ok (.iload 4, 2) := by decide +kernel
theorem dL_law_1323 : decode code 1323 = .ok (.iconst 1, 1) := by decide +kernel
theorem dL_law_1324 : decode code 1324 = .ok (.iadd, 1) := by decide +kernel
theorem dL_law_1325 : decode code 1325 = .ok (.iaload, 1) := by decide +kernel
theorem dL_law_1326 : decode code 1326 = .ok (.aload_n 0, 1) := by decide +kernel
theorem dL_law_1327 : decode code 1327 = .ok (.iload 4, 2) := by decide +kernel
theorem dL_law_1329 : decode code 1329 = .ok (.iconst 2, 1) := by decide +kernel
theorem dL_law_1330 : decode code 1330 = .ok (.iadd, 1) := by decide +kernel
theorem dL_law_1331 : decode code 1331 = .ok (.iaload, 1) := by decide +kernel
theorem dL_law_1332 : decode code 1332 = .ok (.invokevirtual 156, 3) := by decide +kernel
theorem dL_law_1335 : decode code 1335 = .ok (.if_icmp .eq 408, 3) := by decide +kernel
set_option maxHeartbeats 4000000 in
set_option maxRecDepth 100000 in
/-- even -/
theorem law_28 {p : Program} {l : Launch} {e : Env} {s : State} {m : MethodId} {below : List Frame} {meth : Method} {c : Code} {b L : Nat} {xs : Nat → Int32} {D : va_G} {cy : Nat → ClassId} {aC aM : Nat → Nat} {AC AM : Nat → Prop} {o : Nat} (F : LwF p l s m meth c b L xs D cy aC aM AC AM o) {i : Nat} (hi : i + 5 ≤ L) {cells slots : Nat} (hcs : cells + 1 ≤ room_1.cells ∧ slots + 6 ≤ room_1.slots) (hgo : LwGo p l e s m below meth c b D cy aC aM o i (cells + 1) (slots + 6)) {I : Nat → Int32} {Lg : Nat → Int64} {A : Nat → Nat → Int32} {B : Nat → Nat → Int64} {J : Nat → Int32} {E : Nat → Nat → Int32} {f : Nat → Int64} {H : Heap} {locs : List Loc} {ls : Array Slot} (hP : LwP D cy aC aM o I Lg A B J E f H) (hS : va_S (sNew s) s.heap H locs) (hst : LSt I Lg A B J E) (hl : lv_has ls 7 [(0, .ref b), (1, .ref (aC 0)), (2, .ref (aM 0)), (3, .ref o), (4, .int (nI i))]) : WL p l e s m b below meth c H locs cells slots (F0 m 1303 ls []) := by
  obtain ⟨S, hC, hM, hW⟩ := hst
  have hx := F.1.1
  have hb := F.1.2.1
  refine lv_aload_n hx hb dL_law_1303 rfl (lv_at hl 1 rfl) ?_
  refine law_arg F (k := 1) 0 4 hl rfl rfl (by omega) (by decide) hS dL_law_1304 dL_law_1305 dL_law_1307 dL_law_1308 dL_law_1309 ?_
  refine law_arg F (k := 2) 0 4 hl rfl rfl (by omega) (by decide) hS dL_law_1310 dL_law_1311 dL_law_1313 dL_law_1314 dL_law_1315 ?_
  have hk := t_even hC hM hW (xs (i + 1)) (xs (i + 2)) (K := fun r r' I1 A1 J1 E1 => r = r' ∧ LSt I1 Lg A1 B J1 E1) (by intros; exact ⟨rfl, _, by assumption, by assumption, by assumption⟩)
  refine lawCi F (As := [.int (xs (i + 1)), .int (xs (i + 2))]) (rest := []) (n := 2) (c_X9_even F.2.2.2.2.2.1 I Lg A B (xs (i + 1)) (xs (i + 2)) _ hk) hP hS mw_3_144 wd_X9_even rfl (by decide +kernel) ⟨rfl, rfl⟩ ⟨Nat.le_of_ble_eq_true rfl, Nat.le_of_ble_eq_true rfl⟩ rfl hl.1 rfl (Nat.le_of_ble_eq_true rfl) dL_law_1316 ⟨Nat.le_of_succ_le hcs.1, Nat.le_trans (Nat.le_add_right _ 6) hcs.2⟩ (fun r u H locs h hP hS => ?_)
  obtain ⟨I1, L1, A1, B1⟩ := u
  dsimp only at h hP
  obtain ⟨h, rfl, rfl⟩ := h
  try dsimp only at h
  refine lv_aload_n hx hb dL_law_1319 rfl (lv_at hl 2 rfl) ?_
  refine law_arg F (k := 1) 0 4 hl rfl rfl (by omega) (by decide) hS dL_law_1320 dL_law_1321 dL_law_1323 dL_law_1324 dL_law_1325 ?_
  refine law_arg F (k := 2) 0 4 hl rfl rfl (by omega) (by decide) hS dL_law_1326 dL_law_1327 dL_law_1329 dL_law_1330 dL_law_1331 ?_
  refine lawMi F (As := [.int (xs (i + 1)), .int (xs (i + 2))]) (rest := [.int r]) (n := 2) (c_X10_even F.2.2.2.2.2.2.1 J E (xs (i + 1)) (xs (i + 2)) _ h) hP hS mw_5_212 wd_X10_even rfl (by decide +kernel) ⟨rfl, rfl⟩ ⟨Nat.le_of_ble_eq_true rfl, Nat.le_of_ble_eq_true rfl⟩ rfl hl.1 rfl (Nat.le_of_ble_eq_true rfl) dL_law_1332 ⟨Nat.le_of_succ_le hcs.1, Nat.le_trans (Nat.le_add_right _ 6) hcs.2⟩ (fun r' u H locs h hP hS => ?_)
  obtain ⟨J1, E1⟩ := u
  dsimp only at h hP
  obtain ⟨hrr, hst⟩ := h
  refine lv_icmp_eq (tgt := 1743) hx hb dL_law_1335 (by decide) (fun _ => ?_) (fun hc => absurd hrr hc)
  exact W.widen (k := cells + 1) (n := slots + 6) (Nat.le_succ _) (Nat.le_add_right _ _) (hgo _ _ _ _ _ _ _ _ _ _ hP hS hst hl)
theorem dL_law_1340 : decode code 1340 = .ok (.aload_n 1, 1) := by decide +kernel
theorem dL_law_1341 : decode code 1341 = .ok (.aload_n 0, 1) := by decide +kernel
theorem dL_law_1342 : decode code 1342 = .ok (.iload 4, 2) := by decide +kernel
theorem dL_law_1344 : decode code 1344 = .ok (.iconst 1, 1) := by decide +kernel
theorem dL_law_1345 : decode code 1345 = .ok (.iadd, 1) := by decide +kernel
theorem dL_law_1346 : decode code 1346 = .ok (.iaload, 1) := by decide +kernel
theorem dL_law_1347 : decode code 1347 = .ok (.aload_n 0, 1) := by decide +kernel
theorem dL_law_1348 : decode code 1348 = .ok (.iload 4, 2) := by decide +kernel
theorem dL_law_1350 : decode code 1350 = .ok (.iconst 2, 1) := by decide +kernel
theorem dL_law_1351 : decode code 1351 = .ok (.iadd, 1) := by decide +kernel
theorem dL_law_1352 : decode code 1352 = .ok (.iaload, 1) := by decide +kernel
theorem dL_law_1353 : decode code 1353 = .ok (.aload_n 0, 1) := by decide +kernel
theorem dL_law_1354 : decode code 1354 = .ok (.iload 4, 2) := by decide +kernel
theorem dL_law_1356 : decode code 1356 = .ok (.iconst 3, 1) := by decide +kernel
theorem dL_law_1357 : decode code 1357 = .ok (.iadd, 1) := by decide +kernel
theorem dL_law_1358 : decode code 1358 = .ok (.iaload, 1) := by decide +kernel
theorem dL_law_1359 : decode code 1359 = .ok (.invokevirtual 157, 3) := by decide +kernel
theorem dL_law_1362 : decode code 1362 = .ok (.aload_n 2, 1) := by decide +kernel
theorem dL_law_1363 : decode code 1363 = .ok (.aload_n 0, 1) := by decide +kernel
theorem dL_law_1364 : decode code 1364 = .ok (.iload 4, 2) := by decide +kernel
theorem dL_law_1366 : decode code 1366 = .ok (.iconst 1, 1) := by decide +kernel
theorem dL_law_1367 : decode code 1367 = .ok (.iadd, 1) := by decide +kernel
theorem dL_law_1368 : decode code 1368 = .ok (.iaload, 1) := by decide +kernel
theorem dL_law_1369 : decode code 1369 = .ok (.aload_n 0, 1) := by decide +kernel
theorem dL_law_1370 : decode code 1370 = .ok (.iload 4, 2) := by decide +kernel
theorem dL_law_1372 : decode code 1372 = .ok (.iconst 2, 1) := by decide +kernel
theorem dL_law_1373 : decode code 1373 = .ok (.iadd, 1) := by decide +kernel
theorem dL_law_1374 : decode code 1374 = .ok (.iaload, 1) := by decide +kernel
theorem dL_law_1375 : decode code 1375 = .ok (.aload_n 0, 1) := by decide +kernel
theorem dL_law_1376 : decode code 1376 = .ok (.iload 4, 2) := by decide +kernel
theorem dL_law_1378 : decode code 1378 = .ok (.iconst 3, 1) := by decide +kernel
theorem dL_law_1379 : decode code 1379 = .ok (.iadd, 1) := by decide +kernel
theorem dL_law_1380 : decode code 1380 = .ok (.iaload, 1) := by decide +kernel
theorem dL_law_1381 : decode code 1381 = .ok (.invokevirtual 160, 3) := by decide +kernel
theorem dL_law_1384 : decode code 1384 = .ok (.if_icmp .eq 359, 3) := by decide +kernel
set_option maxHeartbeats 4000000 in
set_option maxRecDepth 100000 in
/-- top -/
theorem law_29 {p : Program} {l : Launch} {e : Env} {s : State} {m : MethodId} {below : List Frame} {meth : Method} {c : Code} {b L : Nat} {xs : Nat → Int32} {D : va_G} {cy : Nat → ClassId} {aC aM : Nat → Nat} {AC AM : Nat → Prop} {o : Nat} (F : LwF p l s m meth c b L xs D cy aC aM AC AM o) {i : Nat} (hi : i + 5 ≤ L) {cells slots : Nat} (hcs : cells + 1 ≤ room_1.cells ∧ slots + 6 ≤ room_1.slots) (hgo : LwGo p l e s m below meth c b D cy aC aM o i (cells + 1) (slots + 6)) {I : Nat → Int32} {Lg : Nat → Int64} {A : Nat → Nat → Int32} {B : Nat → Nat → Int64} {J : Nat → Int32} {E : Nat → Nat → Int32} {f : Nat → Int64} {H : Heap} {locs : List Loc} {ls : Array Slot} (hP : LwP D cy aC aM o I Lg A B J E f H) (hS : va_S (sNew s) s.heap H locs) (hst : LSt I Lg A B J E) (hl : lv_has ls 7 [(0, .ref b), (1, .ref (aC 0)), (2, .ref (aM 0)), (3, .ref o), (4, .int (nI i))]) : WL p l e s m b below meth c H locs cells slots (F0 m 1340 ls []) := by
  obtain ⟨S, hC, hM, hW⟩ := hst
  have hx := F.1.1
  have hb := F.1.2.1
  refine lv_aload_n hx hb dL_law_1340 rfl (lv_at hl 1 rfl) ?_
  refine law_arg F (k := 1) 0 4 hl rfl rfl (by omega) (by decide) hS dL_law_1341 dL_law_1342 dL_law_1344 dL_law_1345 dL_law_1346 ?_
  refine law_arg F (k := 2) 0 4 hl rfl rfl (by omega) (by decide) hS dL_law_1347 dL_law_1348 dL_law_1350 dL_law_1351 dL_law_1352 ?_
  refine law_arg F (k := 3) 0 4 hl rfl rfl (by omega) (by decide) hS dL_law_1353 dL_law_1354 dL_law_1356 dL_law_1357 dL_law_1358 ?_
  have hk := t_top hC hM hW (xs (i + 1)) (xs (i + 2)) (xs (i + 3)) (K := fun r r' I1 A1 J1 E1 => r = r' ∧ LSt I1 Lg A1 B J1 E1) (by intros; exact ⟨rfl, _, by assumption, by assumption, by assumption⟩)
  refine lawCi F (As := [.int (xs (i + 1)), .int (xs (i + 2)), .int (xs (i + 3))]) (rest := []) (n := 3) (c_X9_top F.2.2.2.2.2.1 I Lg A B (xs (i + 1)) (xs (i + 2)) (xs (i + 3)) _ hk) hP hS mw_3_160 wd_X9_top rfl (by decide +kernel) ⟨rfl, rfl⟩ ⟨Nat.le_of_ble_eq_true rfl, Nat.le_of_ble_eq_true rfl⟩ rfl hl.1 rfl (Nat.le_of_ble_eq_true rfl) dL_law_1359 ⟨Nat.le_of_succ_le hcs.1, Nat.le_trans (Nat.le_add_right _ 6) hcs.2⟩ (fun r u H locs h hP hS => ?_)
  obtain ⟨I1, L1, A1, B1⟩ := u
  dsimp only at h hP
  obtain ⟨h, rfl, rfl⟩ := h
  try dsimp only at h
  refine lv_aload_n hx hb dL_law_1362 rfl (lv_at hl 2 rfl) ?_
  refine law_arg F (k := 1) 0 4 hl rfl rfl (by omega) (by decide) hS dL_law_1363 dL_law_1364 dL_law_1366 dL_law_1367 dL_law_1368 ?_
  refine law_arg F (k := 2) 0 4 hl rfl rfl (by omega) (by decide) hS dL_law_1369 dL_law_1370 dL_law_1372 dL_law_1373 dL_law_1374 ?_
  refine law_arg F (k := 3) 0 4 hl rfl rfl (by omega) (by decide) hS dL_law_1375 dL_law_1376 dL_law_1378 dL_law_1379 dL_law_1380 ?_
  refine lawMi F (As := [.int (xs (i + 1)), .int (xs (i + 2)), .int (xs (i + 3))]) (rest := [.int r]) (n := 3) (c_X10_top F.2.2.2.2.2.2.1 J E (xs (i + 1)) (xs (i + 2)) (xs (i + 3)) _ h) hP hS mw_5_220 wd_X10_top rfl (by decide +kernel) ⟨rfl, rfl⟩ ⟨Nat.le_of_ble_eq_true rfl, Nat.le_of_ble_eq_true rfl⟩ rfl hl.1 rfl (Nat.le_of_ble_eq_true rfl) dL_law_1381 ⟨Nat.le_of_succ_le hcs.1, Nat.le_trans (Nat.le_add_right _ 6) hcs.2⟩ (fun r' u H locs h hP hS => ?_)
  obtain ⟨J1, E1⟩ := u
  dsimp only at h hP
  obtain ⟨hrr, hst⟩ := h
  refine lv_icmp_eq (tgt := 1743) hx hb dL_law_1384 (by decide) (fun _ => ?_) (fun hc => absurd hrr hc)
  exact W.widen (k := cells + 1) (n := slots + 6) (Nat.le_succ _) (Nat.le_add_right _ _) (hgo _ _ _ _ _ _ _ _ _ _ hP hS hst hl)
theorem dL_law_1389 : decode code 1389 = .ok (.aload_n 1, 1) := by decide +kernel
theorem dL_law_1390 : decode code 1390 = .ok (.aload_n 0, 1) := by decide +kernel
theorem dL_law_1391 : decode code 1391 = .ok (.iload 4, 2) := by decide +kernel
theorem dL_law_1393 : decode code 1393 = .ok (.iconst 1, 1) := by decide +kernel
theorem dL_law_1394 : decode code 1394 = .ok (.iadd, 1) := by decide +kernel
theorem dL_law_1395 : decode code 1395 = .ok (.iaload, 1) := by decide +kernel
theorem dL_law_1396 : decode code 1396 = .ok (.aload_n 0, 1) := by decide +kernel
theorem dL_law_1397 : decode code 1397 = .ok (.iload 4, 2) := by decide +kernel
theorem dL_law_1399 : decode code 1399 = .ok (.iconst 2, 1) := by decide +kernel
theorem dL_law_1400 : decode code 1400 = .ok (.iadd, 1) := by decide +kernel
theorem dL_law_1401 : decode code 1401 = .ok (.iaload, 1) := by decide +kernel
theorem dL_law_1402 : decode code 1402 = .ok (.invokevirtual 161, 3) := by decide +kernel
theorem dL_law_1405 : decode code 1405 = .ok (.aload_n 2, 1) := by decide +kernel
theorem dL_law_1406 : decode code 1406 = .ok (.aload_n 0, 1) := by decide +kernel
theorem dL_law_1407 : decode code 1407 = .ok (.iload 4, 2) := by decide +kernel
theorem dL_law_1409 : decode code 1409 = .ok (.iconst 1, 1) := by decide +kernel
theorem dL_law_1410 : decode code 1410 = .ok (.iadd, 1) := by decide +kernel
theorem dL_law_1411 : decode code 1411 = .ok (.iaload, 1) := by decide +kernel
theorem dL_law_1412 : decode code 1412 = .ok (.aload_n 0, 1) := by decide +kernel
theorem dL_law_1413 : decode code 1413 = .ok (.iload 4, 2) := by decide +kernel
theorem dL_law_1415 : decode code 1415 = .ok (.iconst 2, 1) := by decide +kernel
theorem dL_law_1416 : decode code 1416 = .ok (.iadd, 1) := by decide +kernel
theorem dL_law_1417 : decode code 1417 = .ok (.iaload, 1) := by decide +kernel
theorem dL_law_1418 : decode code 1418 = .ok (.invokevirtual 164, 3) := by decide +kernel
theorem dL_law_1421 : decode code 1421 = .ok (.if_icmp .eq 322, 3) := by decide +kernel
set_option maxHeartbeats 4000000 in
set_option maxRecDepth 100000 in
/-- read -/
theorem law_30 {p : Program} {l : Launch} {e : Env} {s : State} {m : MethodId} {below : List Frame} {meth : Method} {c : Code} {b L : Nat} {xs : Nat → Int32} {D : va_G} {cy : Nat → ClassId} {aC aM : Nat → Nat} {AC AM : Nat → Prop} {o : Nat} (F : LwF p l s m meth c b L xs D cy aC aM AC AM o) {i : Nat} (hi : i + 5 ≤ L) {cells slots : Nat} (hcs : cells + 1 ≤ room_1.cells ∧ slots + 6 ≤ room_1.slots) (hgo : LwGo p l e s m below meth c b D cy aC aM o i (cells + 1) (slots + 6)) {I : Nat → Int32} {Lg : Nat → Int64} {A : Nat → Nat → Int32} {B : Nat → Nat → Int64} {J : Nat → Int32} {E : Nat → Nat → Int32} {f : Nat → Int64} {H : Heap} {locs : List Loc} {ls : Array Slot} (hP : LwP D cy aC aM o I Lg A B J E f H) (hS : va_S (sNew s) s.heap H locs) (hst : LSt I Lg A B J E) (hl : lv_has ls 7 [(0, .ref b), (1, .ref (aC 0)), (2, .ref (aM 0)), (3, .ref o), (4, .int (nI i))]) : WL p l e s m b below meth c H locs cells slots (F0 m 1389 ls []) := by
  obtain ⟨S, hC, hM, hW⟩ := hst
  have hx := F.1.1
  have hb := F.1.2.1
  refine lv_aload_n hx hb dL_law_1389 rfl (lv_at hl 1 rfl) ?_
  refine law_arg F (k := 1) 0 4 hl rfl rfl (by omega) (by decide) hS dL_law_1390 dL_law_1391 dL_law_1393 dL_law_1394 dL_law_1395 ?_
  refine law_arg F (k := 2) 0 4 hl rfl rfl (by omega) (by decide) hS dL_law_1396 dL_law_1397 dL_law_1399 dL_law_1400 dL_law_1401 ?_
  have hk := t_read hC hM hW (xs (i + 1)) (xs (i + 2)) (K := fun r r' I1 A1 J1 E1 => r = r' ∧ LSt I1 Lg A1 B J1 E1) (by intros; exact ⟨rfl, _, by assumption, by assumption, by assumption⟩)
  refine lawCi F (As := [.int (xs (i + 1)), .int (xs (i + 2))]) (rest := []) (n := 2) (c_X9_read F.2.2.2.2.2.1 I Lg A B (xs (i + 1)) (xs (i + 2)) _ hk) hP hS mw_3_169 wd_X9_read rfl (by decide +kernel) ⟨rfl, rfl⟩ ⟨Nat.le_of_ble_eq_true rfl, Nat.le_of_ble_eq_true rfl⟩ rfl hl.1 rfl (Nat.le_of_ble_eq_true rfl) dL_law_1402 ⟨Nat.le_of_succ_le hcs.1, Nat.le_trans (Nat.le_add_right _ 6) hcs.2⟩ (fun r u H locs h hP hS => ?_)
  obtain ⟨I1, L1, A1, B1⟩ := u
  dsimp only at h hP
  obtain ⟨h, rfl, rfl⟩ := h
  try dsimp only at h
  refine lv_aload_n hx hb dL_law_1405 rfl (lv_at hl 2 rfl) ?_
  refine law_arg F (k := 1) 0 4 hl rfl rfl (by omega) (by decide) hS dL_law_1406 dL_law_1407 dL_law_1409 dL_law_1410 dL_law_1411 ?_
  refine law_arg F (k := 2) 0 4 hl rfl rfl (by omega) (by decide) hS dL_law_1412 dL_law_1413 dL_law_1415 dL_law_1416 dL_law_1417 ?_
  refine lawMi F (As := [.int (xs (i + 1)), .int (xs (i + 2))]) (rest := [.int r]) (n := 2) (c_X10_read F.2.2.2.2.2.2.1 J E (xs (i + 1)) (xs (i + 2)) _ h) hP hS mw_5_235 wd_X10_read rfl (by decide +kernel) ⟨rfl, rfl⟩ ⟨Nat.le_of_ble_eq_true rfl, Nat.le_of_ble_eq_true rfl⟩ rfl hl.1 rfl (Nat.le_of_ble_eq_true rfl) dL_law_1418 ⟨Nat.le_of_succ_le hcs.1, Nat.le_trans (Nat.le_add_right _ 6) hcs.2⟩ (fun r' u H locs h hP hS => ?_)
  obtain ⟨J1, E1⟩ := u
  dsimp only at h hP
  obtain ⟨hrr, hst⟩ := h
  refine lv_icmp_eq (tgt := 1743) hx hb dL_law_1421 (by decide) (fun _ => ?_) (fun hc => absurd hrr hc)
  exact W.widen (k := cells + 1) (n := slots + 6) (Nat.le_succ _) (Nat.le_add_right _ _) (hgo _ _ _ _ _ _ _ _ _ _ hP hS hst hl)
theorem dL_law_1426 : decode code 1426 = .ok (.aload_n 1, 1) := by decide +kernel
theorem dL_law_1427 : decode code 1427 = .ok (.aload_n 0, 1) := by decide +kernel
theorem dL_law_1428 : decode code 1428 = .ok (.iload 4, 2) := by decide +kernel
theorem dL_law_1430 : decode code 1430 = .ok (.iconst 1, 1) := by decide +kernel
theorem dL_law_1431 : decode code 1431 = .ok (.iadd, 1) := by decide +kernel
theorem dL_law_1432 : decode code 1432 = .ok (.iaload, 1) := by decide +kernel
theorem dL_law_1433 : decode code 1433 = .ok (.aload_n 0, 1) := by decide +kernel
theorem dL_law_1434 : decode code 1434 = .ok (.iload 4, 2) := by decide +kernel
theorem dL_law_1436 : decode code 1436 = .ok (.iconst 2, 1) := by decide +kernel
theorem dL_law_1437 : decode code 1437 = .ok (.iadd, 1) := by decide +kernel
theorem dL_law_1438 : decode code 1438 = .ok (.iaload, 1) := by decide +kernel
theorem dL_law_1439 : decode code 1439 = .ok (.invokevirtual 165, 3) := by decide +kernel
theorem dL_law_1442 : decode code 1442 = .ok (.aload_n 2, 1) := by decide +kernel
theorem dL_law_1443 : decode code 1443 = .ok (.aload_n 0, 1) := by decide +kernel
theorem dL_law_1444 : decode code 1444 = .ok (.iload 4, 2) := by decide +kernel
theorem dL_law_1446 : decode code 1446 = .ok (.iconst 1, 1) := by decide +kernel
theorem dL_law_1447 : decode code 1447 = .ok (.iadd, 1) := by decide +kernel
theorem dL_law_1448 : decode code 1448 = .ok (.iaload, 1) := by decide +kernel
theorem dL_law_1449 : decode code 1449 = .ok (.aload_n 0, 1) := by decide +kernel
theorem dL_law_1450 : decode code 1450 = .ok (.iload 4, 2) := by decide +kernel
theorem dL_law_1452 : decode code 1452 = .ok (.iconst 2, 1) := by decide +kernel
theorem dL_law_1453 : decode code 1453 = .ok (.iadd, 1) := by decide +kernel
theorem dL_law_1454 : decode code 1454 = .ok (.iaload, 1) := by decide +kernel
theorem dL_law_1455 : decode code 1455 = .ok (.invokevirtual 168, 3) := by decide +kernel
theorem dL_law_1458 : decode code 1458 = .ok (.if_icmp .eq 285, 3) := by decide +kernel
set_option maxHeartbeats 4000000 in
set_option maxRecDepth 100000 in
/-- path -/
theorem law_31 {p : Program} {l : Launch} {e : Env} {s : State} {m : MethodId} {below : List Frame} {meth : Method} {c : Code} {b L : Nat} {xs : Nat → Int32} {D : va_G} {cy : Nat → ClassId} {aC aM : Nat → Nat} {AC AM : Nat → Prop} {o : Nat} (F : LwF p l s m meth c b L xs D cy aC aM AC AM o) {i : Nat} (hi : i + 5 ≤ L) {cells slots : Nat} (hcs : cells + 1 ≤ room_1.cells ∧ slots + 6 ≤ room_1.slots) (hgo : LwGo p l e s m below meth c b D cy aC aM o i (cells + 1) (slots + 6)) {I : Nat → Int32} {Lg : Nat → Int64} {A : Nat → Nat → Int32} {B : Nat → Nat → Int64} {J : Nat → Int32} {E : Nat → Nat → Int32} {f : Nat → Int64} {H : Heap} {locs : List Loc} {ls : Array Slot} (hP : LwP D cy aC aM o I Lg A B J E f H) (hS : va_S (sNew s) s.heap H locs) (hst : LSt I Lg A B J E) (hl : lv_has ls 7 [(0, .ref b), (1, .ref (aC 0)), (2, .ref (aM 0)), (3, .ref o), (4, .int (nI i))]) : WL p l e s m b below meth c H locs cells slots (F0 m 1426 ls []) := by
  obtain ⟨S, hC, hM, hW⟩ := hst
  have hx := F.1.1
  have hb := F.1.2.1
  refine lv_aload_n hx hb dL_law_1426 rfl (lv_at hl 1 rfl) ?_
  refine law_arg F (k := 1) 0 4 hl rfl rfl (by omega) (by decide) hS dL_law_1427 dL_law_1428 dL_law_1430 dL_law_1431 dL_law_1432 ?_
  refine law_arg F (k := 2) 0 4 hl rfl rfl (by omega) (by decide) hS dL_law_1433 dL_law_1434 dL_law_1436 dL_law_1437 dL_law_1438 ?_
  have hk := t_path hC hM hW (xs (i + 1)) (xs (i + 2)) (K := fun r r' J1 E1 => r = r' ∧ LSt I Lg A B J1 E1) (by intros; exact ⟨rfl, _, by assumption, by assumption, by assumption⟩)
  refine lawCi F (As := [.int (xs (i + 1)), .int (xs (i + 2))]) (rest := []) (n := 2) (c_X9_path F.2.2.2.2.2.1 I Lg A B (xs (i + 1)) (xs (i + 2)) _ hk) hP hS mw_3_189 wd_X9_path rfl (by decide +kernel) ⟨rfl, rfl⟩ ⟨Nat.le_of_ble_eq_true rfl, Nat.le_of_ble_eq_true rfl⟩ rfl hl.1 rfl (Nat.le_of_ble_eq_true rfl) dL_law_1439 ⟨Nat.le_of_succ_le hcs.1, Nat.le_trans (Nat.le_add_right _ 6) hcs.2⟩ (fun r u H locs h hP hS => ?_)
  obtain ⟨I1, L1, A1, B1⟩ := u
  dsimp only at h hP
  obtain ⟨h, rfl, rfl, rfl, rfl⟩ := h
  try dsimp only at h
  refine lv_aload_n hx hb dL_law_1442 rfl (lv_at hl 2 rfl) ?_
  refine law_arg F (k := 1) 0 4 hl rfl rfl (by omega) (by decide) hS dL_law_1443 dL_law_1444 dL_law_1446 dL_law_1447 dL_law_1448 ?_
  refine law_arg F (k := 2) 0 4 hl rfl rfl (by omega) (by decide) hS dL_law_1449 dL_law_1450 dL_law_1452 dL_law_1453 dL_law_1454 ?_
  refine lawMi F (As := [.int (xs (i + 1)), .int (xs (i + 2))]) (rest := [.int r]) (n := 2) (c_X10_path F.2.2.2.2.2.2.1 J E (xs (i + 1)) (xs (i + 2)) _ h) hP hS mw_6_3 wd_X10_path rfl (by decide +kernel) ⟨rfl, rfl⟩ ⟨Nat.le_of_ble_eq_true rfl, Nat.le_of_ble_eq_true rfl⟩ rfl hl.1 rfl (Nat.le_of_ble_eq_true rfl) dL_law_1455 ⟨Nat.le_of_succ_le hcs.1, Nat.le_trans (Nat.le_add_right _ 6) hcs.2⟩ (fun r' u H locs h hP hS => ?_)
  obtain ⟨J1, E1⟩ := u
  dsimp only at h hP
  obtain ⟨hrr, hst⟩ := h
  refine lv_icmp_eq (tgt := 1743) hx hb dL_law_1458 (by decide) (fun _ => ?_) (fun hc => absurd hrr hc)
  exact W.widen (k := cells + 1) (n := slots + 6) (Nat.le_succ _) (Nat.le_add_right _ _) (hgo _ _ _ _ _ _ _ _ _ _ hP hS hst hl)
theorem dL_law_1463 : decode code 1463 = .ok (.aload_n 1, 1) := by decide +kernel
theorem dL_law_1464 : decode code 1464 = .ok (.invokevirtual 169, 3) := by decide +kernel
theorem dL_law_1467 : decode code 1467 = .ok (.aload_n 2, 1) := by decide +kernel
theorem dL_law_1468 : decode code 1468 = .ok (.invokevirtual 172, 3) := by decide +kernel
theorem dL_law_1471 : decode code 1471 = .ok (.if_icmp .eq 272, 3) := by decide +kernel
set_option maxHeartbeats 4000000 in
set_option maxRecDepth 100000 in
/-- split -/
theorem law_32 {p : Program} {l : Launch} {e : Env} {s : State} {m : MethodId} {below : List Frame} {meth : Method} {c : Code} {b L : Nat} {xs : Nat → Int32} {D : va_G} {cy : Nat → ClassId} {aC aM : Nat → Nat} {AC AM : Nat → Prop} {o : Nat} (F : LwF p l s m meth c b L xs D cy aC aM AC AM o) {i : Nat} (hi : i + 5 ≤ L) {cells slots : Nat} (hcs : cells + 1 ≤ room_1.cells ∧ slots + 6 ≤ room_1.slots) (hgo : LwGo p l e s m below meth c b D cy aC aM o i (cells + 1) (slots + 6)) {I : Nat → Int32} {Lg : Nat → Int64} {A : Nat → Nat → Int32} {B : Nat → Nat → Int64} {J : Nat → Int32} {E : Nat → Nat → Int32} {f : Nat → Int64} {H : Heap} {locs : List Loc} {ls : Array Slot} (hP : LwP D cy aC aM o I Lg A B J E f H) (hS : va_S (sNew s) s.heap H locs) (hst : LSt I Lg A B J E) (hl : lv_has ls 7 [(0, .ref b), (1, .ref (aC 0)), (2, .ref (aM 0)), (3, .ref o), (4, .int (nI i))]) : WL p l e s m b below meth c H locs cells slots (F0 m 1463 ls []) := by
  obtain ⟨S, hC, hM, hW⟩ := hst
  have hx := F.1.1
  have hb := F.1.2.1
  refine lv_aload_n hx hb dL_law_1463 rfl (lv_at hl 1 rfl) ?_
  have hk := t_split hC hM hW  (K := fun r r' J1 => r = r' ∧ LSt I Lg A B J1 E) (by intros; exact ⟨rfl, _, by assumption, by assumption, by assumption⟩)
  refine lawCi F (As := []) (rest := []) (n := 0) (c_X9_split F.2.2.2.2.2.1 I Lg A B  _ hk) hP hS mw_3_197 wd_X9_split rfl (by decide +kernel) ⟨rfl, rfl⟩ ⟨Nat.le_of_ble_eq_true rfl, Nat.le_of_ble_eq_true rfl⟩ rfl hl.1 rfl (Nat.le_of_ble_eq_true rfl) dL_law_1464 ⟨Nat.le_of_succ_le hcs.1, Nat.le_trans (Nat.le_add_right _ 6) hcs.2⟩ (fun r u H locs h hP hS => ?_)
  obtain ⟨I1, L1, A1, B1⟩ := u
  dsimp only at h hP
  obtain ⟨h, rfl, rfl, rfl, rfl⟩ := h
  try dsimp only at h
  refine lv_aload_n hx hb dL_law_1467 rfl (lv_at hl 2 rfl) ?_
  refine lawMi F (As := []) (rest := [.int r]) (n := 0) (c_X10_split F.2.2.2.2.2.2.1 J E  _ h) hP hS mw_6_11 wd_X10_split rfl (by decide +kernel) ⟨rfl, rfl⟩ ⟨Nat.le_of_ble_eq_true rfl, Nat.le_of_ble_eq_true rfl⟩ rfl hl.1 rfl (Nat.le_of_ble_eq_true rfl) dL_law_1468 ⟨Nat.le_of_succ_le hcs.1, Nat.le_trans (Nat.le_add_right _ 6) hcs.2⟩ (fun r' u H locs h hP hS => ?_)
  obtain ⟨J1, E1⟩ := u
  dsimp only at h hP
  obtain ⟨⟨hrr, hst⟩, rfl⟩ := h
  refine lv_icmp_eq (tgt := 1743) hx hb dL_law_1471 (by decide) (fun _ => ?_) (fun hc => absurd hrr hc)
  exact W.widen (k := cells + 1) (n := slots + 6) (Nat.le_succ _) (Nat.le_add_right _ _) (hgo _ _ _ _ _ _ _ _ _ _ hP hS hst hl)
theorem dL_law_1476 : decode code 1476 = .ok (.aload_n 1, 1) := by decide +kernel
theorem dL_law_1477 : decode code 1477 = .ok (.aload_n 0, 1) := by decide +kernel
theorem dL_law_1478 : decode code 1478 = .ok (.iload 4, 2) := by decide +kernel
theorem dL_law_1480 : decode code 1480 = .ok (.iconst 1, 1) := by decide +kernel
theorem dL_law_1481 : decode code 1481 = .ok (.iadd, 1) := by decide +kernel
theorem dL_law_1482 : decode code 1482 = .ok (.iaload, 1) := by decide +kernel
theorem dL_law_1483 : decode code 1483 = .ok (.aload_n 0, 1) := by decide +kernel
theorem dL_law_1484 : decode code 1484 = .ok (.iload 4, 2) := by decide +kernel
theorem dL_law_1486 : decode code 1486 = .ok (.iconst 2, 1) := by decide +kernel
theorem dL_law_1487 : decode code 1487 = .ok (.iadd, 1) := by decide +kernel
theorem dL_law_1488 : decode code 1488 = .ok (.iaload, 1) := by decide +kernel
theorem dL_law_1489 : decode code 1489 = .ok (.invokevirtual 173, 3) := by decide +kernel
theorem dL_law_1492 : decode code 1492 = .ok (.aload_n 2, 1) := by decide +kernel
theorem dL_law_1493 : decode code 1493 = .ok (.aload_n 0, 1) := by decide +kernel
theorem dL_law_1494 : decode code 1494 = .ok (.iload 4, 2) := by decide +kernel
theorem dL_law_1496 : decode code 1496 = .ok (.iconst 1, 1) := by decide +kernel
theorem dL_law_1497 : decode code 1497 = .ok (.iadd, 1) := by decide +kernel
theorem dL_law_1498 : decode code 1498 = .ok (.iaload, 1) := by decide +kernel
theorem dL_law_1499 : decode code 1499 = .ok (.aload_n 0, 1) := by decide +kernel
theorem dL_law_1500 : decode code 1500 = .ok (.iload 4, 2) := by decide +kernel
theorem dL_law_1502 : decode code 1502 = .ok (.iconst 2, 1) := by decide +kernel
theorem dL_law_1503 : decode code 1503 = .ok (.iadd, 1) := by decide +kernel
theorem dL_law_1504 : decode code 1504 = .ok (.iaload, 1) := by decide +kernel
theorem dL_law_1505 : decode code 1505 = .ok (.invokevirtual 176, 3) := by decide +kernel
theorem dL_law_1508 : decode code 1508 = .ok (.if_icmp .eq 235, 3) := by decide +kernel
set_option maxHeartbeats 4000000 in
set_option maxRecDepth 100000 in
/-- cover -/
theorem law_33 {p : Program} {l : Launch} {e : Env} {s : State} {m : MethodId} {below : List Frame} {meth : Method} {c : Code} {b L : Nat} {xs : Nat → Int32} {D : va_G} {cy : Nat → ClassId} {aC aM : Nat → Nat} {AC AM : Nat → Prop} {o : Nat} (F : LwF p l s m meth c b L xs D cy aC aM AC AM o) {i : Nat} (hi : i + 5 ≤ L) {cells slots : Nat} (hcs : cells + 1 ≤ room_1.cells ∧ slots + 6 ≤ room_1.slots) (hgo : LwGo p l e s m below meth c b D cy aC aM o i (cells + 1) (slots + 6)) {I : Nat → Int32} {Lg : Nat → Int64} {A : Nat → Nat → Int32} {B : Nat → Nat → Int64} {J : Nat → Int32} {E : Nat → Nat → Int32} {f : Nat → Int64} {H : Heap} {locs : List Loc} {ls : Array Slot} (hP : LwP D cy aC aM o I Lg A B J E f H) (hS : va_S (sNew s) s.heap H locs) (hst : LSt I Lg A B J E) (hl : lv_has ls 7 [(0, .ref b), (1, .ref (aC 0)), (2, .ref (aM 0)), (3, .ref o), (4, .int (nI i))]) : WL p l e s m b below meth c H locs cells slots (F0 m 1476 ls []) := by
  obtain ⟨S, hC, hM, hW⟩ := hst
  have hx := F.1.1
  have hb := F.1.2.1
  refine lv_aload_n hx hb dL_law_1476 rfl (lv_at hl 1 rfl) ?_
  refine law_arg F (k := 1) 0 4 hl rfl rfl (by omega) (by decide) hS dL_law_1477 dL_law_1478 dL_law_1480 dL_law_1481 dL_law_1482 ?_
  refine law_arg F (k := 2) 0 4 hl rfl rfl (by omega) (by decide) hS dL_law_1483 dL_law_1484 dL_law_1486 dL_law_1487 dL_law_1488 ?_
  have hk := t_cover hC hM hW (xs (i + 1)) (xs (i + 2)) (K := fun r r' I1 A1 B1 J1 E1 => r = r' ∧ LSt I1 Lg A1 B1 J1 E1) (by intros; exact ⟨rfl, _, by assumption, by assumption, by assumption⟩)
  refine lawCi F (As := [.int (xs (i + 1)), .int (xs (i + 2))]) (rest := []) (n := 2) (c_X9_cover F.2.2.2.2.2.1 I Lg A B (xs (i + 1)) (xs (i + 2)) _ hk) hP hS mw_3_204 wd_X9_cover rfl (by decide +kernel) ⟨rfl, rfl⟩ ⟨Nat.le_of_ble_eq_true rfl, Nat.le_of_ble_eq_true rfl⟩ rfl hl.1 rfl (Nat.le_of_ble_eq_true rfl) dL_law_1489 ⟨Nat.le_of_succ_le hcs.1, Nat.le_trans (Nat.le_add_right _ 6) hcs.2⟩ (fun r u H locs h hP hS => ?_)
  obtain ⟨I1, L1, A1, B1⟩ := u
  dsimp only at h hP
  obtain ⟨h, rfl⟩ := h
  try dsimp only at h
  refine lv_aload_n hx hb dL_law_1492 rfl (lv_at hl 2 rfl) ?_
  refine law_arg F (k := 1) 0 4 hl rfl rfl (by omega) (by decide) hS dL_law_1493 dL_law_1494 dL_law_1496 dL_law_1497 dL_law_1498 ?_
  refine law_arg F (k := 2) 0 4 hl rfl rfl (by omega) (by decide) hS dL_law_1499 dL_law_1500 dL_law_1502 dL_law_1503 dL_law_1504 ?_
  refine lawMi F (As := [.int (xs (i + 1)), .int (xs (i + 2))]) (rest := [.int r]) (n := 2) (c_X10_cover F.2.2.2.2.2.2.1 J E (xs (i + 1)) (xs (i + 2)) _ h) hP hS mw_6_18 wd_X10_cover rfl (by decide +kernel) ⟨rfl, rfl⟩ ⟨Nat.le_of_ble_eq_true rfl, Nat.le_of_ble_eq_true rfl⟩ rfl hl.1 rfl (Nat.le_of_ble_eq_true rfl) dL_law_1505 ⟨Nat.le_of_succ_le hcs.1, Nat.le_trans (Nat.le_add_right _ 6) hcs.2⟩ (fun r' u H locs h hP hS => ?_)
  obtain ⟨J1, E1⟩ := u
  dsimp only at h hP
  obtain ⟨hrr, hst⟩ := h
  refine lv_icmp_eq (tgt := 1743) hx hb dL_law_1508 (by decide) (fun _ => ?_) (fun hc => absurd hrr hc)
  exact W.widen (k := cells + 1) (n := slots + 6) (Nat.le_succ _) (Nat.le_add_right _ _) (hgo _ _ _ _ _ _ _ _ _ _ hP hS hst hl)
theorem dL_law_1513 : decode code 1513 = .ok (.aload_n 1, 1) := by decide +kernel
theorem dL_law_1514 : decode code 1514 = .ok (.aload_n 0, 1) := by decide +kernel
theorem dL_law_1515 : decode code 1515 = .ok (.iload 4, 2) := by decide +kernel
theorem dL_law_1517 : decode code 1517 = .ok (.iconst 1, 1) := by decide +kernel
theorem dL_law_1518 : decode code 1518 = .ok (.iadd, 1) := by decide +kernel
theorem dL_law_1519 : decode code 1519 = .ok (.iaload, 1) := by decide +kernel
theorem dL_law_1520 : decode code 1520 = .ok (.aload_n 0, 1) := by decide +kernel
theorem dL_law_1521 : decode code 1521 = .ok (.iload 4, 2) := by decide +kernel
theorem dL_law_1523 : decode code 1523 = .ok (.iconst 2, 1) := by decide +kernel
theorem dL_law_1524 : decode code 1524 = .ok (.iadd, 1) := by decide +kernel
theorem dL_law_1525 : decode code 1525 = .ok (.iaload, 1) := by decide +kernel
theorem dL_law_1526 : decode code 1526 = .ok (.invokevirtual 177, 3) := by decide +kernel
theorem dL_law_1529 : decode code 1529 = .ok (.aload_n 2, 1) := by decide +kernel
theorem dL_law_1530 : decode code 1530 = .ok (.aload_n 0, 1) := by decide +kernel
theorem dL_law_1531 : decode code 1531 = .ok (.iload 4, 2) := by decide +kernel
theorem dL_law_1533 : decode code 1533 = .ok (.iconst 1, 1) := by decide +kernel
theorem dL_law_1534 : decode code 1534 = .ok (.iadd, 1) := by decide +kernel
theorem dL_law_1535 : decode code 1535 = .ok (.iaload, 1) := by decide +kernel
theorem dL_law_1536 : decode code 1536 = .ok (.aload_n 0, 1) := by decide +kernel
theorem dL_law_1537 : decode code 1537 = .ok (.iload 4, 2) := by decide +kernel
theorem dL_law_1539 : decode code 1539 = .ok (.iconst 2, 1) := by decide +kernel
theorem dL_law_1540 : decode code 1540 = .ok (.iadd, 1) := by decide +kernel
theorem dL_law_1541 : decode code 1541 = .ok (.iaload, 1) := by decide +kernel
theorem dL_law_1542 : decode code 1542 = .ok (.invokevirtual 180, 3) := by decide +kernel
theorem dL_law_1545 : decode code 1545 = .ok (.if_icmp .eq 198, 3) := by decide +kernel
set_option maxHeartbeats 4000000 in
set_option maxRecDepth 100000 in
/-- both -/
theorem law_34 {p : Program} {l : Launch} {e : Env} {s : State} {m : MethodId} {below : List Frame} {meth : Method} {c : Code} {b L : Nat} {xs : Nat → Int32} {D : va_G} {cy : Nat → ClassId} {aC aM : Nat → Nat} {AC AM : Nat → Prop} {o : Nat} (F : LwF p l s m meth c b L xs D cy aC aM AC AM o) {i : Nat} (hi : i + 5 ≤ L) {cells slots : Nat} (hcs : cells + 1 ≤ room_1.cells ∧ slots + 6 ≤ room_1.slots) (hgo : LwGo p l e s m below meth c b D cy aC aM o i (cells + 1) (slots + 6)) {I : Nat → Int32} {Lg : Nat → Int64} {A : Nat → Nat → Int32} {B : Nat → Nat → Int64} {J : Nat → Int32} {E : Nat → Nat → Int32} {f : Nat → Int64} {H : Heap} {locs : List Loc} {ls : Array Slot} (hP : LwP D cy aC aM o I Lg A B J E f H) (hS : va_S (sNew s) s.heap H locs) (hst : LSt I Lg A B J E) (hl : lv_has ls 7 [(0, .ref b), (1, .ref (aC 0)), (2, .ref (aM 0)), (3, .ref o), (4, .int (nI i))]) : WL p l e s m b below meth c H locs cells slots (F0 m 1513 ls []) := by
  obtain ⟨S, hC, hM, hW⟩ := hst
  have hx := F.1.1
  have hb := F.1.2.1
  refine lv_aload_n hx hb dL_law_1513 rfl (lv_at hl 1 rfl) ?_
  refine law_arg F (k := 1) 0 4 hl rfl rfl (by omega) (by decide) hS dL_law_1514 dL_law_1515 dL_law_1517 dL_law_1518 dL_law_1519 ?_
  refine law_arg F (k := 2) 0 4 hl rfl rfl (by omega) (by decide) hS dL_law_1520 dL_law_1521 dL_law_1523 dL_law_1524 dL_law_1525 ?_
  have hk := t_both hC hM hW (xs (i + 1)) (xs (i + 2)) (K := fun r r' J1 => r = r' ∧ LSt I Lg A B J1 E) (by intros; exact ⟨rfl, _, by assumption, by assumption, by assumption⟩)
  refine lawCi F (As := [.int (xs (i + 1)), .int (xs (i + 2))]) (rest := []) (n := 2) (c_X9_both F.2.2.2.2.2.1 I Lg A B (xs (i + 1)) (xs (i + 2)) _ hk) hP hS mw_3_229 wd_X9_both rfl (by decide +kernel) ⟨rfl, rfl⟩ ⟨Nat.le_of_ble_eq_true rfl, Nat.le_of_ble_eq_true rfl⟩ rfl hl.1 rfl (Nat.le_of_ble_eq_true rfl) dL_law_1526 ⟨Nat.le_of_succ_le hcs.1, Nat.le_trans (Nat.le_add_right _ 6) hcs.2⟩ (fun r u H locs h hP hS => ?_)
  obtain ⟨I1, L1, A1, B1⟩ := u
  dsimp only at h hP
  obtain ⟨h, rfl, rfl, rfl, rfl⟩ := h
  try dsimp only at h
  refine lv_aload_n hx hb dL_law_1529 rfl (lv_at hl 2 rfl) ?_
  refine law_arg F (k := 1) 0 4 hl rfl rfl (by omega) (by decide) hS dL_law_1530 dL_law_1531 dL_law_1533 dL_law_1534 dL_law_1535 ?_
  refine law_arg F (k := 2) 0 4 hl rfl rfl (by omega) (by decide) hS dL_law_1536 dL_law_1537 dL_law_1539 dL_law_1540 dL_law_1541 ?_
  refine lawMi F (As := [.int (xs (i + 1)), .int (xs (i + 2))]) (rest := [.int r]) (n := 2) (c_X10_both F.2.2.2.2.2.2.1 J E (xs (i + 1)) (xs (i + 2)) _ h) hP hS mw_6_40 wd_X10_both rfl (by decide +kernel) ⟨rfl, rfl⟩ ⟨Nat.le_of_ble_eq_true rfl, Nat.le_of_ble_eq_true rfl⟩ rfl hl.1 rfl (Nat.le_of_ble_eq_true rfl) dL_law_1542 ⟨Nat.le_of_succ_le hcs.1, Nat.le_trans (Nat.le_add_right _ 6) hcs.2⟩ (fun r' u H locs h hP hS => ?_)
  obtain ⟨J1, E1⟩ := u
  dsimp only at h hP
  obtain ⟨⟨hrr, hst⟩, rfl⟩ := h
  refine lv_icmp_eq (tgt := 1743) hx hb dL_law_1545 (by decide) (fun _ => ?_) (fun hc => absurd hrr hc)
  exact W.widen (k := cells + 1) (n := slots + 6) (Nat.le_succ _) (Nat.le_add_right _ _) (hgo _ _ _ _ _ _ _ _ _ _ hP hS hst hl)
