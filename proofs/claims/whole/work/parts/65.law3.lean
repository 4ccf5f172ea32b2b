section LWc3
variable {p : Program} {l : Launch} {e : Env} {s : State} {m : MethodId} {below : List Frame} {meth : Method} {c : Code} {D : va_G} {cy : Nat → ClassId} {Bd : Nat} {xa : Xa} {b Ln : Nat} {xs : Nat → Int32} {xd : Nat → Nat → Nat} {ad : Nat → Nat}
theorem dL_law_1343 : decode cL_law 1343 = .ok (.aload_n 1, 1) := by decide +kernel
theorem dL_law_1344 : decode cL_law 1344 = .ok (.aload_n 0, 1) := by decide +kernel
theorem dL_law_1345 : decode cL_law 1345 = .ok (.iload_n 3, 1) := by decide +kernel
theorem dL_law_1346 : decode cL_law 1346 = .ok (.iconst 1, 1) := by decide +kernel
theorem dL_law_1347 : decode cL_law 1347 = .ok (.iadd, 1) := by decide +kernel
theorem dL_law_1348 : decode cL_law 1348 = .ok (.iaload, 1) := by decide +kernel
theorem dL_law_1349 : decode cL_law 1349 = .ok (.aload_n 0, 1) := by decide +kernel
theorem dL_law_1350 : decode cL_law 1350 = .ok (.iload_n 3, 1) := by decide +kernel
theorem dL_law_1351 : decode cL_law 1351 = .ok (.iconst 2, 1) := by decide +kernel
theorem dL_law_1352 : decode cL_law 1352 = .ok (.iadd, 1) := by decide +kernel
theorem dL_law_1353 : decode cL_law 1353 = .ok (.iaload, 1) := by decide +kernel
theorem dL_law_1354 : decode cL_law 1354 = .ok (.invokevirtual 164, 3) := by decide +kernel
theorem dL_law_1357 : decode cL_law 1357 = .ok (.aload_n 2, 1) := by decide +kernel
theorem dL_law_1358 : decode cL_law 1358 = .ok (.aload_n 0, 1) := by decide +kernel
theorem dL_law_1359 : decode cL_law 1359 = .ok (.iload_n 3, 1) := by decide +kernel
theorem dL_law_1360 : decode cL_law 1360 = .ok (.iconst 1, 1) := by decide +kernel
theorem dL_law_1361 : decode cL_law 1361 = .ok (.iadd, 1) := by decide +kernel
theorem dL_law_1362 : decode cL_law 1362 = .ok (.iaload, 1) := by decide +kernel
theorem dL_law_1363 : decode cL_law 1363 = .ok (.aload_n 0, 1) := by decide +kernel
theorem dL_law_1364 : decode cL_law 1364 = .ok (.iload_n 3, 1) := by decide +kernel
theorem dL_law_1365 : decode cL_law 1365 = .ok (.iconst 2, 1) := by decide +kernel
theorem dL_law_1366 : decode cL_law 1366 = .ok (.iadd, 1) := by decide +kernel
theorem dL_law_1367 : decode cL_law 1367 = .ok (.iaload, 1) := by decide +kernel
theorem dL_law_1368 : decode cL_law 1368 = .ok (.invokevirtual 167, 3) := by decide +kernel
theorem dL_law_1371 : decode cL_law 1371 = .ok (.if_icmp .eq 313, 3) := by decide +kernel
theorem law_lay (C : CC p s m #[Value.ref b] meth c code RL 4 ret D cy (fun q => s.heap.size ≤ q) false Bd xa) (hX : va_X b Ln xs s s.heap) (hbl : b < s.heap.size) (hL : Ln ≤ 2560) {sX : S1} {aX : S2} {uG : S1} {es : S1} {ea : S2} {sT : S1} {aT : S2} {tT : S2} {pT : S1} {qT : S2} {ma : S2} {sL : S1} {aL : S2} {tL : S2} {pL : S1} {qL : S2} {sK : S1} {aK : S2} {tK : S2} {pK : S1} {qK : S2} {sH : S2} {rH : S3} {uH : S2} {sc : S1} {ar : S2} {la : S3} (I : INV sX aX uG es ea sT aT tT pT qT ma sL aL tL pL qL sK aK tK pK qK sH rH uH sc ar la) {i : Nat} (hi : i + 5 ≤ Ln) (k : ∀ (sX : S1) (aX : S2) (uG : S1) (es : S1) (ea : S2) (sT : S1) (aT : S2) (tT : S2) (pT : S1) (qT : S2) (ma : S2) (sL : S1) (aL : S2) (tL : S2) (pL : S1) (qL : S2) (sK : S1) (aK : S2) (tK : S2) (pK : S1) (qK : S2) (sH : S2) (rH : S3) (uH : S2) (sc : S1) (ar : S2) (la : S3), INV sX aX uG es ea sT aT tT pT qT ma sL aL tL pL qL sK aK tK pK qK sH rH uH sc ar la → LU p l e s m below meth c D b 1684 i (xd 0 0) (ad 0) [] (xC cy xd sX aX uG es ea sT aT tT pT qT ma sL aL tL pL qL sK aK tK pK qK sH rH uH ++ mC cy ad sc ar la)) : LU p l e s m below meth c D b 1343 i (xd 0 0) (ad 0) [] (xC cy xd sX aX uG es ea sT aT tT pT qT ma sL aL tL pL qL sK aK tK pK qK sH rH uH ++ mC cy ad sc ar la) := by
  obtain ⟨o6, o7, e6, e7, ea1, I1⟩ := v_lay (N := 10000000) (Nat.le_refl _) I (xs (i + 1)) (xs (i + 2))
  refine uu_aload_n C dL_law_1343 rfl (k := 2) rfl ?_
  refine lu_arg C hX hbl hL hi (j := 1) (by decide) rfl dL_law_1344 dL_law_1345 dL_law_1346 dL_law_1347 dL_law_1348 ?_
  refine lu_arg C hX hbl hL hi (j := 2) (by decide) rfl dL_law_1349 dL_law_1350 dL_law_1351 dL_law_1352 dL_law_1353 ?_
  refine uu_callG C (k_X6_lay (xa := xa) (xd := xd) (sX := sX) (aX := aX) (uG := uG) (es := es) (ea := ea) (sT := sT) (aT := aT) (tT := tT) (pT := pT) (qT := qT) (ma := ma) (sL := sL) (aL := aL) (tL := tL) (pL := pL) (qL := qL) (sK := sK) (aK := aK) (tK := tK) (pK := pK) (qK := qK) (sH := sH) (rH := rH) (uH := uH) e6) okX6_lay q4_72 (ci := 6) rfl (q0 := 0) rfl [] (mC cy ad sc ar la) rfl (ws' := (xC cy xd sX o6.2.1 uG es ea sT aT tT pT qT ma sL aL tL pL qL sK aK tK pK qK o6.2.2.1 rH o6.2.2.2 ++ mC cy ad sc ar la)) rfl rfl rfl rfl (Nat.le_of_ble_eq_true rfl) ⟨Nat.le_of_ble_eq_true rfl, Nat.le_of_ble_eq_true rfl⟩ ⟨Nat.le_of_ble_eq_true rfl, Nat.le_of_ble_eq_true rfl⟩ dL_law_1354 ?_
  refine uu_aload_n C dL_law_1357 rfl (k := 1) rfl ?_
  refine lu_arg C hX hbl hL hi (j := 1) (by decide) rfl dL_law_1358 dL_law_1359 dL_law_1360 dL_law_1361 dL_law_1362 ?_
  refine lu_arg C hX hbl hL hi (j := 2) (by decide) rfl dL_law_1363 dL_law_1364 dL_law_1365 dL_law_1366 dL_law_1367 ?_
  refine uu_callG C (k_X7_lay (xa := xa) (ad := ad) (sc := sc) (ar := ar) (la := la) e7) okX7_lay q6_89 (ci := 7) rfl (q0 := 72) rfl (xC cy xd sX o6.2.1 uG es ea sT aT tT pT qT ma sL aL tL pL qL sK aK tK pK qK o6.2.2.1 rH o6.2.2.2) [] (by rw [List.append_nil]) (ws' := (xC cy xd sX o6.2.1 uG es ea sT aT tT pT qT ma sL aL tL pL qL sK aK tK pK qK o6.2.2.1 rH o6.2.2.2 ++ mC cy ad sc o7.2.1 o7.2.2)) (by rw [List.append_nil]) rfl rfl rfl (Nat.le_of_ble_eq_true rfl) ⟨Nat.le_of_ble_eq_true rfl, Nat.le_of_ble_eq_true rfl⟩ ⟨Nat.le_of_ble_eq_true rfl, Nat.le_of_ble_eq_true rfl⟩ dL_law_1368 ?_
  exact ur_icmp_eq C dL_law_1371 (tgt := 1684) rfl (fun _ => k _ _ _ _ _ _ _ _ _ _ _ _ _ _ _ _ _ _ _ _ _ _ _ _ _ _ _ I1) (fun h => absurd ea1 h)
theorem dL_law_1376 : decode cL_law 1376 = .ok (.aload_n 1, 1) := by decide +kernel
theorem dL_law_1377 : decode cL_law 1377 = .ok (.aload_n 0, 1) := by decide +kernel
theorem dL_law_1378 : decode cL_law 1378 = .ok (.iload_n 3, 1) := by decide +kernel
theorem dL_law_1379 : decode cL_law 1379 = .ok (.iconst 1, 1) := by decide +kernel
theorem dL_law_1380 : decode cL_law 1380 = .ok (.iadd, 1) := by decide +kernel
theorem dL_law_1381 : decode cL_law 1381 = .ok (.iaload, 1) := by decide +kernel
theorem dL_law_1382 : decode cL_law 1382 = .ok (.aload_n 0, 1) := by decide +kernel
theorem dL_law_1383 : decode cL_law 1383 = .ok (.iload_n 3, 1) := by decide +kernel
theorem dL_law_1384 : decode cL_law 1384 = .ok (.iconst 2, 1) := by decide +kernel
theorem dL_law_1385 : decode cL_law 1385 = .ok (.iadd, 1) := by decide +kernel
theorem dL_law_1386 : decode cL_law 1386 = .ok (.iaload, 1) := by decide +kernel
theorem dL_law_1387 : decode cL_law 1387 = .ok (.aload_n 0, 1) := by decide +kernel
theorem dL_law_1388 : decode cL_law 1388 = .ok (.iload_n 3, 1) := by decide +kernel
theorem dL_law_1389 : decode cL_law 1389 = .ok (.iconst 3, 1) := by decide +kernel
theorem dL_law_1390 : decode cL_law 1390 = .ok (.iadd, 1) := by decide +kernel
theorem dL_law_1391 : decode cL_law 1391 = .ok (.iaload, 1) := by decide +kernel
theorem dL_law_1392 : decode cL_law 1392 = .ok (.i2l, 1) := by decide +kernel
theorem dL_law_1393 : decode cL_law 1393 = .ok (.bipush 32, 2) := by decide +kernel
theorem dL_law_1395 : decode cL_law 1395 = .ok (.lshl, 1) := by decide +kernel
theorem dL_law_1396 : decode cL_law 1396 = .ok (.aload_n 0, 1) := by decide +kernel
theorem dL_law_1397 : decode cL_law 1397 = .ok (.iload_n 3, 1) := by decide +kernel
theorem dL_law_1398 : decode cL_law 1398 = .ok (.iconst 4, 1) := by decide +kernel
theorem dL_law_1399 : decode cL_law 1399 = .ok (.iadd, 1) := by decide +kernel
theorem dL_law_1400 : decode cL_law 1400 = .ok (.iaload, 1) := by decide +kernel
theorem dL_law_1401 : decode cL_law 1401 = .ok (.i2l, 1) := by decide +kernel
theorem dL_law_1402 : decode cL_law 1402 = .ok (.ldc2_w 168, 3) := by decide +kernel
theorem dL_law_1405 : decode cL_law 1405 = .ok (.land, 1) := by decide +kernel
theorem dL_law_1406 : decode cL_law 1406 = .ok (.lor, 1) := by decide +kernel
theorem dL_law_1407 : decode cL_law 1407 = .ok (.invokevirtual 170, 3) := by decide +kernel
theorem dL_law_1410 : decode cL_law 1410 = .ok (.aload_n 2, 1) := by decide +kernel
theorem dL_law_1411 : decode cL_law 1411 = .ok (.aload_n 0, 1) := by decide +kernel
theorem dL_law_1412 : decode cL_law 1412 = .ok (.iload_n 3, 1) := by decide +kernel
theorem dL_law_1413 : decode cL_law 1413 = .ok (.iconst 1, 1) := by decide +kernel
theorem dL_law_1414 : decode cL_law 1414 = .ok (.iadd, 1) := by decide +kernel
theorem dL_law_1415 : decode cL_law 1415 = .ok (.iaload, 1) := by decide +kernel
theorem dL_law_1416 : decode cL_law 1416 = .ok (.aload_n 0, 1) := by decide +kernel
theorem dL_law_1417 : decode cL_law 1417 = .ok (.iload_n 3, 1) := by decide +kernel
theorem dL_law_1418 : decode cL_law 1418 = .ok (.iconst 2, 1) := by decide +kernel
theorem dL_law_1419 : decode cL_law 1419 = .ok (.iadd, 1) := by decide +kernel
theorem dL_law_1420 : decode cL_law 1420 = .ok (.iaload, 1) := by decide +kernel
theorem dL_law_1421 : decode cL_law 1421 = .ok (.aload_n 0, 1) := by decide +kernel
theorem dL_law_1422 : decode cL_law 1422 = .ok (.iload_n 3, 1) := by decide +kernel
theorem dL_law_1423 : decode cL_law 1423 = .ok (.iconst 3, 1) := by decide +kernel
theorem dL_law_1424 : decode cL_law 1424 = .ok (.iadd, 1) := by decide +kernel
theorem dL_law_1425 : decode cL_law 1425 = .ok (.iaload, 1) := by decide +kernel
theorem dL_law_1426 : decode cL_law 1426 = .ok (.i2l, 1) := by decide +kernel
theorem dL_law_1427 : decode cL_law 1427 = .ok (.bipush 32, 2) := by decide +kernel
theorem dL_law_1429 : decode cL_law 1429 = .ok (.lshl, 1) := by decide +kernel
theorem dL_law_1430 : decode cL_law 1430 = .ok (.aload_n 0, 1) := by decide +kernel
theorem dL_law_1431 : decode cL_law 1431 = .ok (.iload_n 3, 1) := by decide +kernel
theorem dL_law_1432 : decode cL_law 1432 = .ok (.iconst 4, 1) := by decide +kernel
theorem dL_law_1433 : decode cL_law 1433 = .ok (.iadd, 1) := by decide +kernel
theorem dL_law_1434 : decode cL_law 1434 = .ok (.iaload, 1) := by decide +kernel
theorem dL_law_1435 : decode cL_law 1435 = .ok (.i2l, 1) := by decide +kernel
theorem dL_law_1436 : decode cL_law 1436 = .ok (.ldc2_w 168, 3) := by decide +kernel
theorem dL_law_1439 : decode cL_law 1439 = .ok (.land, 1) := by decide +kernel
theorem dL_law_1440 : decode cL_law 1440 = .ok (.lor, 1) := by decide +kernel
theorem dL_law_1441 : decode cL_law 1441 = .ok (.invokevirtual 174, 3) := by decide +kernel
theorem dL_law_1444 : decode cL_law 1444 = .ok (.if_icmp .eq 240, 3) := by decide +kernel
theorem law_put (C : CC p s m #[Value.ref b] meth c code RL 4 ret D cy (fun q => s.heap.size ≤ q) false Bd xa) (hX : va_X b Ln xs s s.heap) (hbl : b < s.heap.size) (hL : Ln ≤ 2560) {sX : S1} {aX : S2} {uG : S1} {es : S1} {ea : S2} {sT : S1} {aT : S2} {tT : S2} {pT : S1} {qT : S2} {ma : S2} {sL : S1} {aL : S2} {tL : S2} {pL : S1} {qL : S2} {sK : S1} {aK : S2} {tK : S2} {pK : S1} {qK : S2} {sH : S2} {rH : S3} {uH : S2} {sc : S1} {ar : S2} {la : S3} (I : INV sX aX uG es ea sT aT tT pT qT ma sL aL tL pL qL sK aK tK pK qK sH rH uH sc ar la) {i : Nat} (hi : i + 5 ≤ Ln) (k : ∀ (sX : S1) (aX : S2) (uG : S1) (es : S1) (ea : S2) (sT : S1) (aT : S2) (tT : S2) (pT : S1) (qT : S2) (ma : S2) (sL : S1) (aL : S2) (tL : S2) (pL : S1) (qL : S2) (sK : S1) (aK : S2) (tK : S2) (pK : S1) (qK : S2) (sH : S2) (rH : S3) (uH : S2) (sc : S1) (ar : S2) (la : S3), INV sX aX uG es ea sT aT tT pT qT ma sL aL tL pL qL sK aK tK pK qK sH rH uH sc ar la → LU p l e s m below meth c D b 1684 i (xd 0 0) (ad 0) [] (xC cy xd sX aX uG es ea sT aT tT pT qT ma sL aL tL pL qL sK aK tK pK qK sH rH uH ++ mC cy ad sc ar la)) : LU p l e s m below meth c D b 1376 i (xd 0 0) (ad 0) [] (xC cy xd sX aX uG es ea sT aT tT pT qT ma sL aL tL pL qL sK aK tK pK qK sH rH uH ++ mC cy ad sc ar la) := by
  obtain ⟨o6, o7, e6, e7, ea1, I1⟩ := v_put (N := 10000000) (Nat.le_refl _) I (xs (i + 1)) (xs (i + 2)) (((xs (i + 3)).toInt64 <<< ((32 : Int32).toInt64 &&& 63)) ||| ((xs (i + 4)).toInt64 &&& 4294967295))
  refine uu_aload_n C dL_law_1376 rfl (k := 2) rfl ?_
  refine lu_arg C hX hbl hL hi (j := 1) (by decide) rfl dL_law_1377 dL_law_1378 dL_law_1379 dL_law_1380 dL_law_1381 ?_
  refine lu_arg C hX hbl hL hi (j := 2) (by decide) rfl dL_law_1382 dL_law_1383 dL_law_1384 dL_law_1385 dL_law_1386 ?_
  refine lu_arg C hX hbl hL hi (j := 3) (by decide) rfl dL_law_1387 dL_law_1388 dL_law_1389 dL_law_1390 dL_law_1391 ?_
  refine uu_i2l C dL_law_1392 ?_
  refine uu_bipush C (v := 32) dL_law_1393 (by decide) ?_
  refine uu_lshl C dL_law_1395 ?_
  refine lu_arg C hX hbl hL hi (j := 4) (by decide) rfl dL_law_1396 dL_law_1397 dL_law_1398 dL_law_1399 dL_law_1400 ?_
  refine uu_i2l C dL_law_1401 ?_
  refine uu_ldc2 C dL_law_1402 q6_205 ?_
  refine uu_land C dL_law_1405 ?_
  refine uu_lor C dL_law_1406 ?_
  refine uu_callG C (k_X6_put (xa := xa) (xd := xd) (sX := sX) (aX := aX) (uG := uG) (es := es) (ea := ea) (sT := sT) (aT := aT) (tT := tT) (pT := pT) (qT := qT) (ma := ma) (sL := sL) (aL := aL) (tL := tL) (pL := pL) (qL := qL) (sK := sK) (aK := aK) (tK := tK) (pK := pK) (qK := qK) (sH := sH) (rH := rH) (uH := uH) e6) okX6_put q4_81 (ci := 6) rfl (q0 := 0) rfl [] (mC cy ad sc ar la) rfl (ws' := (xC cy xd sX o6.2.1 uG es ea sT aT tT pT qT ma sL aL tL pL qL sK aK tK pK qK sH o6.2.2 uH ++ mC cy ad sc ar la)) rfl rfl rfl rfl (Nat.le_of_ble_eq_true rfl) ⟨Nat.le_of_ble_eq_true rfl, Nat.le_of_ble_eq_true rfl⟩ ⟨Nat.le_of_ble_eq_true rfl, Nat.le_of_ble_eq_true rfl⟩ dL_law_1407 ?_
  refine uu_aload_n C dL_law_1410 rfl (k := 1) rfl ?_
  refine lu_arg C hX hbl hL hi (j := 1) (by decide) rfl dL_law_1411 dL_law_1412 dL_law_1413 dL_law_1414 dL_law_1415 ?_
  refine lu_arg C hX hbl hL hi (j := 2) (by decide) rfl dL_law_1416 dL_law_1417 dL_law_1418 dL_law_1419 dL_law_1420 ?_
  refine lu_arg C hX hbl hL hi (j := 3) (by decide) rfl dL_law_1421 dL_law_1422 dL_law_1423 dL_law_1424 dL_law_1425 ?_
  refine uu_i2l C dL_law_1426 ?_
  refine uu_bipush C (v := 32) dL_law_1427 (by decide) ?_
  refine uu_lshl C dL_law_1429 ?_
  refine lu_arg C hX hbl hL hi (j := 4) (by decide) rfl dL_law_1430 dL_law_1431 dL_law_1432 dL_law_1433 dL_law_1434 ?_
  refine uu_i2l C dL_law_1435 ?_
  refine uu_ldc2 C dL_law_1436 q6_205 ?_
  refine uu_land C dL_law_1439 ?_
  refine uu_lor C dL_law_1440 ?_
  refine uu_callG C (k_X7_put (xa := xa) (ad := ad) (sc := sc) (ar := ar) (la := la) e7) okX7_put q6_93 (ci := 7) rfl (q0 := 72) rfl (xC cy xd sX o6.2.1 uG es ea sT aT tT pT qT ma sL aL tL pL qL sK aK tK pK qK sH o6.2.2 uH) [] (by rw [List.append_nil]) (ws' := (xC cy xd sX o6.2.1 uG es ea sT aT tT pT qT ma sL aL tL pL qL sK aK tK pK qK sH o6.2.2 uH ++ mC cy ad sc o7.2.1 o7.2.2)) (by rw [List.append_nil]) rfl rfl rfl (Nat.le_of_ble_eq_true rfl) ⟨Nat.le_of_ble_eq_true rfl, Nat.le_of_ble_eq_true rfl⟩ ⟨Nat.le_of_ble_eq_true rfl, Nat.le_of_ble_eq_true rfl⟩ dL_law_1441 ?_
  exact ur_icmp_eq C dL_law_1444 (tgt := 1684) rfl (fun _ => k _ _ _ _ _ _ _ _ _ _ _ _ _ _ _ _ _ _ _ _ _ _ _ _ _ _ _ I1) (fun h => absurd ea1 h)
theorem dL_law_1449 : decode cL_law 1449 = .ok (.aload_n 1, 1) := by decide +kernel
theorem dL_law_1450 : decode cL_law 1450 = .ok (.aload_n 0, 1) := by decide +kernel
theorem dL_law_1451 : decode cL_law 1451 = .ok (.iload_n 3, 1) := by decide +kernel
theorem dL_law_1452 : decode cL_law 1452 = .ok (.iconst 1, 1) := by decide +kernel
theorem dL_law_1453 : decode cL_law 1453 = .ok (.iadd, 1) := by decide +kernel
theorem dL_law_1454 : decode cL_law 1454 = .ok (.iaload, 1) := by decide +kernel
theorem dL_law_1455 : decode cL_law 1455 = .ok (.aload_n 0, 1) := by decide +kernel
theorem dL_law_1456 : decode cL_law 1456 = .ok (.iload_n 3, 1) := by decide +kernel
theorem dL_law_1457 : decode cL_law 1457 = .ok (.iconst 2, 1) := by decide +kernel
theorem dL_law_1458 : decode cL_law 1458 = .ok (.iadd, 1) := by decide +kernel
theorem dL_law_1459 : decode cL_law 1459 = .ok (.iaload, 1) := by decide +kernel
theorem dL_law_1460 : decode cL_law 1460 = .ok (.invokevirtual 175, 3) := by decide +kernel
theorem dL_law_1463 : decode cL_law 1463 = .ok (.aload_n 2, 1) := by decide +kernel
theorem dL_law_1464 : decode cL_law 1464 = .ok (.aload_n 0, 1) := by decide +kernel
theorem dL_law_1465 : decode cL_law 1465 = .ok (.iload_n 3, 1) := by decide +kernel
theorem dL_law_1466 : decode cL_law 1466 = .ok (.iconst 1, 1) := by decide +kernel
theorem dL_law_1467 : decode cL_law 1467 = .ok (.iadd, 1) := by decide +kernel
theorem dL_law_1468 : decode cL_law 1468 = .ok (.iaload, 1) := by decide +kernel
theorem dL_law_1469 : decode cL_law 1469 = .ok (.aload_n 0, 1) := by decide +kernel
theorem dL_law_1470 : decode cL_law 1470 = .ok (.iload_n 3, 1) := by decide +kernel
theorem dL_law_1471 : decode cL_law 1471 = .ok (.iconst 2, 1) := by decide +kernel
theorem dL_law_1472 : decode cL_law 1472 = .ok (.iadd, 1) := by decide +kernel
theorem dL_law_1473 : decode cL_law 1473 = .ok (.iaload, 1) := by decide +kernel
theorem dL_law_1474 : decode cL_law 1474 = .ok (.invokevirtual 178, 3) := by decide +kernel
theorem dL_law_1477 : decode cL_law 1477 = .ok (.lcmp, 1) := by decide +kernel
theorem dL_law_1478 : decode cL_law 1478 = .ok (.ifCond .eq 206, 3) := by decide +kernel
theorem law_look (C : CC p s m #[Value.ref b] meth c code RL 4 ret D cy (fun q => s.heap.size ≤ q) false Bd xa) (hX : va_X b Ln xs s s.heap) (hbl : b < s.heap.size) (hL : Ln ≤ 2560) {sX : S1} {aX : S2} {uG : S1} {es : S1} {ea : S2} {sT : S1} {aT : S2} {tT : S2} {pT : S1} {qT : S2} {ma : S2} {sL : S1} {aL : S2} {tL : S2} {pL : S1} {qL : S2} {sK : S1} {aK : S2} {tK : S2} {pK : S1} {qK : S2} {sH : S2} {rH : S3} {uH : S2} {sc : S1} {ar : S2} {la : S3} (I : INV sX aX uG es ea sT aT tT pT qT ma sL aL tL pL qL sK aK tK pK qK sH rH uH sc ar la) {i : Nat} (hi : i + 5 ≤ Ln) (k : ∀ (sX : S1) (aX : S2) (uG : S1) (es : S1) (ea : S2) (sT : S1) (aT : S2) (tT : S2) (pT : S1) (qT : S2) (ma : S2) (sL : S1) (aL : S2) (tL : S2) (pL : S1) (qL : S2) (sK : S1) (aK : S2) (tK : S2) (pK : S1) (qK : S2) (sH : S2) (rH : S3) (uH : S2) (sc : S1) (ar : S2) (la : S3), INV sX aX uG es ea sT aT tT pT qT ma sL aL tL pL qL sK aK tK pK qK sH rH uH sc ar la → LU p l e s m below meth c D b 1684 i (xd 0 0) (ad 0) [] (xC cy xd sX aX uG es ea sT aT tT pT qT ma sL aL tL pL qL sK aK tK pK qK sH rH uH ++ mC cy ad sc ar la)) : LU p l e s m below meth c D b 1449 i (xd 0 0) (ad 0) [] (xC cy xd sX aX uG es ea sT aT tT pT qT ma sL aL tL pL qL sK aK tK pK qK sH rH uH ++ mC cy ad sc ar la) := by
  obtain ⟨o6, o7, e6, e7, ea1, I1⟩ := v_look (N := 10000000) (Nat.le_refl _) I (xs (i + 1)) (xs (i + 2))
  refine uu_aload_n C dL_law_1449 rfl (k := 2) rfl ?_
  refine lu_arg C hX hbl hL hi (j := 1) (by decide) rfl dL_law_1450 dL_law_1451 dL_law_1452 dL_law_1453 dL_law_1454 ?_
  refine lu_arg C hX hbl hL hi (j := 2) (by decide) rfl dL_law_1455 dL_law_1456 dL_law_1457 dL_law_1458 dL_law_1459 ?_
  refine uu_callG C (k_X6_look (xa := xa) (xd := xd) (sX := sX) (aX := aX) (uG := uG) (es := es) (ea := ea) (sT := sT) (aT := aT) (tT := tT) (pT := pT) (qT := qT) (ma := ma) (sL := sL) (aL := aL) (tL := tL) (pL := pL) (qL := qL) (sK := sK) (aK := aK) (tK := tK) (pK := pK) (qK := qK) (sH := sH) (rH := rH) (uH := uH) e6) okX6_look q4_93 (ci := 6) rfl (q0 := 0) rfl [] (mC cy ad sc ar la) rfl (ws' := (xC cy xd sX o6.2 uG es ea sT aT tT pT qT ma sL aL tL pL qL sK aK tK pK qK sH rH uH ++ mC cy ad sc ar la)) rfl rfl rfl rfl (Nat.le_of_ble_eq_true rfl) ⟨Nat.le_of_ble_eq_true rfl, Nat.le_of_ble_eq_true rfl⟩ ⟨Nat.le_of_ble_eq_true rfl, Nat.le_of_ble_eq_true rfl⟩ dL_law_1460 ?_
  refine uu_aload_n C dL_law_1463 rfl (k := 1) rfl ?_
  refine lu_arg C hX hbl hL hi (j := 1) (by decide) rfl dL_law_1464 dL_law_1465 dL_law_1466 dL_law_1467 dL_law_1468 ?_
  refine lu_arg C hX hbl hL hi (j := 2) (by decide) rfl dL_law_1469 dL_law_1470 dL_law_1471 dL_law_1472 dL_law_1473 ?_
  refine uu_callG C (k_X7_look (xa := xa) (ad := ad) (sc := sc) (ar := ar) (la := la) e7) okX7_look q6_101 (ci := 7) rfl (q0 := 72) rfl (xC cy xd sX o6.2 uG es ea sT aT tT pT qT ma sL aL tL pL qL sK aK tK pK qK sH rH uH) [] (by rw [List.append_nil]) (ws' := (xC cy xd sX o6.2 uG es ea sT aT tT pT qT ma sL aL tL pL qL sK aK tK pK qK sH rH uH ++ mC cy ad sc o7.2 la)) (by rw [List.append_nil]) rfl rfl rfl (Nat.le_of_ble_eq_true rfl) ⟨Nat.le_of_ble_eq_true rfl, Nat.le_of_ble_eq_true rfl⟩ ⟨Nat.le_of_ble_eq_true rfl, Nat.le_of_ble_eq_true rfl⟩ dL_law_1474 ?_
  refine uu_lcmp C dL_law_1477 ?_
  exact ur_if_eq C dL_law_1478 (tgt := 1684) rfl (fun _ => k _ _ _ _ _ _ _ _ _ _ _ _ _ _ _ _ _ _ _ _ _ _ _ _ _ _ _ I1) (fun h => absurd ((lg_cmp_eq _ _).2 ea1) h)
theorem dL_law_1483 : decode cL_law 1483 = .ok (.aload_n 1, 1) := by decide +kernel
theorem dL_law_1484 : decode cL_law 1484 = .ok (.aload_n 0, 1) := by decide +kernel
theorem dL_law_1485 : decode cL_law 1485 = .ok (.iload_n 3, 1) := by decide +kernel
theorem dL_law_1486 : decode cL_law 1486 = .ok (.iconst 1, 1) := by decide +kernel
theorem dL_law_1487 : decode cL_law 1487 = .ok (.iadd, 1) := by decide +kernel
theorem dL_law_1488 : decode cL_law 1488 = .ok (.iaload, 1) := by decide +kernel
theorem dL_law_1489 : decode cL_law 1489 = .ok (.aload_n 0, 1) := by decide +kernel
theorem dL_law_1490 : decode cL_law 1490 = .ok (.iload_n 3, 1) := by decide +kernel
theorem dL_law_1491 : decode cL_law 1491 = .ok (.iconst 2, 1) := by decide +kernel
theorem dL_law_1492 : decode cL_law 1492 = .ok (.iadd, 1) := by decide +kernel
theorem dL_law_1493 : decode cL_law 1493 = .ok (.iaload, 1) := by decide +kernel
theorem dL_law_1494 : decode cL_law 1494 = .ok (.invokevirtual 179, 3) := by decide +kernel
theorem dL_law_1497 : decode cL_law 1497 = .ok (.aload_n 2, 1) := by decide +kernel
theorem dL_law_1498 : decode cL_law 1498 = .ok (.aload_n 0, 1) := by decide +kernel
theorem dL_law_1499 : decode cL_law 1499 = .ok (.iload_n 3, 1) := by decide +kernel
theorem dL_law_1500 : decode cL_law 1500 = .ok (.iconst 1, 1) := by decide +kernel
theorem dL_law_1501 : decode cL_law 1501 = .ok (.iadd, 1) := by decide +kernel
theorem dL_law_1502 : decode cL_law 1502 = .ok (.iaload, 1) := by decide +kernel
theorem dL_law_1503 : decode cL_law 1503 = .ok (.aload_n 0, 1) := by decide +kernel
theorem dL_law_1504 : decode cL_law 1504 = .ok (.iload_n 3, 1) := by decide +kernel
theorem dL_law_1505 : decode cL_law 1505 = .ok (.iconst 2, 1) := by decide +kernel
theorem dL_law_1506 : decode cL_law 1506 = .ok (.iadd, 1) := by decide +kernel
theorem dL_law_1507 : decode cL_law 1507 = .ok (.iaload, 1) := by decide +kernel
theorem dL_law_1508 : decode cL_law 1508 = .ok (.invokevirtual 182, 3) := by decide +kernel
theorem dL_law_1511 : decode cL_law 1511 = .ok (.if_icmp .eq 173, 3) := by decide +kernel
theorem law_taken (C : CC p s m #[Value.ref b] meth c code RL 4 ret D cy (fun q => s.heap.size ≤ q) false Bd xa) (hX : va_X b Ln xs s s.heap) (hbl : b < s.heap.size) (hL : Ln ≤ 2560) {sX : S1} {aX : S2} {uG : S1} {es : S1} {ea : S2} {sT : S1} {aT : S2} {tT : S2} {pT : S1} {qT : S2} {ma : S2} {sL : S1} {aL : S2} {tL : S2} {pL : S1} {qL : S2} {sK : S1} {aK : S2} {tK : S2} {pK : S1} {qK : S2} {sH : S2} {rH : S3} {uH : S2} {sc : S1} {ar : S2} {la : S3} (I : INV sX aX uG es ea sT aT tT pT qT ma sL aL tL pL qL sK aK tK pK qK sH rH uH sc ar la) {i : Nat} (hi : i + 5 ≤ Ln) (k : ∀ (sX : S1) (aX : S2) (uG : S1) (es : S1) (ea : S2) (sT : S1) (aT : S2) (tT : S2) (pT : S1) (qT : S2) (ma : S2) (sL : S1) (aL : S2) (tL : S2) (pL : S1) (qL : S2) (sK : S1) (aK : S2) (tK : S2) (pK : S1) (qK : S2) (sH : S2) (rH : S3) (uH : S2) (sc : S1) (ar : S2) (la : S3), INV sX aX uG es ea sT aT tT pT qT ma sL aL tL pL qL sK aK tK pK qK sH rH uH sc ar la → LU p l e s m below meth c D b 1684 i (xd 0 0) (ad 0) [] (xC cy xd sX aX uG es ea sT aT tT pT qT ma sL aL tL pL qL sK aK tK pK qK sH rH uH ++ mC cy ad sc ar la)) : LU p l e s m below meth c D b 1483 i (xd 0 0) (ad 0) [] (xC cy xd sX aX uG es ea sT aT tT pT qT ma sL aL tL pL qL sK aK tK pK qK sH rH uH ++ mC cy ad sc ar la) := by
  obtain ⟨o6, o7, e6, e7, ea1, I1⟩ := v_taken (N := 10000000) (Nat.le_refl _) I (xs (i + 1)) (xs (i + 2))
  refine uu_aload_n C dL_law_1483 rfl (k := 2) rfl ?_
  refine lu_arg C hX hbl hL hi (j := 1) (by decide) rfl dL_law_1484 dL_law_1485 dL_law_1486 dL_law_1487 dL_law_1488 ?_
  refine lu_arg C hX hbl hL hi (j := 2) (by decide) rfl dL_law_1489 dL_law_1490 dL_law_1491 dL_law_1492 dL_law_1493 ?_
  refine uu_callG C (k_X6_taken (xa := xa) (xd := xd) (sX := sX) (aX := aX) (uG := uG) (es := es) (ea := ea) (sT := sT) (aT := aT) (tT := tT) (pT := pT) (qT := qT) (ma := ma) (sL := sL) (aL := aL) (tL := tL) (pL := pL) (qL := qL) (sK := sK) (aK := aK) (tK := tK) (pK := pK) (qK := qK) (sH := sH) (rH := rH) (uH := uH) e6) okX6_taken q4_97 (ci := 6) rfl (q0 := 0) rfl [] (mC cy ad sc ar la) rfl (ws' := (xC cy xd sX o6.2 uG es ea sT aT tT pT qT ma sL aL tL pL qL sK aK tK pK qK sH rH uH ++ mC cy ad sc ar la)) rfl rfl rfl rfl (Nat.le_of_ble_eq_true rfl) ⟨Nat.le_of_ble_eq_true rfl, Nat.le_of_ble_eq_true rfl⟩ ⟨Nat.le_of_ble_eq_true rfl, Nat.le_of_ble_eq_true rfl⟩ dL_law_1494 ?_
  refine uu_aload_n C dL_law_1497 rfl (k := 1) rfl ?_
  refine lu_arg C hX hbl hL hi (j := 1) (by decide) rfl dL_law_1498 dL_law_1499 dL_law_1500 dL_law_1501 dL_law_1502 ?_
  refine lu_arg C hX hbl hL hi (j := 2) (by decide) rfl dL_law_1503 dL_law_1504 dL_law_1505 dL_law_1506 dL_law_1507 ?_
  refine uu_callG C (k_X7_taken (xa := xa) (ad := ad) (sc := sc) (ar := ar) (la := la) e7) okX7_taken q6_105 (ci := 7) rfl (q0 := 72) rfl (xC cy xd sX o6.2 uG es ea sT aT tT pT qT ma sL aL tL pL qL sK aK tK pK qK sH rH uH) [] (by rw [List.append_nil]) (ws' := (xC cy xd sX o6.2 uG es ea sT aT tT pT qT ma sL aL tL pL qL sK aK tK pK qK sH rH uH ++ mC cy ad sc o7.2 la)) (by rw [List.append_nil]) rfl rfl rfl (Nat.le_of_ble_eq_true rfl) ⟨Nat.le_of_ble_eq_true rfl, Nat.le_of_ble_eq_true rfl⟩ ⟨Nat.le_of_ble_eq_true rfl, Nat.le_of_ble_eq_true rfl⟩ dL_law_1508 ?_
  exact ur_icmp_eq C dL_law_1511 (tgt := 1684) rfl (fun _ => k _ _ _ _ _ _ _ _ _ _ _ _ _ _ _ _ _ _ _ _ _ _ _ _ _ _ _ I1) (fun h => absurd ea1 h)
theorem dL_law_1516 : decode cL_law 1516 = .ok (.aload_n 1, 1) := by decide +kernel
theorem dL_law_1517 : decode cL_law 1517 = .ok (.aload_n 0, 1) := by decide +kernel
theorem dL_law_1518 : decode cL_law 1518 = .ok (.iload_n 3, 1) := by decide +kernel
theorem dL_law_1519 : decode cL_law 1519 = .ok (.iconst 1, 1) := by decide +kernel
theorem dL_law_1520 : decode cL_law 1520 = .ok (.iadd, 1) := by decide +kernel
theorem dL_law_1521 : decode cL_law 1521 = .ok (.iaload, 1) := by decide +kernel
theorem dL_law_1522 : decode cL_law 1522 = .ok (.aload_n 0, 1) := by decide +kernel
theorem dL_law_1523 : decode cL_law 1523 = .ok (.iload_n 3, 1) := by decide +kernel
theorem dL_law_1524 : decode cL_law 1524 = .ok (.iconst 2, 1) := by decide +kernel
theorem dL_law_1525 : decode cL_law 1525 = .ok (.iadd, 1) := by decide +kernel
theorem dL_law_1526 : decode cL_law 1526 = .ok (.iaload, 1) := by decide +kernel
theorem dL_law_1527 : decode cL_law 1527 = .ok (.aload_n 0, 1) := by decide +kernel
theorem dL_law_1528 : decode cL_law 1528 = .ok (.iload_n 3, 1) := by decide +kernel
theorem dL_law_1529 : decode cL_law 1529 = .ok (.iconst 3, 1) := by decide +kernel
theorem dL_law_1530 : decode cL_law 1530 = .ok (.iadd, 1) := by decide +kernel
theorem dL_law_1531 : decode cL_law 1531 = .ok (.iaload, 1) := by decide +kernel
theorem dL_law_1532 : decode cL_law 1532 = .ok (.invokevirtual 183, 3) := by decide +kernel
theorem dL_law_1535 : decode cL_law 1535 = .ok (.aload_n 2, 1) := by decide +kernel
theorem dL_law_1536 : decode cL_law 1536 = .ok (.aload_n 0, 1) := by decide +kernel
theorem dL_law_1537 : decode cL_law 1537 = .ok (.iload_n 3, 1) := by decide +kernel
theorem dL_law_1538 : decode cL_law 1538 = .ok (.iconst 1, 1) := by decide +kernel
theorem dL_law_1539 : decode cL_law 1539 = .ok (.iadd, 1) := by decide +kernel
theorem dL_law_1540 : decode cL_law 1540 = .ok (.iaload, 1) := by decide +kernel
theorem dL_law_1541 : decode cL_law 1541 = .ok (.aload_n 0, 1) := by decide +kernel
theorem dL_law_1542 : decode cL_law 1542 = .ok (.iload_n 3, 1) := by decide +kernel
theorem dL_law_1543 : decode cL_law 1543 = .ok (.iconst 2, 1) := by decide +kernel
theorem dL_law_1544 : decode cL_law 1544 = .ok (.iadd, 1) := by decide +kernel
theorem dL_law_1545 : decode cL_law 1545 = .ok (.iaload, 1) := by decide +kernel
theorem dL_law_1546 : decode cL_law 1546 = .ok (.aload_n 0, 1) := by decide +kernel
theorem dL_law_1547 : decode cL_law 1547 = .ok (.iload_n 3, 1) := by decide +kernel
theorem dL_law_1548 : decode cL_law 1548 = .ok (.iconst 3, 1) := by decide +kernel
theorem dL_law_1549 : decode cL_law 1549 = .ok (.iadd, 1) := by decide +kernel
theorem dL_law_1550 : decode cL_law 1550 = .ok (.iaload, 1) := by decide +kernel
theorem dL_law_1551 : decode cL_law 1551 = .ok (.invokevirtual 186, 3) := by decide +kernel
theorem dL_law_1554 : decode cL_law 1554 = .ok (.if_icmp .eq 130, 3) := by decide +kernel
theorem law_whatIs (C : CC p s m #[Value.ref b] meth c code RL 4 ret D cy (fun q => s.heap.size ≤ q) false Bd xa) (hX : va_X b Ln xs s s.heap) (hbl : b < s.heap.size) (hL : Ln ≤ 2560) {sX : S1} {aX : S2} {uG : S1} {es : S1} {ea : S2} {sT : S1} {aT : S2} {tT : S2} {pT : S1} {qT : S2} {ma : S2} {sL : S1} {aL : S2} {tL : S2} {pL : S1} {qL : S2} {sK : S1} {aK : S2} {tK : S2} {pK : S1} {qK : S2} {sH : S2} {rH : S3} {uH : S2} {sc : S1} {ar : S2} {la : S3} (I : INV sX aX uG es ea sT aT tT pT qT ma sL aL tL pL qL sK aK tK pK qK sH rH uH sc ar la) {i : Nat} (hi : i + 5 ≤ Ln) (k : ∀ (sX : S1) (aX : S2) (uG : S1) (es : S1) (ea : S2) (sT : S1) (aT : S2) (tT : S2) (pT : S1) (qT : S2) (ma : S2) (sL : S1) (aL : S2) (tL : S2) (pL : S1) (qL : S2) (sK : S1) (aK : S2) (tK : S2) (pK : S1) (qK : S2) (sH : S2) (rH : S3) (uH : S2) (sc : S1) (ar : S2) (la : S3), INV sX aX uG es ea sT aT tT pT qT ma sL aL tL pL qL sK aK tK pK qK sH rH uH sc ar la → LU p l e s m below meth c D b 1684 i (xd 0 0) (ad 0) [] (xC cy xd sX aX uG es ea sT aT tT pT qT ma sL aL tL pL qL sK aK tK pK qK sH rH uH ++ mC cy ad sc ar la)) : LU p l e s m below meth c D b 1516 i (xd 0 0) (ad 0) [] (xC cy xd sX aX uG es ea sT aT tT pT qT ma sL aL tL pL qL sK aK tK pK qK sH rH uH ++ mC cy ad sc ar la) := by
  obtain ⟨o6, o7, e6, e7, ea1, I1⟩ := v_whatIs (N := 10000000) (Nat.le_refl _) I (xs (i + 1)) (xs (i + 2)) (xs (i + 3))
  refine uu_aload_n C dL_law_1516 rfl (k := 2) rfl ?_
  refine lu_arg C hX hbl hL hi (j := 1) (by decide) rfl dL_law_1517 dL_law_1518 dL_law_1519 dL_law_1520 dL_law_1521 ?_
  refine lu_arg C hX hbl hL hi (j := 2) (by decide) rfl dL_law_1522 dL_law_1523 dL_law_1524 dL_law_1525 dL_law_1526 ?_
  refine lu_arg C hX hbl hL hi (j := 3) (by decide) rfl dL_law_1527 dL_law_1528 dL_law_1529 dL_law_1530 dL_law_1531 ?_
  refine uu_callG C (k_X6_whatIs (xa := xa) (xd := xd) (sX := sX) (aX := aX) (uG := uG) (es := es) (ea := ea) (sT := sT) (aT := aT) (tT := tT) (pT := pT) (qT := qT) (ma := ma) (sL := sL) (aL := aL) (tL := tL) (pL := pL) (qL := qL) (sK := sK) (aK := aK) (tK := tK) (pK := pK) (qK := qK) (sH := sH) (rH := rH) (uH := uH) e6) okX6_whatIs q4_107 (ci := 6) rfl (q0 := 0) rfl [] (mC cy ad sc ar la) rfl (ws' := (xC cy xd sX o6.2.1 o6.2.2 es ea sT aT tT pT qT ma sL aL tL pL qL sK aK tK pK qK sH rH uH ++ mC cy ad sc ar la)) rfl rfl rfl rfl (Nat.le_of_ble_eq_true rfl) ⟨Nat.le_of_ble_eq_true rfl, Nat.le_of_ble_eq_true rfl⟩ ⟨Nat.le_of_ble_eq_true rfl, Nat.le_of_ble_eq_true rfl⟩ dL_law_1532 ?_
  refine uu_aload_n C dL_law_1535 rfl (k := 1) rfl ?_
  refine lu_arg C hX hbl hL hi (j := 1) (by decide) rfl dL_law_1536 dL_law_1537 dL_law_1538 dL_law_1539 dL_law_1540 ?_
  refine lu_arg C hX hbl hL hi (j := 2) (by decide) rfl dL_law_1541 dL_law_1542 dL_law_1543 dL_law_1544 dL_law_1545 ?_
  refine lu_arg C hX hbl hL hi (j := 3) (by decide) rfl dL_law_1546 dL_law_1547 dL_law_1548 dL_law_1549 dL_law_1550 ?_
  refine uu_callG C (k_X7_whatIs (xa := xa) (ad := ad) (sc := sc) (ar := ar) (la := la) e7) okX7_whatIs q6_112 (ci := 7) rfl (q0 := 72) rfl (xC cy xd sX o6.2.1 o6.2.2 es ea sT aT tT pT qT ma sL aL tL pL qL sK aK tK pK qK sH rH uH) [] (by rw [List.append_nil]) (ws' := (xC cy xd sX o6.2.1 o6.2.2 es ea sT aT tT pT qT ma sL aL tL pL qL sK aK tK pK qK sH rH uH ++ mC cy ad sc o7.2 la)) (by rw [List.append_nil]) rfl rfl rfl (Nat.le_of_ble_eq_true rfl) ⟨Nat.le_of_ble_eq_true rfl, Nat.le_of_ble_eq_true rfl⟩ ⟨Nat.le_of_ble_eq_true rfl, Nat.le_of_ble_eq_true rfl⟩ dL_law_1551 ?_
  exact ur_icmp_eq C dL_law_1554 (tgt := 1684) rfl (fun _ => k _ _ _ _ _ _ _ _ _ _ _ _ _ _ _ _ _ _ _ _ _ _ _ _ _ _ _ I1) (fun h => absurd ea1 h)
theorem dL_law_1559 : decode cL_law 1559 = .ok (.aload_n 1, 1) := by decide +kernel
theorem dL_law_1560 : decode cL_law 1560 = .ok (.aload_n 0, 1) := by decide +kernel
theorem dL_law_1561 : decode cL_law 1561 = .ok (.iload_n 3, 1) := by decide +kernel
theorem dL_law_1562 : decode cL_law 1562 = .ok (.iconst 1, 1) := by decide +kernel
theorem dL_law_1563 : decode cL_law 1563 = .ok (.iadd, 1) := by decide +kernel
theorem dL_law_1564 : decode cL_law 1564 = .ok (.iaload, 1) := by decide +kernel
theorem dL_law_1565 : decode cL_law 1565 = .ok (.aload_n 0, 1) := by decide +kernel
theorem dL_law_1566 : decode cL_law 1566 = .ok (.iload_n 3, 1) := by decide +kernel
theorem dL_law_1567 : decode cL_law 1567 = .ok (.iconst 2, 1) := by decide +kernel
theorem dL_law_1568 : decode cL_law 1568 = .ok (.iadd, 1) := by decide +kernel
theorem dL_law_1569 : decode cL_law 1569 = .ok (.iaload, 1) := by decide +kernel
theorem dL_law_1570 : decode cL_law 1570 = .ok (.invokevirtual 187, 3) := by decide +kernel
theorem dL_law_1573 : decode cL_law 1573 = .ok (.aload_n 2, 1) := by decide +kernel
theorem dL_law_1574 : decode cL_law 1574 = .ok (.aload_n 0, 1) := by decide +kernel
theorem dL_law_1575 : decode cL_law 1575 = .ok (.iload_n 3, 1) := by decide +kernel
theorem dL_law_1576 : decode cL_law 1576 = .ok (.iconst 1, 1) := by decide +kernel
theorem dL_law_1577 : decode cL_law 1577 = .ok (.iadd, 1) := by decide +kernel
theorem dL_law_1578 : decode cL_law 1578 = .ok (.iaload, 1) := by decide +kernel
theorem dL_law_1579 : decode cL_law 1579 = .ok (.aload_n 0, 1) := by decide +kernel
theorem dL_law_1580 : decode cL_law 1580 = .ok (.iload_n 3, 1) := by decide +kernel
theorem dL_law_1581 : decode cL_law 1581 = .ok (.iconst 2, 1) := by decide +kernel
theorem dL_law_1582 : decode cL_law 1582 = .ok (.iadd, 1) := by decide +kernel
theorem dL_law_1583 : decode cL_law 1583 = .ok (.iaload, 1) := by decide +kernel
theorem dL_law_1584 : decode cL_law 1584 = .ok (.invokevirtual 190, 3) := by decide +kernel
theorem dL_law_1587 : decode cL_law 1587 = .ok (.if_icmp .eq 97, 3) := by decide +kernel
theorem law_judge (C : CC p s m #[Value.ref b] meth c code RL 4 ret D cy (fun q => s.heap.size ≤ q) false Bd xa) (hX : va_X b Ln xs s s.heap) (hbl : b < s.heap.size) (hL : Ln ≤ 2560) {sX : S1} {aX : S2} {uG : S1} {es : S1} {ea : S2} {sT : S1} {aT : S2} {tT : S2} {pT : S1} {qT : S2} {ma : S2} {sL : S1} {aL : S2} {tL : S2} {pL : S1} {qL : S2} {sK : S1} {aK : S2} {tK : S2} {pK : S1} {qK : S2} {sH : S2} {rH : S3} {uH : S2} {sc : S1} {ar : S2} {la : S3} (I : INV sX aX uG es ea sT aT tT pT qT ma sL aL tL pL qL sK aK tK pK qK sH rH uH sc ar la) {i : Nat} (hi : i + 5 ≤ Ln) (k : ∀ (sX : S1) (aX : S2) (uG : S1) (es : S1) (ea : S2) (sT : S1) (aT : S2) (tT : S2) (pT : S1) (qT : S2) (ma : S2) (sL : S1) (aL : S2) (tL : S2) (pL : S1) (qL : S2) (sK : S1) (aK : S2) (tK : S2) (pK : S1) (qK : S2) (sH : S2) (rH : S3) (uH : S2) (sc : S1) (ar : S2) (la : S3), INV sX aX uG es ea sT aT tT pT qT ma sL aL tL pL qL sK aK tK pK qK sH rH uH sc ar la → LU p l e s m below meth c D b 1684 i (xd 0 0) (ad 0) [] (xC cy xd sX aX uG es ea sT aT tT pT qT ma sL aL tL pL qL sK aK tK pK qK sH rH uH ++ mC cy ad sc ar la)) : LU p l e s m below meth c D b 1559 i (xd 0 0) (ad 0) [] (xC cy xd sX aX uG es ea sT aT tT pT qT ma sL aL tL pL qL sK aK tK pK qK sH rH uH ++ mC cy ad sc ar la) := by
  obtain ⟨o6, o7, e6, e7, ea1, I1⟩ := v_judge (N := 10000000) (Nat.le_refl _) I (xs (i + 1)) (xs (i + 2))
  refine uu_aload_n C dL_law_1559 rfl (k := 2) rfl ?_
  refine lu_arg C hX hbl hL hi (j := 1) (by decide) rfl dL_law_1560 dL_law_1561 dL_law_1562 dL_law_1563 dL_law_1564 ?_
  refine lu_arg C hX hbl hL hi (j := 2) (by decide) rfl dL_law_1565 dL_law_1566 dL_law_1567 dL_law_1568 dL_law_1569 ?_
  refine uu_callG C (k_X6_judge (xa := xa) (xd := xd) (sX := sX) (aX := aX) (uG := uG) (es := es) (ea := ea) (sT := sT) (aT := aT) (tT := tT) (pT := pT) (qT := qT) (ma := ma) (sL := sL) (aL := aL) (tL := tL) (pL := pL) (qL := qL) (sK := sK) (aK := aK) (tK := tK) (pK := pK) (qK := qK) (sH := sH) (rH := rH) (uH := uH) e6) okX6_judge q4_127 (ci := 6) rfl (q0 := 0) rfl [] (mC cy ad sc ar la) rfl (ws' := (xC cy xd sX o6.2 uG es ea sT aT tT pT qT ma sL aL tL pL qL sK aK tK pK qK sH rH uH ++ mC cy ad sc ar la)) rfl rfl rfl rfl (Nat.le_of_ble_eq_true rfl) ⟨Nat.le_of_ble_eq_true rfl, Nat.le_of_ble_eq_true rfl⟩ ⟨Nat.le_of_ble_eq_true rfl, Nat.le_of_ble_eq_true rfl⟩ dL_law_1570 ?_
  refine uu_aload_n C dL_law_1573 rfl (k := 1) rfl ?_
  refine lu_arg C hX hbl hL hi (j := 1) (by decide) rfl dL_law_1574 dL_law_1575 dL_law_1576 dL_law_1577 dL_law_1578 ?_
  refine lu_arg C hX hbl hL hi (j := 2) (by decide) rfl dL_law_1579 dL_law_1580 dL_law_1581 dL_law_1582 dL_law_1583 ?_
  refine uu_callG C (k_X7_judge (xa := xa) (ad := ad) (sc := sc) (ar := ar) (la := la) e7) okX7_judge q6_120 (ci := 7) rfl (q0 := 72) rfl (xC cy xd sX o6.2 uG es ea sT aT tT pT qT ma sL aL tL pL qL sK aK tK pK qK sH rH uH) [] (by rw [List.append_nil]) (ws' := (xC cy xd sX o6.2 uG es ea sT aT tT pT qT ma sL aL tL pL qL sK aK tK pK qK sH rH uH ++ mC cy ad sc o7.2 la)) (by rw [List.append_nil]) rfl rfl rfl (Nat.le_of_ble_eq_true rfl) ⟨Nat.le_of_ble_eq_true rfl, Nat.le_of_ble_eq_true rfl⟩ ⟨Nat.le_of_ble_eq_true rfl, Nat.le_of_ble_eq_true rfl⟩ dL_law_1584 ?_
  exact ur_icmp_eq C dL_law_1587 (tgt := 1684) rfl (fun _ => k _ _ _ _ _ _ _ _ _ _ _ _ _ _ _ _ _ _ _ _ _ _ _ _ _ _ _ I1) (fun h => absurd ea1 h)
theorem dL_law_1592 : decode cL_law 1592 = .ok (.aload_n 1, 1) := by decide +kernel
theorem dL_law_1593 : decode cL_law 1593 = .ok (.aload_n 0, 1) := by decide +kernel
theorem dL_law_1594 : decode cL_law 1594 = .ok (.iload_n 3, 1) := by decide +kernel
theorem dL_law_1595 : decode cL_law 1595 = .ok (.iconst 1, 1) := by decide +kernel
theorem dL_law_1596 : decode cL_law 1596 = .ok (.iadd, 1) := by decide +kernel
theorem dL_law_1597 : decode cL_law 1597 = .ok (.iaload, 1) := by decide +kernel
theorem dL_law_1598 : decode cL_law 1598 = .ok (.aload_n 0, 1) := by decide +kernel
theorem dL_law_1599 : decode cL_law 1599 = .ok (.iload_n 3, 1) := by decide +kernel
theorem dL_law_1600 : decode cL_law 1600 = .ok (.iconst 2, 1) := by decide +kernel
theorem dL_law_1601 : decode cL_law 1601 = .ok (.iadd, 1) := by decide +kernel
theorem dL_law_1602 : decode cL_law 1602 = .ok (.iaload, 1) := by decide +kernel
theorem dL_law_1603 : decode cL_law 1603 = .ok (.aload_n 0, 1) := by decide +kernel
theorem dL_law_1604 : decode cL_law 1604 = .ok (.iload_n 3, 1) := by decide +kernel
theorem dL_law_1605 : decode cL_law 1605 = .ok (.iconst 3, 1) := by decide +kernel
theorem dL_law_1606 : decode cL_law 1606 = .ok (.iadd, 1) := by decide +kernel
theorem dL_law_1607 : decode cL_law 1607 = .ok (.iaload, 1) := by decide +kernel
theorem dL_law_1608 : decode cL_law 1608 = .ok (.invokevirtual 191, 3) := by decide +kernel
theorem dL_law_1611 : decode cL_law 1611 = .ok (.aload_n 2, 1) := by decide +kernel
theorem dL_law_1612 : decode cL_law 1612 = .ok (.aload_n 0, 1) := by decide +kernel
theorem dL_law_1613 : decode cL_law 1613 = .ok (.iload_n 3, 1) := by decide +kernel
theorem dL_law_1614 : decode cL_law 1614 = .ok (.iconst 1, 1) := by decide +kernel
theorem dL_law_1615 : decode cL_law 1615 = .ok (.iadd, 1) := by decide +kernel
theorem dL_law_1616 : decode cL_law 1616 = .ok (.iaload, 1) := by decide +kernel
theorem dL_law_1617 : decode cL_law 1617 = .ok (.aload_n 0, 1) := by decide +kernel
theorem dL_law_1618 : decode cL_law 1618 = .ok (.iload_n 3, 1) := by decide +kernel
theorem dL_law_1619 : decode cL_law 1619 = .ok (.iconst 2, 1) := by decide +kernel
theorem dL_law_1620 : decode cL_law 1620 = .ok (.iadd, 1) := by decide +kernel
theorem dL_law_1621 : decode cL_law 1621 = .ok (.iaload, 1) := by decide +kernel
theorem dL_law_1622 : decode cL_law 1622 = .ok (.aload_n 0, 1) := by decide +kernel
theorem dL_law_1623 : decode cL_law 1623 = .ok (.iload_n 3, 1) := by decide +kernel
theorem dL_law_1624 : decode cL_law 1624 = .ok (.iconst 3, 1) := by decide +kernel
theorem dL_law_1625 : decode cL_law 1625 = .ok (.iadd, 1) := by decide +kernel
theorem dL_law_1626 : decode cL_law 1626 = .ok (.iaload, 1) := by decide +kernel
theorem dL_law_1627 : decode cL_law 1627 = .ok (.invokevirtual 194, 3) := by decide +kernel
theorem dL_law_1630 : decode cL_law 1630 = .ok (.if_icmp .eq 54, 3) := by decide +kernel
theorem law_lots (C : CC p s m #[Value.ref b] meth c code RL 4 ret D cy (fun q => s.heap.size ≤ q) false Bd xa) (hX : va_X b Ln xs s s.heap) (hbl : b < s.heap.size) (hL : Ln ≤ 2560) {sX : S1} {aX : S2} {uG : S1} {es : S1} {ea : S2} {sT : S1} {aT : S2} {tT : S2} {pT : S1} {qT : S2} {ma : S2} {sL : S1} {aL : S2} {tL : S2} {pL : S1} {qL : S2} {sK : S1} {aK : S2} {tK : S2} {pK : S1} {qK : S2} {sH : S2} {rH : S3} {uH : S2} {sc : S1} {ar : S2} {la : S3} (I : INV sX aX uG es ea sT aT tT pT qT ma sL aL tL pL qL sK aK tK pK qK sH rH uH sc ar la) {i : Nat} (hi : i + 5 ≤ Ln) (k : ∀ (sX : S1) (aX : S2) (uG : S1) (es : S1) (ea : S2) (sT : S1) (aT : S2) (tT : S2) (pT : S1) (qT : S2) (ma : S2) (sL : S1) (aL : S2) (tL : S2) (pL : S1) (qL : S2) (sK : S1) (aK : S2) (tK : S2) (pK : S1) (qK : S2) (sH : S2) (rH : S3) (uH : S2) (sc : S1) (ar : S2) (la : S3), INV sX aX uG es ea sT aT tT pT qT ma sL aL tL pL qL sK aK tK pK qK sH rH uH sc ar la → LU p l e s m below meth c D b 1684 i (xd 0 0) (ad 0) [] (xC cy xd sX aX uG es ea sT aT tT pT qT ma sL aL tL pL qL sK aK tK pK qK sH rH uH ++ mC cy ad sc ar la)) : LU p l e s m below meth c D b 1592 i (xd 0 0) (ad 0) [] (xC cy xd sX aX uG es ea sT aT tT pT qT ma sL aL tL pL qL sK aK tK pK qK sH rH uH ++ mC cy ad sc ar la) := by
  obtain ⟨o6, o7, e6, e7, ea1, I1⟩ := v_lots (N := 10000000) (Nat.le_refl _) I (xs (i + 1)) (xs (i + 2)) (xs (i + 3))
  refine uu_aload_n C dL_law_1592 rfl (k := 2) rfl ?_
  refine lu_arg C hX hbl hL hi (j := 1) (by decide) rfl dL_law_1593 dL_law_1594 dL_law_1595 dL_law_1596 dL_law_1597 ?_
  refine lu_arg C hX hbl hL hi (j := 2) (by decide) rfl dL_law_1598 dL_law_1599 dL_law_1600 dL_law_1601 dL_law_1602 ?_
  refine lu_arg C hX hbl hL hi (j := 3) (by decide) rfl dL_law_1603 dL_law_1604 dL_law_1605 dL_law_1606 dL_law_1607 ?_
  refine uu_callG C (k_X6_lots (xa := xa) (xd := xd) (sX := sX) (aX := aX) (uG := uG) (es := es) (ea := ea) (sT := sT) (aT := aT) (tT := tT) (pT := pT) (qT := qT) (ma := ma) (sL := sL) (aL := aL) (tL := tL) (pL := pL) (qL := qL) (sK := sK) (aK := aK) (tK := tK) (pK := pK) (qK := qK) (sH := sH) (rH := rH) (uH := uH) e6) okX6_lots q4_131 (ci := 6) rfl (q0 := 0) rfl [] (mC cy ad sc ar la) rfl (ws' := (xC cy xd sX o6.2.1 uG es ea o6.2.2.1 o6.2.2.2.1 o6.2.2.2.2.1 o6.2.2.2.2.2.1 o6.2.2.2.2.2.2 ma sL aL tL pL qL sK aK tK pK qK sH rH uH ++ mC cy ad sc ar la)) rfl rfl rfl rfl (Nat.le_of_ble_eq_true rfl) ⟨Nat.le_of_ble_eq_true rfl, Nat.le_of_ble_eq_true rfl⟩ ⟨Nat.le_of_ble_eq_true rfl, Nat.le_of_ble_eq_true rfl⟩ dL_law_1608 ?_
  refine uu_aload_n C dL_law_1611 rfl (k := 1) rfl ?_
  refine lu_arg C hX hbl hL hi (j := 1) (by decide) rfl dL_law_1612 dL_law_1613 dL_law_1614 dL_law_1615 dL_law_1616 ?_
  refine lu_arg C hX hbl hL hi (j := 2) (by decide) rfl dL_law_1617 dL_law_1618 dL_law_1619 dL_law_1620 dL_law_1621 ?_
  refine lu_arg C hX hbl hL hi (j := 3) (by decide) rfl dL_law_1622 dL_law_1623 dL_law_1624 dL_law_1625 dL_law_1626 ?_
  refine uu_callG C (k_X7_lots (xa := xa) (ad := ad) (sc := sc) (ar := ar) (la := la) e7) okX7_lots q6_63 (ci := 7) rfl (q0 := 72) rfl (xC cy xd sX o6.2.1 uG es ea o6.2.2.1 o6.2.2.2.1 o6.2.2.2.2.1 o6.2.2.2.2.2.1 o6.2.2.2.2.2.2 ma sL aL tL pL qL sK aK tK pK qK sH rH uH) [] (by rw [List.append_nil]) (ws' := (xC cy xd sX o6.2.1 uG es ea o6.2.2.1 o6.2.2.2.1 o6.2.2.2.2.1 o6.2.2.2.2.2.1 o6.2.2.2.2.2.2 ma sL aL tL pL qL sK aK tK pK qK sH rH uH ++ mC cy ad o7.2.1 o7.2.2 la)) (by rw [List.append_nil]) rfl rfl rfl (Nat.le_of_ble_eq_true rfl) ⟨Nat.le_of_ble_eq_true rfl, Nat.le_of_ble_eq_true rfl⟩ ⟨Nat.le_of_ble_eq_true rfl, Nat.le_of_ble_eq_true rfl⟩ dL_law_1627 ?_
  exact ur_icmp_eq C dL_law_1630 (tgt := 1684) rfl (fun _ => k _ _ _ _ _ _ _ _ _ _ _ _ _ _ _ _ _ _ _ _ _ _ _ _ _ _ _ I1) (fun h => absurd ea1 h)
theorem dL_law_1635 : decode cL_law 1635 = .ok (.aload_n 1, 1) := by decide +kernel
theorem dL_law_1636 : decode cL_law 1636 = .ok (.invokevirtual 195, 3) := by decide +kernel
theorem dL_law_1639 : decode cL_law 1639 = .ok (.aload_n 2, 1) := by decide +kernel
theorem dL_law_1640 : decode cL_law 1640 = .ok (.invokevirtual 198, 3) := by decide +kernel
theorem dL_law_1643 : decode cL_law 1643 = .ok (.if_icmp .eq 41, 3) := by decide +kernel
theorem law_image (C : CC p s m #[Value.ref b] meth c code RL 4 ret D cy (fun q => s.heap.size ≤ q) false Bd xa) (hX : va_X b Ln xs s s.heap) (hbl : b < s.heap.size) (hL : Ln ≤ 2560) {sX : S1} {aX : S2} {uG : S1} {es : S1} {ea : S2} {sT : S1} {aT : S2} {tT : S2} {pT : S1} {qT : S2} {ma : S2} {sL : S1} {aL : S2} {tL : S2} {pL : S1} {qL : S2} {sK : S1} {aK : S2} {tK : S2} {pK : S1} {qK : S2} {sH : S2} {rH : S3} {uH : S2} {sc : S1} {ar : S2} {la : S3} (I : INV sX aX uG es ea sT aT tT pT qT ma sL aL tL pL qL sK aK tK pK qK sH rH uH sc ar la) {i : Nat} (hi : i + 5 ≤ Ln) (k : ∀ (sX : S1) (aX : S2) (uG : S1) (es : S1) (ea : S2) (sT : S1) (aT : S2) (tT : S2) (pT : S1) (qT : S2) (ma : S2) (sL : S1) (aL : S2) (tL : S2) (pL : S1) (qL : S2) (sK : S1) (aK : S2) (tK : S2) (pK : S1) (qK : S2) (sH : S2) (rH : S3) (uH : S2) (sc : S1) (ar : S2) (la : S3), INV sX aX uG es ea sT aT tT pT qT ma sL aL tL pL qL sK aK tK pK qK sH rH uH sc ar la → LU p l e s m below meth c D b 1684 i (xd 0 0) (ad 0) [] (xC cy xd sX aX uG es ea sT aT tT pT qT ma sL aL tL pL qL sK aK tK pK qK sH rH uH ++ mC cy ad sc ar la)) : LU p l e s m below meth c D b 1635 i (xd 0 0) (ad 0) [] (xC cy xd sX aX uG es ea sT aT tT pT qT ma sL aL tL pL qL sK aK tK pK qK sH rH uH ++ mC cy ad sc ar la) := by
  obtain ⟨o6, o7, e6, e7, ea1, I1⟩ := v_image (N := 10000000) (Nat.le_refl _) I 
  refine uu_aload_n C dL_law_1635 rfl (k := 2) rfl ?_
  refine uu_callG C (k_X6_image (xa := xa) (xd := xd) (sX := sX) (aX := aX) (uG := uG) (es := es) (ea := ea) (sT := sT) (aT := aT) (tT := tT) (pT := pT) (qT := qT) (ma := ma) (sL := sL) (aL := aL) (tL := tL) (pL := pL) (qL := qL) (sK := sK) (aK := aK) (tK := tK) (pK := pK) (qK := qK) (sH := sH) (rH := rH) (uH := uH) e6) okX6_image q4_142 (ci := 6) rfl (q0 := 0) rfl [] (mC cy ad sc ar la) rfl (ws' := (xC cy xd o6.2.1 aX uG es ea sT aT tT pT qT ma sL aL tL pL qL o6.2.2.1 o6.2.2.2.1 o6.2.2.2.2.1 o6.2.2.2.2.2.1 o6.2.2.2.2.2.2 sH rH uH ++ mC cy ad sc ar la)) rfl rfl rfl rfl (Nat.le_of_ble_eq_true rfl) ⟨Nat.le_of_ble_eq_true rfl, Nat.le_of_ble_eq_true rfl⟩ ⟨Nat.le_of_ble_eq_true rfl, Nat.le_of_ble_eq_true rfl⟩ dL_law_1636 ?_
  refine uu_aload_n C dL_law_1639 rfl (k := 1) rfl ?_
  refine uu_callG C (k_X7_image (xa := xa) (ad := ad) (sc := sc) (ar := ar) (la := la) e7) okX7_image q6_193 (ci := 7) rfl (q0 := 72) rfl (xC cy xd o6.2.1 aX uG es ea sT aT tT pT qT ma sL aL tL pL qL o6.2.2.1 o6.2.2.2.1 o6.2.2.2.2.1 o6.2.2.2.2.2.1 o6.2.2.2.2.2.2 sH rH uH) [] (by rw [List.append_nil]) (ws' := (xC cy xd o6.2.1 aX uG es ea sT aT tT pT qT ma sL aL tL pL qL o6.2.2.1 o6.2.2.2.1 o6.2.2.2.2.1 o6.2.2.2.2.2.1 o6.2.2.2.2.2.2 sH rH uH ++ mC cy ad o7.2.1 o7.2.2 la)) (by rw [List.append_nil]) rfl rfl rfl (Nat.le_of_ble_eq_true rfl) ⟨Nat.le_of_ble_eq_true rfl, Nat.le_of_ble_eq_true rfl⟩ ⟨Nat.le_of_ble_eq_true rfl, Nat.le_of_ble_eq_true rfl⟩ dL_law_1640 ?_
  exact ur_icmp_eq C dL_law_1643 (tgt := 1684) rfl (fun _ => k _ _ _ _ _ _ _ _ _ _ _ _ _ _ _ _ _ _ _ _ _ _ _ _ _ _ _ I1) (fun h => absurd ea1 h)
theorem dL_law_1648 : decode cL_law 1648 = .ok (.aload_n 1, 1) := by decide +kernel
theorem dL_law_1649 : decode cL_law 1649 = .ok (.invokevirtual 199, 3) := by decide +kernel
theorem dL_law_1652 : decode cL_law 1652 = .ok (.aload_n 2, 1) := by decide +kernel
theorem dL_law_1653 : decode cL_law 1653 = .ok (.invokevirtual 202, 3) := by decide +kernel
theorem dL_law_1656 : decode cL_law 1656 = .ok (.if_icmp .eq 28, 3) := by decide +kernel
theorem law_on (C : CC p s m #[Value.ref b] meth c code RL 4 ret D cy (fun q => s.heap.size ≤ q) false Bd xa) (hX : va_X b Ln xs s s.heap) (hbl : b < s.heap.size) (hL : Ln ≤ 2560) {sX : S1} {aX : S2} {uG : S1} {es : S1} {ea : S2} {sT : S1} {aT : S2} {tT : S2} {pT : S1} {qT : S2} {ma : S2} {sL : S1} {aL : S2} {tL : S2} {pL : S1} {qL : S2} {sK : S1} {aK : S2} {tK : S2} {pK : S1} {qK : S2} {sH : S2} {rH : S3} {uH : S2} {sc : S1} {ar : S2} {la : S3} (I : INV sX aX uG es ea sT aT tT pT qT ma sL aL tL pL qL sK aK tK pK qK sH rH uH sc ar la) {i : Nat} (hi : i + 5 ≤ Ln) (k : ∀ (sX : S1) (aX : S2) (uG : S1) (es : S1) (ea : S2) (sT : S1) (aT : S2) (tT : S2) (pT : S1) (qT : S2) (ma : S2) (sL : S1) (aL : S2) (tL : S2) (pL : S1) (qL : S2) (sK : S1) (aK : S2) (tK : S2) (pK : S1) (qK : S2) (sH : S2) (rH : S3) (uH : S2) (sc : S1) (ar : S2) (la : S3), INV sX aX uG es ea sT aT tT pT qT ma sL aL tL pL qL sK aK tK pK qK sH rH uH sc ar la → LU p l e s m below meth c D b 1684 i (xd 0 0) (ad 0) [] (xC cy xd sX aX uG es ea sT aT tT pT qT ma sL aL tL pL qL sK aK tK pK qK sH rH uH ++ mC cy ad sc ar la)) : LU p l e s m below meth c D b 1648 i (xd 0 0) (ad 0) [] (xC cy xd sX aX uG es ea sT aT tT pT qT ma sL aL tL pL qL sK aK tK pK qK sH rH uH ++ mC cy ad sc ar la) := by
  obtain ⟨o6, o7, e6, e7, ea1, I1⟩ := v_on (N := 10000000) (Nat.le_refl _) I 
  refine uu_aload_n C dL_law_1648 rfl (k := 2) rfl ?_
  refine uu_callG C (k_X6_on (xa := xa) (xd := xd) (sX := sX) (aX := aX) (uG := uG) (es := es) (ea := ea) (sT := sT) (aT := aT) (tT := tT) (pT := pT) (qT := qT) (ma := ma) (sL := sL) (aL := aL) (tL := tL) (pL := pL) (qL := qL) (sK := sK) (aK := aK) (tK := tK) (pK := pK) (qK := qK) (sH := sH) (rH := rH) (uH := uH) e6) okX6_on q4_146 (ci := 6) rfl (q0 := 0) rfl [] (mC cy ad sc ar la) rfl (ws' := (xC cy xd sX o6.2.1 uG es ea sT aT tT pT qT ma o6.2.2.1 o6.2.2.2.1 o6.2.2.2.2.1 o6.2.2.2.2.2.1 o6.2.2.2.2.2.2 sK aK tK pK qK sH rH uH ++ mC cy ad sc ar la)) rfl rfl rfl rfl (Nat.le_of_ble_eq_true rfl) ⟨Nat.le_of_ble_eq_true rfl, Nat.le_of_ble_eq_true rfl⟩ ⟨Nat.le_of_ble_eq_true rfl, Nat.le_of_ble_eq_true rfl⟩ dL_law_1649 ?_
  refine uu_aload_n C dL_law_1652 rfl (k := 1) rfl ?_
  refine uu_callG C (k_X7_on (xa := xa) (ad := ad) (sc := sc) (ar := ar) (la := la) e7) okX7_on q6_197 (ci := 7) rfl (q0 := 72) rfl (xC cy xd sX o6.2.1 uG es ea sT aT tT pT qT ma o6.2.2.1 o6.2.2.2.1 o6.2.2.2.2.1 o6.2.2.2.2.2.1 o6.2.2.2.2.2.2 sK aK tK pK qK sH rH uH) [] (by rw [List.append_nil]) (ws' := (xC cy xd sX o6.2.1 uG es ea sT aT tT pT qT ma o6.2.2.1 o6.2.2.2.1 o6.2.2.2.2.1 o6.2.2.2.2.2.1 o6.2.2.2.2.2.2 sK aK tK pK qK sH rH uH ++ mC cy ad o7.2.1 o7.2.2 la)) (by rw [List.append_nil]) rfl rfl rfl (Nat.le_of_ble_eq_true rfl) ⟨Nat.le_of_ble_eq_true rfl, Nat.le_of_ble_eq_true rfl⟩ ⟨Nat.le_of_ble_eq_true rfl, Nat.le_of_ble_eq_true rfl⟩ dL_law_1653 ?_
  exact ur_icmp_eq C dL_law_1656 (tgt := 1684) rfl (fun _ => k _ _ _ _ _ _ _ _ _ _ _ _ _ _ _ _ _ _ _ _ _ _ _ _ _ _ _ I1) (fun h => absurd ea1 h)
theorem dL_law_1661 : decode cL_law 1661 = .ok (.aload_n 1, 1) := by decide +kernel
theorem dL_law_1662 : decode cL_law 1662 = .ok (.aload_n 0, 1) := by decide +kernel
theorem dL_law_1663 : decode cL_law 1663 = .ok (.iload_n 3, 1) := by decide +kernel
theorem dL_law_1664 : decode cL_law 1664 = .ok (.iconst 1, 1) := by decide +kernel
theorem dL_law_1665 : decode cL_law 1665 = .ok (.iadd, 1) := by decide +kernel
theorem dL_law_1666 : decode cL_law 1666 = .ok (.iaload, 1) := by decide +kernel
theorem dL_law_1667 : decode cL_law 1667 = .ok (.invokevirtual 203, 3) := by decide +kernel
theorem dL_law_1670 : decode cL_law 1670 = .ok (.aload_n 2, 1) := by decide +kernel
theorem dL_law_1671 : decode cL_law 1671 = .ok (.aload_n 0, 1) := by decide +kernel
theorem dL_law_1672 : decode cL_law 1672 = .ok (.iload_n 3, 1) := by decide +kernel
theorem dL_law_1673 : decode cL_law 1673 = .ok (.iconst 1, 1) := by decide +kernel
theorem dL_law_1674 : decode cL_law 1674 = .ok (.iadd, 1) := by decide +kernel
theorem dL_law_1675 : decode cL_law 1675 = .ok (.iaload, 1) := by decide +kernel
theorem dL_law_1676 : decode cL_law 1676 = .ok (.invokevirtual 206, 3) := by decide +kernel
theorem dL_law_1679 : decode cL_law 1679 = .ok (.if_icmp .eq 5, 3) := by decide +kernel
theorem law_count (C : CC p s m #[Value.ref b] meth c code RL 4 ret D cy (fun q => s.heap.size ≤ q) false Bd xa) (hX : va_X b Ln xs s s.heap) (hbl : b < s.heap.size) (hL : Ln ≤ 2560) {sX : S1} {aX : S2} {uG : S1} {es : S1} {ea : S2} {sT : S1} {aT : S2} {tT : S2} {pT : S1} {qT : S2} {ma : S2} {sL : S1} {aL : S2} {tL : S2} {pL : S1} {qL : S2} {sK : S1} {aK : S2} {tK : S2} {pK : S1} {qK : S2} {sH : S2} {rH : S3} {uH : S2} {sc : S1} {ar : S2} {la : S3} (I : INV sX aX uG es ea sT aT tT pT qT ma sL aL tL pL qL sK aK tK pK qK sH rH uH sc ar la) {i : Nat} (hi : i + 5 ≤ Ln) (k : ∀ (sX : S1) (aX : S2) (uG : S1) (es : S1) (ea : S2) (sT : S1) (aT : S2) (tT : S2) (pT : S1) (qT : S2) (ma : S2) (sL : S1) (aL : S2) (tL : S2) (pL : S1) (qL : S2) (sK : S1) (aK : S2) (tK : S2) (pK : S1) (qK : S2) (sH : S2) (rH : S3) (uH : S2) (sc : S1) (ar : S2) (la : S3), INV sX aX uG es ea sT aT tT pT qT ma sL aL tL pL qL sK aK tK pK qK sH rH uH sc ar la → LU p l e s m below meth c D b 1684 i (xd 0 0) (ad 0) [] (xC cy xd sX aX uG es ea sT aT tT pT qT ma sL aL tL pL qL sK aK tK pK qK sH rH uH ++ mC cy ad sc ar la)) : LU p l e s m below meth c D b 1661 i (xd 0 0) (ad 0) [] (xC cy xd sX aX uG es ea sT aT tT pT qT ma sL aL tL pL qL sK aK tK pK qK sH rH uH ++ mC cy ad sc ar la) := by
  obtain ⟨o6, o7, e6, e7, ea1, I1⟩ := v_count (N := 10000000) (Nat.le_refl _) I (xs (i + 1))
  refine uu_aload_n C dL_law_1661 rfl (k := 2) rfl ?_
  refine lu_arg C hX hbl hL hi (j := 1) (by decide) rfl dL_law_1662 dL_law_1663 dL_law_1664 dL_law_1665 dL_law_1666 ?_
  refine uu_callR C (k_X6_count (xa := xa) (xd := xd) (sX := sX) (aX := aX) (uG := uG) (es := es) (ea := ea) (sT := sT) (aT := aT) (tT := tT) (pT := pT) (qT := qT) (ma := ma) (sL := sL) (aL := aL) (tL := tL) (pL := pL) (qL := qL) (sK := sK) (aK := aK) (tK := tK) (pK := pK) (qK := qK) (sH := sH) (rH := rH) (uH := uH) e6) okX6_count q4_150 (ci := 6) rfl (q0 := 0) rfl (fun x hx => List.mem_append_left _ hx) rfl rfl rfl (Nat.le_of_ble_eq_true rfl) ⟨Nat.le_of_ble_eq_true rfl, Nat.le_of_ble_eq_true rfl⟩ ⟨Nat.le_of_ble_eq_true rfl, Nat.le_of_ble_eq_true rfl⟩ dL_law_1667 ?_
  refine uu_aload_n C dL_law_1670 rfl (k := 1) rfl ?_
  refine lu_arg C hX hbl hL hi (j := 1) (by decide) rfl dL_law_1671 dL_law_1672 dL_law_1673 dL_law_1674 dL_law_1675 ?_
  refine uu_callR C (k_X7_count (xa := xa) (ad := ad) (sc := sc) (ar := ar) (la := la) e7) okX7_count q6_201 (ci := 7) rfl (q0 := 72) rfl (fun x hx => List.mem_append_right _ hx) rfl rfl rfl (Nat.le_of_ble_eq_true rfl) ⟨Nat.le_of_ble_eq_true rfl, Nat.le_of_ble_eq_true rfl⟩ ⟨Nat.le_of_ble_eq_true rfl, Nat.le_of_ble_eq_true rfl⟩ dL_law_1676 ?_
  exact ur_icmp_eq C dL_law_1679 (tgt := 1684) rfl (fun _ => k _ _ _ _ _ _ _ _ _ _ _ _ _ _ _ _ _ _ _ _ _ _ _ _ _ _ _ I1) (fun h => absurd ea1 h)
end LWc3
