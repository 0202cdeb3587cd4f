theorem inx_1 : ∀ w ∈ u_ws RX1 TX1 18, w ∈ lwg := by
  intro w hw
  obtain ⟨k, hk, rfl⟩ := List.mem_map.mp hw
  have hk := List.mem_range.mp hk
  match k, hk with
  | 0, _ => exact tw_422
  | 1, _ => exact tw_424
  | 2, _ => exact tw_426
  | 3, _ => exact tw_428
  | 4, _ => exact tw_430
  | 5, _ => exact tw_432
  | 6, _ => exact tw_434
  | 7, _ => exact tw_436
  | 8, _ => exact tw_438
  | 9, _ => exact tw_440
  | 10, _ => exact tw_442
  | 11, _ => exact tw_444
  | 12, _ => exact tw_446
  | 13, _ => exact tw_448
  | 14, _ => exact tw_450
  | 15, _ => exact tw_452
  | 16, _ => exact tw_454
  | 17, _ => exact tw_456
  | k + 18, h => exact absurd h (by omega)
theorem inx_2 : ∀ w ∈ u_ws RX2 TX2 10, w ∈ lwg := by
  intro w hw
  obtain ⟨k, hk, rfl⟩ := List.mem_map.mp hw
  have hk := List.mem_range.mp hk
  match k, hk with
  | 0, _ => exact tw_273
  | 1, _ => exact tw_275
  | 2, _ => exact tw_277
  | 3, _ => exact tw_279
  | 4, _ => exact tw_281
  | 5, _ => exact tw_283
  | 6, _ => exact tw_285
  | 7, _ => exact tw_287
  | 8, _ => exact tw_289
  | 9, _ => exact tw_291
  | k + 10, h => exact absurd h (by omega)
theorem inx_3 : ∀ w ∈ u_ws RX3 TX3 7, w ∈ lwg := by
  intro w hw
  obtain ⟨k, hk, rfl⟩ := List.mem_map.mp hw
  have hk := List.mem_range.mp hk
  match k, hk with
  | 0, _ => exact tw_357
  | 1, _ => exact tw_359
  | 2, _ => exact tw_361
  | 3, _ => exact tw_363
  | 4, _ => exact tw_365
  | 5, _ => exact tw_367
  | 6, _ => exact tw_369
  | k + 7, h => exact absurd h (by omega)
theorem inx_4 : ∀ w ∈ u_ws RX4 TX4 4, w ∈ lwg := by
  intro w hw
  obtain ⟨k, hk, rfl⟩ := List.mem_map.mp hw
  have hk := List.mem_range.mp hk
  match k, hk with
  | 0, _ => exact tw_499
  | 1, _ => exact tw_501
  | 2, _ => exact tw_503
  | 3, _ => exact tw_505
  | k + 4, h => exact absurd h (by omega)
theorem inx_5 : ∀ w ∈ u_ws RX5 TX5 3, w ∈ lwg := by
  intro w hw
  obtain ⟨k, hk, rfl⟩ := List.mem_map.mp hw
  have hk := List.mem_range.mp hk
  match k, hk with
  | 0, _ => exact tw_308
  | 1, _ => exact tw_310
  | 2, _ => exact tw_312
  | k + 3, h => exact absurd h (by omega)
theorem inx_6 : ∀ w ∈ u_ws RX6 TX6 4, w ∈ lwg := by
  intro w hw
  obtain ⟨k, hk, rfl⟩ := List.mem_map.mp hw
  have hk := List.mem_range.mp hk
  match k, hk with
  | 0, _ => exact tw_196
  | 1, _ => exact tw_198
  | 2, _ => exact tw_200
  | 3, _ => exact tw_202
  | k + 4, h => exact absurd h (by omega)
theorem inx_7 : ∀ w ∈ u_ws RX7 TX7 4, w ∈ lwg := by
  intro w hw
  obtain ⟨k, hk, rfl⟩ := List.mem_map.mp hw
  have hk := List.mem_range.mp hk
  match k, hk with
  | 0, _ => exact tw_326
  | 1, _ => exact tw_328
  | 2, _ => exact tw_330
  | 3, _ => exact tw_332
  | k + 4, h => exact absurd h (by omega)
theorem inx_8 : ∀ w ∈ u_ws RX8 TX8 4, w ∈ lwg := by
  intro w hw
  obtain ⟨k, hk, rfl⟩ := List.mem_map.mp hw
  have hk := List.mem_range.mp hk
  match k, hk with
  | 0, _ => exact tw_471
  | 1, _ => exact tw_473
  | 2, _ => exact tw_475
  | 3, _ => exact tw_477
  | k + 4, h => exact absurd h (by omega)
theorem inx_9 : ∀ w ∈ u_ws RX9 TX9 9, w ∈ lwg := by
  intro w hw
  obtain ⟨k, hk, rfl⟩ := List.mem_map.mp hw
  have hk := List.mem_range.mp hk
  match k, hk with
  | 0, _ => exact tw_239
  | 1, _ => exact tw_241
  | 2, _ => exact tw_243
  | 3, _ => exact tw_245
  | 4, _ => exact tw_247
  | 5, _ => exact tw_249
  | 6, _ => exact tw_251
  | 7, _ => exact tw_253
  | 8, _ => exact tw_255
  | k + 9, h => exact absurd h (by omega)
theorem inx_10 : ∀ w ∈ u_ws RX10 TX10 8, w ∈ lwg := by
  intro w hw
  obtain ⟨k, hk, rfl⟩ := List.mem_map.mp hw
  have hk := List.mem_range.mp hk
  match k, hk with
  | 0, _ => exact tw_168
  | 1, _ => exact tw_170
  | 2, _ => exact tw_172
  | 3, _ => exact tw_174
  | 4, _ => exact tw_176
  | 5, _ => exact tw_178
  | 6, _ => exact tw_180
  | 7, _ => exact tw_182
  | k + 8, h => exact absurd h (by omega)
theorem inx_12 : ∀ w ∈ u_ws RX12 TX12 14, w ∈ lwg := by
  intro w hw
  obtain ⟨k, hk, rfl⟩ := List.mem_map.mp hw
  have hk := List.mem_range.mp hk
  match k, hk with
  | 0, _ => exact tw_522
  | 1, _ => exact tw_524
  | 2, _ => exact tw_526
  | 3, _ => exact tw_528
  | 4, _ => exact tw_530
  | 5, _ => exact tw_532
  | 6, _ => exact tw_534
  | 7, _ => exact tw_536
  | 8, _ => exact tw_538
  | 9, _ => exact tw_540
  | 10, _ => exact tw_542
  | 11, _ => exact tw_544
  | 12, _ => exact tw_546
  | 13, _ => exact tw_548
  | k + 14, h => exact absurd h (by omega)
theorem inx_13 : ∀ w ∈ u_ws RX13 TX13 65, w ∈ lwg := by
  intro w hw
  obtain ⟨k, hk, rfl⟩ := List.mem_map.mp hw
  have hk := List.mem_range.mp hk
  match k, hk with
  | 0, _ => exact tw_1438
  | 1, _ => exact tw_1440
  | 2, _ => exact tw_1442
  | 3, _ => exact tw_1444
  | 4, _ => exact tw_1446
  | 5, _ => exact tw_1448
  | 6, _ => exact tw_1450
  | 7, _ => exact tw_1452
  | 8, _ => exact tw_1454
  | 9, _ => exact tw_1456
  | 10, _ => exact tw_1458
  | 11, _ => exact tw_1460
  | 12, _ => exact tw_1462
  | 13, _ => exact tw_1464
  | 14, _ => exact tw_1466
  | 15, _ => exact tw_1468
  | 16, _ => exact tw_1470
  | 17, _ => exact tw_1472
  | 18, _ => exact tw_1474
  | 19, _ => exact tw_1476
  | 20, _ => exact tw_1478
  | 21, _ => exact tw_1480
  | 22, _ => exact tw_1482
  | 23, _ => exact tw_1484
  | 24, _ => exact tw_1486
  | 25, _ => exact tw_1488
  | 26, _ => exact tw_1490
  | 27, _ => exact tw_1492
  | 28, _ => exact tw_1494
  | 29, _ => exact tw_1496
  | 30, _ => exact tw_1498
  | 31, _ => exact tw_1500
  | 32, _ => exact tw_1502
  | 33, _ => exact tw_1504
  | 34, _ => exact tw_1506
  | 35, _ => exact tw_1508
  | 36, _ => exact tw_1510
  | 37, _ => exact tw_1512
  | 38, _ => exact tw_1514
  | 39, _ => exact tw_1516
  | 40, _ => exact tw_1518
  | 41, _ => exact tw_1520
  | 42, _ => exact tw_1522
  | 43, _ => exact tw_1524
  | 44, _ => exact tw_1526
  | 45, _ => exact tw_1528
  | 46, _ => exact tw_1530
  | 47, _ => exact tw_1532
  | 48, _ => exact tw_1534
  | 49, _ => exact tw_1536
  | 50, _ => exact tw_1538
  | 51, _ => exact tw_1540
  | 52, _ => exact tw_1542
  | 53, _ => exact tw_1544
  | 54, _ => exact tw_1546
  | 55, _ => exact tw_1548
  | 56, _ => exact tw_1550
  | 57, _ => exact tw_1552
  | 58, _ => exact tw_1554
  | 59, _ => exact tw_1556
  | 60, _ => exact tw_1558
  | 61, _ => exact tw_1560
  | 62, _ => exact tw_1562
  | 63, _ => exact tw_1564
  | 64, _ => exact tw_1566
  | k + 65, h => exact absurd h (by omega)
abbrev w4 (f : Nat → va_W) : va_W := f 0 ++ (f 1 ++ (f 2 ++ (f 3)))
abbrev w6 (f : Nat → va_W) : va_W := f 0 ++ (f 1 ++ (f 2 ++ (f 3 ++ (f 4 ++ (f 5)))))
abbrev w16 (f : Nat → va_W) : va_W := f 0 ++ (f 1 ++ (f 2 ++ (f 3 ++ (f 4 ++ (f 5 ++ (f 6 ++ (f 7 ++ (f 8 ++ (f 9 ++ (f 10 ++ (f 11 ++ (f 12 ++ (f 13 ++ (f 14 ++ (f 15)))))))))))))))
abbrev wX1 (E : En) (o : Nat) (q : Nat → Nat) (v0 : Int32) (v1 : Int32) (v2 : Int32) (v3 : Int32) (v4 : Int32) (v5 : Int32) (v6 : (Nat → Int64)) (v7 : (Nat → Int32)) (v8 : (Nat → Int32)) (v9 : (Nat → Int32)) (v10 : (Nat → Int32)) (v11 : (Nat → Int32)) (v12 : (Nat → Int64)) (v13 : (Nat → Int32)) (v14 : (Nat → Int32)) (v15 : (Nat → Int64)) (v16 : (Nat → Int32)) (v17 : Value) : va_W := [(o, .inr (0, [.int v0, .int v1, .int v2, .int v3, .int v4, .int v5, .ref (q 6), .ref (q 7), .ref (q 8), .ref (q 9), .ref (q 10), .ref (q 11), .ref (q 12), .ref (q 13), .ref (q 14), .ref (q 15), .ref (q 16), v17])), (q 6, .inl (E.2.1 1, 6, .inr (.inl v6))), (q 7, .inl (E.2.1 0, 6, .inl v7)), (q 8, .inl (E.2.1 0, 6, .inl v8)), (q 9, .inl (E.2.1 0, 6, .inl v9)), (q 10, .inl (E.2.1 0, 6, .inl v10)), (q 11, .inl (E.2.1 0, 6, .inl v11)), (q 12, .inl (E.2.1 1, 5, .inr (.inl v12))), (q 13, .inl (E.2.1 0, 5, .inl v13)), (q 14, .inl (E.2.1 0, 5, .inl v14)), (q 15, .inl (E.2.1 1, 6, .inr (.inl v15))), (q 16, .inl (E.2.1 0, 6, .inl v16))]
abbrev wX2 (E : En) (o : Nat) (q : Nat → Nat) (v0 : (Nat → Option Nat)) (v1 : (Nat → Int32)) (v2 : (Nat → Int32)) (v3 : (Nat → Int32)) (v4 : (Nat → Int32)) (v5 : Value) (v6 : Value) (v7 : Int32) (v8 : Int32) (v9 : Int32) : va_W := [(o, .inr (1, [.ref (q 0), .ref (q 1), .ref (q 2), .ref (q 3), .ref (q 4), v5, v6, .int v7, .int v8, .int v9])), (q 0, .inl (E.2.1 4, 6, .inr (.inr (.inr (.inr v0))))), (q 1, .inl (E.2.1 0, 5, .inl v1)), (q 2, .inl (E.2.1 0, 5, .inl v2)), (q 3, .inl (E.2.1 0, 30, .inl v3)), (q 4, .inl (E.2.1 0, 100, .inl v4))]
abbrev wX3 (E : En) (o : Nat) (q : Nat → Nat) (v0 : (Nat → Int32)) (v1 : (Nat → Int32)) (v2 : Int32) (v3 : Int32) (v4 : Int32) (v5 : Int32) (v6 : Int32) : va_W := [(o, .inr (2, [.ref (q 0), .ref (q 1), .int v2, .int v3, .int v4, .int v5, .int v6])), (q 0, .inl (E.2.1 0, 1000, .inl v0)), (q 1, .inl (E.2.1 0, 32, .inl v1))]
abbrev wX4 (E : En) (o : Nat) (v0 : Int32) (v1 : Value) (v2 : Value) (v3 : Value) : va_W := [(o, .inr (3, [.int v0, v1, v2, v3]))]
abbrev wX5 (E : En) (o : Nat) (q : Nat → Nat) (v0 : (Nat → Option Nat)) (v1 : Int32) (v2 : Int32) : va_W := [(o, .inr (4, [.ref (q 0), .int v1, .int v2])), (q 0, .inl (E.2.1 4, 16, .inr (.inr (.inr (.inr v0)))))]
abbrev wX6 (E : En) (o : Nat) (v0 : Value) (v1 : Value) (v2 : Value) (v3 : Int32) : va_W := [(o, .inr (5, [v0, v1, v2, .int v3]))]
abbrev wX7 (E : En) (o : Nat) (q : Nat → Nat) (v0 : Int32) (v1 : (Nat → Int32)) (v2 : (Nat → Int32)) (v3 : (Nat → Int32)) : va_W := [(o, .inr (6, [.int v0, .ref (q 1), .ref (q 2), .ref (q 3)])), (q 1, .inl (E.2.1 0, 8, .inl v1)), (q 2, .inl (E.2.1 0, 8, .inl v2)), (q 3, .inl (E.2.1 0, 8, .inl v3))]
abbrev wX8 (E : En) (o : Nat) (q : Nat → Nat) (v0 : Int32) (v1 : (Nat → Int32)) (v2 : (Nat → Int32)) (v3 : (Nat → Int32)) : va_W := [(o, .inr (7, [.int v0, .ref (q 1), .ref (q 2), .ref (q 3)])), (q 1, .inl (E.2.1 0, 40, .inl v1)), (q 2, .inl (E.2.1 0, 40, .inl v2)), (q 3, .inl (E.2.1 0, 40, .inl v3))]
abbrev wX9 (E : En) (o : Nat) (q : Nat → Nat) (v0 : Int32) (v1 : Int32) (v2 : Int32) (v3 : Int32) (v4 : Int32) (v5 : Int32) (v6 : (Nat → Int32)) (v7 : (Nat → Int32)) (v8 : (Nat → Int32)) : va_W := [(o, .inr (8, [.int v0, .int v1, .int v2, .int v3, .int v4, .int v5, .ref (q 6), .ref (q 7), .ref (q 8)])), (q 6, .inl (E.2.1 0, 5, .inl v6)), (q 7, .inl (E.2.1 0, 6, .inl v7)), (q 8, .inl (E.2.1 0, 6, .inl v8))]
abbrev wX10 (E : En) (o : Nat) (q : Nat → Nat) (v0 : (Nat → Int32)) (v1 : Int32) (v2 : Int32) (v3 : Int32) (v4 : Int32) (v5 : Int32) (v6 : Int64) (v7 : (Option Nat)) : va_W := [(o, .inr (9, [.ref (q 0), .int v1, .int v2, .int v3, .int v4, .int v5, .long v6, va_re E.2.2 v7])), (q 0, .inl (E.2.1 0, 1000, .inl v0))]
abbrev wX12 (E : En) (o : Nat) (q : Nat → Nat) (v0 : Value) (v1 : Value) (v2 : Value) (v3 : Value) (v4 : Value) (v5 : Value) (v6 : Value) (v7 : (Nat → Option Nat)) (v8 : Value) (v9 : Value) (v10 : Value) (v11 : Value) (v12 : Int32) (v13 : Int32) : va_W := [(o, .inr (10, [v0, v1, v2, v3, v4, v5, v6, .ref (q 7), v8, v9, v10, v11, .int v12, .int v13])), (q 7, .inl (E.2.1 3, 4, .inr (.inr (.inr (.inr v7)))))]
abbrev wX13 (E : En) (o : Nat) (q : Nat → Nat) (v0 : Int32) (v1 : Int32) (v2 : (Nat → Int32)) (v3 : Int32) (v4 : Int32) (v5 : Int32) (v6 : Int32) (v7 : Int64) (v8 : Int32) (v9 : Int32) (v10 : (Nat → Int32)) (v11 : (Nat → Int64)) (v12 : (Nat → Int64)) (v13 : (Nat → Int64)) (v14 : (Nat → Int32)) (v15 : (Nat → Int32)) (v16 : (Nat → Int32)) (v17 : (Nat → Int32)) (v18 : (Nat → Int32)) (v19 : (Nat → Int32)) (v20 : (Nat → Int32)) (v21 : (Nat → Int32)) (v22 : (Nat → Int32)) (v23 : (Nat → Int32)) (v24 : (Nat → Int32)) (v25 : Int32) (v26 : Int32) (v27 : Int32) (v28 : (Nat → Int32)) (v29 : (Nat → Int32)) (v30 : (Nat → Int32)) (v31 : (Nat → Int32)) (v32 : (Nat → Int32)) (v33 : (Nat → Int32)) (v34 : (Nat → Int32)) (v35 : (Nat → Int32)) (v36 : (Nat → Int32)) (v37 : (Nat → Int32)) (v38 : (Nat → Int32)) (v39 : (Nat → Int32)) (v40 : Int32) (v41 : Int64) (v42 : Int32) (v43 : (Nat → Int32)) (v44 : (Nat → Int32)) (v45 : (Nat → Int32)) (v46 : (Nat → Int32)) (v47 : (Nat → Int32)) (v48 : (Nat → Int32)) (v49 : (Nat → Int32)) (v50 : (Nat → Int32)) (v51 : (Nat → Int32)) (v52 : (Nat → Int32)) (v53 : (Nat → Int32)) (v54 : (Nat → Int32)) (v55 : (Nat → Int32)) (v56 : (Nat → Int32)) (v57 : Int32) (v58 : (Nat → Int32)) (v59 : (Nat → Int32)) (v60 : Int32) (v61 : (Nat → Int32)) (v62 : (Nat → Int32)) (v63 : Int32) (v64 : Int64) : va_W := [(o, .inr (11, [.int v0, .int v1, .ref (q 2), .int v3, .int v4, .int v5, .int v6, .long v7, .int v8, .int v9, .ref (q 10), .ref (q 11), .ref (q 12), .ref (q 13), .ref (q 14), .ref (q 15), .ref (q 16), .ref (q 17), .ref (q 18), .ref (q 19), .ref (q 20), .ref (q 21), .ref (q 22), .ref (q 23), .ref (q 24), .int v25, .int v26, .int v27, .ref (q 28), .ref (q 29), .ref (q 30), .ref (q 31), .ref (q 32), .ref (q 33), .ref (q 34), .ref (q 35), .ref (q 36), .ref (q 37), .ref (q 38), .ref (q 39), .int v40, .long v41, .int v42, .ref (q 43), .ref (q 44), .ref (q 45), .ref (q 46), .ref (q 47), .ref (q 48), .ref (q 49), .ref (q 50), .ref (q 51), .ref (q 52), .ref (q 53), .ref (q 54), .ref (q 55), .ref (q 56), .int v57, .ref (q 58), .ref (q 59), .int v60, .ref (q 61), .ref (q 62), .int v63, .long v64])), (q 2, .inl (E.2.1 0, 1000, .inl v2)), (q 10, .inl (E.2.1 0, 10, .inl v10)), (q 11, .inl (E.2.1 1, 12, .inr (.inl v11))), (q 12, .inl (E.2.1 1, 10, .inr (.inl v12))), (q 13, .inl (E.2.1 1, 12, .inr (.inl v13))), (q 14, .inl (E.2.1 0, 12, .inl v14)), (q 15, .inl (E.2.1 0, 12, .inl v15)), (q 16, .inl (E.2.1 0, 12, .inl v16)), (q 17, .inl (E.2.1 0, 12, .inl v17)), (q 18, .inl (E.2.1 0, 12, .inl v18)), (q 19, .inl (E.2.1 0, 12, .inl v19)), (q 20, .inl (E.2.1 0, 10, .inl v20)), (q 21, .inl (E.2.1 0, 10, .inl v21)), (q 22, .inl (E.2.1 0, 4, .inl v22)), (q 23, .inl (E.2.1 0, 4, .inl v23)), (q 24, .inl (E.2.1 0, 2000, .inl v24)), (q 28, .inl (E.2.1 0, 7, .inl v28)), (q 29, .inl (E.2.1 2, 7, .inl v29)), (q 30, .inl (E.2.1 0, 7, .inl v30)), (q 31, .inl (E.2.1 0, 7, .inl v31)), (q 32, .inl (E.2.1 0, 7, .inl v32)), (q 33, .inl (E.2.1 0, 7, .inl v33)), (q 34, .inl (E.2.1 0, 7, .inl v34)), (q 35, .inl (E.2.1 0, 7, .inl v35)), (q 36, .inl (E.2.1 0, 7, .inl v36)), (q 37, .inl (E.2.1 0, 7, .inl v37)), (q 38, .inl (E.2.1 0, 7, .inl v38)), (q 39, .inl (E.2.1 0, 20, .inl v39)), (q 43, .inl (E.2.1 0, 6, .inl v43)), (q 44, .inl (E.2.1 0, 240, .inl v44)), (q 45, .inl (E.2.1 0, 240, .inl v45)), (q 46, .inl (E.2.1 0, 240, .inl v46)), (q 47, .inl (E.2.1 0, 5, .inl v47)), (q 48, .inl (E.2.1 0, 40, .inl v48)), (q 49, .inl (E.2.1 0, 40, .inl v49)), (q 50, .inl (E.2.1 0, 40, .inl v50)), (q 51, .inl (E.2.1 0, 23, .inl v51)), (q 52, .inl (E.2.1 0, 23, .inl v52)), (q 53, .inl (E.2.1 0, 115, .inl v53)), (q 54, .inl (E.2.1 0, 92, .inl v54)), (q 55, .inl (E.2.1 0, 368, .inl v55)), (q 56, .inl (E.2.1 2, 4, .inl v56)), (q 58, .inl (E.2.1 0, 5, .inl v58)), (q 59, .inl (E.2.1 0, 5, .inl v59)), (q 61, .inl (E.2.1 0, 5, .inl v61)), (q 62, .inl (E.2.1 0, 5, .inl v62))]
abbrev wA (E : En) (o n : Nat) (f : Nat → Int32) : va_W := [(o, .inl (E.2.1 0, n, .inl f))]
abbrev wL (E : En) (o n : Nat) (f : Nat → Int64) : va_W := [(o, .inl (E.2.1 1, n, .inr (.inl f)))]
