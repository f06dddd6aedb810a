/-! Its soundness. -/
theorem gs_L_74 : GoodIn lgood (va_wsS RL 74 yL_sign (wsH yL_sign cL_sign 11 (some .int) [(0, 17, 20, 13), (0, 17, 24, 15)])) := giH (mgT 481 (by decide +kernel) (by decide +kernel)) (mgT 482 (by decide +kernel) (by decide +kernel)) (mgT 0 (by decide +kernel) (by decide +kernel)) (mgT 483 (by decide +kernel) (by decide +kernel))
theorem gs_L_84 : GoodIn lgood (va_wsS RL 84 yL_turn (wsH yL_turn cL_turn 5 (some .int) [(0, 10, 13, 21)])) := giH (mgT 586 (by decide +kernel) (by decide +kernel)) (mgT 587 (by decide +kernel) (by decide +kernel)) (mgT 0 (by decide +kernel) (by decide +kernel)) (mgT 588 (by decide +kernel) (by decide +kernel))
theorem gs_L_88 : GoodIn lgood (va_wsS RL 88 yL_map (wsH yL_map cL_map 7 (some .int) [(0, 14, 17, 27), (0, 14, 21, 13)])) := giH (mgT 614 (by decide +kernel) (by decide +kernel)) (mgT 615 (by decide +kernel) (by decide +kernel)) (mgT 0 (by decide +kernel) (by decide +kernel)) (mgT 616 (by decide +kernel) (by decide +kernel))
theorem gs_L_92 : GoodIn lgood (va_wsS RL 92 yL_tag (wsH yL_tag cL_tag 5 (some .int) [(0, 10, 13, 21), (0, 10, 17, 13)])) := giH (mgT 671 (by decide +kernel) (by decide +kernel)) (mgT 672 (by decide +kernel) (by decide +kernel)) (mgT 0 (by decide +kernel) (by decide +kernel)) (mgT 673 (by decide +kernel) (by decide +kernel))
theorem gs_L_100 : GoodIn lgood (va_wsS RL 100 yL_letter (wsH yL_letter cL_letter 4 (some .int) [(0, 9, 12, 27)])) := giH (mgT 679 (by decide +kernel) (by decide +kernel)) (mgT 680 (by decide +kernel) (by decide +kernel)) (mgT 0 (by decide +kernel) (by decide +kernel)) (mgT 681 (by decide +kernel) (by decide +kernel))
theorem gs_L_104 : GoodIn lgood (va_wsS RL 104 yL_from (wsH yL_from cL_from 4 (some .int) [(0, 9, 12, 27)])) := giH (mgT 691 (by decide +kernel) (by decide +kernel)) (mgT 692 (by decide +kernel) (by decide +kernel)) (mgT 0 (by decide +kernel) (by decide +kernel)) (mgT 693 (by decide +kernel) (by decide +kernel))
theorem gs_L_107 : GoodIn lgood (va_wsS RL 107 yL_line (wsH yL_line cL_line 4 (some .int) [(0, 9, 12, 21)])) := giH (mgT 698 (by decide +kernel) (by decide +kernel)) (mgT 699 (by decide +kernel) (by decide +kernel)) (mgT 0 (by decide +kernel) (by decide +kernel)) (mgT 700 (by decide +kernel) (by decide +kernel))
theorem gs_L_110 : GoodIn lgood (va_wsS RL 110 yL_block (wsH yL_block cL_block 4 (some .int) [(0, 9, 12, 21)])) := giH (mgT 705 (by decide +kernel) (by decide +kernel)) (mgT 706 (by decide +kernel) (by decide +kernel)) (mgT 0 (by decide +kernel) (by decide +kernel)) (mgT 707 (by decide +kernel) (by decide +kernel))
theorem gs_L_113 : GoodIn lgood (va_wsS RL 113 yL_twice (wsH yL_twice cL_twice 4 (some .int) [(0, 9, 12, 21)])) := giH (mgT 713 (by decide +kernel) (by decide +kernel)) (mgT 714 (by decide +kernel) (by decide +kernel)) (mgT 0 (by decide +kernel) (by decide +kernel)) (mgT 715 (by decide +kernel) (by decide +kernel))
theorem gs_L_116 : GoodIn lgood (va_wsS RL 116 yL_space (wsH yL_space cL_space 4 (some .int) [(0, 16, 19, 21)])) := giH (mgT 720 (by decide +kernel) (by decide +kernel)) (mgT 721 (by decide +kernel) (by decide +kernel)) (mgT 0 (by decide +kernel) (by decide +kernel)) (mgT 722 (by decide +kernel) (by decide +kernel))
theorem gs_L_119 : GoodIn lgood (va_wsS RL 119 yL_share (wsH yL_share cL_share 7 (some .int) [(0, 10, 13, 57)])) := giH (mgT 727 (by decide +kernel) (by decide +kernel)) (mgT 728 (by decide +kernel) (by decide +kernel)) (mgT 0 (by decide +kernel) (by decide +kernel)) (mgT 729 (by decide +kernel) (by decide +kernel))
theorem gs_L_123 : GoodIn lgood (va_wsS RL 123 yL_word (wsH yL_word cL_word 5 (some .int) [(0, 10, 13, 27)])) := giH (mgT 752 (by decide +kernel) (by decide +kernel)) (mgT 753 (by decide +kernel) (by decide +kernel)) (mgT 0 (by decide +kernel) (by decide +kernel)) (mgT 754 (by decide +kernel) (by decide +kernel))
theorem gs_L_126 : GoodIn lgood (va_wsS RL 126 yL_find (wsH yL_find cL_find 4 (some .int) [(0, 9, 12, 13), (0, 9, 15, 15)])) := giH (mgT 781 (by decide +kernel) (by decide +kernel)) (mgT 782 (by decide +kernel) (by decide +kernel)) (mgT 0 (by decide +kernel) (by decide +kernel)) (mgT 783 (by decide +kernel) (by decide +kernel))
theorem gs_L_129 : GoodIn lgood (va_wsS RL 129 yL_found (wsH yL_found cL_found 4 (some .int) [(0, 9, 12, 27)])) := giH (mgT 806 (by decide +kernel) (by decide +kernel)) (mgT 807 (by decide +kernel) (by decide +kernel)) (mgT 0 (by decide +kernel) (by decide +kernel)) (mgT 808 (by decide +kernel) (by decide +kernel))
theorem dl_L_sign : yL_sign.cls ≠ "java/lang/invoke/MethodHandle" ∧ yL_sign.cls ≠ "java/lang/invoke/VarHandle" ∧ (parseMethodDescriptor yL_sign.desc).map (fun d => d.parameters.length) = some 7 := by decide +kernel
theorem dl_L_turn : yL_turn.cls ≠ "java/lang/invoke/MethodHandle" ∧ yL_turn.cls ≠ "java/lang/invoke/VarHandle" ∧ (parseMethodDescriptor yL_turn.desc).map (fun d => d.parameters.length) = some 4 := by decide +kernel
theorem dl_L_map : yL_map.cls ≠ "java/lang/invoke/MethodHandle" ∧ yL_map.cls ≠ "java/lang/invoke/VarHandle" ∧ (parseMethodDescriptor yL_map.desc).map (fun d => d.parameters.length) = some 6 := by decide +kernel
theorem dl_L_tag : yL_tag.cls ≠ "java/lang/invoke/MethodHandle" ∧ yL_tag.cls ≠ "java/lang/invoke/VarHandle" ∧ (parseMethodDescriptor yL_tag.desc).map (fun d => d.parameters.length) = some 4 := by decide +kernel
theorem dl_L_letter : yL_letter.cls ≠ "java/lang/invoke/MethodHandle" ∧ yL_letter.cls ≠ "java/lang/invoke/VarHandle" ∧ (parseMethodDescriptor yL_letter.desc).map (fun d => d.parameters.length) = some 3 := by decide +kernel
theorem dl_L_from : yL_from.cls ≠ "java/lang/invoke/MethodHandle" ∧ yL_from.cls ≠ "java/lang/invoke/VarHandle" ∧ (parseMethodDescriptor yL_from.desc).map (fun d => d.parameters.length) = some 3 := by decide +kernel
theorem dl_L_line : yL_line.cls ≠ "java/lang/invoke/MethodHandle" ∧ yL_line.cls ≠ "java/lang/invoke/VarHandle" ∧ (parseMethodDescriptor yL_line.desc).map (fun d => d.parameters.length) = some 3 := by decide +kernel
theorem dl_L_block : yL_block.cls ≠ "java/lang/invoke/MethodHandle" ∧ yL_block.cls ≠ "java/lang/invoke/VarHandle" ∧ (parseMethodDescriptor yL_block.desc).map (fun d => d.parameters.length) = some 3 := by decide +kernel
theorem dl_L_twice : yL_twice.cls ≠ "java/lang/invoke/MethodHandle" ∧ yL_twice.cls ≠ "java/lang/invoke/VarHandle" ∧ (parseMethodDescriptor yL_twice.desc).map (fun d => d.parameters.length) = some 3 := by decide +kernel
theorem dl_L_space : yL_space.cls ≠ "java/lang/invoke/MethodHandle" ∧ yL_space.cls ≠ "java/lang/invoke/VarHandle" ∧ (parseMethodDescriptor yL_space.desc).map (fun d => d.parameters.length) = some 3 := by decide +kernel
theorem dl_L_share : yL_share.cls ≠ "java/lang/invoke/MethodHandle" ∧ yL_share.cls ≠ "java/lang/invoke/VarHandle" ∧ (parseMethodDescriptor yL_share.desc).map (fun d => d.parameters.length) = some 4 := by decide +kernel
theorem dl_L_word : yL_word.cls ≠ "java/lang/invoke/MethodHandle" ∧ yL_word.cls ≠ "java/lang/invoke/VarHandle" ∧ (parseMethodDescriptor yL_word.desc).map (fun d => d.parameters.length) = some 4 := by decide +kernel
theorem dl_L_find : yL_find.cls ≠ "java/lang/invoke/MethodHandle" ∧ yL_find.cls ≠ "java/lang/invoke/VarHandle" ∧ (parseMethodDescriptor yL_find.desc).map (fun d => d.parameters.length) = some 3 := by decide +kernel
theorem dl_L_found : yL_found.cls ≠ "java/lang/invoke/MethodHandle" ∧ yL_found.cls ≠ "java/lang/invoke/VarHandle" ∧ (parseMethodDescriptor yL_found.desc).map (fun d => d.parameters.length) = some 3 := by decide +kernel
set_option maxRecDepth 10000 in
set_option maxHeartbeats 4000000 in
theorem ow_1237 {p : Program} {l : Launch} {e : Env} {s : State} {m : MethodId} {args : Array Value} {below : List Frame} {meth : Method} {c : Code} {E : EvT} {b L : Nat} {xs : Nat → Int32} {cells slots : Nat} {Q : State → Prop} {K : MemT → Prop} (CC : CW p l s m args meth c E b L xs) (hcB : cells + 2 ≤ room_1.cells) (hsB : slots + 12 ≤ room_1.slots) {x4 : Int32} (hK : ∀ μ2, K μ2 → V p l e room_1 s m args below meth c E 8 (cells + 2) (slots + 12) Q 1432 [(0, .ref b), (1, .ref (eAd E 0)), (2, .ref (eAd E 9)), (3, .ref (eAd E 76)), (4, .int x4)] [] μ2) (μ : MemT) (h : tw_1237 K xs L x4 μ) : V p l e room_1 s m args below meth c E 8 cells slots Q 1237 [(0, .ref b), (1, .ref (eAd E 0)), (2, .ref (eAd E 9)), (3, .ref (eAd E 76)), (4, .int x4)] [] μ := by
  have C := CC.1
  unfold tw_1237 at h
  refine v_aload_n C 1 rfl rfl dL_law_1237 ?_
  refine v_aload_n C 0 rfl rfl dL_law_1238 ?_
  refine v_iload C 4 rfl dL_law_1239 ?_
  refine v_iconst (v := (1 : Int32)) C dL_law_1241 (by decide) ?_
  refine v_iadd C dL_law_1242 ?_
  obtain ⟨b1, h⟩ := h
  refine w_sld CC b1 dL_law_1243 ?_
  refine v_i2l C dL_law_1244 ?_
  refine v_bipush (v := (32 : Int32)) C dL_law_1245 (by decide) ?_
  refine v_lshl C dL_law_1247 ?_
  refine v_aload_n C 0 rfl rfl dL_law_1248 ?_
  refine v_iload C 4 rfl dL_law_1249 ?_
  refine v_iconst (v := (2 : Int32)) C dL_law_1251 (by decide) ?_
  refine v_iadd C dL_law_1252 ?_
  obtain ⟨b2, h⟩ := h
  refine w_sld CC b2 dL_law_1253 ?_
  refine v_i2l C dL_law_1254 ?_
  refine v_ldc2 C gc_L_72 dL_law_1255 ?_
  refine v_land C dL_law_1258 ?_
  refine v_lor C dL_law_1259 ?_
  refine v_aload_n C 0 rfl rfl dL_law_1260 ?_
  refine v_iload C 4 rfl dL_law_1261 ?_
  refine v_iconst (v := (3 : Int32)) C dL_law_1263 (by decide) ?_
  refine v_iadd C dL_law_1264 ?_
  obtain ⟨b3, h⟩ := h
  refine w_sld CC b3 dL_law_1265 ?_
  refine v_i2l C dL_law_1266 ?_
  refine v_bipush (v := (32 : Int32)) C dL_law_1267 (by decide) ?_
  refine v_lshl C dL_law_1269 ?_
  refine v_aload_n C 0 rfl rfl dL_law_1270 ?_
  refine v_iload C 4 rfl dL_law_1271 ?_
  refine v_iconst (v := (4 : Int32)) C dL_law_1273 (by decide) ?_
  refine v_iadd C dL_law_1274 ?_
  obtain ⟨b4, h⟩ := h
  refine w_sld CC b4 dL_law_1275 ?_
  refine v_i2l C dL_law_1276 ?_
  refine v_ldc2 C gc_L_72 dL_law_1277 ?_
  refine v_land C dL_law_1280 ?_
  refine v_lor C dL_law_1281 ?_
  refine v_aload_n C 0 rfl rfl dL_law_1282 ?_
  refine v_iload C 4 rfl dL_law_1283 ?_
  refine v_iconst (v := (5 : Int32)) C dL_law_1285 (by decide) ?_
  refine v_iadd C dL_law_1286 ?_
  obtain ⟨b5, h⟩ := h
  refine w_sld CC b5 dL_law_1287 ?_
  refine v_i2l C dL_law_1288 ?_
  refine v_bipush (v := (32 : Int32)) C dL_law_1289 (by decide) ?_
  refine v_lshl C dL_law_1291 ?_
  refine v_aload_n C 0 rfl rfl dL_law_1292 ?_
  refine v_iload C 4 rfl dL_law_1293 ?_
  refine v_bipush (v := (6 : Int32)) C dL_law_1295 (by decide) ?_
  refine v_iadd C dL_law_1297 ?_
  obtain ⟨b6, h⟩ := h
  refine w_sld CC b6 dL_law_1298 ?_
  refine v_i2l C dL_law_1299 ?_
  refine v_ldc2 C gc_L_72 dL_law_1300 ?_
  refine v_land C dL_law_1303 ?_
  refine v_lor C dL_law_1304 ?_
  refine v_aload_n C 0 rfl rfl dL_law_1305 ?_
  refine v_iload C 4 rfl dL_law_1306 ?_
  refine v_bipush (v := (7 : Int32)) C dL_law_1308 (by decide) ?_
  refine v_iadd C dL_law_1310 ?_
  obtain ⟨b7, h⟩ := h
  refine w_sld CC b7 dL_law_1311 ?_
  refine v_i2l C dL_law_1312 ?_
  refine v_bipush (v := (32 : Int32)) C dL_law_1313 (by decide) ?_
  refine v_lshl C dL_law_1315 ?_
  refine v_aload_n C 0 rfl rfl dL_law_1316 ?_
  refine v_iload C 4 rfl dL_law_1317 ?_
  refine v_bipush (v := (8 : Int32)) C dL_law_1319 (by decide) ?_
  refine v_iadd C dL_law_1321 ?_
  obtain ⟨b8, h⟩ := h
  refine w_sld CC b8 dL_law_1322 ?_
  refine v_i2l C dL_law_1323 ?_
  refine v_ldc2 C gc_L_72 dL_law_1324 ?_
  refine v_land C dL_law_1327 ?_
  refine v_lor C dL_law_1328 ?_
  obtain ⟨P9, hs, h⟩ := h
  refine v_callVi C 0 [.long (((xs (x4 + (1 : Int32)).toNatClampNeg).toInt64 <<< ((32 : Int32).toInt64 &&& 63)) ||| ((xs (x4 + (2 : Int32)).toNatClampNeg).toInt64 &&& (4294967295 : Int64))), .long (((xs (x4 + (3 : Int32)).toNatClampNeg).toInt64 <<< ((32 : Int32).toInt64 &&& 63)) ||| ((xs (x4 + (4 : Int32)).toNatClampNeg).toInt64 &&& (4294967295 : Int64))), .long (((xs (x4 + (5 : Int32)).toNatClampNeg).toInt64 <<< ((32 : Int32).toInt64 &&& 63)) ||| ((xs (x4 + (6 : Int32)).toNatClampNeg).toInt64 &&& (4294967295 : Int64))), .long (((xs (x4 + (7 : Int32)).toNatClampNeg).toInt64 <<< ((32 : Int32).toInt64 &&& 63)) ||| ((xs (x4 + (8 : Int32)).toNatClampNeg).toInt64 &&& (4294967295 : Int64)))] (by decide) rfl rfl rfl (so_X8_area (((xs (x4 + (1 : Int32)).toNatClampNeg).toInt64 <<< ((32 : Int32).toInt64 &&& 63)) ||| ((xs (x4 + (2 : Int32)).toNatClampNeg).toInt64 &&& (4294967295 : Int64))) (((xs (x4 + (3 : Int32)).toNatClampNeg).toInt64 <<< ((32 : Int32).toInt64 &&& 63)) ||| ((xs (x4 + (4 : Int32)).toNatClampNeg).toInt64 &&& (4294967295 : Int64))) (((xs (x4 + (5 : Int32)).toNatClampNeg).toInt64 <<< ((32 : Int32).toInt64 &&& 63)) ||| ((xs (x4 + (6 : Int32)).toNatClampNeg).toInt64 &&& (4294967295 : Int64))) (((xs (x4 + (7 : Int32)).toNatClampNeg).toInt64 <<< ((32 : Int32).toInt64 &&& 63)) ||| ((xs (x4 + (8 : Int32)).toNatClampNeg).toInt64 &&& (4294967295 : Int64))) μ P9 hs) gw_L_132 rfl rfl dd_X8_area ⟨by decide, by decide⟩ rfl rfl (Nat.le_of_ble_eq_true rfl) ⟨Nat.le_trans (by omega) hcB, Nat.le_trans (by omega) hsB⟩ dL_law_1329 (fun r12 μ10 q11 => ?_)
  replace h := h r12 μ10 q11
  refine v_aload_n C 2 rfl rfl dL_law_1332 ?_
  refine v_aload_n C 0 rfl rfl dL_law_1333 ?_
  refine v_iload C 4 rfl dL_law_1334 ?_
  refine v_iconst (v := (1 : Int32)) C dL_law_1336 (by decide) ?_
  refine v_iadd C dL_law_1337 ?_
  obtain ⟨b13, h⟩ := h
  refine w_sld CC b13 dL_law_1338 ?_
  refine v_i2l C dL_law_1339 ?_
  refine v_bipush (v := (32 : Int32)) C dL_law_1340 (by decide) ?_
  refine v_lshl C dL_law_1342 ?_
  refine v_aload_n C 0 rfl rfl dL_law_1343 ?_
  refine v_iload C 4 rfl dL_law_1344 ?_
  refine v_iconst (v := (2 : Int32)) C dL_law_1346 (by decide) ?_
  refine v_iadd C dL_law_1347 ?_
  obtain ⟨b14, h⟩ := h
  refine w_sld CC b14 dL_law_1348 ?_
  refine v_i2l C dL_law_1349 ?_
  refine v_ldc2 C gc_L_72 dL_law_1350 ?_
  refine v_land C dL_law_1353 ?_
  refine v_lor C dL_law_1354 ?_
  refine v_aload_n C 0 rfl rfl dL_law_1355 ?_
  refine v_iload C 4 rfl dL_law_1356 ?_
  refine v_iconst (v := (3 : Int32)) C dL_law_1358 (by decide) ?_
  refine v_iadd C dL_law_1359 ?_
  obtain ⟨b15, h⟩ := h
  refine w_sld CC b15 dL_law_1360 ?_
  refine v_i2l C dL_law_1361 ?_
  refine v_bipush (v := (32 : Int32)) C dL_law_1362 (by decide) ?_
  refine v_lshl C dL_law_1364 ?_
  refine v_aload_n C 0 rfl rfl dL_law_1365 ?_
  refine v_iload C 4 rfl dL_law_1366 ?_
  refine v_iconst (v := (4 : Int32)) C dL_law_1368 (by decide) ?_
  refine v_iadd C dL_law_1369 ?_
  obtain ⟨b16, h⟩ := h
  refine w_sld CC b16 dL_law_1370 ?_
  refine v_i2l C dL_law_1371 ?_
  refine v_ldc2 C gc_L_72 dL_law_1372 ?_
  refine v_land C dL_law_1375 ?_
  refine v_lor C dL_law_1376 ?_
  refine v_aload_n C 0 rfl rfl dL_law_1377 ?_
  refine v_iload C 4 rfl dL_law_1378 ?_
  refine v_iconst (v := (5 : Int32)) C dL_law_1380 (by decide) ?_
  refine v_iadd C dL_law_1381 ?_
  obtain ⟨b17, h⟩ := h
  refine w_sld CC b17 dL_law_1382 ?_
  refine v_i2l C dL_law_1383 ?_
  refine v_bipush (v := (32 : Int32)) C dL_law_1384 (by decide) ?_
  refine v_lshl C dL_law_1386 ?_
  refine v_aload_n C 0 rfl rfl dL_law_1387 ?_
  refine v_iload C 4 rfl dL_law_1388 ?_
  refine v_bipush (v := (6 : Int32)) C dL_law_1390 (by decide) ?_
  refine v_iadd C dL_law_1392 ?_
  obtain ⟨b18, h⟩ := h
  refine w_sld CC b18 dL_law_1393 ?_
  refine v_i2l C dL_law_1394 ?_
  refine v_ldc2 C gc_L_72 dL_law_1395 ?_
  refine v_land C dL_law_1398 ?_
  refine v_lor C dL_law_1399 ?_
  refine v_aload_n C 0 rfl rfl dL_law_1400 ?_
  refine v_iload C 4 rfl dL_law_1401 ?_
  refine v_bipush (v := (7 : Int32)) C dL_law_1403 (by decide) ?_
  refine v_iadd C dL_law_1405 ?_
  obtain ⟨b19, h⟩ := h
  refine w_sld CC b19 dL_law_1406 ?_
  refine v_i2l C dL_law_1407 ?_
  refine v_bipush (v := (32 : Int32)) C dL_law_1408 (by decide) ?_
  refine v_lshl C dL_law_1410 ?_
  refine v_aload_n C 0 rfl rfl dL_law_1411 ?_
  refine v_iload C 4 rfl dL_law_1412 ?_
  refine v_bipush (v := (8 : Int32)) C dL_law_1414 (by decide) ?_
  refine v_iadd C dL_law_1416 ?_
  obtain ⟨b20, h⟩ := h
  refine w_sld CC b20 dL_law_1417 ?_
  refine v_i2l C dL_law_1418 ?_
  refine v_ldc2 C gc_L_72 dL_law_1419 ?_
  refine v_land C dL_law_1422 ?_
  refine v_lor C dL_law_1423 ?_
  obtain ⟨P21, hs, h⟩ := h
  refine v_callVi C 9 [.long (((xs (x4 + (1 : Int32)).toNatClampNeg).toInt64 <<< ((32 : Int32).toInt64 &&& 63)) ||| ((xs (x4 + (2 : Int32)).toNatClampNeg).toInt64 &&& (4294967295 : Int64))), .long (((xs (x4 + (3 : Int32)).toNatClampNeg).toInt64 <<< ((32 : Int32).toInt64 &&& 63)) ||| ((xs (x4 + (4 : Int32)).toNatClampNeg).toInt64 &&& (4294967295 : Int64))), .long (((xs (x4 + (5 : Int32)).toNatClampNeg).toInt64 <<< ((32 : Int32).toInt64 &&& 63)) ||| ((xs (x4 + (6 : Int32)).toNatClampNeg).toInt64 &&& (4294967295 : Int64))), .long (((xs (x4 + (7 : Int32)).toNatClampNeg).toInt64 <<< ((32 : Int32).toInt64 &&& 63)) ||| ((xs (x4 + (8 : Int32)).toNatClampNeg).toInt64 &&& (4294967295 : Int64)))] (by decide) rfl rfl rfl (so_X9_area (((xs (x4 + (1 : Int32)).toNatClampNeg).toInt64 <<< ((32 : Int32).toInt64 &&& 63)) ||| ((xs (x4 + (2 : Int32)).toNatClampNeg).toInt64 &&& (4294967295 : Int64))) (((xs (x4 + (3 : Int32)).toNatClampNeg).toInt64 <<< ((32 : Int32).toInt64 &&& 63)) ||| ((xs (x4 + (4 : Int32)).toNatClampNeg).toInt64 &&& (4294967295 : Int64))) (((xs (x4 + (5 : Int32)).toNatClampNeg).toInt64 <<< ((32 : Int32).toInt64 &&& 63)) ||| ((xs (x4 + (6 : Int32)).toNatClampNeg).toInt64 &&& (4294967295 : Int64))) (((xs (x4 + (7 : Int32)).toNatClampNeg).toInt64 <<< ((32 : Int32).toInt64 &&& 63)) ||| ((xs (x4 + (8 : Int32)).toNatClampNeg).toInt64 &&& (4294967295 : Int64))) μ10 P21 hs) gw_L_136 rfl rfl dd_X9_area ⟨by decide, by decide⟩ rfl rfl (Nat.le_of_ble_eq_true rfl) ⟨Nat.le_trans (by omega) hcB, Nat.le_trans (by omega) hsB⟩ dL_law_1424 (fun r24 μ22 q23 => ?_)
  replace h := h r24 μ22 q23
  refine v_icmp_eq C 1432 (by decide) dL_law_1427 (fun q25 => ?_) (fun q25 => ?_)
  · replace h := h.1 q25
    exact w_wid (by omega) (by omega) (hK _ h)
  · replace h := h.2 q25
    refine v_iconst (v := (0 : Int32)) C dL_law_1430 (by decide) ?_
    exact h.elim
set_option maxRecDepth 10000 in
set_option maxHeartbeats 4000000 in
theorem ow_1181 {p : Program} {l : Launch} {e : Env} {s : State} {m : MethodId} {args : Array Value} {below : List Frame} {meth : Method} {c : Code} {E : EvT} {b L : Nat} {xs : Nat → Int32} {cells slots : Nat} {Q : State → Prop} {K : MemT → Prop} (CC : CW p l s m args meth c E b L xs) (hcB : cells + 2 ≤ room_1.cells) (hsB : slots + 12 ≤ room_1.slots) {x4 : Int32} (hK : ∀ μ2, K μ2 → V p l e room_1 s m args below meth c E 8 (cells + 2) (slots + 12) Q 1432 [(0, .ref b), (1, .ref (eAd E 0)), (2, .ref (eAd E 9)), (3, .ref (eAd E 76)), (4, .int x4)] [] μ2) (μ : MemT) (h : tw_1181 K xs L x4 μ) : V p l e room_1 s m args below meth c E 8 cells slots Q 1181 [(0, .ref b), (1, .ref (eAd E 0)), (2, .ref (eAd E 9)), (3, .ref (eAd E 76)), (4, .int x4)] [] μ := by
  have C := CC.1
  unfold tw_1181 at h
  refine v_aload_n C 1 rfl rfl dL_law_1181 ?_
  refine v_aload_n C 0 rfl rfl dL_law_1182 ?_
  refine v_iload C 4 rfl dL_law_1183 ?_
  refine v_iconst (v := (1 : Int32)) C dL_law_1185 (by decide) ?_
  refine v_iadd C dL_law_1186 ?_
  obtain ⟨b1, h⟩ := h
  refine w_sld CC b1 dL_law_1187 ?_
  refine v_aload_n C 3 rfl rfl dL_law_1188 ?_
  obtain ⟨P2, hs0, h⟩ := h
  refine w_callS (kc := 1) CC [.ref (eAd E 0), .int (xs (x4 + (1 : Int32)).toNatClampNeg), .ref (eAd E 76)] (ol_L_found CC.2.2.1 (xs (x4 + (1 : Int32)).toNatClampNeg) μ P2 hs0) gs_L_129 rfl rfl dl_L_found ⟨by decide, by decide⟩ rfl rfl (Nat.le_of_ble_eq_true rfl) ⟨Nat.le_trans (by omega) hcB, Nat.le_trans (by omega) hsB⟩ dL_law_1189 (fun r5 μ3 q4 => ?_)
  replace h := h r5 μ3 q4
  refine v_istore C [(5, .int r5), (0, .ref b), (1, .ref (eAd E 0)), (2, .ref (eAd E 9)), (3, .ref (eAd E 76)), (4, .int x4)] (by decide) rfl dL_law_1192 ?_
  refine v_aload_n C 3 rfl rfl dL_law_1194 ?_
  refine v_aload_n C 1 rfl rfl dL_law_1195 ?_
  refine v_iload C 5 rfl dL_law_1196 ?_
  refine v_iconst (v := (1 : Int32)) C dL_law_1198 (by decide) ?_
  refine v_iadd C dL_law_1199 ?_
  obtain ⟨b6, h⟩ := h
  refine w_sld CC b6 dL_law_1200 ?_
  obtain ⟨P7, hs, h⟩ := h
  refine v_callVi C 9 [.int (xs (x4 + (1 : Int32)).toNatClampNeg)] (by decide) rfl rfl rfl (so_X9_found (xs (x4 + (1 : Int32)).toNatClampNeg) μ3 P7 hs) gw_L_131 rfl rfl dd_X9_found ⟨by decide, by decide⟩ rfl rfl (Nat.le_of_ble_eq_true rfl) ⟨Nat.le_trans (by omega) hcB, Nat.le_trans (by omega) hsB⟩ dL_law_1201 (fun r10 μ8 q9 => ?_)
  replace h := h r10 μ8 q9
  refine v_istore C [(6, .int r10), (5, .int r5), (0, .ref b), (1, .ref (eAd E 0)), (2, .ref (eAd E 9)), (3, .ref (eAd E 76)), (4, .int x4)] (by decide) rfl dL_law_1204 ?_
  refine v_aload_n C 4 rfl rfl dL_law_1206 ?_
  obtain ⟨P11, hs, h⟩ := h
  refine v_callVi C 9 [] (by decide) rfl rfl rfl (so_X9_thrown μ8 P11 hs) gw_L_80 rfl rfl dd_X9_thrown ⟨by decide, by decide⟩ rfl rfl (Nat.le_of_ble_eq_true rfl) ⟨Nat.le_trans (by omega) hcB, Nat.le_trans (by omega) hsB⟩ dL_law_1207 (fun r14 μ12 q13 => ?_)
  replace h := h r14 μ12 q13
  refine v_iload C 1 rfl dL_law_1210 ?_
  refine v_icmp_eq C 1217 (by decide) dL_law_1212 (fun q18 => ?_) (fun q18 => ?_)
  · replace h := h.1 q18
    refine v_iload C 1 rfl dL_law_1217 ?_
    refine v_if_ne C 1234 (by decide) dL_law_1219 (fun q17 => ?_) (fun q17 => ?_)
    · replace h := h.1 q17
      refine v_goto C 1432 (by decide) dL_law_1234 ?_
      refine v_sub C [2, 3, 4, 5, 6] rfl ?_
      exact w_wid (by omega) (by omega) (hK _ h)
    · replace h := h.2 q17
      refine v_aload_n C 5 rfl rfl dL_law_1222 ?_
      refine v_iconst (v := (0 : Int32)) C dL_law_1223 (by decide) ?_
      obtain ⟨b15, h⟩ := h
      refine v_lald C 76 (by decide) rfl b15 dL_law_1224 ?_
      refine v_iload C 0 rfl dL_law_1225 ?_
      refine v_i2l C dL_law_1227 ?_
      refine v_lcmp_eq C 1234 (by decide) dL_law_1228 dL_law_1229 (fun q16 => ?_) (fun q16 => ?_)
      · replace h := h.1 q16
        refine v_goto C 1432 (by decide) dL_law_1234 ?_
        refine v_sub C [2, 3, 4, 5, 6] rfl ?_
        exact w_wid (by omega) (by omega) (hK _ h)
      · replace h := h.2 q16
        refine v_iconst (v := (0 : Int32)) C dL_law_1232 (by decide) ?_
        exact h.elim
  · replace h := h.2 q18
    refine v_iconst (v := (0 : Int32)) C dL_law_1215 (by decide) ?_
    exact h.elim
set_option maxRecDepth 10000 in
set_option maxHeartbeats 4000000 in
theorem ow_1125 {p : Program} {l : Launch} {e : Env} {s : State} {m : MethodId} {args : Array Value} {below : List Frame} {meth : Method} {c : Code} {E : EvT} {b L : Nat} {xs : Nat → Int32} {cells slots : Nat} {Q : State → Prop} {K : MemT → Prop} (CC : CW p l s m args meth c E b L xs) (hcB : cells + 2 ≤ room_1.cells) (hsB : slots + 12 ≤ room_1.slots) {x4 : Int32} (hK : ∀ μ2, K μ2 → V p l e room_1 s m args below meth c E 8 (cells + 2) (slots + 12) Q 1432 [(0, .ref b), (1, .ref (eAd E 0)), (2, .ref (eAd E 9)), (3, .ref (eAd E 76)), (4, .int x4)] [] μ2) (μ : MemT) (h : tw_1125 K xs L x4 μ) : V p l e room_1 s m args below meth c E 8 cells slots Q 1125 [(0, .ref b), (1, .ref (eAd E 0)), (2, .ref (eAd E 9)), (3, .ref (eAd E 76)), (4, .int x4)] [] μ := by
  have C := CC.1
  unfold tw_1125 at h
  refine v_aload_n C 1 rfl rfl dL_law_1125 ?_
  refine v_aload_n C 0 rfl rfl dL_law_1126 ?_
  refine v_iload C 4 rfl dL_law_1127 ?_
  refine v_iconst (v := (1 : Int32)) C dL_law_1129 (by decide) ?_
  refine v_iadd C dL_law_1130 ?_
  obtain ⟨b1, h⟩ := h
  refine w_sld CC b1 dL_law_1131 ?_
  refine v_aload_n C 3 rfl rfl dL_law_1132 ?_
  obtain ⟨P2, hs0, h⟩ := h
  refine w_callS (kc := 1) CC [.ref (eAd E 0), .int (xs (x4 + (1 : Int32)).toNatClampNeg), .ref (eAd E 76)] (ol_L_find CC.2.2.1 (xs (x4 + (1 : Int32)).toNatClampNeg) μ P2 hs0) gs_L_126 rfl rfl dl_L_find ⟨by decide, by decide⟩ rfl rfl (Nat.le_of_ble_eq_true rfl) ⟨Nat.le_trans (by omega) hcB, Nat.le_trans (by omega) hsB⟩ dL_law_1133 (fun r5 μ3 q4 => ?_)
  replace h := h r5 μ3 q4
  refine v_istore C [(5, .int r5), (0, .ref b), (1, .ref (eAd E 0)), (2, .ref (eAd E 9)), (3, .ref (eAd E 76)), (4, .int x4)] (by decide) rfl dL_law_1136 ?_
  refine v_aload_n C 3 rfl rfl dL_law_1138 ?_
  refine v_aload_n C 1 rfl rfl dL_law_1139 ?_
  refine v_iload C 5 rfl dL_law_1140 ?_
  refine v_iconst (v := (1 : Int32)) C dL_law_1142 (by decide) ?_
  refine v_iadd C dL_law_1143 ?_
  obtain ⟨b6, h⟩ := h
  refine w_sld CC b6 dL_law_1144 ?_
  obtain ⟨P7, hs, h⟩ := h
  refine v_callVi C 9 [.int (xs (x4 + (1 : Int32)).toNatClampNeg)] (by decide) rfl rfl rfl (so_X9_find (xs (x4 + (1 : Int32)).toNatClampNeg) μ3 P7 hs) gw_L_128 rfl rfl dd_X9_find ⟨by decide, by decide⟩ rfl rfl (Nat.le_of_ble_eq_true rfl) ⟨Nat.le_trans (by omega) hcB, Nat.le_trans (by omega) hsB⟩ dL_law_1145 (fun r10 μ8 q9 => ?_)
  replace h := h r10 μ8 q9
  refine v_istore C [(6, .int r10), (5, .int r5), (0, .ref b), (1, .ref (eAd E 0)), (2, .ref (eAd E 9)), (3, .ref (eAd E 76)), (4, .int x4)] (by decide) rfl dL_law_1148 ?_
  refine v_aload_n C 4 rfl rfl dL_law_1150 ?_
  obtain ⟨P11, hs, h⟩ := h
  refine v_callVi C 9 [] (by decide) rfl rfl rfl (so_X9_thrown μ8 P11 hs) gw_L_80 rfl rfl dd_X9_thrown ⟨by decide, by decide⟩ rfl rfl (Nat.le_of_ble_eq_true rfl) ⟨Nat.le_trans (by omega) hcB, Nat.le_trans (by omega) hsB⟩ dL_law_1151 (fun r14 μ12 q13 => ?_)
  replace h := h r14 μ12 q13
  refine v_iload C 1 rfl dL_law_1154 ?_
  refine v_icmp_eq C 1161 (by decide) dL_law_1156 (fun q18 => ?_) (fun q18 => ?_)
  · replace h := h.1 q18
    refine v_iload C 1 rfl dL_law_1161 ?_
    refine v_if_ne C 1178 (by decide) dL_law_1163 (fun q17 => ?_) (fun q17 => ?_)
    · replace h := h.1 q17
      refine v_goto C 1432 (by decide) dL_law_1178 ?_
      refine v_sub C [2, 3, 4, 5, 6] rfl ?_
      exact w_wid (by omega) (by omega) (hK _ h)
    · replace h := h.2 q17
      refine v_aload_n C 5 rfl rfl dL_law_1166 ?_
      refine v_iconst (v := (0 : Int32)) C dL_law_1167 (by decide) ?_
      obtain ⟨b15, h⟩ := h
      refine v_lald C 76 (by decide) rfl b15 dL_law_1168 ?_
      refine v_iload C 0 rfl dL_law_1169 ?_
      refine v_i2l C dL_law_1171 ?_
      refine v_lcmp_eq C 1178 (by decide) dL_law_1172 dL_law_1173 (fun q16 => ?_) (fun q16 => ?_)
      · replace h := h.1 q16
        refine v_goto C 1432 (by decide) dL_law_1178 ?_
        refine v_sub C [2, 3, 4, 5, 6] rfl ?_
        exact w_wid (by omega) (by omega) (hK _ h)
      · replace h := h.2 q16
        refine v_iconst (v := (0 : Int32)) C dL_law_1176 (by decide) ?_
        exact h.elim
  · replace h := h.2 q18
    refine v_iconst (v := (0 : Int32)) C dL_law_1159 (by decide) ?_
    exact h.elim
set_option maxRecDepth 10000 in
set_option maxHeartbeats 4000000 in
theorem ow_1057 {p : Program} {l : Launch} {e : Env} {s : State} {m : MethodId} {args : Array Value} {below : List Frame} {meth : Method} {c : Code} {E : EvT} {b L : Nat} {xs : Nat → Int32} {cells slots : Nat} {Q : State → Prop} {K : MemT → Prop} (CC : CW p l s m args meth c E b L xs) (hcB : cells + 2 ≤ room_1.cells) (hsB : slots + 12 ≤ room_1.slots) {x4 : Int32} (hK : ∀ μ2, K μ2 → V p l e room_1 s m args below meth c E 8 (cells + 2) (slots + 12) Q 1432 [(0, .ref b), (1, .ref (eAd E 0)), (2, .ref (eAd E 9)), (3, .ref (eAd E 76)), (4, .int x4)] [] μ2) (μ : MemT) (h : tw_1057 K xs L x4 μ) : V p l e room_1 s m args below meth c E 8 cells slots Q 1057 [(0, .ref b), (1, .ref (eAd E 0)), (2, .ref (eAd E 9)), (3, .ref (eAd E 76)), (4, .int x4)] [] μ := by
  have C := CC.1
  unfold tw_1057 at h
  refine v_aload_n C 1 rfl rfl dL_law_1057 ?_
  refine v_aload_n C 0 rfl rfl dL_law_1058 ?_
  refine v_iload C 4 rfl dL_law_1059 ?_
  refine v_iconst (v := (1 : Int32)) C dL_law_1061 (by decide) ?_
  refine v_iadd C dL_law_1062 ?_
  obtain ⟨b1, h⟩ := h
  refine w_sld CC b1 dL_law_1063 ?_
  refine v_aload_n C 0 rfl rfl dL_law_1064 ?_
  refine v_iload C 4 rfl dL_law_1065 ?_
  refine v_iconst (v := (2 : Int32)) C dL_law_1067 (by decide) ?_
  refine v_iadd C dL_law_1068 ?_
  obtain ⟨b2, h⟩ := h
  refine w_sld CC b2 dL_law_1069 ?_
  refine v_aload_n C 3 rfl rfl dL_law_1070 ?_
  obtain ⟨P3, hs0, h⟩ := h
  refine w_callS (kc := 1) CC [.ref (eAd E 0), .int (xs (x4 + (1 : Int32)).toNatClampNeg), .int (xs (x4 + (2 : Int32)).toNatClampNeg), .ref (eAd E 76)] (ol_L_word CC.2.2.1 (xs (x4 + (1 : Int32)).toNatClampNeg) (xs (x4 + (2 : Int32)).toNatClampNeg) μ P3 hs0) gs_L_123 rfl rfl dl_L_word ⟨by decide, by decide⟩ rfl rfl (Nat.le_of_ble_eq_true rfl) ⟨Nat.le_trans (by omega) hcB, Nat.le_trans (by omega) hsB⟩ dL_law_1071 (fun r6 μ4 q5 => ?_)
  replace h := h r6 μ4 q5
  refine v_istore C [(5, .int r6), (0, .ref b), (1, .ref (eAd E 0)), (2, .ref (eAd E 9)), (3, .ref (eAd E 76)), (4, .int x4)] (by decide) rfl dL_law_1074 ?_
  refine v_aload_n C 3 rfl rfl dL_law_1076 ?_
  refine v_aload_n C 1 rfl rfl dL_law_1077 ?_
  refine v_iload C 5 rfl dL_law_1078 ?_
  refine v_iconst (v := (1 : Int32)) C dL_law_1080 (by decide) ?_
  refine v_iadd C dL_law_1081 ?_
  obtain ⟨b7, h⟩ := h
  refine w_sld CC b7 dL_law_1082 ?_
  refine v_aload_n C 1 rfl rfl dL_law_1083 ?_
  refine v_iload C 5 rfl dL_law_1084 ?_
  refine v_iconst (v := (2 : Int32)) C dL_law_1086 (by decide) ?_
  refine v_iadd C dL_law_1087 ?_
  obtain ⟨b8, h⟩ := h
  refine w_sld CC b8 dL_law_1088 ?_
  obtain ⟨P9, hs, h⟩ := h
  refine v_callVi C 9 [.int (xs (x4 + (1 : Int32)).toNatClampNeg), .int (xs (x4 + (2 : Int32)).toNatClampNeg)] (by decide) rfl rfl rfl (so_X9_word (xs (x4 + (1 : Int32)).toNatClampNeg) (xs (x4 + (2 : Int32)).toNatClampNeg) μ4 P9 hs) gw_L_125 rfl rfl dd_X9_word ⟨by decide, by decide⟩ rfl rfl (Nat.le_of_ble_eq_true rfl) ⟨Nat.le_trans (by omega) hcB, Nat.le_trans (by omega) hsB⟩ dL_law_1089 (fun r12 μ10 q11 => ?_)
  replace h := h r12 μ10 q11
  refine v_istore C [(6, .int r12), (5, .int r6), (0, .ref b), (1, .ref (eAd E 0)), (2, .ref (eAd E 9)), (3, .ref (eAd E 76)), (4, .int x4)] (by decide) rfl dL_law_1092 ?_
  refine v_aload_n C 4 rfl rfl dL_law_1094 ?_
  obtain ⟨P13, hs, h⟩ := h
  refine v_callVi C 9 [] (by decide) rfl rfl rfl (so_X9_thrown μ10 P13 hs) gw_L_80 rfl rfl dd_X9_thrown ⟨by decide, by decide⟩ rfl rfl (Nat.le_of_ble_eq_true rfl) ⟨Nat.le_trans (by omega) hcB, Nat.le_trans (by omega) hsB⟩ dL_law_1095 (fun r16 μ14 q15 => ?_)
  replace h := h r16 μ14 q15
  refine v_iload C 1 rfl dL_law_1098 ?_
  refine v_icmp_eq C 1105 (by decide) dL_law_1100 (fun q20 => ?_) (fun q20 => ?_)
  · replace h := h.1 q20
    refine v_iload C 1 rfl dL_law_1105 ?_
    refine v_if_ne C 1122 (by decide) dL_law_1107 (fun q19 => ?_) (fun q19 => ?_)
    · replace h := h.1 q19
      refine v_goto C 1432 (by decide) dL_law_1122 ?_
      refine v_sub C [2, 3, 4, 5, 6] rfl ?_
      exact w_wid (by omega) (by omega) (hK _ h)
    · replace h := h.2 q19
      refine v_aload_n C 5 rfl rfl dL_law_1110 ?_
      refine v_iconst (v := (0 : Int32)) C dL_law_1111 (by decide) ?_
      obtain ⟨b17, h⟩ := h
      refine v_lald C 76 (by decide) rfl b17 dL_law_1112 ?_
      refine v_iload C 0 rfl dL_law_1113 ?_
      refine v_i2l C dL_law_1115 ?_
      refine v_lcmp_eq C 1122 (by decide) dL_law_1116 dL_law_1117 (fun q18 => ?_) (fun q18 => ?_)
      · replace h := h.1 q18
        refine v_goto C 1432 (by decide) dL_law_1122 ?_
        refine v_sub C [2, 3, 4, 5, 6] rfl ?_
        exact w_wid (by omega) (by omega) (hK _ h)
      · replace h := h.2 q18
        refine v_iconst (v := (0 : Int32)) C dL_law_1120 (by decide) ?_
        exact h.elim
  · replace h := h.2 q20
    refine v_iconst (v := (0 : Int32)) C dL_law_1103 (by decide) ?_
    exact h.elim
set_option maxRecDepth 10000 in
set_option maxHeartbeats 4000000 in
theorem ow_926 {p : Program} {l : Launch} {e : Env} {s : State} {m : MethodId} {args : Array Value} {below : List Frame} {meth : Method} {c : Code} {E : EvT} {b L : Nat} {xs : Nat → Int32} {cells slots : Nat} {Q : State → Prop} {K : MemT → Prop} (CC : CW p l s m args meth c E b L xs) (hcB : cells + 2 ≤ room_1.cells) (hsB : slots + 12 ≤ room_1.slots) {x4 : Int32} (hK : ∀ μ2, K μ2 → V p l e room_1 s m args below meth c E 8 (cells + 2) (slots + 12) Q 1432 [(0, .ref b), (1, .ref (eAd E 0)), (2, .ref (eAd E 9)), (3, .ref (eAd E 76)), (4, .int x4)] [] μ2) (μ : MemT) (h : tw_926 K xs L x4 μ) : V p l e room_1 s m args below meth c E 8 cells slots Q 926 [(0, .ref b), (1, .ref (eAd E 0)), (2, .ref (eAd E 9)), (3, .ref (eAd E 76)), (4, .int x4)] [] μ := by
  have C := CC.1
  unfold tw_926 at h
  refine v_aload_n C 1 rfl rfl dL_law_926 ?_
  refine v_aload_n C 0 rfl rfl dL_law_927 ?_
  refine v_iload C 4 rfl dL_law_928 ?_
  refine v_iconst (v := (1 : Int32)) C dL_law_930 (by decide) ?_
  refine v_iadd C dL_law_931 ?_
  obtain ⟨b1, h⟩ := h
  refine w_sld CC b1 dL_law_932 ?_
  refine v_i2l C dL_law_933 ?_
  refine v_bipush (v := (32 : Int32)) C dL_law_934 (by decide) ?_
  refine v_lshl C dL_law_936 ?_
  refine v_aload_n C 0 rfl rfl dL_law_937 ?_
  refine v_iload C 4 rfl dL_law_938 ?_
  refine v_iconst (v := (2 : Int32)) C dL_law_940 (by decide) ?_
  refine v_iadd C dL_law_941 ?_
  obtain ⟨b2, h⟩ := h
  refine w_sld CC b2 dL_law_942 ?_
  refine v_i2l C dL_law_943 ?_
  refine v_ldc2 C gc_L_72 dL_law_944 ?_
  refine v_land C dL_law_947 ?_
  refine v_lor C dL_law_948 ?_
  refine v_aload_n C 0 rfl rfl dL_law_949 ?_
  refine v_iload C 4 rfl dL_law_950 ?_
  refine v_iconst (v := (3 : Int32)) C dL_law_952 (by decide) ?_
  refine v_iadd C dL_law_953 ?_
  obtain ⟨b3, h⟩ := h
  refine w_sld CC b3 dL_law_954 ?_
  refine v_i2l C dL_law_955 ?_
  refine v_bipush (v := (32 : Int32)) C dL_law_956 (by decide) ?_
  refine v_lshl C dL_law_958 ?_
  refine v_aload_n C 0 rfl rfl dL_law_959 ?_
  refine v_iload C 4 rfl dL_law_960 ?_
  refine v_iconst (v := (4 : Int32)) C dL_law_962 (by decide) ?_
  refine v_iadd C dL_law_963 ?_
  obtain ⟨b4, h⟩ := h
  refine w_sld CC b4 dL_law_964 ?_
  refine v_i2l C dL_law_965 ?_
  refine v_ldc2 C gc_L_72 dL_law_966 ?_
  refine v_land C dL_law_969 ?_
  refine v_lor C dL_law_970 ?_
  refine v_aload_n C 3 rfl rfl dL_law_971 ?_
  obtain ⟨P5, hs0, h⟩ := h
  refine w_callS (kc := 1) CC [.ref (eAd E 0), .long (((xs (x4 + (1 : Int32)).toNatClampNeg).toInt64 <<< ((32 : Int32).toInt64 &&& 63)) ||| ((xs (x4 + (2 : Int32)).toNatClampNeg).toInt64 &&& (4294967295 : Int64))), .long (((xs (x4 + (3 : Int32)).toNatClampNeg).toInt64 <<< ((32 : Int32).toInt64 &&& 63)) ||| ((xs (x4 + (4 : Int32)).toNatClampNeg).toInt64 &&& (4294967295 : Int64))), .ref (eAd E 76)] (ol_L_share CC.2.2.1 (((xs (x4 + (1 : Int32)).toNatClampNeg).toInt64 <<< ((32 : Int32).toInt64 &&& 63)) ||| ((xs (x4 + (2 : Int32)).toNatClampNeg).toInt64 &&& (4294967295 : Int64))) (((xs (x4 + (3 : Int32)).toNatClampNeg).toInt64 <<< ((32 : Int32).toInt64 &&& 63)) ||| ((xs (x4 + (4 : Int32)).toNatClampNeg).toInt64 &&& (4294967295 : Int64))) μ P5 hs0) gs_L_119 rfl rfl dl_L_share ⟨by decide, by decide⟩ rfl rfl (Nat.le_of_ble_eq_true rfl) ⟨Nat.le_trans (by omega) hcB, Nat.le_trans (by omega) hsB⟩ dL_law_972 (fun r8 μ6 q7 => ?_)
  replace h := h r8 μ6 q7
  refine v_istore C [(5, .int r8), (0, .ref b), (1, .ref (eAd E 0)), (2, .ref (eAd E 9)), (3, .ref (eAd E 76)), (4, .int x4)] (by decide) rfl dL_law_975 ?_
  refine v_aload_n C 3 rfl rfl dL_law_977 ?_
  refine v_aload_n C 1 rfl rfl dL_law_978 ?_
  refine v_iload C 5 rfl dL_law_979 ?_
  refine v_iconst (v := (1 : Int32)) C dL_law_981 (by decide) ?_
  refine v_iadd C dL_law_982 ?_
  obtain ⟨b9, h⟩ := h
  refine w_sld CC b9 dL_law_983 ?_
  refine v_i2l C dL_law_984 ?_
  refine v_bipush (v := (32 : Int32)) C dL_law_985 (by decide) ?_
  refine v_lshl C dL_law_987 ?_
  refine v_aload_n C 1 rfl rfl dL_law_988 ?_
  refine v_iload C 5 rfl dL_law_989 ?_
  refine v_iconst (v := (2 : Int32)) C dL_law_991 (by decide) ?_
  refine v_iadd C dL_law_992 ?_
  obtain ⟨b10, h⟩ := h
  refine w_sld CC b10 dL_law_993 ?_
  refine v_i2l C dL_law_994 ?_
  refine v_ldc2 C gc_L_72 dL_law_995 ?_
  refine v_land C dL_law_998 ?_
  refine v_lor C dL_law_999 ?_
  refine v_aload_n C 1 rfl rfl dL_law_1000 ?_
  refine v_iload C 5 rfl dL_law_1001 ?_
  refine v_iconst (v := (3 : Int32)) C dL_law_1003 (by decide) ?_
  refine v_iadd C dL_law_1004 ?_
  obtain ⟨b11, h⟩ := h
  refine w_sld CC b11 dL_law_1005 ?_
  refine v_i2l C dL_law_1006 ?_
  refine v_bipush (v := (32 : Int32)) C dL_law_1007 (by decide) ?_
  refine v_lshl C dL_law_1009 ?_
  refine v_aload_n C 1 rfl rfl dL_law_1010 ?_
  refine v_iload C 5 rfl dL_law_1011 ?_
  refine v_iconst (v := (4 : Int32)) C dL_law_1013 (by decide) ?_
  refine v_iadd C dL_law_1014 ?_
  obtain ⟨b12, h⟩ := h
  refine w_sld CC b12 dL_law_1015 ?_
  refine v_i2l C dL_law_1016 ?_
  refine v_ldc2 C gc_L_72 dL_law_1017 ?_
  refine v_land C dL_law_1020 ?_
  refine v_lor C dL_law_1021 ?_
  obtain ⟨P13, hs, h⟩ := h
  refine v_callVl C 9 [.long (((xs (x4 + (1 : Int32)).toNatClampNeg).toInt64 <<< ((32 : Int32).toInt64 &&& 63)) ||| ((xs (x4 + (2 : Int32)).toNatClampNeg).toInt64 &&& (4294967295 : Int64))), .long (((xs (x4 + (3 : Int32)).toNatClampNeg).toInt64 <<< ((32 : Int32).toInt64 &&& 63)) ||| ((xs (x4 + (4 : Int32)).toNatClampNeg).toInt64 &&& (4294967295 : Int64)))] (by decide) rfl rfl rfl (so_X9_share (((xs (x4 + (1 : Int32)).toNatClampNeg).toInt64 <<< ((32 : Int32).toInt64 &&& 63)) ||| ((xs (x4 + (2 : Int32)).toNatClampNeg).toInt64 &&& (4294967295 : Int64))) (((xs (x4 + (3 : Int32)).toNatClampNeg).toInt64 <<< ((32 : Int32).toInt64 &&& 63)) ||| ((xs (x4 + (4 : Int32)).toNatClampNeg).toInt64 &&& (4294967295 : Int64))) μ6 P13 hs) gw_L_122 rfl rfl dd_X9_share ⟨by decide, by decide⟩ rfl rfl (Nat.le_of_ble_eq_true rfl) ⟨Nat.le_trans (by omega) hcB, Nat.le_trans (by omega) hsB⟩ dL_law_1022 (fun r16 μ14 q15 => ?_)
  replace h := h r16 μ14 q15
  refine v_lstore C [(6, .long r16), (5, .int r8), (0, .ref b), (1, .ref (eAd E 0)), (2, .ref (eAd E 9)), (3, .ref (eAd E 76)), (4, .int x4)] (by decide) rfl dL_law_1025 ?_
  refine v_aload_n C 4 rfl rfl dL_law_1027 ?_
  obtain ⟨P17, hs, h⟩ := h
  refine v_callVi C 9 [] (by decide) rfl rfl rfl (so_X9_thrown μ14 P17 hs) gw_L_80 rfl rfl dd_X9_thrown ⟨by decide, by decide⟩ rfl rfl (Nat.le_of_ble_eq_true rfl) ⟨Nat.le_trans (by omega) hcB, Nat.le_trans (by omega) hsB⟩ dL_law_1028 (fun r20 μ18 q19 => ?_)
  replace h := h r20 μ18 q19
  refine v_iload C 1 rfl dL_law_1031 ?_
  refine v_icmp_eq C 1038 (by decide) dL_law_1033 (fun q24 => ?_) (fun q24 => ?_)
  · replace h := h.1 q24
    refine v_iload C 1 rfl dL_law_1038 ?_
    refine v_if_ne C 1054 (by decide) dL_law_1040 (fun q23 => ?_) (fun q23 => ?_)
    · replace h := h.1 q23
      refine v_goto C 1432 (by decide) dL_law_1054 ?_
      refine v_sub C [2, 3, 4, 5, 6] rfl ?_
      exact w_wid (by omega) (by omega) (hK _ h)
    · replace h := h.2 q23
      refine v_aload_n C 5 rfl rfl dL_law_1043 ?_
      refine v_iconst (v := (0 : Int32)) C dL_law_1044 (by decide) ?_
      obtain ⟨b21, h⟩ := h
      refine v_lald C 76 (by decide) rfl b21 dL_law_1045 ?_
      refine v_lload C 0 rfl dL_law_1046 ?_
      refine v_lcmp_eq C 1054 (by decide) dL_law_1048 dL_law_1049 (fun q22 => ?_) (fun q22 => ?_)
      · replace h := h.1 q22
        refine v_goto C 1432 (by decide) dL_law_1054 ?_
        refine v_sub C [2, 3, 4, 5, 6] rfl ?_
        exact w_wid (by omega) (by omega) (hK _ h)
      · replace h := h.2 q22
        refine v_iconst (v := (0 : Int32)) C dL_law_1052 (by decide) ?_
        exact h.elim
  · replace h := h.2 q24
    refine v_iconst (v := (0 : Int32)) C dL_law_1036 (by decide) ?_
    exact h.elim
set_option maxRecDepth 10000 in
set_option maxHeartbeats 4000000 in
theorem ow_917 {p : Program} {l : Launch} {e : Env} {s : State} {m : MethodId} {args : Array Value} {below : List Frame} {meth : Method} {c : Code} {E : EvT} {b L : Nat} {xs : Nat → Int32} {cells slots : Nat} {Q : State → Prop} {K : MemT → Prop} (CC : CW p l s m args meth c E b L xs) (hcB : cells + 2 ≤ room_1.cells) (hsB : slots + 12 ≤ room_1.slots) {x4 : Int32} (hK : ∀ μ2, K μ2 → V p l e room_1 s m args below meth c E 8 (cells + 2) (slots + 12) Q 1432 [(0, .ref b), (1, .ref (eAd E 0)), (2, .ref (eAd E 9)), (3, .ref (eAd E 76)), (4, .int x4)] [] μ2) (x5 : Int32) (x6 : Int32) (y0 : Int64) (y1 : Int64) (μ : MemT) (h : tw_917 K xs L x4 x5 x6 y0 y1 μ) : V p l e room_1 s m args below meth c E 8 (cells + 1) (slots + 6 * 1) Q 917 [(0, .ref b), (1, .ref (eAd E 0)), (2, .ref (eAd E 9)), (3, .ref (eAd E 76)), (4, .int x4), (5, .int x5), (6, .int x6)] [.long y1, .long y0] μ := by
  have C := CC.1
  unfold tw_917 at h
  refine v_lcmp_eq C 923 (by decide) dL_law_917 dL_law_918 (fun q1 => ?_) (fun q1 => ?_)
  · replace h := h.1 q1
    refine v_goto C 1432 (by decide) dL_law_923 ?_
    refine v_sub C [0, 1, 2, 3, 4] rfl ?_
    exact w_wid (by omega) (by omega) (hK _ h)
  · replace h := h.2 q1
    refine v_iconst (v := (0 : Int32)) C dL_law_921 (by decide) ?_
    exact h.elim
set_option maxRecDepth 10000 in
set_option maxHeartbeats 4000000 in
theorem ow_863 {p : Program} {l : Launch} {e : Env} {s : State} {m : MethodId} {args : Array Value} {below : List Frame} {meth : Method} {c : Code} {E : EvT} {b L : Nat} {xs : Nat → Int32} {cells slots : Nat} {Q : State → Prop} {K : MemT → Prop} (CC : CW p l s m args meth c E b L xs) (hcB : cells + 2 ≤ room_1.cells) (hsB : slots + 12 ≤ room_1.slots) {x4 : Int32} (hK : ∀ μ2, K μ2 → V p l e room_1 s m args below meth c E 8 (cells + 2) (slots + 12) Q 1432 [(0, .ref b), (1, .ref (eAd E 0)), (2, .ref (eAd E 9)), (3, .ref (eAd E 76)), (4, .int x4)] [] μ2) (μ : MemT) (h : tw_863 K xs L x4 μ) : V p l e room_1 s m args below meth c E 8 cells slots Q 863 [(0, .ref b), (1, .ref (eAd E 0)), (2, .ref (eAd E 9)), (3, .ref (eAd E 76)), (4, .int x4)] [] μ := by
  have C := CC.1
  unfold tw_863 at h
  refine v_aload_n C 1 rfl rfl dL_law_863 ?_
  refine v_aload_n C 0 rfl rfl dL_law_864 ?_
  refine v_iload C 4 rfl dL_law_865 ?_
  refine v_iconst (v := (1 : Int32)) C dL_law_867 (by decide) ?_
  refine v_iadd C dL_law_868 ?_
  obtain ⟨b1, h⟩ := h
  refine w_sld CC b1 dL_law_869 ?_
  refine v_aload_n C 3 rfl rfl dL_law_870 ?_
  obtain ⟨P2, hs0, h⟩ := h
  refine w_callS (kc := 1) CC [.ref (eAd E 0), .int (xs (x4 + (1 : Int32)).toNatClampNeg), .ref (eAd E 76)] (ol_L_space CC.2.2.1 (xs (x4 + (1 : Int32)).toNatClampNeg) μ P2 hs0) gs_L_116 rfl rfl dl_L_space ⟨by decide, by decide⟩ rfl rfl (Nat.le_of_ble_eq_true rfl) ⟨Nat.le_trans (by omega) hcB, Nat.le_trans (by omega) hsB⟩ dL_law_871 (fun r5 μ3 q4 => ?_)
  replace h := h r5 μ3 q4
  refine v_istore C [(5, .int r5), (0, .ref b), (1, .ref (eAd E 0)), (2, .ref (eAd E 9)), (3, .ref (eAd E 76)), (4, .int x4)] (by decide) rfl dL_law_874 ?_
  refine v_aload_n C 3 rfl rfl dL_law_876 ?_
  refine v_aload_n C 1 rfl rfl dL_law_877 ?_
  refine v_iload C 5 rfl dL_law_878 ?_
  refine v_iconst (v := (1 : Int32)) C dL_law_880 (by decide) ?_
  refine v_iadd C dL_law_881 ?_
  obtain ⟨b6, h⟩ := h
  refine w_sld CC b6 dL_law_882 ?_
  obtain ⟨P7, hs, h⟩ := h
  refine v_callVi C 9 [.int (xs (x4 + (1 : Int32)).toNatClampNeg)] (by decide) rfl rfl rfl (so_X9_space (xs (x4 + (1 : Int32)).toNatClampNeg) μ3 P7 hs) gw_L_118 rfl rfl dd_X9_space ⟨by decide, by decide⟩ rfl rfl (Nat.le_of_ble_eq_true rfl) ⟨Nat.le_trans (by omega) hcB, Nat.le_trans (by omega) hsB⟩ dL_law_883 (fun r10 μ8 q9 => ?_)
  replace h := h r10 μ8 q9
  refine v_istore C [(6, .int r10), (5, .int r5), (0, .ref b), (1, .ref (eAd E 0)), (2, .ref (eAd E 9)), (3, .ref (eAd E 76)), (4, .int x4)] (by decide) rfl dL_law_886 ?_
  refine v_aload_n C 4 rfl rfl dL_law_888 ?_
  obtain ⟨P11, hs, h⟩ := h
  refine v_callVi C 9 [] (by decide) rfl rfl rfl (so_X9_thrown μ8 P11 hs) gw_L_80 rfl rfl dd_X9_thrown ⟨by decide, by decide⟩ rfl rfl (Nat.le_of_ble_eq_true rfl) ⟨Nat.le_trans (by omega) hcB, Nat.le_trans (by omega) hsB⟩ dL_law_889 (fun r14 μ12 q13 => ?_)
  replace h := h r14 μ12 q13
  refine v_iload C 1 rfl dL_law_892 ?_
  refine v_icmp_eq C 899 (by decide) dL_law_894 (fun q18 => ?_) (fun q18 => ?_)
  · replace h := h.1 q18
    refine v_iload C 1 rfl dL_law_899 ?_
    refine v_if_ne C 923 (by decide) dL_law_901 (fun q17 => ?_) (fun q17 => ?_)
    · replace h := h.1 q17
      refine v_goto C 1432 (by decide) dL_law_923 ?_
      refine v_sub C [2, 3, 4, 5, 6] rfl ?_
      exact w_wid (by omega) (by omega) (hK _ h)
    · replace h := h.2 q17
      refine v_aload_n C 5 rfl rfl dL_law_904 ?_
      refine v_iconst (v := (0 : Int32)) C dL_law_905 (by decide) ?_
      obtain ⟨b15, h⟩ := h
      refine v_lald C 76 (by decide) rfl b15 dL_law_906 ?_
      refine v_iload C 0 rfl dL_law_907 ?_
      refine v_if_eq C 916 (by decide) dL_law_909 (fun q16 => ?_) (fun q16 => ?_)
      · replace h := h.1 q16
        refine v_lconst (v := (0 : Int64)) C dL_law_916 (by decide) ?_
        refine v_sub C [2, 3, 4, 5, 6, 1, 0] rfl ?_
        exact ow_917 CC hcB hsB hK _ _ _ _ _ h
      · replace h := h.2 q16
        refine v_lconst (v := (1 : Int64)) C dL_law_912 (by decide) ?_
        refine v_goto C 917 (by decide) dL_law_913 ?_
        refine v_sub C [2, 3, 4, 5, 6, 1, 0] rfl ?_
        exact ow_917 CC hcB hsB hK _ _ _ _ _ h
  · replace h := h.2 q18
    refine v_iconst (v := (0 : Int32)) C dL_law_897 (by decide) ?_
    exact h.elim
set_option maxRecDepth 10000 in
set_option maxHeartbeats 4000000 in
theorem ow_807 {p : Program} {l : Launch} {e : Env} {s : State} {m : MethodId} {args : Array Value} {below : List Frame} {meth : Method} {c : Code} {E : EvT} {b L : Nat} {xs : Nat → Int32} {cells slots : Nat} {Q : State → Prop} {K : MemT → Prop} (CC : CW p l s m args meth c E b L xs) (hcB : cells + 2 ≤ room_1.cells) (hsB : slots + 12 ≤ room_1.slots) {x4 : Int32} (hK : ∀ μ2, K μ2 → V p l e room_1 s m args below meth c E 8 (cells + 2) (slots + 12) Q 1432 [(0, .ref b), (1, .ref (eAd E 0)), (2, .ref (eAd E 9)), (3, .ref (eAd E 76)), (4, .int x4)] [] μ2) (μ : MemT) (h : tw_807 K xs L x4 μ) : V p l e room_1 s m args below meth c E 8 cells slots Q 807 [(0, .ref b), (1, .ref (eAd E 0)), (2, .ref (eAd E 9)), (3, .ref (eAd E 76)), (4, .int x4)] [] μ := by
  have C := CC.1
  unfold tw_807 at h
  refine v_aload_n C 1 rfl rfl dL_law_807 ?_
  refine v_aload_n C 0 rfl rfl dL_law_808 ?_
  refine v_iload C 4 rfl dL_law_809 ?_
  refine v_iconst (v := (1 : Int32)) C dL_law_811 (by decide) ?_
  refine v_iadd C dL_law_812 ?_
  obtain ⟨b1, h⟩ := h
  refine w_sld CC b1 dL_law_813 ?_
  refine v_aload_n C 3 rfl rfl dL_law_814 ?_
  obtain ⟨P2, hs0, h⟩ := h
  refine w_callS (kc := 1) CC [.ref (eAd E 0), .int (xs (x4 + (1 : Int32)).toNatClampNeg), .ref (eAd E 76)] (ol_L_twice CC.2.2.1 (xs (x4 + (1 : Int32)).toNatClampNeg) μ P2 hs0) gs_L_113 rfl rfl dl_L_twice ⟨by decide, by decide⟩ rfl rfl (Nat.le_of_ble_eq_true rfl) ⟨Nat.le_trans (by omega) hcB, Nat.le_trans (by omega) hsB⟩ dL_law_815 (fun r5 μ3 q4 => ?_)
  replace h := h r5 μ3 q4
  refine v_istore C [(5, .int r5), (0, .ref b), (1, .ref (eAd E 0)), (2, .ref (eAd E 9)), (3, .ref (eAd E 76)), (4, .int x4)] (by decide) rfl dL_law_818 ?_
  refine v_aload_n C 3 rfl rfl dL_law_820 ?_
  refine v_aload_n C 1 rfl rfl dL_law_821 ?_
  refine v_iload C 5 rfl dL_law_822 ?_
  refine v_iconst (v := (1 : Int32)) C dL_law_824 (by decide) ?_
  refine v_iadd C dL_law_825 ?_
  obtain ⟨b6, h⟩ := h
  refine w_sld CC b6 dL_law_826 ?_
  obtain ⟨P7, hs, h⟩ := h
  refine v_callVi C 9 [.int (xs (x4 + (1 : Int32)).toNatClampNeg)] (by decide) rfl rfl rfl (so_X9_twice (xs (x4 + (1 : Int32)).toNatClampNeg) μ3 P7 hs) gw_L_115 rfl rfl dd_X9_twice ⟨by decide, by decide⟩ rfl rfl (Nat.le_of_ble_eq_true rfl) ⟨Nat.le_trans (by omega) hcB, Nat.le_trans (by omega) hsB⟩ dL_law_827 (fun r10 μ8 q9 => ?_)
  replace h := h r10 μ8 q9
  refine v_istore C [(6, .int r10), (5, .int r5), (0, .ref b), (1, .ref (eAd E 0)), (2, .ref (eAd E 9)), (3, .ref (eAd E 76)), (4, .int x4)] (by decide) rfl dL_law_830 ?_
  refine v_aload_n C 4 rfl rfl dL_law_832 ?_
  obtain ⟨P11, hs, h⟩ := h
  refine v_callVi C 9 [] (by decide) rfl rfl rfl (so_X9_thrown μ8 P11 hs) gw_L_80 rfl rfl dd_X9_thrown ⟨by decide, by decide⟩ rfl rfl (Nat.le_of_ble_eq_true rfl) ⟨Nat.le_trans (by omega) hcB, Nat.le_trans (by omega) hsB⟩ dL_law_833 (fun r14 μ12 q13 => ?_)
  replace h := h r14 μ12 q13
  refine v_iload C 1 rfl dL_law_836 ?_
  refine v_icmp_eq C 843 (by decide) dL_law_838 (fun q18 => ?_) (fun q18 => ?_)
  · replace h := h.1 q18
    refine v_iload C 1 rfl dL_law_843 ?_
    refine v_if_ne C 860 (by decide) dL_law_845 (fun q17 => ?_) (fun q17 => ?_)
    · replace h := h.1 q17
      refine v_goto C 1432 (by decide) dL_law_860 ?_
      refine v_sub C [2, 3, 4, 5, 6] rfl ?_
      exact w_wid (by omega) (by omega) (hK _ h)
    · replace h := h.2 q17
      refine v_aload_n C 5 rfl rfl dL_law_848 ?_
      refine v_iconst (v := (0 : Int32)) C dL_law_849 (by decide) ?_
      obtain ⟨b15, h⟩ := h
      refine v_lald C 76 (by decide) rfl b15 dL_law_850 ?_
      refine v_iload C 0 rfl dL_law_851 ?_
      refine v_i2l C dL_law_853 ?_
      refine v_lcmp_eq C 860 (by decide) dL_law_854 dL_law_855 (fun q16 => ?_) (fun q16 => ?_)
      · replace h := h.1 q16
        refine v_goto C 1432 (by decide) dL_law_860 ?_
        refine v_sub C [2, 3, 4, 5, 6] rfl ?_
        exact w_wid (by omega) (by omega) (hK _ h)
      · replace h := h.2 q16
        refine v_iconst (v := (0 : Int32)) C dL_law_858 (by decide) ?_
        exact h.elim
  · replace h := h.2 q18
    refine v_iconst (v := (0 : Int32)) C dL_law_841 (by decide) ?_
    exact h.elim
set_option maxRecDepth 10000 in
set_option maxHeartbeats 4000000 in
theorem ow_751 {p : Program} {l : Launch} {e : Env} {s : State} {m : MethodId} {args : Array Value} {below : List Frame} {meth : Method} {c : Code} {E : EvT} {b L : Nat} {xs : Nat → Int32} {cells slots : Nat} {Q : State → Prop} {K : MemT → Prop} (CC : CW p l s m args meth c E b L xs) (hcB : cells + 2 ≤ room_1.cells) (hsB : slots + 12 ≤ room_1.slots) {x4 : Int32} (hK : ∀ μ2, K μ2 → V p l e room_1 s m args below meth c E 8 (cells + 2) (slots + 12) Q 1432 [(0, .ref b), (1, .ref (eAd E 0)), (2, .ref (eAd E 9)), (3, .ref (eAd E 76)), (4, .int x4)] [] μ2) (μ : MemT) (h : tw_751 K xs L x4 μ) : V p l e room_1 s m args below meth c E 8 cells slots Q 751 [(0, .ref b), (1, .ref (eAd E 0)), (2, .ref (eAd E 9)), (3, .ref (eAd E 76)), (4, .int x4)] [] μ := by
  have C := CC.1
  unfold tw_751 at h
  refine v_aload_n C 1 rfl rfl dL_law_751 ?_
  refine v_aload_n C 0 rfl rfl dL_law_752 ?_
  refine v_iload C 4 rfl dL_law_753 ?_
  refine v_iconst (v := (1 : Int32)) C dL_law_755 (by decide) ?_
  refine v_iadd C dL_law_756 ?_
  obtain ⟨b1, h⟩ := h
  refine w_sld CC b1 dL_law_757 ?_
  refine v_aload_n C 3 rfl rfl dL_law_758 ?_
  obtain ⟨P2, hs0, h⟩ := h
  refine w_callS (kc := 1) CC [.ref (eAd E 0), .int (xs (x4 + (1 : Int32)).toNatClampNeg), .ref (eAd E 76)] (ol_L_block CC.2.2.1 (xs (x4 + (1 : Int32)).toNatClampNeg) μ P2 hs0) gs_L_110 rfl rfl dl_L_block ⟨by decide, by decide⟩ rfl rfl (Nat.le_of_ble_eq_true rfl) ⟨Nat.le_trans (by omega) hcB, Nat.le_trans (by omega) hsB⟩ dL_law_759 (fun r5 μ3 q4 => ?_)
  replace h := h r5 μ3 q4
  refine v_istore C [(5, .int r5), (0, .ref b), (1, .ref (eAd E 0)), (2, .ref (eAd E 9)), (3, .ref (eAd E 76)), (4, .int x4)] (by decide) rfl dL_law_762 ?_
  refine v_aload_n C 3 rfl rfl dL_law_764 ?_
  refine v_aload_n C 1 rfl rfl dL_law_765 ?_
  refine v_iload C 5 rfl dL_law_766 ?_
  refine v_iconst (v := (1 : Int32)) C dL_law_768 (by decide) ?_
  refine v_iadd C dL_law_769 ?_
  obtain ⟨b6, h⟩ := h
  refine w_sld CC b6 dL_law_770 ?_
  obtain ⟨P7, hs, h⟩ := h
  refine v_callVi C 9 [.int (xs (x4 + (1 : Int32)).toNatClampNeg)] (by decide) rfl rfl rfl (so_X9_block (xs (x4 + (1 : Int32)).toNatClampNeg) μ3 P7 hs) gw_L_112 rfl rfl dd_X9_block ⟨by decide, by decide⟩ rfl rfl (Nat.le_of_ble_eq_true rfl) ⟨Nat.le_trans (by omega) hcB, Nat.le_trans (by omega) hsB⟩ dL_law_771 (fun r10 μ8 q9 => ?_)
  replace h := h r10 μ8 q9
  refine v_istore C [(6, .int r10), (5, .int r5), (0, .ref b), (1, .ref (eAd E 0)), (2, .ref (eAd E 9)), (3, .ref (eAd E 76)), (4, .int x4)] (by decide) rfl dL_law_774 ?_
  refine v_aload_n C 4 rfl rfl dL_law_776 ?_
  obtain ⟨P11, hs, h⟩ := h
  refine v_callVi C 9 [] (by decide) rfl rfl rfl (so_X9_thrown μ8 P11 hs) gw_L_80 rfl rfl dd_X9_thrown ⟨by decide, by decide⟩ rfl rfl (Nat.le_of_ble_eq_true rfl) ⟨Nat.le_trans (by omega) hcB, Nat.le_trans (by omega) hsB⟩ dL_law_777 (fun r14 μ12 q13 => ?_)
  replace h := h r14 μ12 q13
  refine v_iload C 1 rfl dL_law_780 ?_
  refine v_icmp_eq C 787 (by decide) dL_law_782 (fun q18 => ?_) (fun q18 => ?_)
  · replace h := h.1 q18
    refine v_iload C 1 rfl dL_law_787 ?_
    refine v_if_ne C 804 (by decide) dL_law_789 (fun q17 => ?_) (fun q17 => ?_)
    · replace h := h.1 q17
      refine v_goto C 1432 (by decide) dL_law_804 ?_
      refine v_sub C [2, 3, 4, 5, 6] rfl ?_
      exact w_wid (by omega) (by omega) (hK _ h)
    · replace h := h.2 q17
      refine v_aload_n C 5 rfl rfl dL_law_792 ?_
      refine v_iconst (v := (0 : Int32)) C dL_law_793 (by decide) ?_
      obtain ⟨b15, h⟩ := h
      refine v_lald C 76 (by decide) rfl b15 dL_law_794 ?_
      refine v_iload C 0 rfl dL_law_795 ?_
      refine v_i2l C dL_law_797 ?_
      refine v_lcmp_eq C 804 (by decide) dL_law_798 dL_law_799 (fun q16 => ?_) (fun q16 => ?_)
      · replace h := h.1 q16
        refine v_goto C 1432 (by decide) dL_law_804 ?_
        refine v_sub C [2, 3, 4, 5, 6] rfl ?_
        exact w_wid (by omega) (by omega) (hK _ h)
      · replace h := h.2 q16
        refine v_iconst (v := (0 : Int32)) C dL_law_802 (by decide) ?_
        exact h.elim
  · replace h := h.2 q18
    refine v_iconst (v := (0 : Int32)) C dL_law_785 (by decide) ?_
    exact h.elim
set_option maxRecDepth 10000 in
set_option maxHeartbeats 4000000 in
theorem ow_695 {p : Program} {l : Launch} {e : Env} {s : State} {m : MethodId} {args : Array Value} {below : List Frame} {meth : Method} {c : Code} {E : EvT} {b L : Nat} {xs : Nat → Int32} {cells slots : Nat} {Q : State → Prop} {K : MemT → Prop} (CC : CW p l s m args meth c E b L xs) (hcB : cells + 2 ≤ room_1.cells) (hsB : slots + 12 ≤ room_1.slots) {x4 : Int32} (hK : ∀ μ2, K μ2 → V p l e room_1 s m args below meth c E 8 (cells + 2) (slots + 12) Q 1432 [(0, .ref b), (1, .ref (eAd E 0)), (2, .ref (eAd E 9)), (3, .ref (eAd E 76)), (4, .int x4)] [] μ2) (μ : MemT) (h : tw_695 K xs L x4 μ) : V p l e room_1 s m args below meth c E 8 cells slots Q 695 [(0, .ref b), (1, .ref (eAd E 0)), (2, .ref (eAd E 9)), (3, .ref (eAd E 76)), (4, .int x4)] [] μ := by
  have C := CC.1
  unfold tw_695 at h
  refine v_aload_n C 1 rfl rfl dL_law_695 ?_
  refine v_aload_n C 0 rfl rfl dL_law_696 ?_
  refine v_iload C 4 rfl dL_law_697 ?_
  refine v_iconst (v := (1 : Int32)) C dL_law_699 (by decide) ?_
  refine v_iadd C dL_law_700 ?_
  obtain ⟨b1, h⟩ := h
  refine w_sld CC b1 dL_law_701 ?_
  refine v_aload_n C 3 rfl rfl dL_law_702 ?_
  obtain ⟨P2, hs0, h⟩ := h
  refine w_callS (kc := 1) CC [.ref (eAd E 0), .int (xs (x4 + (1 : Int32)).toNatClampNeg), .ref (eAd E 76)] (ol_L_line CC.2.2.1 (xs (x4 + (1 : Int32)).toNatClampNeg) μ P2 hs0) gs_L_107 rfl rfl dl_L_line ⟨by decide, by decide⟩ rfl rfl (Nat.le_of_ble_eq_true rfl) ⟨Nat.le_trans (by omega) hcB, Nat.le_trans (by omega) hsB⟩ dL_law_703 (fun r5 μ3 q4 => ?_)
  replace h := h r5 μ3 q4
  refine v_istore C [(5, .int r5), (0, .ref b), (1, .ref (eAd E 0)), (2, .ref (eAd E 9)), (3, .ref (eAd E 76)), (4, .int x4)] (by decide) rfl dL_law_706 ?_
  refine v_aload_n C 3 rfl rfl dL_law_708 ?_
  refine v_aload_n C 1 rfl rfl dL_law_709 ?_
  refine v_iload C 5 rfl dL_law_710 ?_
  refine v_iconst (v := (1 : Int32)) C dL_law_712 (by decide) ?_
  refine v_iadd C dL_law_713 ?_
  obtain ⟨b6, h⟩ := h
  refine w_sld CC b6 dL_law_714 ?_
  obtain ⟨P7, hs, h⟩ := h
  refine v_callVi C 9 [.int (xs (x4 + (1 : Int32)).toNatClampNeg)] (by decide) rfl rfl rfl (so_X9_line (xs (x4 + (1 : Int32)).toNatClampNeg) μ3 P7 hs) gw_L_109 rfl rfl dd_X9_line ⟨by decide, by decide⟩ rfl rfl (Nat.le_of_ble_eq_true rfl) ⟨Nat.le_trans (by omega) hcB, Nat.le_trans (by omega) hsB⟩ dL_law_715 (fun r10 μ8 q9 => ?_)
  replace h := h r10 μ8 q9
  refine v_istore C [(6, .int r10), (5, .int r5), (0, .ref b), (1, .ref (eAd E 0)), (2, .ref (eAd E 9)), (3, .ref (eAd E 76)), (4, .int x4)] (by decide) rfl dL_law_718 ?_
  refine v_aload_n C 4 rfl rfl dL_law_720 ?_
  obtain ⟨P11, hs, h⟩ := h
  refine v_callVi C 9 [] (by decide) rfl rfl rfl (so_X9_thrown μ8 P11 hs) gw_L_80 rfl rfl dd_X9_thrown ⟨by decide, by decide⟩ rfl rfl (Nat.le_of_ble_eq_true rfl) ⟨Nat.le_trans (by omega) hcB, Nat.le_trans (by omega) hsB⟩ dL_law_721 (fun r14 μ12 q13 => ?_)
  replace h := h r14 μ12 q13
  refine v_iload C 1 rfl dL_law_724 ?_
  refine v_icmp_eq C 731 (by decide) dL_law_726 (fun q18 => ?_) (fun q18 => ?_)
  · replace h := h.1 q18
    refine v_iload C 1 rfl dL_law_731 ?_
    refine v_if_ne C 748 (by decide) dL_law_733 (fun q17 => ?_) (fun q17 => ?_)
    · replace h := h.1 q17
      refine v_goto C 1432 (by decide) dL_law_748 ?_
      refine v_sub C [2, 3, 4, 5, 6] rfl ?_
      exact w_wid (by omega) (by omega) (hK _ h)
    · replace h := h.2 q17
      refine v_aload_n C 5 rfl rfl dL_law_736 ?_
      refine v_iconst (v := (0 : Int32)) C dL_law_737 (by decide) ?_
      obtain ⟨b15, h⟩ := h
      refine v_lald C 76 (by decide) rfl b15 dL_law_738 ?_
      refine v_iload C 0 rfl dL_law_739 ?_
      refine v_i2l C dL_law_741 ?_
      refine v_lcmp_eq C 748 (by decide) dL_law_742 dL_law_743 (fun q16 => ?_) (fun q16 => ?_)
      · replace h := h.1 q16
        refine v_goto C 1432 (by decide) dL_law_748 ?_
        refine v_sub C [2, 3, 4, 5, 6] rfl ?_
        exact w_wid (by omega) (by omega) (hK _ h)
      · replace h := h.2 q16
        refine v_iconst (v := (0 : Int32)) C dL_law_746 (by decide) ?_
        exact h.elim
  · replace h := h.2 q18
    refine v_iconst (v := (0 : Int32)) C dL_law_729 (by decide) ?_
    exact h.elim
set_option maxRecDepth 10000 in
set_option maxHeartbeats 4000000 in
theorem ow_639 {p : Program} {l : Launch} {e : Env} {s : State} {m : MethodId} {args : Array Value} {below : List Frame} {meth : Method} {c : Code} {E : EvT} {b L : Nat} {xs : Nat → Int32} {cells slots : Nat} {Q : State → Prop} {K : MemT → Prop} (CC : CW p l s m args meth c E b L xs) (hcB : cells + 2 ≤ room_1.cells) (hsB : slots + 12 ≤ room_1.slots) {x4 : Int32} (hK : ∀ μ2, K μ2 → V p l e room_1 s m args below meth c E 8 (cells + 2) (slots + 12) Q 1432 [(0, .ref b), (1, .ref (eAd E 0)), (2, .ref (eAd E 9)), (3, .ref (eAd E 76)), (4, .int x4)] [] μ2) (μ : MemT) (h : tw_639 K xs L x4 μ) : V p l e room_1 s m args below meth c E 8 cells slots Q 639 [(0, .ref b), (1, .ref (eAd E 0)), (2, .ref (eAd E 9)), (3, .ref (eAd E 76)), (4, .int x4)] [] μ := by
  have C := CC.1
  unfold tw_639 at h
  refine v_aload_n C 1 rfl rfl dL_law_639 ?_
  refine v_aload_n C 0 rfl rfl dL_law_640 ?_
  refine v_iload C 4 rfl dL_law_641 ?_
  refine v_iconst (v := (1 : Int32)) C dL_law_643 (by decide) ?_
  refine v_iadd C dL_law_644 ?_
  obtain ⟨b1, h⟩ := h
  refine w_sld CC b1 dL_law_645 ?_
  refine v_aload_n C 3 rfl rfl dL_law_646 ?_
  obtain ⟨P2, hs0, h⟩ := h
  refine w_callS (kc := 1) CC [.ref (eAd E 0), .int (xs (x4 + (1 : Int32)).toNatClampNeg), .ref (eAd E 76)] (ol_L_from CC.2.2.1 (xs (x4 + (1 : Int32)).toNatClampNeg) μ P2 hs0) gs_L_104 rfl rfl dl_L_from ⟨by decide, by decide⟩ rfl rfl (Nat.le_of_ble_eq_true rfl) ⟨Nat.le_trans (by omega) hcB, Nat.le_trans (by omega) hsB⟩ dL_law_647 (fun r5 μ3 q4 => ?_)
  replace h := h r5 μ3 q4
  refine v_istore C [(5, .int r5), (0, .ref b), (1, .ref (eAd E 0)), (2, .ref (eAd E 9)), (3, .ref (eAd E 76)), (4, .int x4)] (by decide) rfl dL_law_650 ?_
  refine v_aload_n C 3 rfl rfl dL_law_652 ?_
  refine v_aload_n C 1 rfl rfl dL_law_653 ?_
  refine v_iload C 5 rfl dL_law_654 ?_
  refine v_iconst (v := (1 : Int32)) C dL_law_656 (by decide) ?_
  refine v_iadd C dL_law_657 ?_
  obtain ⟨b6, h⟩ := h
  refine w_sld CC b6 dL_law_658 ?_
  obtain ⟨P7, hs, h⟩ := h
  refine v_callVi C 9 [.int (xs (x4 + (1 : Int32)).toNatClampNeg)] (by decide) rfl rfl rfl (so_X9_from (xs (x4 + (1 : Int32)).toNatClampNeg) μ3 P7 hs) gw_L_106 rfl rfl dd_X9_from ⟨by decide, by decide⟩ rfl rfl (Nat.le_of_ble_eq_true rfl) ⟨Nat.le_trans (by omega) hcB, Nat.le_trans (by omega) hsB⟩ dL_law_659 (fun r10 μ8 q9 => ?_)
  replace h := h r10 μ8 q9
  refine v_istore C [(6, .int r10), (5, .int r5), (0, .ref b), (1, .ref (eAd E 0)), (2, .ref (eAd E 9)), (3, .ref (eAd E 76)), (4, .int x4)] (by decide) rfl dL_law_662 ?_
  refine v_aload_n C 4 rfl rfl dL_law_664 ?_
  obtain ⟨P11, hs, h⟩ := h
  refine v_callVi C 9 [] (by decide) rfl rfl rfl (so_X9_thrown μ8 P11 hs) gw_L_80 rfl rfl dd_X9_thrown ⟨by decide, by decide⟩ rfl rfl (Nat.le_of_ble_eq_true rfl) ⟨Nat.le_trans (by omega) hcB, Nat.le_trans (by omega) hsB⟩ dL_law_665 (fun r14 μ12 q13 => ?_)
  replace h := h r14 μ12 q13
  refine v_iload C 1 rfl dL_law_668 ?_
  refine v_icmp_eq C 675 (by decide) dL_law_670 (fun q18 => ?_) (fun q18 => ?_)
  · replace h := h.1 q18
    refine v_iload C 1 rfl dL_law_675 ?_
    refine v_if_ne C 692 (by decide) dL_law_677 (fun q17 => ?_) (fun q17 => ?_)
    · replace h := h.1 q17
      refine v_goto C 1432 (by decide) dL_law_692 ?_
      refine v_sub C [2, 3, 4, 5, 6] rfl ?_
      exact w_wid (by omega) (by omega) (hK _ h)
    · replace h := h.2 q17
      refine v_aload_n C 5 rfl rfl dL_law_680 ?_
      refine v_iconst (v := (0 : Int32)) C dL_law_681 (by decide) ?_
      obtain ⟨b15, h⟩ := h
      refine v_lald C 76 (by decide) rfl b15 dL_law_682 ?_
      refine v_iload C 0 rfl dL_law_683 ?_
      refine v_i2l C dL_law_685 ?_
      refine v_lcmp_eq C 692 (by decide) dL_law_686 dL_law_687 (fun q16 => ?_) (fun q16 => ?_)
      · replace h := h.1 q16
        refine v_goto C 1432 (by decide) dL_law_692 ?_
        refine v_sub C [2, 3, 4, 5, 6] rfl ?_
        exact w_wid (by omega) (by omega) (hK _ h)
      · replace h := h.2 q16
        refine v_iconst (v := (0 : Int32)) C dL_law_690 (by decide) ?_
        exact h.elim
  · replace h := h.2 q18
    refine v_iconst (v := (0 : Int32)) C dL_law_673 (by decide) ?_
    exact h.elim
set_option maxRecDepth 10000 in
set_option maxHeartbeats 4000000 in
theorem ow_583 {p : Program} {l : Launch} {e : Env} {s : State} {m : MethodId} {args : Array Value} {below : List Frame} {meth : Method} {c : Code} {E : EvT} {b L : Nat} {xs : Nat → Int32} {cells slots : Nat} {Q : State → Prop} {K : MemT → Prop} (CC : CW p l s m args meth c E b L xs) (hcB : cells + 2 ≤ room_1.cells) (hsB : slots + 12 ≤ room_1.slots) {x4 : Int32} (hK : ∀ μ2, K μ2 → V p l e room_1 s m args below meth c E 8 (cells + 2) (slots + 12) Q 1432 [(0, .ref b), (1, .ref (eAd E 0)), (2, .ref (eAd E 9)), (3, .ref (eAd E 76)), (4, .int x4)] [] μ2) (μ : MemT) (h : tw_583 K xs L x4 μ) : V p l e room_1 s m args below meth c E 8 cells slots Q 583 [(0, .ref b), (1, .ref (eAd E 0)), (2, .ref (eAd E 9)), (3, .ref (eAd E 76)), (4, .int x4)] [] μ := by
  have C := CC.1
  unfold tw_583 at h
  refine v_aload_n C 1 rfl rfl dL_law_583 ?_
  refine v_aload_n C 0 rfl rfl dL_law_584 ?_
  refine v_iload C 4 rfl dL_law_585 ?_
  refine v_iconst (v := (1 : Int32)) C dL_law_587 (by decide) ?_
  refine v_iadd C dL_law_588 ?_
  obtain ⟨b1, h⟩ := h
  refine w_sld CC b1 dL_law_589 ?_
  refine v_aload_n C 3 rfl rfl dL_law_590 ?_
  obtain ⟨P2, hs0, h⟩ := h
  refine w_callS (kc := 1) CC [.ref (eAd E 0), .int (xs (x4 + (1 : Int32)).toNatClampNeg), .ref (eAd E 76)] (ol_L_letter CC.2.2.1 (xs (x4 + (1 : Int32)).toNatClampNeg) μ P2 hs0) gs_L_100 rfl rfl dl_L_letter ⟨by decide, by decide⟩ rfl rfl (Nat.le_of_ble_eq_true rfl) ⟨Nat.le_trans (by omega) hcB, Nat.le_trans (by omega) hsB⟩ dL_law_591 (fun r5 μ3 q4 => ?_)
  replace h := h r5 μ3 q4
  refine v_istore C [(5, .int r5), (0, .ref b), (1, .ref (eAd E 0)), (2, .ref (eAd E 9)), (3, .ref (eAd E 76)), (4, .int x4)] (by decide) rfl dL_law_594 ?_
  refine v_aload_n C 3 rfl rfl dL_law_596 ?_
  refine v_aload_n C 1 rfl rfl dL_law_597 ?_
  refine v_iload C 5 rfl dL_law_598 ?_
  refine v_iconst (v := (1 : Int32)) C dL_law_600 (by decide) ?_
  refine v_iadd C dL_law_601 ?_
  obtain ⟨b6, h⟩ := h
  refine w_sld CC b6 dL_law_602 ?_
  obtain ⟨P7, hs, h⟩ := h
  refine v_callVi C 9 [.int (xs (x4 + (1 : Int32)).toNatClampNeg)] (by decide) rfl rfl rfl (so_X9_letter (xs (x4 + (1 : Int32)).toNatClampNeg) μ3 P7 hs) gw_L_103 rfl rfl dd_X9_letter ⟨by decide, by decide⟩ rfl rfl (Nat.le_of_ble_eq_true rfl) ⟨Nat.le_trans (by omega) hcB, Nat.le_trans (by omega) hsB⟩ dL_law_603 (fun r10 μ8 q9 => ?_)
  replace h := h r10 μ8 q9
  refine v_istore C [(6, .int r10), (5, .int r5), (0, .ref b), (1, .ref (eAd E 0)), (2, .ref (eAd E 9)), (3, .ref (eAd E 76)), (4, .int x4)] (by decide) rfl dL_law_606 ?_
  refine v_aload_n C 4 rfl rfl dL_law_608 ?_
  obtain ⟨P11, hs, h⟩ := h
  refine v_callVi C 9 [] (by decide) rfl rfl rfl (so_X9_thrown μ8 P11 hs) gw_L_80 rfl rfl dd_X9_thrown ⟨by decide, by decide⟩ rfl rfl (Nat.le_of_ble_eq_true rfl) ⟨Nat.le_trans (by omega) hcB, Nat.le_trans (by omega) hsB⟩ dL_law_609 (fun r14 μ12 q13 => ?_)
  replace h := h r14 μ12 q13
  refine v_iload C 1 rfl dL_law_612 ?_
  refine v_icmp_eq C 619 (by decide) dL_law_614 (fun q18 => ?_) (fun q18 => ?_)
  · replace h := h.1 q18
    refine v_iload C 1 rfl dL_law_619 ?_
    refine v_if_ne C 636 (by decide) dL_law_621 (fun q17 => ?_) (fun q17 => ?_)
    · replace h := h.1 q17
      refine v_goto C 1432 (by decide) dL_law_636 ?_
      refine v_sub C [2, 3, 4, 5, 6] rfl ?_
      exact w_wid (by omega) (by omega) (hK _ h)
    · replace h := h.2 q17
      refine v_aload_n C 5 rfl rfl dL_law_624 ?_
      refine v_iconst (v := (0 : Int32)) C dL_law_625 (by decide) ?_
      obtain ⟨b15, h⟩ := h
      refine v_lald C 76 (by decide) rfl b15 dL_law_626 ?_
      refine v_iload C 0 rfl dL_law_627 ?_
      refine v_i2l C dL_law_629 ?_
      refine v_lcmp_eq C 636 (by decide) dL_law_630 dL_law_631 (fun q16 => ?_) (fun q16 => ?_)
      · replace h := h.1 q16
        refine v_goto C 1432 (by decide) dL_law_636 ?_
        refine v_sub C [2, 3, 4, 5, 6] rfl ?_
        exact w_wid (by omega) (by omega) (hK _ h)
      · replace h := h.2 q16
        refine v_iconst (v := (0 : Int32)) C dL_law_634 (by decide) ?_
        exact h.elim
  · replace h := h.2 q18
    refine v_iconst (v := (0 : Int32)) C dL_law_617 (by decide) ?_
    exact h.elim
set_option maxRecDepth 10000 in
set_option maxHeartbeats 4000000 in
theorem ow_570 {p : Program} {l : Launch} {e : Env} {s : State} {m : MethodId} {args : Array Value} {below : List Frame} {meth : Method} {c : Code} {E : EvT} {b L : Nat} {xs : Nat → Int32} {cells slots : Nat} {Q : State → Prop} {K : MemT → Prop} (CC : CW p l s m args meth c E b L xs) (hcB : cells + 2 ≤ room_1.cells) (hsB : slots + 12 ≤ room_1.slots) {x4 : Int32} (hK : ∀ μ2, K μ2 → V p l e room_1 s m args below meth c E 8 (cells + 2) (slots + 12) Q 1432 [(0, .ref b), (1, .ref (eAd E 0)), (2, .ref (eAd E 9)), (3, .ref (eAd E 76)), (4, .int x4)] [] μ2) (μ : MemT) (h : tw_570 K xs L x4 μ) : V p l e room_1 s m args below meth c E 8 cells slots Q 570 [(0, .ref b), (1, .ref (eAd E 0)), (2, .ref (eAd E 9)), (3, .ref (eAd E 76)), (4, .int x4)] [] μ := by
  have C := CC.1
  unfold tw_570 at h
  refine v_aload_n C 1 rfl rfl dL_law_570 ?_
  obtain ⟨P1, hs, h⟩ := h
  refine v_callVi C 0 [] (by decide) rfl rfl rfl (so_X8_length μ P1 hs) gw_L_96 rfl rfl dd_X8_length ⟨by decide, by decide⟩ rfl rfl (Nat.le_of_ble_eq_true rfl) ⟨Nat.le_trans (by omega) hcB, Nat.le_trans (by omega) hsB⟩ dL_law_571 (fun r4 μ2 q3 => ?_)
  replace h := h r4 μ2 q3
  refine v_aload_n C 2 rfl rfl dL_law_574 ?_
  obtain ⟨P5, hs, h⟩ := h
  refine v_callVi C 9 [] (by decide) rfl rfl rfl (so_X9_length μ2 P5 hs) gw_L_99 rfl rfl dd_X9_length ⟨by decide, by decide⟩ rfl rfl (Nat.le_of_ble_eq_true rfl) ⟨Nat.le_trans (by omega) hcB, Nat.le_trans (by omega) hsB⟩ dL_law_575 (fun r8 μ6 q7 => ?_)
  replace h := h r8 μ6 q7
  refine v_icmp_eq C 1432 (by decide) dL_law_578 (fun q9 => ?_) (fun q9 => ?_)
  · replace h := h.1 q9
    exact w_wid (by omega) (by omega) (hK _ h)
  · replace h := h.2 q9
    refine v_iconst (v := (0 : Int32)) C dL_law_581 (by decide) ?_
    exact h.elim
set_option maxRecDepth 10000 in
set_option maxHeartbeats 4000000 in
theorem ow_502 {p : Program} {l : Launch} {e : Env} {s : State} {m : MethodId} {args : Array Value} {below : List Frame} {meth : Method} {c : Code} {E : EvT} {b L : Nat} {xs : Nat → Int32} {cells slots : Nat} {Q : State → Prop} {K : MemT → Prop} (CC : CW p l s m args meth c E b L xs) (hcB : cells + 2 ≤ room_1.cells) (hsB : slots + 12 ≤ room_1.slots) {x4 : Int32} (hK : ∀ μ2, K μ2 → V p l e room_1 s m args below meth c E 8 (cells + 2) (slots + 12) Q 1432 [(0, .ref b), (1, .ref (eAd E 0)), (2, .ref (eAd E 9)), (3, .ref (eAd E 76)), (4, .int x4)] [] μ2) (μ : MemT) (h : tw_502 K xs L x4 μ) : V p l e room_1 s m args below meth c E 8 cells slots Q 502 [(0, .ref b), (1, .ref (eAd E 0)), (2, .ref (eAd E 9)), (3, .ref (eAd E 76)), (4, .int x4)] [] μ := by
  have C := CC.1
  unfold tw_502 at h
  refine v_aload_n C 1 rfl rfl dL_law_502 ?_
  refine v_aload_n C 0 rfl rfl dL_law_503 ?_
  refine v_iload C 4 rfl dL_law_504 ?_
  refine v_iconst (v := (1 : Int32)) C dL_law_506 (by decide) ?_
  refine v_iadd C dL_law_507 ?_
  obtain ⟨b1, h⟩ := h
  refine w_sld CC b1 dL_law_508 ?_
  refine v_aload_n C 0 rfl rfl dL_law_509 ?_
  refine v_iload C 4 rfl dL_law_510 ?_
  refine v_iconst (v := (2 : Int32)) C dL_law_512 (by decide) ?_
  refine v_iadd C dL_law_513 ?_
  obtain ⟨b2, h⟩ := h
  refine w_sld CC b2 dL_law_514 ?_
  refine v_aload_n C 3 rfl rfl dL_law_515 ?_
  obtain ⟨P3, hs0, h⟩ := h
  refine w_callS (kc := 2) CC [.ref (eAd E 0), .int (xs (x4 + (1 : Int32)).toNatClampNeg), .int (xs (x4 + (2 : Int32)).toNatClampNeg), .ref (eAd E 76)] (ol_L_tag CC.2.2.1 (xs (x4 + (1 : Int32)).toNatClampNeg) (xs (x4 + (2 : Int32)).toNatClampNeg) μ P3 hs0) gs_L_92 rfl rfl dl_L_tag ⟨by decide, by decide⟩ rfl rfl (Nat.le_of_ble_eq_true rfl) ⟨Nat.le_trans (by omega) hcB, Nat.le_trans (by omega) hsB⟩ dL_law_516 (fun r6 μ4 q5 => ?_)
  replace h := h r6 μ4 q5
  refine v_istore C [(5, .int r6), (0, .ref b), (1, .ref (eAd E 0)), (2, .ref (eAd E 9)), (3, .ref (eAd E 76)), (4, .int x4)] (by decide) rfl dL_law_519 ?_
  refine v_aload_n C 3 rfl rfl dL_law_521 ?_
  refine v_aload_n C 1 rfl rfl dL_law_522 ?_
  refine v_iload C 5 rfl dL_law_523 ?_
  refine v_iconst (v := (1 : Int32)) C dL_law_525 (by decide) ?_
  refine v_iadd C dL_law_526 ?_
  obtain ⟨b7, h⟩ := h
  refine w_sld CC b7 dL_law_527 ?_
  refine v_aload_n C 1 rfl rfl dL_law_528 ?_
  refine v_iload C 5 rfl dL_law_529 ?_
  refine v_iconst (v := (2 : Int32)) C dL_law_531 (by decide) ?_
  refine v_iadd C dL_law_532 ?_
  obtain ⟨b8, h⟩ := h
  refine w_sld CC b8 dL_law_533 ?_
  obtain ⟨P9, hs, h⟩ := h
  refine v_callVi C 9 [.int (xs (x4 + (1 : Int32)).toNatClampNeg), .int (xs (x4 + (2 : Int32)).toNatClampNeg)] (by decide) rfl rfl rfl (so_X9_tag (xs (x4 + (1 : Int32)).toNatClampNeg) (xs (x4 + (2 : Int32)).toNatClampNeg) μ4 P9 hs) gw_L_95 rfl rfl dd_X9_tag ⟨by decide, by decide⟩ rfl rfl (Nat.le_of_ble_eq_true rfl) ⟨Nat.le_trans (by omega) hcB, Nat.le_trans (by omega) hsB⟩ dL_law_534 (fun r12 μ10 q11 => ?_)
  replace h := h r12 μ10 q11
  refine v_istore C [(6, .int r12), (5, .int r6), (0, .ref b), (1, .ref (eAd E 0)), (2, .ref (eAd E 9)), (3, .ref (eAd E 76)), (4, .int x4)] (by decide) rfl dL_law_537 ?_
  refine v_aload_n C 4 rfl rfl dL_law_539 ?_
  obtain ⟨P13, hs, h⟩ := h
  refine v_callVi C 9 [] (by decide) rfl rfl rfl (so_X9_thrown μ10 P13 hs) gw_L_80 rfl rfl dd_X9_thrown ⟨by decide, by decide⟩ rfl rfl (Nat.le_of_ble_eq_true rfl) ⟨Nat.le_trans (by omega) hcB, Nat.le_trans (by omega) hsB⟩ dL_law_540 (fun r16 μ14 q15 => ?_)
  replace h := h r16 μ14 q15
  refine v_iload C 1 rfl dL_law_543 ?_
  refine v_icmp_eq C 550 (by decide) dL_law_545 (fun q20 => ?_) (fun q20 => ?_)
  · replace h := h.1 q20
    refine v_iload C 1 rfl dL_law_550 ?_
    refine v_if_ne C 567 (by decide) dL_law_552 (fun q19 => ?_) (fun q19 => ?_)
    · replace h := h.1 q19
      refine v_goto C 1432 (by decide) dL_law_567 ?_
      refine v_sub C [2, 3, 4, 5, 6] rfl ?_
      exact w_wid (by omega) (by omega) (hK _ h)
    · replace h := h.2 q19
      refine v_aload_n C 5 rfl rfl dL_law_555 ?_
      refine v_iconst (v := (0 : Int32)) C dL_law_556 (by decide) ?_
      obtain ⟨b17, h⟩ := h
      refine v_lald C 76 (by decide) rfl b17 dL_law_557 ?_
      refine v_iload C 0 rfl dL_law_558 ?_
      refine v_i2l C dL_law_560 ?_
      refine v_lcmp_eq C 567 (by decide) dL_law_561 dL_law_562 (fun q18 => ?_) (fun q18 => ?_)
      · replace h := h.1 q18
        refine v_goto C 1432 (by decide) dL_law_567 ?_
        refine v_sub C [2, 3, 4, 5, 6] rfl ?_
        exact w_wid (by omega) (by omega) (hK _ h)
      · replace h := h.2 q18
        refine v_iconst (v := (0 : Int32)) C dL_law_565 (by decide) ?_
        exact h.elim
  · replace h := h.2 q20
    refine v_iconst (v := (0 : Int32)) C dL_law_548 (by decide) ?_
    exact h.elim
set_option maxRecDepth 10000 in
set_option maxHeartbeats 4000000 in
theorem ow_410 {p : Program} {l : Launch} {e : Env} {s : State} {m : MethodId} {args : Array Value} {below : List Frame} {meth : Method} {c : Code} {E : EvT} {b L : Nat} {xs : Nat → Int32} {cells slots : Nat} {Q : State → Prop} {K : MemT → Prop} (CC : CW p l s m args meth c E b L xs) (hcB : cells + 2 ≤ room_1.cells) (hsB : slots + 12 ≤ room_1.slots) {x4 : Int32} (hK : ∀ μ2, K μ2 → V p l e room_1 s m args below meth c E 8 (cells + 2) (slots + 12) Q 1432 [(0, .ref b), (1, .ref (eAd E 0)), (2, .ref (eAd E 9)), (3, .ref (eAd E 76)), (4, .int x4)] [] μ2) (μ : MemT) (h : tw_410 K xs L x4 μ) : V p l e room_1 s m args below meth c E 8 cells slots Q 410 [(0, .ref b), (1, .ref (eAd E 0)), (2, .ref (eAd E 9)), (3, .ref (eAd E 76)), (4, .int x4)] [] μ := by
  have C := CC.1
  unfold tw_410 at h
  refine v_aload_n C 1 rfl rfl dL_law_410 ?_
  refine v_aload_n C 0 rfl rfl dL_law_411 ?_
  refine v_iload C 4 rfl dL_law_412 ?_
  refine v_iconst (v := (1 : Int32)) C dL_law_414 (by decide) ?_
  refine v_iadd C dL_law_415 ?_
  obtain ⟨b1, h⟩ := h
  refine w_sld CC b1 dL_law_416 ?_
  refine v_aload_n C 0 rfl rfl dL_law_417 ?_
  refine v_iload C 4 rfl dL_law_418 ?_
  refine v_iconst (v := (2 : Int32)) C dL_law_420 (by decide) ?_
  refine v_iadd C dL_law_421 ?_
  obtain ⟨b2, h⟩ := h
  refine w_sld CC b2 dL_law_422 ?_
  refine v_aload_n C 0 rfl rfl dL_law_423 ?_
  refine v_iload C 4 rfl dL_law_424 ?_
  refine v_iconst (v := (3 : Int32)) C dL_law_426 (by decide) ?_
  refine v_iadd C dL_law_427 ?_
  obtain ⟨b3, h⟩ := h
  refine w_sld CC b3 dL_law_428 ?_
  refine v_aload_n C 0 rfl rfl dL_law_429 ?_
  refine v_iload C 4 rfl dL_law_430 ?_
  refine v_iconst (v := (4 : Int32)) C dL_law_432 (by decide) ?_
  refine v_iadd C dL_law_433 ?_
  obtain ⟨b4, h⟩ := h
  refine w_sld CC b4 dL_law_434 ?_
  refine v_aload_n C 3 rfl rfl dL_law_435 ?_
  obtain ⟨P5, hs0, h⟩ := h
  refine w_callS (kc := 1) CC [.ref (eAd E 0), .int (xs (x4 + (1 : Int32)).toNatClampNeg), .int (xs (x4 + (2 : Int32)).toNatClampNeg), .int (xs (x4 + (3 : Int32)).toNatClampNeg), .int (xs (x4 + (4 : Int32)).toNatClampNeg), .ref (eAd E 76)] (ol_L_map CC.2.2.1 (xs (x4 + (1 : Int32)).toNatClampNeg) (xs (x4 + (2 : Int32)).toNatClampNeg) (xs (x4 + (3 : Int32)).toNatClampNeg) (xs (x4 + (4 : Int32)).toNatClampNeg) μ P5 hs0) gs_L_88 rfl rfl dl_L_map ⟨by decide, by decide⟩ rfl rfl (Nat.le_of_ble_eq_true rfl) ⟨Nat.le_trans (by omega) hcB, Nat.le_trans (by omega) hsB⟩ dL_law_436 (fun r8 μ6 q7 => ?_)
  replace h := h r8 μ6 q7
  refine v_istore C [(5, .int r8), (0, .ref b), (1, .ref (eAd E 0)), (2, .ref (eAd E 9)), (3, .ref (eAd E 76)), (4, .int x4)] (by decide) rfl dL_law_439 ?_
  refine v_aload_n C 3 rfl rfl dL_law_441 ?_
  refine v_aload_n C 1 rfl rfl dL_law_442 ?_
  refine v_iload C 5 rfl dL_law_443 ?_
  refine v_iconst (v := (1 : Int32)) C dL_law_445 (by decide) ?_
  refine v_iadd C dL_law_446 ?_
  obtain ⟨b9, h⟩ := h
  refine w_sld CC b9 dL_law_447 ?_
  refine v_aload_n C 1 rfl rfl dL_law_448 ?_
  refine v_iload C 5 rfl dL_law_449 ?_
  refine v_iconst (v := (2 : Int32)) C dL_law_451 (by decide) ?_
  refine v_iadd C dL_law_452 ?_
  obtain ⟨b10, h⟩ := h
  refine w_sld CC b10 dL_law_453 ?_
  refine v_aload_n C 1 rfl rfl dL_law_454 ?_
  refine v_iload C 5 rfl dL_law_455 ?_
  refine v_iconst (v := (3 : Int32)) C dL_law_457 (by decide) ?_
  refine v_iadd C dL_law_458 ?_
  obtain ⟨b11, h⟩ := h
  refine w_sld CC b11 dL_law_459 ?_
  refine v_aload_n C 1 rfl rfl dL_law_460 ?_
  refine v_iload C 5 rfl dL_law_461 ?_
  refine v_iconst (v := (4 : Int32)) C dL_law_463 (by decide) ?_
  refine v_iadd C dL_law_464 ?_
  obtain ⟨b12, h⟩ := h
  refine w_sld CC b12 dL_law_465 ?_
  obtain ⟨P13, hs, h⟩ := h
  refine v_callVi C 9 [.int (xs (x4 + (1 : Int32)).toNatClampNeg), .int (xs (x4 + (2 : Int32)).toNatClampNeg), .int (xs (x4 + (3 : Int32)).toNatClampNeg), .int (xs (x4 + (4 : Int32)).toNatClampNeg)] (by decide) rfl rfl rfl (so_X9_map (xs (x4 + (1 : Int32)).toNatClampNeg) (xs (x4 + (2 : Int32)).toNatClampNeg) (xs (x4 + (3 : Int32)).toNatClampNeg) (xs (x4 + (4 : Int32)).toNatClampNeg) μ6 P13 hs) gw_L_91 rfl rfl dd_X9_map ⟨by decide, by decide⟩ rfl rfl (Nat.le_of_ble_eq_true rfl) ⟨Nat.le_trans (by omega) hcB, Nat.le_trans (by omega) hsB⟩ dL_law_466 (fun r16 μ14 q15 => ?_)
  replace h := h r16 μ14 q15
  refine v_istore C [(6, .int r16), (5, .int r8), (0, .ref b), (1, .ref (eAd E 0)), (2, .ref (eAd E 9)), (3, .ref (eAd E 76)), (4, .int x4)] (by decide) rfl dL_law_469 ?_
  refine v_aload_n C 4 rfl rfl dL_law_471 ?_
  obtain ⟨P17, hs, h⟩ := h
  refine v_callVi C 9 [] (by decide) rfl rfl rfl (so_X9_thrown μ14 P17 hs) gw_L_80 rfl rfl dd_X9_thrown ⟨by decide, by decide⟩ rfl rfl (Nat.le_of_ble_eq_true rfl) ⟨Nat.le_trans (by omega) hcB, Nat.le_trans (by omega) hsB⟩ dL_law_472 (fun r20 μ18 q19 => ?_)
  replace h := h r20 μ18 q19
  refine v_iload C 1 rfl dL_law_475 ?_
  refine v_icmp_eq C 482 (by decide) dL_law_477 (fun q24 => ?_) (fun q24 => ?_)
  · replace h := h.1 q24
    refine v_iload C 1 rfl dL_law_482 ?_
    refine v_if_ne C 499 (by decide) dL_law_484 (fun q23 => ?_) (fun q23 => ?_)
    · replace h := h.1 q23
      refine v_goto C 1432 (by decide) dL_law_499 ?_
      refine v_sub C [2, 3, 4, 5, 6] rfl ?_
      exact w_wid (by omega) (by omega) (hK _ h)
    · replace h := h.2 q23
      refine v_aload_n C 5 rfl rfl dL_law_487 ?_
      refine v_iconst (v := (0 : Int32)) C dL_law_488 (by decide) ?_
      obtain ⟨b21, h⟩ := h
      refine v_lald C 76 (by decide) rfl b21 dL_law_489 ?_
      refine v_iload C 0 rfl dL_law_490 ?_
      refine v_i2l C dL_law_492 ?_
      refine v_lcmp_eq C 499 (by decide) dL_law_493 dL_law_494 (fun q22 => ?_) (fun q22 => ?_)
      · replace h := h.1 q22
        refine v_goto C 1432 (by decide) dL_law_499 ?_
        refine v_sub C [2, 3, 4, 5, 6] rfl ?_
        exact w_wid (by omega) (by omega) (hK _ h)
      · replace h := h.2 q22
        refine v_iconst (v := (0 : Int32)) C dL_law_497 (by decide) ?_
        exact h.elim
  · replace h := h.2 q24
    refine v_iconst (v := (0 : Int32)) C dL_law_480 (by decide) ?_
    exact h.elim
set_option maxRecDepth 10000 in
set_option maxHeartbeats 4000000 in
theorem ow_374 {p : Program} {l : Launch} {e : Env} {s : State} {m : MethodId} {args : Array Value} {below : List Frame} {meth : Method} {c : Code} {E : EvT} {b L : Nat} {xs : Nat → Int32} {cells slots : Nat} {Q : State → Prop} {K : MemT → Prop} (CC : CW p l s m args meth c E b L xs) (hcB : cells + 2 ≤ room_1.cells) (hsB : slots + 12 ≤ room_1.slots) {x4 : Int32} (hK : ∀ μ2, K μ2 → V p l e room_1 s m args below meth c E 8 (cells + 2) (slots + 12) Q 1432 [(0, .ref b), (1, .ref (eAd E 0)), (2, .ref (eAd E 9)), (3, .ref (eAd E 76)), (4, .int x4)] [] μ2) (x5 : Int32) (y1 : Int32) (y2 : Int32) (μ : MemT) (h : tw_374 K xs L x4 x5 y1 y2 μ) : V p l e room_1 s m args below meth c E 8 (cells + 1) (slots + 6 * 1) Q 374 [(0, .ref b), (1, .ref (eAd E 0)), (2, .ref (eAd E 9)), (3, .ref (eAd E 76)), (4, .int x4), (5, .int x5)] [.int y2, .int y1, .ref (eAd E 9)] μ := by
  have C := CC.1
  unfold tw_374 at h
  obtain ⟨P1, hs, h⟩ := h
  refine v_callVi C 9 [.int y1, .int y2] (by decide) rfl rfl rfl (so_X9_turn y1 y2 μ P1 hs) gw_L_87 rfl rfl dd_X9_turn ⟨by decide, by decide⟩ rfl rfl (Nat.le_of_ble_eq_true rfl) ⟨Nat.le_trans (by omega) hcB, Nat.le_trans (by omega) hsB⟩ dL_law_374 (fun r4 μ2 q3 => ?_)
  replace h := h r4 μ2 q3
  refine v_istore C [(6, .int r4), (0, .ref b), (1, .ref (eAd E 0)), (2, .ref (eAd E 9)), (3, .ref (eAd E 76)), (4, .int x4), (5, .int x5)] (by decide) rfl dL_law_377 ?_
  refine v_aload_n C 3 rfl rfl dL_law_379 ?_
  obtain ⟨P5, hs, h⟩ := h
  refine v_callVi C 9 [] (by decide) rfl rfl rfl (so_X9_thrown μ2 P5 hs) gw_L_80 rfl rfl dd_X9_thrown ⟨by decide, by decide⟩ rfl rfl (Nat.le_of_ble_eq_true rfl) ⟨Nat.le_trans (by omega) hcB, Nat.le_trans (by omega) hsB⟩ dL_law_380 (fun r8 μ6 q7 => ?_)
  replace h := h r8 μ6 q7
  refine v_iload C 6 rfl dL_law_383 ?_
  refine v_icmp_eq C 390 (by decide) dL_law_385 (fun q12 => ?_) (fun q12 => ?_)
  · replace h := h.1 q12
    refine v_iload C 6 rfl dL_law_390 ?_
    refine v_if_ne C 407 (by decide) dL_law_392 (fun q11 => ?_) (fun q11 => ?_)
    · replace h := h.1 q11
      refine v_goto C 1432 (by decide) dL_law_407 ?_
      refine v_sub C [1, 2, 3, 4, 5] rfl ?_
      exact w_wid (by omega) (by omega) (hK _ h)
    · replace h := h.2 q11
      refine v_aload_n C 4 rfl rfl dL_law_395 ?_
      refine v_iconst (v := (0 : Int32)) C dL_law_396 (by decide) ?_
      obtain ⟨b9, h⟩ := h
      refine v_lald C 76 (by decide) rfl b9 dL_law_397 ?_
      refine v_iload C 0 rfl dL_law_398 ?_
      refine v_i2l C dL_law_400 ?_
      refine v_lcmp_eq C 407 (by decide) dL_law_401 dL_law_402 (fun q10 => ?_) (fun q10 => ?_)
      · replace h := h.1 q10
        refine v_goto C 1432 (by decide) dL_law_407 ?_
        refine v_sub C [1, 2, 3, 4, 5] rfl ?_
        exact w_wid (by omega) (by omega) (hK _ h)
      · replace h := h.2 q10
        refine v_iconst (v := (0 : Int32)) C dL_law_405 (by decide) ?_
        exact h.elim
  · replace h := h.2 q12
    refine v_iconst (v := (0 : Int32)) C dL_law_388 (by decide) ?_
    exact h.elim
set_option maxRecDepth 10000 in
set_option maxHeartbeats 4000000 in
theorem ow_347 {p : Program} {l : Launch} {e : Env} {s : State} {m : MethodId} {args : Array Value} {below : List Frame} {meth : Method} {c : Code} {E : EvT} {b L : Nat} {xs : Nat → Int32} {cells slots : Nat} {Q : State → Prop} {K : MemT → Prop} (CC : CW p l s m args meth c E b L xs) (hcB : cells + 2 ≤ room_1.cells) (hsB : slots + 12 ≤ room_1.slots) {x4 : Int32} (hK : ∀ μ2, K μ2 → V p l e room_1 s m args below meth c E 8 (cells + 2) (slots + 12) Q 1432 [(0, .ref b), (1, .ref (eAd E 0)), (2, .ref (eAd E 9)), (3, .ref (eAd E 76)), (4, .int x4)] [] μ2) (y1 : Int32) (y2 : Int32) (μ : MemT) (h : tw_347 K xs L x4 y1 y2 μ) : V p l e room_1 s m args below meth c E 8 cells slots Q 347 [(0, .ref b), (1, .ref (eAd E 0)), (2, .ref (eAd E 9)), (3, .ref (eAd E 76)), (4, .int x4)] [.int y2, .int y1, .ref (eAd E 0)] μ := by
  have C := CC.1
  unfold tw_347 at h
  refine v_aload_n C 3 rfl rfl dL_law_347 ?_
  obtain ⟨P1, hs0, h⟩ := h
  refine w_callS (kc := 1) CC [.ref (eAd E 0), .int y1, .int y2, .ref (eAd E 76)] (ol_L_turn CC.2.2.1 y1 y2 μ P1 hs0) gs_L_84 rfl rfl dl_L_turn ⟨by decide, by decide⟩ rfl rfl (Nat.le_of_ble_eq_true rfl) ⟨Nat.le_trans (by omega) hcB, Nat.le_trans (by omega) hsB⟩ dL_law_348 (fun r4 μ2 q3 => ?_)
  replace h := h r4 μ2 q3
  refine v_istore C [(5, .int r4), (0, .ref b), (1, .ref (eAd E 0)), (2, .ref (eAd E 9)), (3, .ref (eAd E 76)), (4, .int x4)] (by decide) rfl dL_law_351 ?_
  refine v_aload_n C 3 rfl rfl dL_law_353 ?_
  refine v_aload_n C 1 rfl rfl dL_law_354 ?_
  refine v_iload C 5 rfl dL_law_355 ?_
  refine v_iconst (v := (1 : Int32)) C dL_law_357 (by decide) ?_
  refine v_iadd C dL_law_358 ?_
  obtain ⟨b5, h⟩ := h
  refine w_sld CC b5 dL_law_359 ?_
  refine v_aload_n C 1 rfl rfl dL_law_360 ?_
  refine v_iload C 5 rfl dL_law_361 ?_
  refine v_iconst (v := (2 : Int32)) C dL_law_363 (by decide) ?_
  refine v_iadd C dL_law_364 ?_
  obtain ⟨b6, h⟩ := h
  refine w_sld CC b6 dL_law_365 ?_
  refine v_if_eq C 373 (by decide) dL_law_366 (fun q7 => ?_) (fun q7 => ?_)
  · replace h := h.1 q7
    refine v_iconst (v := (0 : Int32)) C dL_law_373 (by decide) ?_
    refine v_sub C [1, 2, 3, 4, 5, 0] rfl ?_
    exact ow_374 CC hcB hsB hK _ _ _ _ h
  · replace h := h.2 q7
    refine v_iconst (v := (1 : Int32)) C dL_law_369 (by decide) ?_
    refine v_goto C 374 (by decide) dL_law_370 ?_
    refine v_sub C [1, 2, 3, 4, 5, 0] rfl ?_
    exact ow_374 CC hcB hsB hK _ _ _ _ h
set_option maxRecDepth 10000 in
set_option maxHeartbeats 4000000 in
theorem ow_326 {p : Program} {l : Launch} {e : Env} {s : State} {m : MethodId} {args : Array Value} {below : List Frame} {meth : Method} {c : Code} {E : EvT} {b L : Nat} {xs : Nat → Int32} {cells slots : Nat} {Q : State → Prop} {K : MemT → Prop} (CC : CW p l s m args meth c E b L xs) (hcB : cells + 2 ≤ room_1.cells) (hsB : slots + 12 ≤ room_1.slots) {x4 : Int32} (hK : ∀ μ2, K μ2 → V p l e room_1 s m args below meth c E 8 (cells + 2) (slots + 12) Q 1432 [(0, .ref b), (1, .ref (eAd E 0)), (2, .ref (eAd E 9)), (3, .ref (eAd E 76)), (4, .int x4)] [] μ2) (μ : MemT) (h : tw_326 K xs L x4 μ) : V p l e room_1 s m args below meth c E 8 cells slots Q 326 [(0, .ref b), (1, .ref (eAd E 0)), (2, .ref (eAd E 9)), (3, .ref (eAd E 76)), (4, .int x4)] [] μ := by
  have C := CC.1
  unfold tw_326 at h
  refine v_aload_n C 1 rfl rfl dL_law_326 ?_
  refine v_aload_n C 0 rfl rfl dL_law_327 ?_
  refine v_iload C 4 rfl dL_law_328 ?_
  refine v_iconst (v := (1 : Int32)) C dL_law_330 (by decide) ?_
  refine v_iadd C dL_law_331 ?_
  obtain ⟨b1, h⟩ := h
  refine w_sld CC b1 dL_law_332 ?_
  refine v_aload_n C 0 rfl rfl dL_law_333 ?_
  refine v_iload C 4 rfl dL_law_334 ?_
  refine v_iconst (v := (2 : Int32)) C dL_law_336 (by decide) ?_
  refine v_iadd C dL_law_337 ?_
  obtain ⟨b2, h⟩ := h
  refine w_sld CC b2 dL_law_338 ?_
  refine v_if_eq C 346 (by decide) dL_law_339 (fun q3 => ?_) (fun q3 => ?_)
  · replace h := h.1 q3
    refine v_iconst (v := (0 : Int32)) C dL_law_346 (by decide) ?_
    exact ow_347 CC hcB hsB hK _ _ _ h
  · replace h := h.2 q3
    refine v_iconst (v := (1 : Int32)) C dL_law_342 (by decide) ?_
    refine v_goto C 347 (by decide) dL_law_343 ?_
    exact ow_347 CC hcB hsB hK _ _ _ h
set_option maxRecDepth 10000 in
set_option maxHeartbeats 4000000 in
theorem ow_120 {p : Program} {l : Launch} {e : Env} {s : State} {m : MethodId} {args : Array Value} {below : List Frame} {meth : Method} {c : Code} {E : EvT} {b L : Nat} {xs : Nat → Int32} {cells slots : Nat} {Q : State → Prop} {K : MemT → Prop} (CC : CW p l s m args meth c E b L xs) (hcB : cells + 2 ≤ room_1.cells) (hsB : slots + 12 ≤ room_1.slots) {x4 : Int32} (hK : ∀ μ2, K μ2 → V p l e room_1 s m args below meth c E 8 (cells + 2) (slots + 12) Q 1432 [(0, .ref b), (1, .ref (eAd E 0)), (2, .ref (eAd E 9)), (3, .ref (eAd E 76)), (4, .int x4)] [] μ2) (μ : MemT) (h : tw_120 K xs L x4 μ) : V p l e room_1 s m args below meth c E 8 cells slots Q 120 [(0, .ref b), (1, .ref (eAd E 0)), (2, .ref (eAd E 9)), (3, .ref (eAd E 76)), (4, .int x4)] [] μ := by
  have C := CC.1
  unfold tw_120 at h
  refine v_aload_n C 1 rfl rfl dL_law_120 ?_
  refine v_aload_n C 0 rfl rfl dL_law_121 ?_
  refine v_iload C 4 rfl dL_law_122 ?_
  refine v_iconst (v := (1 : Int32)) C dL_law_124 (by decide) ?_
  refine v_iadd C dL_law_125 ?_
  obtain ⟨b1, h⟩ := h
  refine w_sld CC b1 dL_law_126 ?_
  refine v_aload_n C 0 rfl rfl dL_law_127 ?_
  refine v_iload C 4 rfl dL_law_128 ?_
  refine v_iconst (v := (2 : Int32)) C dL_law_130 (by decide) ?_
  refine v_iadd C dL_law_131 ?_
  obtain ⟨b2, h⟩ := h
  refine w_sld CC b2 dL_law_132 ?_
  refine v_i2l C dL_law_133 ?_
  refine v_bipush (v := (32 : Int32)) C dL_law_134 (by decide) ?_
  refine v_lshl C dL_law_136 ?_
  refine v_aload_n C 0 rfl rfl dL_law_137 ?_
  refine v_iload C 4 rfl dL_law_138 ?_
  refine v_iconst (v := (3 : Int32)) C dL_law_140 (by decide) ?_
  refine v_iadd C dL_law_141 ?_
  obtain ⟨b3, h⟩ := h
  refine w_sld CC b3 dL_law_142 ?_
  refine v_i2l C dL_law_143 ?_
  refine v_ldc2 C gc_L_72 dL_law_144 ?_
  refine v_land C dL_law_147 ?_
  refine v_lor C dL_law_148 ?_
  refine v_aload_n C 0 rfl rfl dL_law_149 ?_
  refine v_iload C 4 rfl dL_law_150 ?_
  refine v_iconst (v := (4 : Int32)) C dL_law_152 (by decide) ?_
  refine v_iadd C dL_law_153 ?_
  obtain ⟨b4, h⟩ := h
  refine w_sld CC b4 dL_law_154 ?_
  refine v_i2l C dL_law_155 ?_
  refine v_bipush (v := (32 : Int32)) C dL_law_156 (by decide) ?_
  refine v_lshl C dL_law_158 ?_
  refine v_aload_n C 0 rfl rfl dL_law_159 ?_
  refine v_iload C 4 rfl dL_law_160 ?_
  refine v_iconst (v := (5 : Int32)) C dL_law_162 (by decide) ?_
  refine v_iadd C dL_law_163 ?_
  obtain ⟨b5, h⟩ := h
  refine w_sld CC b5 dL_law_164 ?_
  refine v_i2l C dL_law_165 ?_
  refine v_ldc2 C gc_L_72 dL_law_166 ?_
  refine v_land C dL_law_169 ?_
  refine v_lor C dL_law_170 ?_
  refine v_aload_n C 0 rfl rfl dL_law_171 ?_
  refine v_iload C 4 rfl dL_law_172 ?_
  refine v_bipush (v := (6 : Int32)) C dL_law_174 (by decide) ?_
  refine v_iadd C dL_law_176 ?_
  obtain ⟨b6, h⟩ := h
  refine w_sld CC b6 dL_law_177 ?_
  refine v_i2l C dL_law_178 ?_
  refine v_bipush (v := (32 : Int32)) C dL_law_179 (by decide) ?_
  refine v_lshl C dL_law_181 ?_
  refine v_aload_n C 0 rfl rfl dL_law_182 ?_
  refine v_iload C 4 rfl dL_law_183 ?_
  refine v_bipush (v := (7 : Int32)) C dL_law_185 (by decide) ?_
  refine v_iadd C dL_law_187 ?_
  obtain ⟨b7, h⟩ := h
  refine w_sld CC b7 dL_law_188 ?_
  refine v_i2l C dL_law_189 ?_
  refine v_ldc2 C gc_L_72 dL_law_190 ?_
  refine v_land C dL_law_193 ?_
  refine v_lor C dL_law_194 ?_
  refine v_aload_n C 0 rfl rfl dL_law_195 ?_
  refine v_iload C 4 rfl dL_law_196 ?_
  refine v_bipush (v := (8 : Int32)) C dL_law_198 (by decide) ?_
  refine v_iadd C dL_law_200 ?_
  obtain ⟨b8, h⟩ := h
  refine w_sld CC b8 dL_law_201 ?_
  refine v_aload_n C 3 rfl rfl dL_law_202 ?_
  obtain ⟨P9, hs0, h⟩ := h
  refine w_callS (kc := 1) CC [.ref (eAd E 0), .int (xs (x4 + (1 : Int32)).toNatClampNeg), .long (((xs (x4 + (2 : Int32)).toNatClampNeg).toInt64 <<< ((32 : Int32).toInt64 &&& 63)) ||| ((xs (x4 + (3 : Int32)).toNatClampNeg).toInt64 &&& (4294967295 : Int64))), .long (((xs (x4 + (4 : Int32)).toNatClampNeg).toInt64 <<< ((32 : Int32).toInt64 &&& 63)) ||| ((xs (x4 + (5 : Int32)).toNatClampNeg).toInt64 &&& (4294967295 : Int64))), .long (((xs (x4 + (6 : Int32)).toNatClampNeg).toInt64 <<< ((32 : Int32).toInt64 &&& 63)) ||| ((xs (x4 + (7 : Int32)).toNatClampNeg).toInt64 &&& (4294967295 : Int64))), .int (xs (x4 + (8 : Int32)).toNatClampNeg), .ref (eAd E 76)] (ol_L_sign CC.2.2.1 (xs (x4 + (1 : Int32)).toNatClampNeg) (((xs (x4 + (2 : Int32)).toNatClampNeg).toInt64 <<< ((32 : Int32).toInt64 &&& 63)) ||| ((xs (x4 + (3 : Int32)).toNatClampNeg).toInt64 &&& (4294967295 : Int64))) (((xs (x4 + (4 : Int32)).toNatClampNeg).toInt64 <<< ((32 : Int32).toInt64 &&& 63)) ||| ((xs (x4 + (5 : Int32)).toNatClampNeg).toInt64 &&& (4294967295 : Int64))) (((xs (x4 + (6 : Int32)).toNatClampNeg).toInt64 <<< ((32 : Int32).toInt64 &&& 63)) ||| ((xs (x4 + (7 : Int32)).toNatClampNeg).toInt64 &&& (4294967295 : Int64))) (xs (x4 + (8 : Int32)).toNatClampNeg) μ P9 hs0) gs_L_74 rfl rfl dl_L_sign ⟨by decide, by decide⟩ rfl rfl (Nat.le_of_ble_eq_true rfl) ⟨Nat.le_trans (by omega) hcB, Nat.le_trans (by omega) hsB⟩ dL_law_203 (fun r12 μ10 q11 => ?_)
  replace h := h r12 μ10 q11
  refine v_istore C [(5, .int r12), (0, .ref b), (1, .ref (eAd E 0)), (2, .ref (eAd E 9)), (3, .ref (eAd E 76)), (4, .int x4)] (by decide) rfl dL_law_206 ?_
  refine v_aload_n C 3 rfl rfl dL_law_208 ?_
  refine v_aload_n C 1 rfl rfl dL_law_209 ?_
  refine v_iload C 5 rfl dL_law_210 ?_
  refine v_iconst (v := (1 : Int32)) C dL_law_212 (by decide) ?_
  refine v_iadd C dL_law_213 ?_
  obtain ⟨b13, h⟩ := h
  refine w_sld CC b13 dL_law_214 ?_
  refine v_aload_n C 1 rfl rfl dL_law_215 ?_
  refine v_iload C 5 rfl dL_law_216 ?_
  refine v_iconst (v := (2 : Int32)) C dL_law_218 (by decide) ?_
  refine v_iadd C dL_law_219 ?_
  obtain ⟨b14, h⟩ := h
  refine w_sld CC b14 dL_law_220 ?_
  refine v_i2l C dL_law_221 ?_
  refine v_bipush (v := (32 : Int32)) C dL_law_222 (by decide) ?_
  refine v_lshl C dL_law_224 ?_
  refine v_aload_n C 1 rfl rfl dL_law_225 ?_
  refine v_iload C 5 rfl dL_law_226 ?_
  refine v_iconst (v := (3 : Int32)) C dL_law_228 (by decide) ?_
  refine v_iadd C dL_law_229 ?_
  obtain ⟨b15, h⟩ := h
  refine w_sld CC b15 dL_law_230 ?_
  refine v_i2l C dL_law_231 ?_
  refine v_ldc2 C gc_L_72 dL_law_232 ?_
  refine v_land C dL_law_235 ?_
  refine v_lor C dL_law_236 ?_
  refine v_aload_n C 1 rfl rfl dL_law_237 ?_
  refine v_iload C 5 rfl dL_law_238 ?_
  refine v_iconst (v := (4 : Int32)) C dL_law_240 (by decide) ?_
  refine v_iadd C dL_law_241 ?_
  obtain ⟨b16, h⟩ := h
  refine w_sld CC b16 dL_law_242 ?_
  refine v_i2l C dL_law_243 ?_
  refine v_bipush (v := (32 : Int32)) C dL_law_244 (by decide) ?_
  refine v_lshl C dL_law_246 ?_
  refine v_aload_n C 1 rfl rfl dL_law_247 ?_
  refine v_iload C 5 rfl dL_law_248 ?_
  refine v_iconst (v := (5 : Int32)) C dL_law_250 (by decide) ?_
  refine v_iadd C dL_law_251 ?_
  obtain ⟨b17, h⟩ := h
  refine w_sld CC b17 dL_law_252 ?_
  refine v_i2l C dL_law_253 ?_
  refine v_ldc2 C gc_L_72 dL_law_254 ?_
  refine v_land C dL_law_257 ?_
  refine v_lor C dL_law_258 ?_
  refine v_aload_n C 1 rfl rfl dL_law_259 ?_
  refine v_iload C 5 rfl dL_law_260 ?_
  refine v_bipush (v := (6 : Int32)) C dL_law_262 (by decide) ?_
  refine v_iadd C dL_law_264 ?_
  obtain ⟨b18, h⟩ := h
  refine w_sld CC b18 dL_law_265 ?_
  refine v_i2l C dL_law_266 ?_
  refine v_bipush (v := (32 : Int32)) C dL_law_267 (by decide) ?_
  refine v_lshl C dL_law_269 ?_
  refine v_aload_n C 1 rfl rfl dL_law_270 ?_
  refine v_iload C 5 rfl dL_law_271 ?_
  refine v_bipush (v := (7 : Int32)) C dL_law_273 (by decide) ?_
  refine v_iadd C dL_law_275 ?_
  obtain ⟨b19, h⟩ := h
  refine w_sld CC b19 dL_law_276 ?_
  refine v_i2l C dL_law_277 ?_
  refine v_ldc2 C gc_L_72 dL_law_278 ?_
  refine v_land C dL_law_281 ?_
  refine v_lor C dL_law_282 ?_
  refine v_aload_n C 1 rfl rfl dL_law_283 ?_
  refine v_iload C 5 rfl dL_law_284 ?_
  refine v_bipush (v := (8 : Int32)) C dL_law_286 (by decide) ?_
  refine v_iadd C dL_law_288 ?_
  obtain ⟨b20, h⟩ := h
  refine w_sld CC b20 dL_law_289 ?_
  obtain ⟨P21, hs, h⟩ := h
  refine v_callVi C 9 [.int (xs (x4 + (1 : Int32)).toNatClampNeg), .long (((xs (x4 + (2 : Int32)).toNatClampNeg).toInt64 <<< ((32 : Int32).toInt64 &&& 63)) ||| ((xs (x4 + (3 : Int32)).toNatClampNeg).toInt64 &&& (4294967295 : Int64))), .long (((xs (x4 + (4 : Int32)).toNatClampNeg).toInt64 <<< ((32 : Int32).toInt64 &&& 63)) ||| ((xs (x4 + (5 : Int32)).toNatClampNeg).toInt64 &&& (4294967295 : Int64))), .long (((xs (x4 + (6 : Int32)).toNatClampNeg).toInt64 <<< ((32 : Int32).toInt64 &&& 63)) ||| ((xs (x4 + (7 : Int32)).toNatClampNeg).toInt64 &&& (4294967295 : Int64))), .int (xs (x4 + (8 : Int32)).toNatClampNeg)] (by decide) rfl rfl rfl (so_X9_sign (xs (x4 + (1 : Int32)).toNatClampNeg) (((xs (x4 + (2 : Int32)).toNatClampNeg).toInt64 <<< ((32 : Int32).toInt64 &&& 63)) ||| ((xs (x4 + (3 : Int32)).toNatClampNeg).toInt64 &&& (4294967295 : Int64))) (((xs (x4 + (4 : Int32)).toNatClampNeg).toInt64 <<< ((32 : Int32).toInt64 &&& 63)) ||| ((xs (x4 + (5 : Int32)).toNatClampNeg).toInt64 &&& (4294967295 : Int64))) (((xs (x4 + (6 : Int32)).toNatClampNeg).toInt64 <<< ((32 : Int32).toInt64 &&& 63)) ||| ((xs (x4 + (7 : Int32)).toNatClampNeg).toInt64 &&& (4294967295 : Int64))) (xs (x4 + (8 : Int32)).toNatClampNeg) μ10 P21 hs) gw_L_79 rfl rfl dd_X9_sign ⟨by decide, by decide⟩ rfl rfl (Nat.le_of_ble_eq_true rfl) ⟨Nat.le_trans (by omega) hcB, Nat.le_trans (by omega) hsB⟩ dL_law_290 (fun r24 μ22 q23 => ?_)
  replace h := h r24 μ22 q23
  refine v_istore C [(6, .int r24), (5, .int r12), (0, .ref b), (1, .ref (eAd E 0)), (2, .ref (eAd E 9)), (3, .ref (eAd E 76)), (4, .int x4)] (by decide) rfl dL_law_293 ?_
  refine v_aload_n C 4 rfl rfl dL_law_295 ?_
  obtain ⟨P25, hs, h⟩ := h
  refine v_callVi C 9 [] (by decide) rfl rfl rfl (so_X9_thrown μ22 P25 hs) gw_L_80 rfl rfl dd_X9_thrown ⟨by decide, by decide⟩ rfl rfl (Nat.le_of_ble_eq_true rfl) ⟨Nat.le_trans (by omega) hcB, Nat.le_trans (by omega) hsB⟩ dL_law_296 (fun r28 μ26 q27 => ?_)
  replace h := h r28 μ26 q27
  refine v_iload C 1 rfl dL_law_299 ?_
  refine v_icmp_eq C 306 (by decide) dL_law_301 (fun q32 => ?_) (fun q32 => ?_)
  · replace h := h.1 q32
    refine v_iload C 1 rfl dL_law_306 ?_
    refine v_if_ne C 323 (by decide) dL_law_308 (fun q31 => ?_) (fun q31 => ?_)
    · replace h := h.1 q31
      refine v_goto C 1432 (by decide) dL_law_323 ?_
      refine v_sub C [2, 3, 4, 5, 6] rfl ?_
      exact w_wid (by omega) (by omega) (hK _ h)
    · replace h := h.2 q31
      refine v_aload_n C 5 rfl rfl dL_law_311 ?_
      refine v_iconst (v := (0 : Int32)) C dL_law_312 (by decide) ?_
      obtain ⟨b29, h⟩ := h
      refine v_lald C 76 (by decide) rfl b29 dL_law_313 ?_
      refine v_iload C 0 rfl dL_law_314 ?_
      refine v_i2l C dL_law_316 ?_
      refine v_lcmp_eq C 323 (by decide) dL_law_317 dL_law_318 (fun q30 => ?_) (fun q30 => ?_)
      · replace h := h.1 q30
        refine v_goto C 1432 (by decide) dL_law_323 ?_
        refine v_sub C [2, 3, 4, 5, 6] rfl ?_
        exact w_wid (by omega) (by omega) (hK _ h)
      · replace h := h.2 q30
        refine v_iconst (v := (0 : Int32)) C dL_law_321 (by decide) ?_
        exact h.elim
  · replace h := h.2 q32
    refine v_iconst (v := (0 : Int32)) C dL_law_304 (by decide) ?_
    exact h.elim
set_option maxRecDepth 10000 in
set_option maxHeartbeats 4000000 in
theorem ow_33 {p : Program} {l : Launch} {e : Env} {s : State} {m : MethodId} {args : Array Value} {below : List Frame} {meth : Method} {c : Code} {E : EvT} {b L : Nat} {xs : Nat → Int32} {cells slots : Nat} {Q : State → Prop} {K : MemT → Prop} (CC : CW p l s m args meth c E b L xs) (hcB : cells + 2 ≤ room_1.cells) (hsB : slots + 12 ≤ room_1.slots) {x4 : Int32} (hK : ∀ μ2, K μ2 → V p l e room_1 s m args below meth c E 8 (cells + 2) (slots + 12) Q 1432 [(0, .ref b), (1, .ref (eAd E 0)), (2, .ref (eAd E 9)), (3, .ref (eAd E 76)), (4, .int x4)] [] μ2) (μ : MemT) (h : tw_33 K xs L x4 μ) : V p l e room_1 s m args below meth c E 8 cells slots Q 33 [(0, .ref b), (1, .ref (eAd E 0)), (2, .ref (eAd E 9)), (3, .ref (eAd E 76)), (4, .int x4)] [] μ := by
  have C := CC.1
  unfold tw_33 at h
  refine v_aload_n C 0 rfl rfl dL_law_33 ?_
  refine v_iload C 4 rfl dL_law_34 ?_
  obtain ⟨b1, h⟩ := h
  refine w_sld CC b1 dL_law_36 ?_
  refine v_bipush (v := (15 : Int32)) C dL_law_37 (by decide) ?_
  refine v_iand C dL_law_39 ?_
  rcases and15 (xs x4.toNatClampNeg) with q | q | q | q | q | q | q | q | q | q | q | q | q | q | q | q
  · replace h := h.1 q
    rw [q]
    refine w_table CC (80) 120 (by decide) (by decide) (by decide) (by decide) dL_law_40 ?_
    exact ow_120 CC hcB hsB hK _ h
  · replace h := h.2.1 q
    rw [q]
    refine w_table CC (286) 326 (by decide) (by decide) (by decide) (by decide) dL_law_40 ?_
    exact ow_326 CC hcB hsB hK _ h
  · replace h := h.2.2.1 q
    rw [q]
    refine w_table CC (370) 410 (by decide) (by decide) (by decide) (by decide) dL_law_40 ?_
    exact ow_410 CC hcB hsB hK _ h
  · replace h := h.2.2.2.1 q
    rw [q]
    refine w_table CC (462) 502 (by decide) (by decide) (by decide) (by decide) dL_law_40 ?_
    exact ow_502 CC hcB hsB hK _ h
  · replace h := h.2.2.2.2.1 q
    rw [q]
    refine w_table CC (530) 570 (by decide) (by decide) (by decide) (by decide) dL_law_40 ?_
    exact ow_570 CC hcB hsB hK _ h
  · replace h := h.2.2.2.2.2.1 q
    rw [q]
    refine w_table CC (543) 583 (by decide) (by decide) (by decide) (by decide) dL_law_40 ?_
    exact ow_583 CC hcB hsB hK _ h
  · replace h := h.2.2.2.2.2.2.1 q
    rw [q]
    refine w_table CC (599) 639 (by decide) (by decide) (by decide) (by decide) dL_law_40 ?_
    exact ow_639 CC hcB hsB hK _ h
  · replace h := h.2.2.2.2.2.2.2.1 q
    rw [q]
    refine w_table CC (655) 695 (by decide) (by decide) (by decide) (by decide) dL_law_40 ?_
    exact ow_695 CC hcB hsB hK _ h
  · replace h := h.2.2.2.2.2.2.2.2.1 q
    rw [q]
    refine w_table CC (711) 751 (by decide) (by decide) (by decide) (by decide) dL_law_40 ?_
    exact ow_751 CC hcB hsB hK _ h
  · replace h := h.2.2.2.2.2.2.2.2.2.1 q
    rw [q]
    refine w_table CC (767) 807 (by decide) (by decide) (by decide) (by decide) dL_law_40 ?_
    exact ow_807 CC hcB hsB hK _ h
  · replace h := h.2.2.2.2.2.2.2.2.2.2.1 q
    rw [q]
    refine w_table CC (823) 863 (by decide) (by decide) (by decide) (by decide) dL_law_40 ?_
    exact ow_863 CC hcB hsB hK _ h
  · replace h := h.2.2.2.2.2.2.2.2.2.2.2.1 q
    rw [q]
    refine w_table CC (886) 926 (by decide) (by decide) (by decide) (by decide) dL_law_40 ?_
    exact ow_926 CC hcB hsB hK _ h
  · replace h := h.2.2.2.2.2.2.2.2.2.2.2.2.1 q
    rw [q]
    refine w_table CC (1017) 1057 (by decide) (by decide) (by decide) (by decide) dL_law_40 ?_
    exact ow_1057 CC hcB hsB hK _ h
  · replace h := h.2.2.2.2.2.2.2.2.2.2.2.2.2.1 q
    rw [q]
    refine w_table CC (1085) 1125 (by decide) (by decide) (by decide) (by decide) dL_law_40 ?_
    exact ow_1125 CC hcB hsB hK _ h
  · replace h := h.2.2.2.2.2.2.2.2.2.2.2.2.2.2.1 q
    rw [q]
    refine w_table CC (1141) 1181 (by decide) (by decide) (by decide) (by decide) dL_law_40 ?_
    exact ow_1181 CC hcB hsB hK _ h
  · replace h := h.2.2.2.2.2.2.2.2.2.2.2.2.2.2.2 q
    rw [q]
    refine w_table CC (1197) 1237 (by decide) (by decide) (by decide) (by decide) dL_law_40 ?_
    exact ow_1237 CC hcB hsB hK _ h
