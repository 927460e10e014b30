set_option maxHeartbeats 2000000 in
set_option maxRecDepth 100000 in
theorem ab_keep {p : Program} {l : Launch} {e : Env} {s : State} {m : MethodId} {args : Array Value} {below : List Frame} {meth : Method} {c : Code} {D : va_G} {cy : Nat → ClassId} {ad ad2 : Nat → Nat} {σ : Mem} {sz qa qm qb : Nat} {fa fm fb : Nat → Int32} {h N i : Nat} {zx zy : Int32} {j4 : Nat} {H : Heap} {locs : List Loc} {cells slots : Nat} {ls : Array Slot} (hst : l.stackTraces = false) (hj : inj31 ad) (hj2 : inj31 ad2) (hne : apart ad ad2) (hz : ∀ i, i < 31 → sz ≤ ad i) (hz2 : ∀ i, i < 31 → sz ≤ ad2 i) (C : ACtx p s m args meth c D cy sz) (hN9 : N + 30000 < 2000000000) (hO : OKs h N fa fm fb σ) (hi : i < 16) (hP : va_P D vwCl (X2 cy ad ad2 σ σ ++ [aW cy qa 64 fa, aW cy qm 48 fm, aW cy qb 6 fb]) H) (hD : va_D (Az sz) (X2 cy ad ad2 σ σ ++ [aW cy qa 64 fa, aW cy qm 48 fm, aW cy qb 6 fb])) (hS : va_S (Az sz) s.heap H locs) (hz9 : sz ≤ s.heap.size) (hc9 : cells ≤ 1) (hs9 : slots ≤ 6) (hl : lv_has ls 17 [(0, .ref (ad 0)), (1, .ref (ad2 0)), (2, .ref qa), (3, .ref qm), (4, .ref qb), (5, .int zx), (6, .int zy), (7, .int (nI j4)), (8, .int (nI i)), (9, .int (σ 1 i))]) : W p l e (headSpec wsL_acts ({ frames := 10, cells := 60, slots := 360, locals := 172 })).room s m args below meth c H locs cells slots (MQ below (QI 1 (fun H => ∃ (σ' : Mem) (fa' fm' fb' : Nat → Int32), va_P D vwCl (X2 cy ad ad2 σ' σ' ++ [aW cy qa 64 fa', aW cy qm 48 fm', aW cy qb 6 fb']) H ∧ OKs h (N + 70) fa' fm' fb' σ') (Az sz)) args s 60 360 (Az sz)) (F0 m 1315 ls []) := by
  obtain ⟨hx, hb, hr, hts, hown, hlocks, hml, hK, hxk⟩ := C
  refine W.widen (k := 1) (n := 6) hc9 hs9 ?_
  have hA : ∀ q : Nat, s.heap.size ≤ q → Az sz q := fun q hq => Nat.le_trans hz9 hq
  refine lv_iload hx hb dL_acts_1315 (lv_at hl 7 rfl) ?_
  refine lv_bipush (v := 22) hx hb dL_acts_1317 (by decide) ?_
  refine lv_icmp_ne (tgt := 1326) hx hb dL_acts_1319 (by decide) (fun c_1 => ?_) (fun c_1 => ?_)
  · refine lv_iconst (v := 0) hx hb dL_acts_1326 (by decide) ?_
    have hI := hO.1
    obtain ⟨s8, r8, n8, x1, x2, x3, x4, x5, x6, x7, x8, x9, x10, x11⟩ := hI.2.1 i hi
    obtain ⟨q8, q1, q2, q3⟩ := hI.2.2.1.2.1
    rcases (show s8 = 0 ∨ s8 = 1 ∨ s8 = 2 ∨ s8 = 3 ∨ s8 = 4 ∨ s8 = 5 ∨ s8 = 6 ∨ s8 = 7 by omega) with rfl | rfl | rfl | rfl | rfl | rfl | rfl | rfl
    · have xs : σ 1 i = 0 := x2
      rw [xs] at hl
      have hl : lv_has ls 17 [(0, .ref (ad 0)), (1, .ref (ad2 0)), (2, .ref qa), (3, .ref qm), (4, .ref qb), (5, .int zx), (6, .int zy), (7, .int (nI j4)), (8, .int (nI i)), (9, .int 0)] := hl
      refine lv_istore (lv' := [(10, .int 0), (0, .ref (ad 0)), (1, .ref (ad2 0)), (2, .ref qa), (3, .ref qm), (4, .ref qb), (5, .int zx), (6, .int zy), (7, .int (nI j4)), (8, .int (nI i)), (9, .int 0)]) hx hb dL_acts_1327 hl (by decide) rfl (fun ls hl => ?_)
      refine lv_iload hx hb dL_acts_1329 (lv_at hl 10 rfl) ?_
      refine lv_iload hx hb dL_acts_1331 (lv_at hl 0 rfl) ?_
      refine lv_if_eq (tgt := 1341) hx hb dL_acts_1333 (by decide) (fun c_2 => ?_) (fun c_2 => absurd ((by decide : (0 : Int32) = 0)) c_2)
      refine lv_bipush (v := 7) hx hb dL_acts_1341 (by decide) ?_
      refine lv_icmp_ne (tgt := 1350) hx hb dL_acts_1343 (by decide) (fun c_3 => ?_) (fun c_3 => absurd c_3 ((by decide : ¬ (0 : Int32) = 7)))
      refine lv_ldc (v := (-1000003)) hx hb hown (hts (.constant RL 47 (-1000003)) (by decide +kernel)) dL_acts_1350 ?_
      refine lv_istore (lv' := [(11, .int (-1000003)), (10, .int 0), (0, .ref (ad 0)), (1, .ref (ad2 0)), (2, .ref qa), (3, .ref qm), (4, .ref qb), (5, .int zx), (6, .int zy), (7, .int (nI j4)), (8, .int (nI i)), (9, .int 0)]) hx hb dL_acts_1352 hl (by decide) rfl (fun ls hl => ?_)
      refine lv_iload hx hb dL_acts_1354 (lv_at hl 1 rfl) ?_
      refine lv_if_eq (tgt := 1368) hx hb dL_acts_1356 (by decide) (fun c_4 => ?_) (fun c_4 => absurd ((by decide : (0 : Int32) = 0)) c_4)
      refine lv_aload_n hx hb dL_acts_1368 rfl (lv_at hl 2 rfl) ?_
      refine lv_iload hx hb dL_acts_1369 (lv_at hl 10 rfl) ?_
      obtain ⟨hTo, hTt⟩ := noT_D hD
      refine lMi (fun q ⟨j9, h1, h2⟩ => by rw [h2]; exact hz j9 h1) (vx_runSW (As := [.ref (ad 0), .int (nI i)]) (rest := []) ⟨hx, hb, hml, hown, hts⟩ (c_L_release l hst D cy ad hj σ sz (nI i) ((-1000003)) (by rw [(kL_2 hi (lit_ne (a := 0) (b := 7) x2 (by omega) (by omega) (by decide)))]; exact w13_2 _) σ (if_neg (by rw [(kL_2 hi (lit_ne (a := 0) (b := 7) x2 (by omega) (by omega) (by decide)))]; decide))) (vx_cwSW 2 hts gL_acts_L_release rfl rfl rfl (by decide +kernel) ⟨Nat.le_of_ble_eq_true rfl, Nat.le_of_ble_eq_true rfl⟩) ⟨cx_bl, cx_S hP.left.left hK Az_z hxk hS⟩ rfl rfl hl.1 rfl (lv_room (Nat.le_of_ble_eq_true rfl)) dL_acts_1371 ⟨by show _ ≤ 60; omega, by show _ ≤ 360; omega⟩) hS (fun H locs hPW hS hk1 => ?_)
      have hP := setO hne hTo hP hPW hk1
      refine W.eq (g2 := F0 m 1374 ls [.int (-1000003)]) rfl ?_
      refine lv_iload hx hb dL_acts_1374 (lv_at hl 0 rfl) ?_
      refine lv_icmp_ne (tgt := 1441) hx hb dL_acts_1376 (by decide) (fun c_5 => absurd ((by decide : (-1000003 : Int32) = -1000003)) c_5) (fun c_5 => ?_)
      refine lv_iload hx hb dL_acts_1379 (lv_at hl 1 rfl) ?_
      refine lv_if_eq (tgt := 1393) hx hb dL_acts_1381 (by decide) (fun c_6 => ?_) (fun c_6 => absurd ((by decide : (0 : Int32) = 0)) c_6)
      refine lv_aload_n hx hb dL_acts_1393 rfl (lv_at hl 3 rfl) ?_
      refine lv_iload hx hb dL_acts_1394 (lv_at hl 10 rfl) ?_
      refine lMi (fun q ⟨j9, h1, h2⟩ => by rw [h2]; exact hz2 j9 h1) (vx_runSW (As := [.ref (ad2 0), .int (nI i)]) (rest := []) ⟨hx, hb, hml, hown, hts⟩ (c_L_release l hst D cy ad2 hj2 σ sz (nI i) ((-1000003)) (by rw [(kL_2 hi (lit_ne (a := 0) (b := 7) x2 (by omega) (by omega) (by decide)))]; exact w13_2 _) σ (if_neg (by rw [(kL_2 hi (lit_ne (a := 0) (b := 7) x2 (by omega) (by omega) (by decide)))]; decide))) (vx_cwSW 2 hts gL_acts_L_release rfl rfl rfl (by decide +kernel) ⟨Nat.le_of_ble_eq_true rfl, Nat.le_of_ble_eq_true rfl⟩) ⟨cx_bl, cx_S hP.left.right hK Az_z hxk hS⟩ rfl rfl hl.1 rfl (lv_room (Nat.le_of_ble_eq_true rfl)) dL_acts_1396 ⟨by show _ ≤ 60; omega, by show _ ≤ 360; omega⟩) hS (fun H locs hPW hS hk1 => ?_)
      have hP := setT hne hTt hP hPW hk1
      refine W.eq (g2 := F0 m 1399 ls [.int (-1000003)]) rfl ?_
      refine lv_iload hx hb dL_acts_1399 (lv_at hl 0 rfl) ?_
      refine lv_icmp_ne (tgt := 1441) hx hb dL_acts_1401 (by decide) (fun c_7 => absurd ((by decide : (-1000003 : Int32) = -1000003)) c_7) (fun c_7 => ?_)
      refine lv_iload hx hb dL_acts_1404 (lv_at hl 0 rfl) ?_
      refine lv_if_lt (tgt := 1437) hx hb dL_acts_1406 (by decide) (fun c_8 => ?_) (fun c_8 => absurd ((by decide : (-1000003 : Int32) < 0)) c_8)
      refine lv_iconst (v := 1) hx hb dL_acts_1437 (by decide) ?_
      refine lv_goto (tgt := 1442) hx hb dL_acts_1438 (by decide) ?_
      refine W.widen (k := 60) (n := 360) (by omega) (by omega) ?_
      have hpo : OKs h (N + 70) fa fm fb σ := hO.le (by omega)
      exact W.zret (v := 1) hx hb hr rfl (fun t ht hW => ⟨⟨_, (), rfl, rfl, ⟨_, _, _, _, by rw [ht]; exact hP, hpo⟩⟩, hS.F ht⟩) hS.2.2 dL_acts_1442
    · have xs : σ 1 i = 1 := x2
      rw [xs] at hl
      have hl : lv_has ls 17 [(0, .ref (ad 0)), (1, .ref (ad2 0)), (2, .ref qa), (3, .ref qm), (4, .ref qb), (5, .int zx), (6, .int zy), (7, .int (nI j4)), (8, .int (nI i)), (9, .int 1)] := hl
      refine lv_istore (lv' := [(10, .int 0), (0, .ref (ad 0)), (1, .ref (ad2 0)), (2, .ref qa), (3, .ref qm), (4, .ref qb), (5, .int zx), (6, .int zy), (7, .int (nI j4)), (8, .int (nI i)), (9, .int 1)]) hx hb dL_acts_1327 hl (by decide) rfl (fun ls hl => ?_)
      refine lv_iload hx hb dL_acts_1329 (lv_at hl 10 rfl) ?_
      refine lv_iload hx hb dL_acts_1331 (lv_at hl 0 rfl) ?_
      refine lv_if_eq (tgt := 1341) hx hb dL_acts_1333 (by decide) (fun c_9 => ?_) (fun c_9 => absurd ((by decide : (0 : Int32) = 0)) c_9)
      refine lv_bipush (v := 7) hx hb dL_acts_1341 (by decide) ?_
      refine lv_icmp_ne (tgt := 1350) hx hb dL_acts_1343 (by decide) (fun c_10 => ?_) (fun c_10 => absurd c_10 ((by decide : ¬ (1 : Int32) = 7)))
      refine lv_ldc (v := (-1000003)) hx hb hown (hts (.constant RL 47 (-1000003)) (by decide +kernel)) dL_acts_1350 ?_
      refine lv_istore (lv' := [(11, .int (-1000003)), (10, .int 0), (0, .ref (ad 0)), (1, .ref (ad2 0)), (2, .ref qa), (3, .ref qm), (4, .ref qb), (5, .int zx), (6, .int zy), (7, .int (nI j4)), (8, .int (nI i)), (9, .int 1)]) hx hb dL_acts_1352 hl (by decide) rfl (fun ls hl => ?_)
      refine lv_iload hx hb dL_acts_1354 (lv_at hl 1 rfl) ?_
      refine lv_if_eq (tgt := 1368) hx hb dL_acts_1356 (by decide) (fun c_11 => ?_) (fun c_11 => absurd ((by decide : (0 : Int32) = 0)) c_11)
      refine lv_aload_n hx hb dL_acts_1368 rfl (lv_at hl 2 rfl) ?_
      refine lv_iload hx hb dL_acts_1369 (lv_at hl 10 rfl) ?_
      obtain ⟨hTo, hTt⟩ := noT_D hD
      refine lMi (fun q ⟨j9, h1, h2⟩ => by rw [h2]; exact hz j9 h1) (vx_runSW (As := [.ref (ad 0), .int (nI i)]) (rest := []) ⟨hx, hb, hml, hown, hts⟩ (c_L_release l hst D cy ad hj σ sz (nI i) ((-1000003)) (by rw [(kL_2 hi (lit_ne (a := 1) (b := 7) x2 (by omega) (by omega) (by decide)))]; exact w13_2 _) σ (if_neg (by rw [(kL_2 hi (lit_ne (a := 1) (b := 7) x2 (by omega) (by omega) (by decide)))]; decide))) (vx_cwSW 2 hts gL_acts_L_release rfl rfl rfl (by decide +kernel) ⟨Nat.le_of_ble_eq_true rfl, Nat.le_of_ble_eq_true rfl⟩) ⟨cx_bl, cx_S hP.left.left hK Az_z hxk hS⟩ rfl rfl hl.1 rfl (lv_room (Nat.le_of_ble_eq_true rfl)) dL_acts_1371 ⟨by show _ ≤ 60; omega, by show _ ≤ 360; omega⟩) hS (fun H locs hPW hS hk1 => ?_)
      have hP := setO hne hTo hP hPW hk1
      refine W.eq (g2 := F0 m 1374 ls [.int (-1000003)]) rfl ?_
      refine lv_iload hx hb dL_acts_1374 (lv_at hl 0 rfl) ?_
      refine lv_icmp_ne (tgt := 1441) hx hb dL_acts_1376 (by decide) (fun c_12 => absurd ((by decide : (-1000003 : Int32) = -1000003)) c_12) (fun c_12 => ?_)
      refine lv_iload hx hb dL_acts_1379 (lv_at hl 1 rfl) ?_
      refine lv_if_eq (tgt := 1393) hx hb dL_acts_1381 (by decide) (fun c_13 => ?_) (fun c_13 => absurd ((by decide : (0 : Int32) = 0)) c_13)
      refine lv_aload_n hx hb dL_acts_1393 rfl (lv_at hl 3 rfl) ?_
      refine lv_iload hx hb dL_acts_1394 (lv_at hl 10 rfl) ?_
      refine lMi (fun q ⟨j9, h1, h2⟩ => by rw [h2]; exact hz2 j9 h1) (vx_runSW (As := [.ref (ad2 0), .int (nI i)]) (rest := []) ⟨hx, hb, hml, hown, hts⟩ (c_L_release l hst D cy ad2 hj2 σ sz (nI i) ((-1000003)) (by rw [(kL_2 hi (lit_ne (a := 1) (b := 7) x2 (by omega) (by omega) (by decide)))]; exact w13_2 _) σ (if_neg (by rw [(kL_2 hi (lit_ne (a := 1) (b := 7) x2 (by omega) (by omega) (by decide)))]; decide))) (vx_cwSW 2 hts gL_acts_L_release rfl rfl rfl (by decide +kernel) ⟨Nat.le_of_ble_eq_true rfl, Nat.le_of_ble_eq_true rfl⟩) ⟨cx_bl, cx_S hP.left.right hK Az_z hxk hS⟩ rfl rfl hl.1 rfl (lv_room (Nat.le_of_ble_eq_true rfl)) dL_acts_1396 ⟨by show _ ≤ 60; omega, by show _ ≤ 360; omega⟩) hS (fun H locs hPW hS hk1 => ?_)
      have hP := setT hne hTt hP hPW hk1
      refine W.eq (g2 := F0 m 1399 ls [.int (-1000003)]) rfl ?_
      refine lv_iload hx hb dL_acts_1399 (lv_at hl 0 rfl) ?_
      refine lv_icmp_ne (tgt := 1441) hx hb dL_acts_1401 (by decide) (fun c_14 => absurd ((by decide : (-1000003 : Int32) = -1000003)) c_14) (fun c_14 => ?_)
      refine lv_iload hx hb dL_acts_1404 (lv_at hl 0 rfl) ?_
      refine lv_if_lt (tgt := 1437) hx hb dL_acts_1406 (by decide) (fun c_15 => ?_) (fun c_15 => absurd ((by decide : (-1000003 : Int32) < 0)) c_15)
      refine lv_iconst (v := 1) hx hb dL_acts_1437 (by decide) ?_
      refine lv_goto (tgt := 1442) hx hb dL_acts_1438 (by decide) ?_
      refine W.widen (k := 60) (n := 360) (by omega) (by omega) ?_
      have hpo : OKs h (N + 70) fa fm fb σ := hO.le (by omega)
      exact W.zret (v := 1) hx hb hr rfl (fun t ht hW => ⟨⟨_, (), rfl, rfl, ⟨_, _, _, _, by rw [ht]; exact hP, hpo⟩⟩, hS.F ht⟩) hS.2.2 dL_acts_1442
    · have xs : σ 1 i = 2 := x2
      rw [xs] at hl
      have hl : lv_has ls 17 [(0, .ref (ad 0)), (1, .ref (ad2 0)), (2, .ref qa), (3, .ref qm), (4, .ref qb), (5, .int zx), (6, .int zy), (7, .int (nI j4)), (8, .int (nI i)), (9, .int 2)] := hl
      refine lv_istore (lv' := [(10, .int 0), (0, .ref (ad 0)), (1, .ref (ad2 0)), (2, .ref qa), (3, .ref qm), (4, .ref qb), (5, .int zx), (6, .int zy), (7, .int (nI j4)), (8, .int (nI i)), (9, .int 2)]) hx hb dL_acts_1327 hl (by decide) rfl (fun ls hl => ?_)
      refine lv_iload hx hb dL_acts_1329 (lv_at hl 10 rfl) ?_
      refine lv_iload hx hb dL_acts_1331 (lv_at hl 0 rfl) ?_
      refine lv_if_eq (tgt := 1341) hx hb dL_acts_1333 (by decide) (fun c_16 => ?_) (fun c_16 => absurd ((by decide : (0 : Int32) = 0)) c_16)
      refine lv_bipush (v := 7) hx hb dL_acts_1341 (by decide) ?_
      refine lv_icmp_ne (tgt := 1350) hx hb dL_acts_1343 (by decide) (fun c_17 => ?_) (fun c_17 => absurd c_17 ((by decide : ¬ (2 : Int32) = 7)))
      refine lv_ldc (v := (-1000003)) hx hb hown (hts (.constant RL 47 (-1000003)) (by decide +kernel)) dL_acts_1350 ?_
      refine lv_istore (lv' := [(11, .int (-1000003)), (10, .int 0), (0, .ref (ad 0)), (1, .ref (ad2 0)), (2, .ref qa), (3, .ref qm), (4, .ref qb), (5, .int zx), (6, .int zy), (7, .int (nI j4)), (8, .int (nI i)), (9, .int 2)]) hx hb dL_acts_1352 hl (by decide) rfl (fun ls hl => ?_)
      refine lv_iload hx hb dL_acts_1354 (lv_at hl 1 rfl) ?_
      refine lv_if_eq (tgt := 1368) hx hb dL_acts_1356 (by decide) (fun c_18 => ?_) (fun c_18 => absurd ((by decide : (0 : Int32) = 0)) c_18)
      refine lv_aload_n hx hb dL_acts_1368 rfl (lv_at hl 2 rfl) ?_
      refine lv_iload hx hb dL_acts_1369 (lv_at hl 10 rfl) ?_
      obtain ⟨hTo, hTt⟩ := noT_D hD
      refine lMi (fun q ⟨j9, h1, h2⟩ => by rw [h2]; exact hz j9 h1) (vx_runSW (As := [.ref (ad 0), .int (nI i)]) (rest := []) ⟨hx, hb, hml, hown, hts⟩ (c_L_release l hst D cy ad hj σ sz (nI i) ((-1000003)) (by rw [(kL_2 hi (lit_ne (a := 2) (b := 7) x2 (by omega) (by omega) (by decide)))]; exact w13_2 _) σ (if_neg (by rw [(kL_2 hi (lit_ne (a := 2) (b := 7) x2 (by omega) (by omega) (by decide)))]; decide))) (vx_cwSW 2 hts gL_acts_L_release rfl rfl rfl (by decide +kernel) ⟨Nat.le_of_ble_eq_true rfl, Nat.le_of_ble_eq_true rfl⟩) ⟨cx_bl, cx_S hP.left.left hK Az_z hxk hS⟩ rfl rfl hl.1 rfl (lv_room (Nat.le_of_ble_eq_true rfl)) dL_acts_1371 ⟨by show _ ≤ 60; omega, by show _ ≤ 360; omega⟩) hS (fun H locs hPW hS hk1 => ?_)
      have hP := setO hne hTo hP hPW hk1
      refine W.eq (g2 := F0 m 1374 ls [.int (-1000003)]) rfl ?_
      refine lv_iload hx hb dL_acts_1374 (lv_at hl 0 rfl) ?_
      refine lv_icmp_ne (tgt := 1441) hx hb dL_acts_1376 (by decide) (fun c_19 => absurd ((by decide : (-1000003 : Int32) = -1000003)) c_19) (fun c_19 => ?_)
      refine lv_iload hx hb dL_acts_1379 (lv_at hl 1 rfl) ?_
      refine lv_if_eq (tgt := 1393) hx hb dL_acts_1381 (by decide) (fun c_20 => ?_) (fun c_20 => absurd ((by decide : (0 : Int32) = 0)) c_20)
      refine lv_aload_n hx hb dL_acts_1393 rfl (lv_at hl 3 rfl) ?_
      refine lv_iload hx hb dL_acts_1394 (lv_at hl 10 rfl) ?_
      refine lMi (fun q ⟨j9, h1, h2⟩ => by rw [h2]; exact hz2 j9 h1) (vx_runSW (As := [.ref (ad2 0), .int (nI i)]) (rest := []) ⟨hx, hb, hml, hown, hts⟩ (c_L_release l hst D cy ad2 hj2 σ sz (nI i) ((-1000003)) (by rw [(kL_2 hi (lit_ne (a := 2) (b := 7) x2 (by omega) (by omega) (by decide)))]; exact w13_2 _) σ (if_neg (by rw [(kL_2 hi (lit_ne (a := 2) (b := 7) x2 (by omega) (by omega) (by decide)))]; decide))) (vx_cwSW 2 hts gL_acts_L_release rfl rfl rfl (by decide +kernel) ⟨Nat.le_of_ble_eq_true rfl, Nat.le_of_ble_eq_true rfl⟩) ⟨cx_bl, cx_S hP.left.right hK Az_z hxk hS⟩ rfl rfl hl.1 rfl (lv_room (Nat.le_of_ble_eq_true rfl)) dL_acts_1396 ⟨by show _ ≤ 60; omega, by show _ ≤ 360; omega⟩) hS (fun H locs hPW hS hk1 => ?_)
      have hP := setT hne hTt hP hPW hk1
      refine W.eq (g2 := F0 m 1399 ls [.int (-1000003)]) rfl ?_
      refine lv_iload hx hb dL_acts_1399 (lv_at hl 0 rfl) ?_
      refine lv_icmp_ne (tgt := 1441) hx hb dL_acts_1401 (by decide) (fun c_21 => absurd ((by decide : (-1000003 : Int32) = -1000003)) c_21) (fun c_21 => ?_)
      refine lv_iload hx hb dL_acts_1404 (lv_at hl 0 rfl) ?_
      refine lv_if_lt (tgt := 1437) hx hb dL_acts_1406 (by decide) (fun c_22 => ?_) (fun c_22 => absurd ((by decide : (-1000003 : Int32) < 0)) c_22)
      refine lv_iconst (v := 1) hx hb dL_acts_1437 (by decide) ?_
      refine lv_goto (tgt := 1442) hx hb dL_acts_1438 (by decide) ?_
      refine W.widen (k := 60) (n := 360) (by omega) (by omega) ?_
      have hpo : OKs h (N + 70) fa fm fb σ := hO.le (by omega)
      exact W.zret (v := 1) hx hb hr rfl (fun t ht hW => ⟨⟨_, (), rfl, rfl, ⟨_, _, _, _, by rw [ht]; exact hP, hpo⟩⟩, hS.F ht⟩) hS.2.2 dL_acts_1442
    · have xs : σ 1 i = 3 := x2
      rw [xs] at hl
      have hl : lv_has ls 17 [(0, .ref (ad 0)), (1, .ref (ad2 0)), (2, .ref qa), (3, .ref qm), (4, .ref qb), (5, .int zx), (6, .int zy), (7, .int (nI j4)), (8, .int (nI i)), (9, .int 3)] := hl
      refine lv_istore (lv' := [(10, .int 0), (0, .ref (ad 0)), (1, .ref (ad2 0)), (2, .ref qa), (3, .ref qm), (4, .ref qb), (5, .int zx), (6, .int zy), (7, .int (nI j4)), (8, .int (nI i)), (9, .int 3)]) hx hb dL_acts_1327 hl (by decide) rfl (fun ls hl => ?_)
      refine lv_iload hx hb dL_acts_1329 (lv_at hl 10 rfl) ?_
      refine lv_iload hx hb dL_acts_1331 (lv_at hl 0 rfl) ?_
      refine lv_if_eq (tgt := 1341) hx hb dL_acts_1333 (by decide) (fun c_23 => ?_) (fun c_23 => absurd ((by decide : (0 : Int32) = 0)) c_23)
      refine lv_bipush (v := 7) hx hb dL_acts_1341 (by decide) ?_
      refine lv_icmp_ne (tgt := 1350) hx hb dL_acts_1343 (by decide) (fun c_24 => ?_) (fun c_24 => absurd c_24 ((by decide : ¬ (3 : Int32) = 7)))
      refine lv_ldc (v := (-1000003)) hx hb hown (hts (.constant RL 47 (-1000003)) (by decide +kernel)) dL_acts_1350 ?_
      refine lv_istore (lv' := [(11, .int (-1000003)), (10, .int 0), (0, .ref (ad 0)), (1, .ref (ad2 0)), (2, .ref qa), (3, .ref qm), (4, .ref qb), (5, .int zx), (6, .int zy), (7, .int (nI j4)), (8, .int (nI i)), (9, .int 3)]) hx hb dL_acts_1352 hl (by decide) rfl (fun ls hl => ?_)
      refine lv_iload hx hb dL_acts_1354 (lv_at hl 1 rfl) ?_
      refine lv_if_eq (tgt := 1368) hx hb dL_acts_1356 (by decide) (fun c_25 => ?_) (fun c_25 => absurd ((by decide : (0 : Int32) = 0)) c_25)
      refine lv_aload_n hx hb dL_acts_1368 rfl (lv_at hl 2 rfl) ?_
      refine lv_iload hx hb dL_acts_1369 (lv_at hl 10 rfl) ?_
      obtain ⟨hTo, hTt⟩ := noT_D hD
      refine lMi (fun q ⟨j9, h1, h2⟩ => by rw [h2]; exact hz j9 h1) (vx_runSW (As := [.ref (ad 0), .int (nI i)]) (rest := []) ⟨hx, hb, hml, hown, hts⟩ (c_L_release l hst D cy ad hj σ sz (nI i) ((-1000003)) (by rw [(kL_2 hi (lit_ne (a := 3) (b := 7) x2 (by omega) (by omega) (by decide)))]; exact w13_2 _) σ (if_neg (by rw [(kL_2 hi (lit_ne (a := 3) (b := 7) x2 (by omega) (by omega) (by decide)))]; decide))) (vx_cwSW 2 hts gL_acts_L_release rfl rfl rfl (by decide +kernel) ⟨Nat.le_of_ble_eq_true rfl, Nat.le_of_ble_eq_true rfl⟩) ⟨cx_bl, cx_S hP.left.left hK Az_z hxk hS⟩ rfl rfl hl.1 rfl (lv_room (Nat.le_of_ble_eq_true rfl)) dL_acts_1371 ⟨by show _ ≤ 60; omega, by show _ ≤ 360; omega⟩) hS (fun H locs hPW hS hk1 => ?_)
      have hP := setO hne hTo hP hPW hk1
      refine W.eq (g2 := F0 m 1374 ls [.int (-1000003)]) rfl ?_
      refine lv_iload hx hb dL_acts_1374 (lv_at hl 0 rfl) ?_
      refine lv_icmp_ne (tgt := 1441) hx hb dL_acts_1376 (by decide) (fun c_26 => absurd ((by decide : (-1000003 : Int32) = -1000003)) c_26) (fun c_26 => ?_)
      refine lv_iload hx hb dL_acts_1379 (lv_at hl 1 rfl) ?_
      refine lv_if_eq (tgt := 1393) hx hb dL_acts_1381 (by decide) (fun c_27 => ?_) (fun c_27 => absurd ((by decide : (0 : Int32) = 0)) c_27)
      refine lv_aload_n hx hb dL_acts_1393 rfl (lv_at hl 3 rfl) ?_
      refine lv_iload hx hb dL_acts_1394 (lv_at hl 10 rfl) ?_
      refine lMi (fun q ⟨j9, h1, h2⟩ => by rw [h2]; exact hz2 j9 h1) (vx_runSW (As := [.ref (ad2 0), .int (nI i)]) (rest := []) ⟨hx, hb, hml, hown, hts⟩ (c_L_release l hst D cy ad2 hj2 σ sz (nI i) ((-1000003)) (by rw [(kL_2 hi (lit_ne (a := 3) (b := 7) x2 (by omega) (by omega) (by decide)))]; exact w13_2 _) σ (if_neg (by rw [(kL_2 hi (lit_ne (a := 3) (b := 7) x2 (by omega) (by omega) (by decide)))]; decide))) (vx_cwSW 2 hts gL_acts_L_release rfl rfl rfl (by decide +kernel) ⟨Nat.le_of_ble_eq_true rfl, Nat.le_of_ble_eq_true rfl⟩) ⟨cx_bl, cx_S hP.left.right hK Az_z hxk hS⟩ rfl rfl hl.1 rfl (lv_room (Nat.le_of_ble_eq_true rfl)) dL_acts_1396 ⟨by show _ ≤ 60; omega, by show _ ≤ 360; omega⟩) hS (fun H locs hPW hS hk1 => ?_)
      have hP := setT hne hTt hP hPW hk1
      refine W.eq (g2 := F0 m 1399 ls [.int (-1000003)]) rfl ?_
      refine lv_iload hx hb dL_acts_1399 (lv_at hl 0 rfl) ?_
      refine lv_icmp_ne (tgt := 1441) hx hb dL_acts_1401 (by decide) (fun c_28 => absurd ((by decide : (-1000003 : Int32) = -1000003)) c_28) (fun c_28 => ?_)
      refine lv_iload hx hb dL_acts_1404 (lv_at hl 0 rfl) ?_
      refine lv_if_lt (tgt := 1437) hx hb dL_acts_1406 (by decide) (fun c_29 => ?_) (fun c_29 => absurd ((by decide : (-1000003 : Int32) < 0)) c_29)
      refine lv_iconst (v := 1) hx hb dL_acts_1437 (by decide) ?_
      refine lv_goto (tgt := 1442) hx hb dL_acts_1438 (by decide) ?_
      refine W.widen (k := 60) (n := 360) (by omega) (by omega) ?_
      have hpo : OKs h (N + 70) fa fm fb σ := hO.le (by omega)
      exact W.zret (v := 1) hx hb hr rfl (fun t ht hW => ⟨⟨_, (), rfl, rfl, ⟨_, _, _, _, by rw [ht]; exact hP, hpo⟩⟩, hS.F ht⟩) hS.2.2 dL_acts_1442
    · have xs : σ 1 i = 4 := x2
      rw [xs] at hl
      have hl : lv_has ls 17 [(0, .ref (ad 0)), (1, .ref (ad2 0)), (2, .ref qa), (3, .ref qm), (4, .ref qb), (5, .int zx), (6, .int zy), (7, .int (nI j4)), (8, .int (nI i)), (9, .int 4)] := hl
      refine lv_istore (lv' := [(10, .int 0), (0, .ref (ad 0)), (1, .ref (ad2 0)), (2, .ref qa), (3, .ref qm), (4, .ref qb), (5, .int zx), (6, .int zy), (7, .int (nI j4)), (8, .int (nI i)), (9, .int 4)]) hx hb dL_acts_1327 hl (by decide) rfl (fun ls hl => ?_)
      refine lv_iload hx hb dL_acts_1329 (lv_at hl 10 rfl) ?_
      refine lv_iload hx hb dL_acts_1331 (lv_at hl 0 rfl) ?_
      refine lv_if_eq (tgt := 1341) hx hb dL_acts_1333 (by decide) (fun c_30 => ?_) (fun c_30 => absurd ((by decide : (0 : Int32) = 0)) c_30)
      refine lv_bipush (v := 7) hx hb dL_acts_1341 (by decide) ?_
      refine lv_icmp_ne (tgt := 1350) hx hb dL_acts_1343 (by decide) (fun c_31 => ?_) (fun c_31 => absurd c_31 ((by decide : ¬ (4 : Int32) = 7)))
      refine lv_ldc (v := (-1000003)) hx hb hown (hts (.constant RL 47 (-1000003)) (by decide +kernel)) dL_acts_1350 ?_
      refine lv_istore (lv' := [(11, .int (-1000003)), (10, .int 0), (0, .ref (ad 0)), (1, .ref (ad2 0)), (2, .ref qa), (3, .ref qm), (4, .ref qb), (5, .int zx), (6, .int zy), (7, .int (nI j4)), (8, .int (nI i)), (9, .int 4)]) hx hb dL_acts_1352 hl (by decide) rfl (fun ls hl => ?_)
      refine lv_iload hx hb dL_acts_1354 (lv_at hl 1 rfl) ?_
      refine lv_if_eq (tgt := 1368) hx hb dL_acts_1356 (by decide) (fun c_32 => ?_) (fun c_32 => absurd ((by decide : (0 : Int32) = 0)) c_32)
      refine lv_aload_n hx hb dL_acts_1368 rfl (lv_at hl 2 rfl) ?_
      refine lv_iload hx hb dL_acts_1369 (lv_at hl 10 rfl) ?_
      obtain ⟨hTo, hTt⟩ := noT_D hD
      refine lMi (fun q ⟨j9, h1, h2⟩ => by rw [h2]; exact hz j9 h1) (vx_runSW (As := [.ref (ad 0), .int (nI i)]) (rest := []) ⟨hx, hb, hml, hown, hts⟩ (c_L_release l hst D cy ad hj σ sz (nI i) ((-1000003)) (by rw [(kL_2 hi (lit_ne (a := 4) (b := 7) x2 (by omega) (by omega) (by decide)))]; exact w13_2 _) σ (if_neg (by rw [(kL_2 hi (lit_ne (a := 4) (b := 7) x2 (by omega) (by omega) (by decide)))]; decide))) (vx_cwSW 2 hts gL_acts_L_release rfl rfl rfl (by decide +kernel) ⟨Nat.le_of_ble_eq_true rfl, Nat.le_of_ble_eq_true rfl⟩) ⟨cx_bl, cx_S hP.left.left hK Az_z hxk hS⟩ rfl rfl hl.1 rfl (lv_room (Nat.le_of_ble_eq_true rfl)) dL_acts_1371 ⟨by show _ ≤ 60; omega, by show _ ≤ 360; omega⟩) hS (fun H locs hPW hS hk1 => ?_)
      have hP := setO hne hTo hP hPW hk1
      refine W.eq (g2 := F0 m 1374 ls [.int (-1000003)]) rfl ?_
      refine lv_iload hx hb dL_acts_1374 (lv_at hl 0 rfl) ?_
      refine lv_icmp_ne (tgt := 1441) hx hb dL_acts_1376 (by decide) (fun c_33 => absurd ((by decide : (-1000003 : Int32) = -1000003)) c_33) (fun c_33 => ?_)
      refine lv_iload hx hb dL_acts_1379 (lv_at hl 1 rfl) ?_
      refine lv_if_eq (tgt := 1393) hx hb dL_acts_1381 (by decide) (fun c_34 => ?_) (fun c_34 => absurd ((by decide : (0 : Int32) = 0)) c_34)
      refine lv_aload_n hx hb dL_acts_1393 rfl (lv_at hl 3 rfl) ?_
      refine lv_iload hx hb dL_acts_1394 (lv_at hl 10 rfl) ?_
      refine lMi (fun q ⟨j9, h1, h2⟩ => by rw [h2]; exact hz2 j9 h1) (vx_runSW (As := [.ref (ad2 0), .int (nI i)]) (rest := []) ⟨hx, hb, hml, hown, hts⟩ (c_L_release l hst D cy ad2 hj2 σ sz (nI i) ((-1000003)) (by rw [(kL_2 hi (lit_ne (a := 4) (b := 7) x2 (by omega) (by omega) (by decide)))]; exact w13_2 _) σ (if_neg (by rw [(kL_2 hi (lit_ne (a := 4) (b := 7) x2 (by omega) (by omega) (by decide)))]; decide))) (vx_cwSW 2 hts gL_acts_L_release rfl rfl rfl (by decide +kernel) ⟨Nat.le_of_ble_eq_true rfl, Nat.le_of_ble_eq_true rfl⟩) ⟨cx_bl, cx_S hP.left.right hK Az_z hxk hS⟩ rfl rfl hl.1 rfl (lv_room (Nat.le_of_ble_eq_true rfl)) dL_acts_1396 ⟨by show _ ≤ 60; omega, by show _ ≤ 360; omega⟩) hS (fun H locs hPW hS hk1 => ?_)
      have hP := setT hne hTt hP hPW hk1
      refine W.eq (g2 := F0 m 1399 ls [.int (-1000003)]) rfl ?_
      refine lv_iload hx hb dL_acts_1399 (lv_at hl 0 rfl) ?_
      refine lv_icmp_ne (tgt := 1441) hx hb dL_acts_1401 (by decide) (fun c_35 => absurd ((by decide : (-1000003 : Int32) = -1000003)) c_35) (fun c_35 => ?_)
      refine lv_iload hx hb dL_acts_1404 (lv_at hl 0 rfl) ?_
      refine lv_if_lt (tgt := 1437) hx hb dL_acts_1406 (by decide) (fun c_36 => ?_) (fun c_36 => absurd ((by decide : (-1000003 : Int32) < 0)) c_36)
      refine lv_iconst (v := 1) hx hb dL_acts_1437 (by decide) ?_
      refine lv_goto (tgt := 1442) hx hb dL_acts_1438 (by decide) ?_
      refine W.widen (k := 60) (n := 360) (by omega) (by omega) ?_
      have hpo : OKs h (N + 70) fa fm fb σ := hO.le (by omega)
      exact W.zret (v := 1) hx hb hr rfl (fun t ht hW => ⟨⟨_, (), rfl, rfl, ⟨_, _, _, _, by rw [ht]; exact hP, hpo⟩⟩, hS.F ht⟩) hS.2.2 dL_acts_1442
    · have xs : σ 1 i = 5 := x2
      rw [xs] at hl
      have hl : lv_has ls 17 [(0, .ref (ad 0)), (1, .ref (ad2 0)), (2, .ref qa), (3, .ref qm), (4, .ref qb), (5, .int zx), (6, .int zy), (7, .int (nI j4)), (8, .int (nI i)), (9, .int 5)] := hl
      refine lv_istore (lv' := [(10, .int 0), (0, .ref (ad 0)), (1, .ref (ad2 0)), (2, .ref qa), (3, .ref qm), (4, .ref qb), (5, .int zx), (6, .int zy), (7, .int (nI j4)), (8, .int (nI i)), (9, .int 5)]) hx hb dL_acts_1327 hl (by decide) rfl (fun ls hl => ?_)
      refine lv_iload hx hb dL_acts_1329 (lv_at hl 10 rfl) ?_
      refine lv_iload hx hb dL_acts_1331 (lv_at hl 0 rfl) ?_
      refine lv_if_eq (tgt := 1341) hx hb dL_acts_1333 (by decide) (fun c_37 => ?_) (fun c_37 => absurd ((by decide : (0 : Int32) = 0)) c_37)
      refine lv_bipush (v := 7) hx hb dL_acts_1341 (by decide) ?_
      refine lv_icmp_ne (tgt := 1350) hx hb dL_acts_1343 (by decide) (fun c_38 => ?_) (fun c_38 => absurd c_38 ((by decide : ¬ (5 : Int32) = 7)))
      refine lv_ldc (v := (-1000003)) hx hb hown (hts (.constant RL 47 (-1000003)) (by decide +kernel)) dL_acts_1350 ?_
      refine lv_istore (lv' := [(11, .int (-1000003)), (10, .int 0), (0, .ref (ad 0)), (1, .ref (ad2 0)), (2, .ref qa), (3, .ref qm), (4, .ref qb), (5, .int zx), (6, .int zy), (7, .int (nI j4)), (8, .int (nI i)), (9, .int 5)]) hx hb dL_acts_1352 hl (by decide) rfl (fun ls hl => ?_)
      refine lv_iload hx hb dL_acts_1354 (lv_at hl 1 rfl) ?_
      refine lv_if_eq (tgt := 1368) hx hb dL_acts_1356 (by decide) (fun c_39 => ?_) (fun c_39 => absurd ((by decide : (0 : Int32) = 0)) c_39)
      refine lv_aload_n hx hb dL_acts_1368 rfl (lv_at hl 2 rfl) ?_
      refine lv_iload hx hb dL_acts_1369 (lv_at hl 10 rfl) ?_
      obtain ⟨hTo, hTt⟩ := noT_D hD
      refine lMi (fun q ⟨j9, h1, h2⟩ => by rw [h2]; exact hz j9 h1) (vx_runSW (As := [.ref (ad 0), .int (nI i)]) (rest := []) ⟨hx, hb, hml, hown, hts⟩ (c_L_release l hst D cy ad hj σ sz (nI i) ((-1000003)) (by rw [(kL_2 hi (lit_ne (a := 5) (b := 7) x2 (by omega) (by omega) (by decide)))]; exact w13_2 _) σ (if_neg (by rw [(kL_2 hi (lit_ne (a := 5) (b := 7) x2 (by omega) (by omega) (by decide)))]; decide))) (vx_cwSW 2 hts gL_acts_L_release rfl rfl rfl (by decide +kernel) ⟨Nat.le_of_ble_eq_true rfl, Nat.le_of_ble_eq_true rfl⟩) ⟨cx_bl, cx_S hP.left.left hK Az_z hxk hS⟩ rfl rfl hl.1 rfl (lv_room (Nat.le_of_ble_eq_true rfl)) dL_acts_1371 ⟨by show _ ≤ 60; omega, by show _ ≤ 360; omega⟩) hS (fun H locs hPW hS hk1 => ?_)
      have hP := setO hne hTo hP hPW hk1
      refine W.eq (g2 := F0 m 1374 ls [.int (-1000003)]) rfl ?_
      refine lv_iload hx hb dL_acts_1374 (lv_at hl 0 rfl) ?_
      refine lv_icmp_ne (tgt := 1441) hx hb dL_acts_1376 (by decide) (fun c_40 => absurd ((by decide : (-1000003 : Int32) = -1000003)) c_40) (fun c_40 => ?_)
      refine lv_iload hx hb dL_acts_1379 (lv_at hl 1 rfl) ?_
      refine lv_if_eq (tgt := 1393) hx hb dL_acts_1381 (by decide) (fun c_41 => ?_) (fun c_41 => absurd ((by decide : (0 : Int32) = 0)) c_41)
      refine lv_aload_n hx hb dL_acts_1393 rfl (lv_at hl 3 rfl) ?_
      refine lv_iload hx hb dL_acts_1394 (lv_at hl 10 rfl) ?_
      refine lMi (fun q ⟨j9, h1, h2⟩ => by rw [h2]; exact hz2 j9 h1) (vx_runSW (As := [.ref (ad2 0), .int (nI i)]) (rest := []) ⟨hx, hb, hml, hown, hts⟩ (c_L_release l hst D cy ad2 hj2 σ sz (nI i) ((-1000003)) (by rw [(kL_2 hi (lit_ne (a := 5) (b := 7) x2 (by omega) (by omega) (by decide)))]; exact w13_2 _) σ (if_neg (by rw [(kL_2 hi (lit_ne (a := 5) (b := 7) x2 (by omega) (by omega) (by decide)))]; decide))) (vx_cwSW 2 hts gL_acts_L_release rfl rfl rfl (by decide +kernel) ⟨Nat.le_of_ble_eq_true rfl, Nat.le_of_ble_eq_true rfl⟩) ⟨cx_bl, cx_S hP.left.right hK Az_z hxk hS⟩ rfl rfl hl.1 rfl (lv_room (Nat.le_of_ble_eq_true rfl)) dL_acts_1396 ⟨by show _ ≤ 60; omega, by show _ ≤ 360; omega⟩) hS (fun H locs hPW hS hk1 => ?_)
      have hP := setT hne hTt hP hPW hk1
      refine W.eq (g2 := F0 m 1399 ls [.int (-1000003)]) rfl ?_
      refine lv_iload hx hb dL_acts_1399 (lv_at hl 0 rfl) ?_
      refine lv_icmp_ne (tgt := 1441) hx hb dL_acts_1401 (by decide) (fun c_42 => absurd ((by decide : (-1000003 : Int32) = -1000003)) c_42) (fun c_42 => ?_)
      refine lv_iload hx hb dL_acts_1404 (lv_at hl 0 rfl) ?_
      refine lv_if_lt (tgt := 1437) hx hb dL_acts_1406 (by decide) (fun c_43 => ?_) (fun c_43 => absurd ((by decide : (-1000003 : Int32) < 0)) c_43)
      refine lv_iconst (v := 1) hx hb dL_acts_1437 (by decide) ?_
      refine lv_goto (tgt := 1442) hx hb dL_acts_1438 (by decide) ?_
      refine W.widen (k := 60) (n := 360) (by omega) (by omega) ?_
      have hpo : OKs h (N + 70) fa fm fb σ := hO.le (by omega)
      exact W.zret (v := 1) hx hb hr rfl (fun t ht hW => ⟨⟨_, (), rfl, rfl, ⟨_, _, _, _, by rw [ht]; exact hP, hpo⟩⟩, hS.F ht⟩) hS.2.2 dL_acts_1442
    · have xs : σ 1 i = 6 := x2
      rw [xs] at hl
      have hl : lv_has ls 17 [(0, .ref (ad 0)), (1, .ref (ad2 0)), (2, .ref qa), (3, .ref qm), (4, .ref qb), (5, .int zx), (6, .int zy), (7, .int (nI j4)), (8, .int (nI i)), (9, .int 6)] := hl
      refine lv_istore (lv' := [(10, .int 0), (0, .ref (ad 0)), (1, .ref (ad2 0)), (2, .ref qa), (3, .ref qm), (4, .ref qb), (5, .int zx), (6, .int zy), (7, .int (nI j4)), (8, .int (nI i)), (9, .int 6)]) hx hb dL_acts_1327 hl (by decide) rfl (fun ls hl => ?_)
      refine lv_iload hx hb dL_acts_1329 (lv_at hl 10 rfl) ?_
      refine lv_iload hx hb dL_acts_1331 (lv_at hl 0 rfl) ?_
      refine lv_if_eq (tgt := 1341) hx hb dL_acts_1333 (by decide) (fun c_44 => ?_) (fun c_44 => absurd ((by decide : (0 : Int32) = 0)) c_44)
      refine lv_bipush (v := 7) hx hb dL_acts_1341 (by decide) ?_
      refine lv_icmp_ne (tgt := 1350) hx hb dL_acts_1343 (by decide) (fun c_45 => ?_) (fun c_45 => absurd c_45 ((by decide : ¬ (6 : Int32) = 7)))
      refine lv_ldc (v := (-1000003)) hx hb hown (hts (.constant RL 47 (-1000003)) (by decide +kernel)) dL_acts_1350 ?_
      refine lv_istore (lv' := [(11, .int (-1000003)), (10, .int 0), (0, .ref (ad 0)), (1, .ref (ad2 0)), (2, .ref qa), (3, .ref qm), (4, .ref qb), (5, .int zx), (6, .int zy), (7, .int (nI j4)), (8, .int (nI i)), (9, .int 6)]) hx hb dL_acts_1352 hl (by decide) rfl (fun ls hl => ?_)
      refine lv_iload hx hb dL_acts_1354 (lv_at hl 1 rfl) ?_
      refine lv_if_eq (tgt := 1368) hx hb dL_acts_1356 (by decide) (fun c_46 => ?_) (fun c_46 => absurd ((by decide : (0 : Int32) = 0)) c_46)
      refine lv_aload_n hx hb dL_acts_1368 rfl (lv_at hl 2 rfl) ?_
      refine lv_iload hx hb dL_acts_1369 (lv_at hl 10 rfl) ?_
      obtain ⟨hTo, hTt⟩ := noT_D hD
      refine lMi (fun q ⟨j9, h1, h2⟩ => by rw [h2]; exact hz j9 h1) (vx_runSW (As := [.ref (ad 0), .int (nI i)]) (rest := []) ⟨hx, hb, hml, hown, hts⟩ (c_L_release l hst D cy ad hj σ sz (nI i) ((-1000003)) (by rw [(kL_2 hi (lit_ne (a := 6) (b := 7) x2 (by omega) (by omega) (by decide)))]; exact w13_2 _) σ (if_neg (by rw [(kL_2 hi (lit_ne (a := 6) (b := 7) x2 (by omega) (by omega) (by decide)))]; decide))) (vx_cwSW 2 hts gL_acts_L_release rfl rfl rfl (by decide +kernel) ⟨Nat.le_of_ble_eq_true rfl, Nat.le_of_ble_eq_true rfl⟩) ⟨cx_bl, cx_S hP.left.left hK Az_z hxk hS⟩ rfl rfl hl.1 rfl (lv_room (Nat.le_of_ble_eq_true rfl)) dL_acts_1371 ⟨by show _ ≤ 60; omega, by show _ ≤ 360; omega⟩) hS (fun H locs hPW hS hk1 => ?_)
      have hP := setO hne hTo hP hPW hk1
      refine W.eq (g2 := F0 m 1374 ls [.int (-1000003)]) rfl ?_
      refine lv_iload hx hb dL_acts_1374 (lv_at hl 0 rfl) ?_
      refine lv_icmp_ne (tgt := 1441) hx hb dL_acts_1376 (by decide) (fun c_47 => absurd ((by decide : (-1000003 : Int32) = -1000003)) c_47) (fun c_47 => ?_)
      refine lv_iload hx hb dL_acts_1379 (lv_at hl 1 rfl) ?_
      refine lv_if_eq (tgt := 1393) hx hb dL_acts_1381 (by decide) (fun c_48 => ?_) (fun c_48 => absurd ((by decide : (0 : Int32) = 0)) c_48)
      refine lv_aload_n hx hb dL_acts_1393 rfl (lv_at hl 3 rfl) ?_
      refine lv_iload hx hb dL_acts_1394 (lv_at hl 10 rfl) ?_
      refine lMi (fun q ⟨j9, h1, h2⟩ => by rw [h2]; exact hz2 j9 h1) (vx_runSW (As := [.ref (ad2 0), .int (nI i)]) (rest := []) ⟨hx, hb, hml, hown, hts⟩ (c_L_release l hst D cy ad2 hj2 σ sz (nI i) ((-1000003)) (by rw [(kL_2 hi (lit_ne (a := 6) (b := 7) x2 (by omega) (by omega) (by decide)))]; exact w13_2 _) σ (if_neg (by rw [(kL_2 hi (lit_ne (a := 6) (b := 7) x2 (by omega) (by omega) (by decide)))]; decide))) (vx_cwSW 2 hts gL_acts_L_release rfl rfl rfl (by decide +kernel) ⟨Nat.le_of_ble_eq_true rfl, Nat.le_of_ble_eq_true rfl⟩) ⟨cx_bl, cx_S hP.left.right hK Az_z hxk hS⟩ rfl rfl hl.1 rfl (lv_room (Nat.le_of_ble_eq_true rfl)) dL_acts_1396 ⟨by show _ ≤ 60; omega, by show _ ≤ 360; omega⟩) hS (fun H locs hPW hS hk1 => ?_)
      have hP := setT hne hTt hP hPW hk1
      refine W.eq (g2 := F0 m 1399 ls [.int (-1000003)]) rfl ?_
      refine lv_iload hx hb dL_acts_1399 (lv_at hl 0 rfl) ?_
      refine lv_icmp_ne (tgt := 1441) hx hb dL_acts_1401 (by decide) (fun c_49 => absurd ((by decide : (-1000003 : Int32) = -1000003)) c_49) (fun c_49 => ?_)
      refine lv_iload hx hb dL_acts_1404 (lv_at hl 0 rfl) ?_
      refine lv_if_lt (tgt := 1437) hx hb dL_acts_1406 (by decide) (fun c_50 => ?_) (fun c_50 => absurd ((by decide : (-1000003 : Int32) < 0)) c_50)
      refine lv_iconst (v := 1) hx hb dL_acts_1437 (by decide) ?_
      refine lv_goto (tgt := 1442) hx hb dL_acts_1438 (by decide) ?_
      refine W.widen (k := 60) (n := 360) (by omega) (by omega) ?_
      have hpo : OKs h (N + 70) fa fm fb σ := hO.le (by omega)
      exact W.zret (v := 1) hx hb hr rfl (fun t ht hW => ⟨⟨_, (), rfl, rfl, ⟨_, _, _, _, by rw [ht]; exact hP, hpo⟩⟩, hS.F ht⟩) hS.2.2 dL_acts_1442
    · have xs : σ 1 i = 7 := x2
      rw [xs] at hl
      have hl : lv_has ls 17 [(0, .ref (ad 0)), (1, .ref (ad2 0)), (2, .ref qa), (3, .ref qm), (4, .ref qb), (5, .int zx), (6, .int zy), (7, .int (nI j4)), (8, .int (nI i)), (9, .int 7)] := hl
      obtain ⟨aO, at9, af9⟩ := a_release hO (by omega) hi xs
      refine lv_istore (lv' := [(10, .int 0), (0, .ref (ad 0)), (1, .ref (ad2 0)), (2, .ref qa), (3, .ref qm), (4, .ref qb), (5, .int zx), (6, .int zy), (7, .int (nI j4)), (8, .int (nI i)), (9, .int 7)]) hx hb dL_acts_1327 hl (by decide) rfl (fun ls hl => ?_)
      refine lv_iload hx hb dL_acts_1329 (lv_at hl 10 rfl) ?_
      refine lv_iload hx hb dL_acts_1331 (lv_at hl 0 rfl) ?_
      refine lv_if_eq (tgt := 1341) hx hb dL_acts_1333 (by decide) (fun c_51 => ?_) (fun c_51 => absurd ((by decide : (0 : Int32) = 0)) c_51)
      refine lv_bipush (v := 7) hx hb dL_acts_1341 (by decide) ?_
      refine lv_icmp_ne (tgt := 1350) hx hb dL_acts_1343 (by decide) (fun c_52 => absurd ((by decide : (7 : Int32) = 7)) c_52) (fun c_52 => ?_)
      refine lv_iconst (v := 0) hx hb dL_acts_1346 (by decide) ?_
      refine lv_goto (tgt := 1352) hx hb dL_acts_1347 (by decide) ?_
      refine lv_istore (lv' := [(11, .int 0), (10, .int 0), (0, .ref (ad 0)), (1, .ref (ad2 0)), (2, .ref qa), (3, .ref qm), (4, .ref qb), (5, .int zx), (6, .int zy), (7, .int (nI j4)), (8, .int (nI i)), (9, .int 7)]) hx hb dL_acts_1352 hl (by decide) rfl (fun ls hl => ?_)
      refine lv_iload hx hb dL_acts_1354 (lv_at hl 1 rfl) ?_
      refine lv_if_eq (tgt := 1368) hx hb dL_acts_1356 (by decide) (fun c_53 => ?_) (fun c_53 => absurd ((by decide : (0 : Int32) = 0)) c_53)
      refine lv_aload_n hx hb dL_acts_1368 rfl (lv_at hl 2 rfl) ?_
      refine lv_iload hx hb dL_acts_1369 (lv_at hl 10 rfl) ?_
      obtain ⟨hTo, hTt⟩ := noT_D hD
      refine lMi (fun q ⟨j9, h1, h2⟩ => by rw [h2]; exact hz j9 h1) (vx_runSW (As := [.ref (ad 0), .int (nI i)]) (rest := []) ⟨hx, hb, hml, hown, hts⟩ (c_L_release l hst D cy ad hj σ sz (nI i) (0) (w13_0 (kL_0 hi xs)) (gRelease σ (nI i)) (if_pos (kL_0 hi xs))) (vx_cwSW 2 hts gL_acts_L_release rfl rfl rfl (by decide +kernel) ⟨Nat.le_of_ble_eq_true rfl, Nat.le_of_ble_eq_true rfl⟩) ⟨cx_bl, cx_S hP.left.left hK Az_z hxk hS⟩ rfl rfl hl.1 rfl (lv_room (Nat.le_of_ble_eq_true rfl)) dL_acts_1371 ⟨by show _ ≤ 60; omega, by show _ ≤ 360; omega⟩) hS (fun H locs hPW hS hk1 => ?_)
      have hP := setO hne hTo hP hPW hk1
      refine W.eq (g2 := F0 m 1374 ls [.int 0]) rfl ?_
      refine lv_iload hx hb dL_acts_1374 (lv_at hl 0 rfl) ?_
      refine lv_icmp_ne (tgt := 1441) hx hb dL_acts_1376 (by decide) (fun c_54 => absurd ((by decide : (0 : Int32) = 0)) c_54) (fun c_54 => ?_)
      refine lv_iload hx hb dL_acts_1379 (lv_at hl 1 rfl) ?_
      refine lv_if_eq (tgt := 1393) hx hb dL_acts_1381 (by decide) (fun c_55 => ?_) (fun c_55 => absurd ((by decide : (0 : Int32) = 0)) c_55)
      refine lv_aload_n hx hb dL_acts_1393 rfl (lv_at hl 3 rfl) ?_
      refine lv_iload hx hb dL_acts_1394 (lv_at hl 10 rfl) ?_
      refine lMi (fun q ⟨j9, h1, h2⟩ => by rw [h2]; exact hz2 j9 h1) (vx_runSW (As := [.ref (ad2 0), .int (nI i)]) (rest := []) ⟨hx, hb, hml, hown, hts⟩ (c_L_release l hst D cy ad2 hj2 σ sz (nI i) (0) (w13_0 (kL_0 hi xs)) (gRelease σ (nI i)) (if_pos (kL_0 hi xs))) (vx_cwSW 2 hts gL_acts_L_release rfl rfl rfl (by decide +kernel) ⟨Nat.le_of_ble_eq_true rfl, Nat.le_of_ble_eq_true rfl⟩) ⟨cx_bl, cx_S hP.left.right hK Az_z hxk hS⟩ rfl rfl hl.1 rfl (lv_room (Nat.le_of_ble_eq_true rfl)) dL_acts_1396 ⟨by show _ ≤ 60; omega, by show _ ≤ 360; omega⟩) hS (fun H locs hPW hS hk1 => ?_)
      have hP := setT hne hTt hP hPW hk1
      refine W.eq (g2 := F0 m 1399 ls [.int 0]) rfl ?_
      refine lv_iload hx hb dL_acts_1399 (lv_at hl 0 rfl) ?_
      refine lv_icmp_ne (tgt := 1441) hx hb dL_acts_1401 (by decide) (fun c_56 => absurd ((by decide : (0 : Int32) = 0)) c_56) (fun c_56 => ?_)
      refine lv_iload hx hb dL_acts_1404 (lv_at hl 0 rfl) ?_
      refine lv_if_lt (tgt := 1437) hx hb dL_acts_1406 (by decide) (fun c_57 => absurd c_57 ((by decide : ¬ (0 : Int32) < 0))) (fun c_57 => ?_)
      refine lv_aload_n hx hb dL_acts_1409 rfl (lv_at hl 2 rfl) ?_
      refine lv_iload hx hb dL_acts_1410 (lv_at hl 10 rfl) ?_
      refine rMi (vx_runSW (As := [.ref (ad 0), .int (nI i)]) (rest := []) ⟨hx, hb, hml, hown, hts⟩ (c_L_stateOf l hst D cy ad (gRelease σ (nI i)) sz (nI i) (1) ((wS hi).trans at9)) (vx_cwSW 2 hts gL_acts_L_stateOf rfl rfl rfl (by decide +kernel) ⟨Nat.le_of_ble_eq_true rfl, Nat.le_of_ble_eq_true rfl⟩) ⟨cx_bl, cx_S hP.left.left hK Az_z hxk hS⟩ rfl rfl hl.1 rfl (lv_room (Nat.le_of_ble_eq_true rfl)) dL_acts_1412 ⟨by show _ ≤ 60; omega, by show _ ≤ 360; omega⟩) hS (fun H locs hS hg => ?_)
      have hP := hP.grown hg
      refine W.eq (g2 := F0 m 1415 ls [.int 1]) rfl ?_
      refine lv_iload hx hb dL_acts_1415 (lv_at hl 1 rfl) ?_
      refine lv_if_eq (tgt := 1424) hx hb dL_acts_1417 (by decide) (fun c_58 => ?_) (fun c_58 => absurd ((by decide : (0 : Int32) = 0)) c_58)
      refine lv_iconst (v := 1) hx hb dL_acts_1424 (by decide) ?_
      refine lv_icmp_ne (tgt := 1441) hx hb dL_acts_1425 (by decide) (fun c_59 => absurd ((by decide : (1 : Int32) = 1)) c_59) (fun c_59 => ?_)
      refine lv_aload_n hx hb dL_acts_1428 rfl (lv_at hl 2 rfl) ?_
      refine lv_iload hx hb dL_acts_1429 (lv_at hl 10 rfl) ?_
      refine rMi (vx_runSW (As := [.ref (ad 0), .int (nI i)]) (rest := []) ⟨hx, hb, hml, hown, hts⟩ (c_L_failuresOf l hst D cy ad (gRelease σ (nI i)) sz (nI i) (0) ((wF hi).trans af9)) (vx_cwSW 2 hts gL_acts_L_failuresOf rfl rfl rfl (by decide +kernel) ⟨Nat.le_of_ble_eq_true rfl, Nat.le_of_ble_eq_true rfl⟩) ⟨cx_bl, cx_S hP.left.left hK Az_z hxk hS⟩ rfl rfl hl.1 rfl (lv_room (Nat.le_of_ble_eq_true rfl)) dL_acts_1431 ⟨by show _ ≤ 60; omega, by show _ ≤ 360; omega⟩) hS (fun H locs hS hg => ?_)
      have hP := hP.grown hg
      refine W.eq (g2 := F0 m 1434 ls [.int 0]) rfl ?_
      refine lv_if_ne (tgt := 1441) hx hb dL_acts_1434 (by decide) (fun c_60 => absurd ((by decide : (0 : Int32) = 0)) c_60) (fun c_60 => ?_)
      refine lv_iconst (v := 1) hx hb dL_acts_1437 (by decide) ?_
      refine lv_goto (tgt := 1442) hx hb dL_acts_1438 (by decide) ?_
      refine W.widen (k := 60) (n := 360) (by omega) (by omega) ?_
      have hpo : OKs h (N + 70) fa fm fb (gRelease σ (nI i)) := aO.le (by omega)
      exact W.zret (v := 1) hx hb hr rfl (fun t ht hW => ⟨⟨_, (), rfl, rfl, ⟨_, _, _, _, by rw [ht]; exact hP, hpo⟩⟩, hS.F ht⟩) hS.2.2 dL_acts_1442
  · refine lv_iconst (v := 1) hx hb dL_acts_1322 (by decide) ?_
    refine lv_goto (tgt := 1327) hx hb dL_acts_1323 (by decide) ?_
    have hI := hO.1
    obtain ⟨s8, r8, n8, x1, x2, x3, x4, x5, x6, x7, x8, x9, x10, x11⟩ := hI.2.1 i hi
    obtain ⟨q8, q1, q2, q3⟩ := hI.2.2.1.2.1
    rcases (show s8 = 0 ∨ s8 = 1 ∨ s8 = 2 ∨ s8 = 3 ∨ s8 = 4 ∨ s8 = 5 ∨ s8 = 6 ∨ s8 = 7 by omega) with rfl | rfl | rfl | rfl | rfl | rfl | rfl | rfl
    · have xs : σ 1 i = 0 := x2
      rw [xs] at hl
      have hl : lv_has ls 17 [(0, .ref (ad 0)), (1, .ref (ad2 0)), (2, .ref qa), (3, .ref qm), (4, .ref qb), (5, .int zx), (6, .int zy), (7, .int (nI j4)), (8, .int (nI i)), (9, .int 0)] := hl
      refine lv_istore (lv' := [(10, .int 1), (0, .ref (ad 0)), (1, .ref (ad2 0)), (2, .ref qa), (3, .ref qm), (4, .ref qb), (5, .int zx), (6, .int zy), (7, .int (nI j4)), (8, .int (nI i)), (9, .int 0)]) hx hb dL_acts_1327 hl (by decide) rfl (fun ls hl => ?_)
      refine lv_iload hx hb dL_acts_1329 (lv_at hl 10 rfl) ?_
      refine lv_iload hx hb dL_acts_1331 (lv_at hl 0 rfl) ?_
      refine lv_if_eq (tgt := 1341) hx hb dL_acts_1333 (by decide) (fun c_61 => absurd c_61 ((by decide : ¬ (1 : Int32) = 0))) (fun c_61 => ?_)
      refine lv_bipush (v := 6) hx hb dL_acts_1336 (by decide) ?_
      refine lv_goto (tgt := 1343) hx hb dL_acts_1338 (by decide) ?_
      refine lv_icmp_ne (tgt := 1350) hx hb dL_acts_1343 (by decide) (fun c_62 => ?_) (fun c_62 => absurd c_62 ((by decide : ¬ (0 : Int32) = 6)))
      refine lv_ldc (v := (-1000003)) hx hb hown (hts (.constant RL 47 (-1000003)) (by decide +kernel)) dL_acts_1350 ?_
      refine lv_istore (lv' := [(11, .int (-1000003)), (10, .int 1), (0, .ref (ad 0)), (1, .ref (ad2 0)), (2, .ref qa), (3, .ref qm), (4, .ref qb), (5, .int zx), (6, .int zy), (7, .int (nI j4)), (8, .int (nI i)), (9, .int 0)]) hx hb dL_acts_1352 hl (by decide) rfl (fun ls hl => ?_)
      refine lv_iload hx hb dL_acts_1354 (lv_at hl 1 rfl) ?_
      refine lv_if_eq (tgt := 1368) hx hb dL_acts_1356 (by decide) (fun c_63 => absurd c_63 ((by decide : ¬ (1 : Int32) = 0))) (fun c_63 => ?_)
      refine lv_aload_n hx hb dL_acts_1359 rfl (lv_at hl 2 rfl) ?_
      refine lv_iload hx hb dL_acts_1360 (lv_at hl 10 rfl) ?_
      obtain ⟨hTo, hTt⟩ := noT_D hD
      refine lMi (fun q ⟨j9, h1, h2⟩ => by rw [h2]; exact hz j9 h1) (vx_runSW (As := [.ref (ad 0), .int (nI i)]) (rest := []) ⟨hx, hb, hml, hown, hts⟩ (c_L_keep l hst D cy ad hj σ sz (nI i) ((-1000003)) (by rw [(kK_2 hi (lit_ne (a := 0) (b := 6) x2 (by omega) (by omega) (by decide)))]; exact w13_2 _) σ (if_neg (by rw [(kK_2 hi (lit_ne (a := 0) (b := 6) x2 (by omega) (by omega) (by decide)))]; decide))) (vx_cwSW 2 hts gL_acts_L_keep rfl rfl rfl (by decide +kernel) ⟨Nat.le_of_ble_eq_true rfl, Nat.le_of_ble_eq_true rfl⟩) ⟨cx_bl, cx_S hP.left.left hK Az_z hxk hS⟩ rfl rfl hl.1 rfl (lv_room (Nat.le_of_ble_eq_true rfl)) dL_acts_1362 ⟨by show _ ≤ 60; omega, by show _ ≤ 360; omega⟩) hS (fun H locs hPW hS hk1 => ?_)
      have hP := setO hne hTo hP hPW hk1
      refine W.eq (g2 := F0 m 1365 ls [.int (-1000003)]) rfl ?_
      refine lv_goto (tgt := 1374) hx hb dL_acts_1365 (by decide) ?_
      refine lv_iload hx hb dL_acts_1374 (lv_at hl 0 rfl) ?_
      refine lv_icmp_ne (tgt := 1441) hx hb dL_acts_1376 (by decide) (fun c_64 => absurd ((by decide : (-1000003 : Int32) = -1000003)) c_64) (fun c_64 => ?_)
      refine lv_iload hx hb dL_acts_1379 (lv_at hl 1 rfl) ?_
      refine lv_if_eq (tgt := 1393) hx hb dL_acts_1381 (by decide) (fun c_65 => absurd c_65 ((by decide : ¬ (1 : Int32) = 0))) (fun c_65 => ?_)
      refine lv_aload_n hx hb dL_acts_1384 rfl (lv_at hl 3 rfl) ?_
      refine lv_iload hx hb dL_acts_1385 (lv_at hl 10 rfl) ?_
      refine lMi (fun q ⟨j9, h1, h2⟩ => by rw [h2]; exact hz2 j9 h1) (vx_runSW (As := [.ref (ad2 0), .int (nI i)]) (rest := []) ⟨hx, hb, hml, hown, hts⟩ (c_L_keep l hst D cy ad2 hj2 σ sz (nI i) ((-1000003)) (by rw [(kK_2 hi (lit_ne (a := 0) (b := 6) x2 (by omega) (by omega) (by decide)))]; exact w13_2 _) σ (if_neg (by rw [(kK_2 hi (lit_ne (a := 0) (b := 6) x2 (by omega) (by omega) (by decide)))]; decide))) (vx_cwSW 2 hts gL_acts_L_keep rfl rfl rfl (by decide +kernel) ⟨Nat.le_of_ble_eq_true rfl, Nat.le_of_ble_eq_true rfl⟩) ⟨cx_bl, cx_S hP.left.right hK Az_z hxk hS⟩ rfl rfl hl.1 rfl (lv_room (Nat.le_of_ble_eq_true rfl)) dL_acts_1387 ⟨by show _ ≤ 60; omega, by show _ ≤ 360; omega⟩) hS (fun H locs hPW hS hk1 => ?_)
      have hP := setT hne hTt hP hPW hk1
      refine W.eq (g2 := F0 m 1390 ls [.int (-1000003)]) rfl ?_
      refine lv_goto (tgt := 1399) hx hb dL_acts_1390 (by decide) ?_
      refine lv_iload hx hb dL_acts_1399 (lv_at hl 0 rfl) ?_
      refine lv_icmp_ne (tgt := 1441) hx hb dL_acts_1401 (by decide) (fun c_66 => absurd ((by decide : (-1000003 : Int32) = -1000003)) c_66) (fun c_66 => ?_)
      refine lv_iload hx hb dL_acts_1404 (lv_at hl 0 rfl) ?_
      refine lv_if_lt (tgt := 1437) hx hb dL_acts_1406 (by decide) (fun c_67 => ?_) (fun c_67 => absurd ((by decide : (-1000003 : Int32) < 0)) c_67)
      refine lv_iconst (v := 1) hx hb dL_acts_1437 (by decide) ?_
      refine lv_goto (tgt := 1442) hx hb dL_acts_1438 (by decide) ?_
      refine W.widen (k := 60) (n := 360) (by omega) (by omega) ?_
      have hpo : OKs h (N + 70) fa fm fb σ := hO.le (by omega)
      exact W.zret (v := 1) hx hb hr rfl (fun t ht hW => ⟨⟨_, (), rfl, rfl, ⟨_, _, _, _, by rw [ht]; exact hP, hpo⟩⟩, hS.F ht⟩) hS.2.2 dL_acts_1442
    · have xs : σ 1 i = 1 := x2
      rw [xs] at hl
      have hl : lv_has ls 17 [(0, .ref (ad 0)), (1, .ref (ad2 0)), (2, .ref qa), (3, .ref qm), (4, .ref qb), (5, .int zx), (6, .int zy), (7, .int (nI j4)), (8, .int (nI i)), (9, .int 1)] := hl
      refine lv_istore (lv' := [(10, .int 1), (0, .ref (ad 0)), (1, .ref (ad2 0)), (2, .ref qa), (3, .ref qm), (4, .ref qb), (5, .int zx), (6, .int zy), (7, .int (nI j4)), (8, .int (nI i)), (9, .int 1)]) hx hb dL_acts_1327 hl (by decide) rfl (fun ls hl => ?_)
      refine lv_iload hx hb dL_acts_1329 (lv_at hl 10 rfl) ?_
      refine lv_iload hx hb dL_acts_1331 (lv_at hl 0 rfl) ?_
      refine lv_if_eq (tgt := 1341) hx hb dL_acts_1333 (by decide) (fun c_68 => absurd c_68 ((by decide : ¬ (1 : Int32) = 0))) (fun c_68 => ?_)
      refine lv_bipush (v := 6) hx hb dL_acts_1336 (by decide) ?_
      refine lv_goto (tgt := 1343) hx hb dL_acts_1338 (by decide) ?_
      refine lv_icmp_ne (tgt := 1350) hx hb dL_acts_1343 (by decide) (fun c_69 => ?_) (fun c_69 => absurd c_69 ((by decide : ¬ (1 : Int32) = 6)))
      refine lv_ldc (v := (-1000003)) hx hb hown (hts (.constant RL 47 (-1000003)) (by decide +kernel)) dL_acts_1350 ?_
      refine lv_istore (lv' := [(11, .int (-1000003)), (10, .int 1), (0, .ref (ad 0)), (1, .ref (ad2 0)), (2, .ref qa), (3, .ref qm), (4, .ref qb), (5, .int zx), (6, .int zy), (7, .int (nI j4)), (8, .int (nI i)), (9, .int 1)]) hx hb dL_acts_1352 hl (by decide) rfl (fun ls hl => ?_)
      refine lv_iload hx hb dL_acts_1354 (lv_at hl 1 rfl) ?_
      refine lv_if_eq (tgt := 1368) hx hb dL_acts_1356 (by decide) (fun c_70 => absurd c_70 ((by decide : ¬ (1 : Int32) = 0))) (fun c_70 => ?_)
      refine lv_aload_n hx hb dL_acts_1359 rfl (lv_at hl 2 rfl) ?_
      refine lv_iload hx hb dL_acts_1360 (lv_at hl 10 rfl) ?_
      obtain ⟨hTo, hTt⟩ := noT_D hD
      refine lMi (fun q ⟨j9, h1, h2⟩ => by rw [h2]; exact hz j9 h1) (vx_runSW (As := [.ref (ad 0), .int (nI i)]) (rest := []) ⟨hx, hb, hml, hown, hts⟩ (c_L_keep l hst D cy ad hj σ sz (nI i) ((-1000003)) (by rw [(kK_2 hi (lit_ne (a := 1) (b := 6) x2 (by omega) (by omega) (by decide)))]; exact w13_2 _) σ (if_neg (by rw [(kK_2 hi (lit_ne (a := 1) (b := 6) x2 (by omega) (by omega) (by decide)))]; decide))) (vx_cwSW 2 hts gL_acts_L_keep rfl rfl rfl (by decide +kernel) ⟨Nat.le_of_ble_eq_true rfl, Nat.le_of_ble_eq_true rfl⟩) ⟨cx_bl, cx_S hP.left.left hK Az_z hxk hS⟩ rfl rfl hl.1 rfl (lv_room (Nat.le_of_ble_eq_true rfl)) dL_acts_1362 ⟨by show _ ≤ 60; omega, by show _ ≤ 360; omega⟩) hS (fun H locs hPW hS hk1 => ?_)
      have hP := setO hne hTo hP hPW hk1
      refine W.eq (g2 := F0 m 1365 ls [.int (-1000003)]) rfl ?_
      refine lv_goto (tgt := 1374) hx hb dL_acts_1365 (by decide) ?_
      refine lv_iload hx hb dL_acts_1374 (lv_at hl 0 rfl) ?_
      refine lv_icmp_ne (tgt := 1441) hx hb dL_acts_1376 (by decide) (fun c_71 => absurd ((by decide : (-1000003 : Int32) = -1000003)) c_71) (fun c_71 => ?_)
      refine lv_iload hx hb dL_acts_1379 (lv_at hl 1 rfl) ?_
      refine lv_if_eq (tgt := 1393) hx hb dL_acts_1381 (by decide) (fun c_72 => absurd c_72 ((by decide : ¬ (1 : Int32) = 0))) (fun c_72 => ?_)
      refine lv_aload_n hx hb dL_acts_1384 rfl (lv_at hl 3 rfl) ?_
      refine lv_iload hx hb dL_acts_1385 (lv_at hl 10 rfl) ?_
      refine lMi (fun q ⟨j9, h1, h2⟩ => by rw [h2]; exact hz2 j9 h1) (vx_runSW (As := [.ref (ad2 0), .int (nI i)]) (rest := []) ⟨hx, hb, hml, hown, hts⟩ (c_L_keep l hst D cy ad2 hj2 σ sz (nI i) ((-1000003)) (by rw [(kK_2 hi (lit_ne (a := 1) (b := 6) x2 (by omega) (by omega) (by decide)))]; exact w13_2 _) σ (if_neg (by rw [(kK_2 hi (lit_ne (a := 1) (b := 6) x2 (by omega) (by omega) (by decide)))]; decide))) (vx_cwSW 2 hts gL_acts_L_keep rfl rfl rfl (by decide +kernel) ⟨Nat.le_of_ble_eq_true rfl, Nat.le_of_ble_eq_true rfl⟩) ⟨cx_bl, cx_S hP.left.right hK Az_z hxk hS⟩ rfl rfl hl.1 rfl (lv_room (Nat.le_of_ble_eq_true rfl)) dL_acts_1387 ⟨by show _ ≤ 60; omega, by show _ ≤ 360; omega⟩) hS (fun H locs hPW hS hk1 => ?_)
      have hP := setT hne hTt hP hPW hk1
      refine W.eq (g2 := F0 m 1390 ls [.int (-1000003)]) rfl ?_
      refine lv_goto (tgt := 1399) hx hb dL_acts_1390 (by decide) ?_
      refine lv_iload hx hb dL_acts_1399 (lv_at hl 0 rfl) ?_
      refine lv_icmp_ne (tgt := 1441) hx hb dL_acts_1401 (by decide) (fun c_73 => absurd ((by decide : (-1000003 : Int32) = -1000003)) c_73) (fun c_73 => ?_)
      refine lv_iload hx hb dL_acts_1404 (lv_at hl 0 rfl) ?_
      refine lv_if_lt (tgt := 1437) hx hb dL_acts_1406 (by decide) (fun c_74 => ?_) (fun c_74 => absurd ((by decide : (-1000003 : Int32) < 0)) c_74)
      refine lv_iconst (v := 1) hx hb dL_acts_1437 (by decide) ?_
      refine lv_goto (tgt := 1442) hx hb dL_acts_1438 (by decide) ?_
      refine W.widen (k := 60) (n := 360) (by omega) (by omega) ?_
      have hpo : OKs h (N + 70) fa fm fb σ := hO.le (by omega)
      exact W.zret (v := 1) hx hb hr rfl (fun t ht hW => ⟨⟨_, (), rfl, rfl, ⟨_, _, _, _, by rw [ht]; exact hP, hpo⟩⟩, hS.F ht⟩) hS.2.2 dL_acts_1442
    · have xs : σ 1 i = 2 := x2
      rw [xs] at hl
      have hl : lv_has ls 17 [(0, .ref (ad 0)), (1, .ref (ad2 0)), (2, .ref qa), (3, .ref qm), (4, .ref qb), (5, .int zx), (6, .int zy), (7, .int (nI j4)), (8, .int (nI i)), (9, .int 2)] := hl
      refine lv_istore (lv' := [(10, .int 1), (0, .ref (ad 0)), (1, .ref (ad2 0)), (2, .ref qa), (3, .ref qm), (4, .ref qb), (5, .int zx), (6, .int zy), (7, .int (nI j4)), (8, .int (nI i)), (9, .int 2)]) hx hb dL_acts_1327 hl (by decide) rfl (fun ls hl => ?_)
      refine lv_iload hx hb dL_acts_1329 (lv_at hl 10 rfl) ?_
      refine lv_iload hx hb dL_acts_1331 (lv_at hl 0 rfl) ?_
      refine lv_if_eq (tgt := 1341) hx hb dL_acts_1333 (by decide) (fun c_75 => absurd c_75 ((by decide : ¬ (1 : Int32) = 0))) (fun c_75 => ?_)
      refine lv_bipush (v := 6) hx hb dL_acts_1336 (by decide) ?_
      refine lv_goto (tgt := 1343) hx hb dL_acts_1338 (by decide) ?_
      refine lv_icmp_ne (tgt := 1350) hx hb dL_acts_1343 (by decide) (fun c_76 => ?_) (fun c_76 => absurd c_76 ((by decide : ¬ (2 : Int32) = 6)))
      refine lv_ldc (v := (-1000003)) hx hb hown (hts (.constant RL 47 (-1000003)) (by decide +kernel)) dL_acts_1350 ?_
      refine lv_istore (lv' := [(11, .int (-1000003)), (10, .int 1), (0, .ref (ad 0)), (1, .ref (ad2 0)), (2, .ref qa), (3, .ref qm), (4, .ref qb), (5, .int zx), (6, .int zy), (7, .int (nI j4)), (8, .int (nI i)), (9, .int 2)]) hx hb dL_acts_1352 hl (by decide) rfl (fun ls hl => ?_)
      refine lv_iload hx hb dL_acts_1354 (lv_at hl 1 rfl) ?_
      refine lv_if_eq (tgt := 1368) hx hb dL_acts_1356 (by decide) (fun c_77 => absurd c_77 ((by decide : ¬ (1 : Int32) = 0))) (fun c_77 => ?_)
      refine lv_aload_n hx hb dL_acts_1359 rfl (lv_at hl 2 rfl) ?_
      refine lv_iload hx hb dL_acts_1360 (lv_at hl 10 rfl) ?_
      obtain ⟨hTo, hTt⟩ := noT_D hD
      refine lMi (fun q ⟨j9, h1, h2⟩ => by rw [h2]; exact hz j9 h1) (vx_runSW (As := [.ref (ad 0), .int (nI i)]) (rest := []) ⟨hx, hb, hml, hown, hts⟩ (c_L_keep l hst D cy ad hj σ sz (nI i) ((-1000003)) (by rw [(kK_2 hi (lit_ne (a := 2) (b := 6) x2 (by omega) (by omega) (by decide)))]; exact w13_2 _) σ (if_neg (by rw [(kK_2 hi (lit_ne (a := 2) (b := 6) x2 (by omega) (by omega) (by decide)))]; decide))) (vx_cwSW 2 hts gL_acts_L_keep rfl rfl rfl (by decide +kernel) ⟨Nat.le_of_ble_eq_true rfl, Nat.le_of_ble_eq_true rfl⟩) ⟨cx_bl, cx_S hP.left.left hK Az_z hxk hS⟩ rfl rfl hl.1 rfl (lv_room (Nat.le_of_ble_eq_true rfl)) dL_acts_1362 ⟨by show _ ≤ 60; omega, by show _ ≤ 360; omega⟩) hS (fun H locs hPW hS hk1 => ?_)
      have hP := setO hne hTo hP hPW hk1
      refine W.eq (g2 := F0 m 1365 ls [.int (-1000003)]) rfl ?_
      refine lv_goto (tgt := 1374) hx hb dL_acts_1365 (by decide) ?_
      refine lv_iload hx hb dL_acts_1374 (lv_at hl 0 rfl) ?_
      refine lv_icmp_ne (tgt := 1441) hx hb dL_acts_1376 (by decide) (fun c_78 => absurd ((by decide : (-1000003 : Int32) = -1000003)) c_78) (fun c_78 => ?_)
      refine lv_iload hx hb dL_acts_1379 (lv_at hl 1 rfl) ?_
      refine lv_if_eq (tgt := 1393) hx hb dL_acts_1381 (by decide) (fun c_79 => absurd c_79 ((by decide : ¬ (1 : Int32) = 0))) (fun c_79 => ?_)
      refine lv_aload_n hx hb dL_acts_1384 rfl (lv_at hl 3 rfl) ?_
      refine lv_iload hx hb dL_acts_1385 (lv_at hl 10 rfl) ?_
      refine lMi (fun q ⟨j9, h1, h2⟩ => by rw [h2]; exact hz2 j9 h1) (vx_runSW (As := [.ref (ad2 0), .int (nI i)]) (rest := []) ⟨hx, hb, hml, hown, hts⟩ (c_L_keep l hst D cy ad2 hj2 σ sz (nI i) ((-1000003)) (by rw [(kK_2 hi (lit_ne (a := 2) (b := 6) x2 (by omega) (by omega) (by decide)))]; exact w13_2 _) σ (if_neg (by rw [(kK_2 hi (lit_ne (a := 2) (b := 6) x2 (by omega) (by omega) (by decide)))]; decide))) (vx_cwSW 2 hts gL_acts_L_keep rfl rfl rfl (by decide +kernel) ⟨Nat.le_of_ble_eq_true rfl, Nat.le_of_ble_eq_true rfl⟩) ⟨cx_bl, cx_S hP.left.right hK Az_z hxk hS⟩ rfl rfl hl.1 rfl (lv_room (Nat.le_of_ble_eq_true rfl)) dL_acts_1387 ⟨by show _ ≤ 60; omega, by show _ ≤ 360; omega⟩) hS (fun H locs hPW hS hk1 => ?_)
      have hP := setT hne hTt hP hPW hk1
      refine W.eq (g2 := F0 m 1390 ls [.int (-1000003)]) rfl ?_
      refine lv_goto (tgt := 1399) hx hb dL_acts_1390 (by decide) ?_
      refine lv_iload hx hb dL_acts_1399 (lv_at hl 0 rfl) ?_
      refine lv_icmp_ne (tgt := 1441) hx hb dL_acts_1401 (by decide) (fun c_80 => absurd ((by decide : (-1000003 : Int32) = -1000003)) c_80) (fun c_80 => ?_)
      refine lv_iload hx hb dL_acts_1404 (lv_at hl 0 rfl) ?_
      refine lv_if_lt (tgt := 1437) hx hb dL_acts_1406 (by decide) (fun c_81 => ?_) (fun c_81 => absurd ((by decide : (-1000003 : Int32) < 0)) c_81)
      refine lv_iconst (v := 1) hx hb dL_acts_1437 (by decide) ?_
      refine lv_goto (tgt := 1442) hx hb dL_acts_1438 (by decide) ?_
      refine W.widen (k := 60) (n := 360) (by omega) (by omega) ?_
      have hpo : OKs h (N + 70) fa fm fb σ := hO.le (by omega)
      exact W.zret (v := 1) hx hb hr rfl (fun t ht hW => ⟨⟨_, (), rfl, rfl, ⟨_, _, _, _, by rw [ht]; exact hP, hpo⟩⟩, hS.F ht⟩) hS.2.2 dL_acts_1442
    · have xs : σ 1 i = 3 := x2
      rw [xs] at hl
      have hl : lv_has ls 17 [(0, .ref (ad 0)), (1, .ref (ad2 0)), (2, .ref qa), (3, .ref qm), (4, .ref qb), (5, .int zx), (6, .int zy), (7, .int (nI j4)), (8, .int (nI i)), (9, .int 3)] := hl
      refine lv_istore (lv' := [(10, .int 1), (0, .ref (ad 0)), (1, .ref (ad2 0)), (2, .ref qa), (3, .ref qm), (4, .ref qb), (5, .int zx), (6, .int zy), (7, .int (nI j4)), (8, .int (nI i)), (9, .int 3)]) hx hb dL_acts_1327 hl (by decide) rfl (fun ls hl => ?_)
      refine lv_iload hx hb dL_acts_1329 (lv_at hl 10 rfl) ?_
      refine lv_iload hx hb dL_acts_1331 (lv_at hl 0 rfl) ?_
      refine lv_if_eq (tgt := 1341) hx hb dL_acts_1333 (by decide) (fun c_82 => absurd c_82 ((by decide : ¬ (1 : Int32) = 0))) (fun c_82 => ?_)
      refine lv_bipush (v := 6) hx hb dL_acts_1336 (by decide) ?_
      refine lv_goto (tgt := 1343) hx hb dL_acts_1338 (by decide) ?_
      refine lv_icmp_ne (tgt := 1350) hx hb dL_acts_1343 (by decide) (fun c_83 => ?_) (fun c_83 => absurd c_83 ((by decide : ¬ (3 : Int32) = 6)))
      refine lv_ldc (v := (-1000003)) hx hb hown (hts (.constant RL 47 (-1000003)) (by decide +kernel)) dL_acts_1350 ?_
      refine lv_istore (lv' := [(11, .int (-1000003)), (10, .int 1), (0, .ref (ad 0)), (1, .ref (ad2 0)), (2, .ref qa), (3, .ref qm), (4, .ref qb), (5, .int zx), (6, .int zy), (7, .int (nI j4)), (8, .int (nI i)), (9, .int 3)]) hx hb dL_acts_1352 hl (by decide) rfl (fun ls hl => ?_)
      refine lv_iload hx hb dL_acts_1354 (lv_at hl 1 rfl) ?_
      refine lv_if_eq (tgt := 1368) hx hb dL_acts_1356 (by decide) (fun c_84 => absurd c_84 ((by decide : ¬ (1 : Int32) = 0))) (fun c_84 => ?_)
      refine lv_aload_n hx hb dL_acts_1359 rfl (lv_at hl 2 rfl) ?_
      refine lv_iload hx hb dL_acts_1360 (lv_at hl 10 rfl) ?_
      obtain ⟨hTo, hTt⟩ := noT_D hD
      refine lMi (fun q ⟨j9, h1, h2⟩ => by rw [h2]; exact hz j9 h1) (vx_runSW (As := [.ref (ad 0), .int (nI i)]) (rest := []) ⟨hx, hb, hml, hown, hts⟩ (c_L_keep l hst D cy ad hj σ sz (nI i) ((-1000003)) (by rw [(kK_2 hi (lit_ne (a := 3) (b := 6) x2 (by omega) (by omega) (by decide)))]; exact w13_2 _) σ (if_neg (by rw [(kK_2 hi (lit_ne (a := 3) (b := 6) x2 (by omega) (by omega) (by decide)))]; decide))) (vx_cwSW 2 hts gL_acts_L_keep rfl rfl rfl (by decide +kernel) ⟨Nat.le_of_ble_eq_true rfl, Nat.le_of_ble_eq_true rfl⟩) ⟨cx_bl, cx_S hP.left.left hK Az_z hxk hS⟩ rfl rfl hl.1 rfl (lv_room (Nat.le_of_ble_eq_true rfl)) dL_acts_1362 ⟨by show _ ≤ 60; omega, by show _ ≤ 360; omega⟩) hS (fun H locs hPW hS hk1 => ?_)
      have hP := setO hne hTo hP hPW hk1
      refine W.eq (g2 := F0 m 1365 ls [.int (-1000003)]) rfl ?_
      refine lv_goto (tgt := 1374) hx hb dL_acts_1365 (by decide) ?_
      refine lv_iload hx hb dL_acts_1374 (lv_at hl 0 rfl) ?_
      refine lv_icmp_ne (tgt := 1441) hx hb dL_acts_1376 (by decide) (fun c_85 => absurd ((by decide : (-1000003 : Int32) = -1000003)) c_85) (fun c_85 => ?_)
      refine lv_iload hx hb dL_acts_1379 (lv_at hl 1 rfl) ?_
      refine lv_if_eq (tgt := 1393) hx hb dL_acts_1381 (by decide) (fun c_86 => absurd c_86 ((by decide : ¬ (1 : Int32) = 0))) (fun c_86 => ?_)
      refine lv_aload_n hx hb dL_acts_1384 rfl (lv_at hl 3 rfl) ?_
      refine lv_iload hx hb dL_acts_1385 (lv_at hl 10 rfl) ?_
      refine lMi (fun q ⟨j9, h1, h2⟩ => by rw [h2]; exact hz2 j9 h1) (vx_runSW (As := [.ref (ad2 0), .int (nI i)]) (rest := []) ⟨hx, hb, hml, hown, hts⟩ (c_L_keep l hst D cy ad2 hj2 σ sz (nI i) ((-1000003)) (by rw [(kK_2 hi (lit_ne (a := 3) (b := 6) x2 (by omega) (by omega) (by decide)))]; exact w13_2 _) σ (if_neg (by rw [(kK_2 hi (lit_ne (a := 3) (b := 6) x2 (by omega) (by omega) (by decide)))]; decide))) (vx_cwSW 2 hts gL_acts_L_keep rfl rfl rfl (by decide +kernel) ⟨Nat.le_of_ble_eq_true rfl, Nat.le_of_ble_eq_true rfl⟩) ⟨cx_bl, cx_S hP.left.right hK Az_z hxk hS⟩ rfl rfl hl.1 rfl (lv_room (Nat.le_of_ble_eq_true rfl)) dL_acts_1387 ⟨by show _ ≤ 60; omega, by show _ ≤ 360; omega⟩) hS (fun H locs hPW hS hk1 => ?_)
      have hP := setT hne hTt hP hPW hk1
      refine W.eq (g2 := F0 m 1390 ls [.int (-1000003)]) rfl ?_
      refine lv_goto (tgt := 1399) hx hb dL_acts_1390 (by decide) ?_
      refine lv_iload hx hb dL_acts_1399 (lv_at hl 0 rfl) ?_
      refine lv_icmp_ne (tgt := 1441) hx hb dL_acts_1401 (by decide) (fun c_87 => absurd ((by decide : (-1000003 : Int32) = -1000003)) c_87) (fun c_87 => ?_)
      refine lv_iload hx hb dL_acts_1404 (lv_at hl 0 rfl) ?_
      refine lv_if_lt (tgt := 1437) hx hb dL_acts_1406 (by decide) (fun c_88 => ?_) (fun c_88 => absurd ((by decide : (-1000003 : Int32) < 0)) c_88)
      refine lv_iconst (v := 1) hx hb dL_acts_1437 (by decide) ?_
      refine lv_goto (tgt := 1442) hx hb dL_acts_1438 (by decide) ?_
      refine W.widen (k := 60) (n := 360) (by omega) (by omega) ?_
      have hpo : OKs h (N + 70) fa fm fb σ := hO.le (by omega)
      exact W.zret (v := 1) hx hb hr rfl (fun t ht hW => ⟨⟨_, (), rfl, rfl, ⟨_, _, _, _, by rw [ht]; exact hP, hpo⟩⟩, hS.F ht⟩) hS.2.2 dL_acts_1442
    · have xs : σ 1 i = 4 := x2
      rw [xs] at hl
      have hl : lv_has ls 17 [(0, .ref (ad 0)), (1, .ref (ad2 0)), (2, .ref qa), (3, .ref qm), (4, .ref qb), (5, .int zx), (6, .int zy), (7, .int (nI j4)), (8, .int (nI i)), (9, .int 4)] := hl
      refine lv_istore (lv' := [(10, .int 1), (0, .ref (ad 0)), (1, .ref (ad2 0)), (2, .ref qa), (3, .ref qm), (4, .ref qb), (5, .int zx), (6, .int zy), (7, .int (nI j4)), (8, .int (nI i)), (9, .int 4)]) hx hb dL_acts_1327 hl (by decide) rfl (fun ls hl => ?_)
      refine lv_iload hx hb dL_acts_1329 (lv_at hl 10 rfl) ?_
      refine lv_iload hx hb dL_acts_1331 (lv_at hl 0 rfl) ?_
      refine lv_if_eq (tgt := 1341) hx hb dL_acts_1333 (by decide) (fun c_89 => absurd c_89 ((by decide : ¬ (1 : Int32) = 0))) (fun c_89 => ?_)
      refine lv_bipush (v := 6) hx hb dL_acts_1336 (by decide) ?_
      refine lv_goto (tgt := 1343) hx hb dL_acts_1338 (by decide) ?_
      refine lv_icmp_ne (tgt := 1350) hx hb dL_acts_1343 (by decide) (fun c_90 => ?_) (fun c_90 => absurd c_90 ((by decide : ¬ (4 : Int32) = 6)))
      refine lv_ldc (v := (-1000003)) hx hb hown (hts (.constant RL 47 (-1000003)) (by decide +kernel)) dL_acts_1350 ?_
      refine lv_istore (lv' := [(11, .int (-1000003)), (10, .int 1), (0, .ref (ad 0)), (1, .ref (ad2 0)), (2, .ref qa), (3, .ref qm), (4, .ref qb), (5, .int zx), (6, .int zy), (7, .int (nI j4)), (8, .int (nI i)), (9, .int 4)]) hx hb dL_acts_1352 hl (by decide) rfl (fun ls hl => ?_)
      refine lv_iload hx hb dL_acts_1354 (lv_at hl 1 rfl) ?_
      refine lv_if_eq (tgt := 1368) hx hb dL_acts_1356 (by decide) (fun c_91 => absurd c_91 ((by decide : ¬ (1 : Int32) = 0))) (fun c_91 => ?_)
      refine lv_aload_n hx hb dL_acts_1359 rfl (lv_at hl 2 rfl) ?_
      refine lv_iload hx hb dL_acts_1360 (lv_at hl 10 rfl) ?_
      obtain ⟨hTo, hTt⟩ := noT_D hD
      refine lMi (fun q ⟨j9, h1, h2⟩ => by rw [h2]; exact hz j9 h1) (vx_runSW (As := [.ref (ad 0), .int (nI i)]) (rest := []) ⟨hx, hb, hml, hown, hts⟩ (c_L_keep l hst D cy ad hj σ sz (nI i) ((-1000003)) (by rw [(kK_2 hi (lit_ne (a := 4) (b := 6) x2 (by omega) (by omega) (by decide)))]; exact w13_2 _) σ (if_neg (by rw [(kK_2 hi (lit_ne (a := 4) (b := 6) x2 (by omega) (by omega) (by decide)))]; decide))) (vx_cwSW 2 hts gL_acts_L_keep rfl rfl rfl (by decide +kernel) ⟨Nat.le_of_ble_eq_true rfl, Nat.le_of_ble_eq_true rfl⟩) ⟨cx_bl, cx_S hP.left.left hK Az_z hxk hS⟩ rfl rfl hl.1 rfl (lv_room (Nat.le_of_ble_eq_true rfl)) dL_acts_1362 ⟨by show _ ≤ 60; omega, by show _ ≤ 360; omega⟩) hS (fun H locs hPW hS hk1 => ?_)
      have hP := setO hne hTo hP hPW hk1
      refine W.eq (g2 := F0 m 1365 ls [.int (-1000003)]) rfl ?_
      refine lv_goto (tgt := 1374) hx hb dL_acts_1365 (by decide) ?_
      refine lv_iload hx hb dL_acts_1374 (lv_at hl 0 rfl) ?_
      refine lv_icmp_ne (tgt := 1441) hx hb dL_acts_1376 (by decide) (fun c_92 => absurd ((by decide : (-1000003 : Int32) = -1000003)) c_92) (fun c_92 => ?_)
      refine lv_iload hx hb dL_acts_1379 (lv_at hl 1 rfl) ?_
      refine lv_if_eq (tgt := 1393) hx hb dL_acts_1381 (by decide) (fun c_93 => absurd c_93 ((by decide : ¬ (1 : Int32) = 0))) (fun c_93 => ?_)
      refine lv_aload_n hx hb dL_acts_1384 rfl (lv_at hl 3 rfl) ?_
      refine lv_iload hx hb dL_acts_1385 (lv_at hl 10 rfl) ?_
      refine lMi (fun q ⟨j9, h1, h2⟩ => by rw [h2]; exact hz2 j9 h1) (vx_runSW (As := [.ref (ad2 0), .int (nI i)]) (rest := []) ⟨hx, hb, hml, hown, hts⟩ (c_L_keep l hst D cy ad2 hj2 σ sz (nI i) ((-1000003)) (by rw [(kK_2 hi (lit_ne (a := 4) (b := 6) x2 (by omega) (by omega) (by decide)))]; exact w13_2 _) σ (if_neg (by rw [(kK_2 hi (lit_ne (a := 4) (b := 6) x2 (by omega) (by omega) (by decide)))]; decide))) (vx_cwSW 2 hts gL_acts_L_keep rfl rfl rfl (by decide +kernel) ⟨Nat.le_of_ble_eq_true rfl, Nat.le_of_ble_eq_true rfl⟩) ⟨cx_bl, cx_S hP.left.right hK Az_z hxk hS⟩ rfl rfl hl.1 rfl (lv_room (Nat.le_of_ble_eq_true rfl)) dL_acts_1387 ⟨by show _ ≤ 60; omega, by show _ ≤ 360; omega⟩) hS (fun H locs hPW hS hk1 => ?_)
      have hP := setT hne hTt hP hPW hk1
      refine W.eq (g2 := F0 m 1390 ls [.int (-1000003)]) rfl ?_
      refine lv_goto (tgt := 1399) hx hb dL_acts_1390 (by decide) ?_
      refine lv_iload hx hb dL_acts_1399 (lv_at hl 0 rfl) ?_
      refine lv_icmp_ne (tgt := 1441) hx hb dL_acts_1401 (by decide) (fun c_94 => absurd ((by decide : (-1000003 : Int32) = -1000003)) c_94) (fun c_94 => ?_)
      refine lv_iload hx hb dL_acts_1404 (lv_at hl 0 rfl) ?_
      refine lv_if_lt (tgt := 1437) hx hb dL_acts_1406 (by decide) (fun c_95 => ?_) (fun c_95 => absurd ((by decide : (-1000003 : Int32) < 0)) c_95)
      refine lv_iconst (v := 1) hx hb dL_acts_1437 (by decide) ?_
      refine lv_goto (tgt := 1442) hx hb dL_acts_1438 (by decide) ?_
      refine W.widen (k := 60) (n := 360) (by omega) (by omega) ?_
      have hpo : OKs h (N + 70) fa fm fb σ := hO.le (by omega)
      exact W.zret (v := 1) hx hb hr rfl (fun t ht hW => ⟨⟨_, (), rfl, rfl, ⟨_, _, _, _, by rw [ht]; exact hP, hpo⟩⟩, hS.F ht⟩) hS.2.2 dL_acts_1442
    · have xs : σ 1 i = 5 := x2
      rw [xs] at hl
      have hl : lv_has ls 17 [(0, .ref (ad 0)), (1, .ref (ad2 0)), (2, .ref qa), (3, .ref qm), (4, .ref qb), (5, .int zx), (6, .int zy), (7, .int (nI j4)), (8, .int (nI i)), (9, .int 5)] := hl
      refine lv_istore (lv' := [(10, .int 1), (0, .ref (ad 0)), (1, .ref (ad2 0)), (2, .ref qa), (3, .ref qm), (4, .ref qb), (5, .int zx), (6, .int zy), (7, .int (nI j4)), (8, .int (nI i)), (9, .int 5)]) hx hb dL_acts_1327 hl (by decide) rfl (fun ls hl => ?_)
      refine lv_iload hx hb dL_acts_1329 (lv_at hl 10 rfl) ?_
      refine lv_iload hx hb dL_acts_1331 (lv_at hl 0 rfl) ?_
      refine lv_if_eq (tgt := 1341) hx hb dL_acts_1333 (by decide) (fun c_96 => absurd c_96 ((by decide : ¬ (1 : Int32) = 0))) (fun c_96 => ?_)
      refine lv_bipush (v := 6) hx hb dL_acts_1336 (by decide) ?_
      refine lv_goto (tgt := 1343) hx hb dL_acts_1338 (by decide) ?_
      refine lv_icmp_ne (tgt := 1350) hx hb dL_acts_1343 (by decide) (fun c_97 => ?_) (fun c_97 => absurd c_97 ((by decide : ¬ (5 : Int32) = 6)))
      refine lv_ldc (v := (-1000003)) hx hb hown (hts (.constant RL 47 (-1000003)) (by decide +kernel)) dL_acts_1350 ?_
      refine lv_istore (lv' := [(11, .int (-1000003)), (10, .int 1), (0, .ref (ad 0)), (1, .ref (ad2 0)), (2, .ref qa), (3, .ref qm), (4, .ref qb), (5, .int zx), (6, .int zy), (7, .int (nI j4)), (8, .int (nI i)), (9, .int 5)]) hx hb dL_acts_1352 hl (by decide) rfl (fun ls hl => ?_)
      refine lv_iload hx hb dL_acts_1354 (lv_at hl 1 rfl) ?_
      refine lv_if_eq (tgt := 1368) hx hb dL_acts_1356 (by decide) (fun c_98 => absurd c_98 ((by decide : ¬ (1 : Int32) = 0))) (fun c_98 => ?_)
      refine lv_aload_n hx hb dL_acts_1359 rfl (lv_at hl 2 rfl) ?_
      refine lv_iload hx hb dL_acts_1360 (lv_at hl 10 rfl) ?_
      obtain ⟨hTo, hTt⟩ := noT_D hD
      refine lMi (fun q ⟨j9, h1, h2⟩ => by rw [h2]; exact hz j9 h1) (vx_runSW (As := [.ref (ad 0), .int (nI i)]) (rest := []) ⟨hx, hb, hml, hown, hts⟩ (c_L_keep l hst D cy ad hj σ sz (nI i) ((-1000003)) (by rw [(kK_2 hi (lit_ne (a := 5) (b := 6) x2 (by omega) (by omega) (by decide)))]; exact w13_2 _) σ (if_neg (by rw [(kK_2 hi (lit_ne (a := 5) (b := 6) x2 (by omega) (by omega) (by decide)))]; decide))) (vx_cwSW 2 hts gL_acts_L_keep rfl rfl rfl (by decide +kernel) ⟨Nat.le_of_ble_eq_true rfl, Nat.le_of_ble_eq_true rfl⟩) ⟨cx_bl, cx_S hP.left.left hK Az_z hxk hS⟩ rfl rfl hl.1 rfl (lv_room (Nat.le_of_ble_eq_true rfl)) dL_acts_1362 ⟨by show _ ≤ 60; omega, by show _ ≤ 360; omega⟩) hS (fun H locs hPW hS hk1 => ?_)
      have hP := setO hne hTo hP hPW hk1
      refine W.eq (g2 := F0 m 1365 ls [.int (-1000003)]) rfl ?_
      refine lv_goto (tgt := 1374) hx hb dL_acts_1365 (by decide) ?_
      refine lv_iload hx hb dL_acts_1374 (lv_at hl 0 rfl) ?_
      refine lv_icmp_ne (tgt := 1441) hx hb dL_acts_1376 (by decide) (fun c_99 => absurd ((by decide : (-1000003 : Int32) = -1000003)) c_99) (fun c_99 => ?_)
      refine lv_iload hx hb dL_acts_1379 (lv_at hl 1 rfl) ?_
      refine lv_if_eq (tgt := 1393) hx hb dL_acts_1381 (by decide) (fun c_100 => absurd c_100 ((by decide : ¬ (1 : Int32) = 0))) (fun c_100 => ?_)
      refine lv_aload_n hx hb dL_acts_1384 rfl (lv_at hl 3 rfl) ?_
      refine lv_iload hx hb dL_acts_1385 (lv_at hl 10 rfl) ?_
      refine lMi (fun q ⟨j9, h1, h2⟩ => by rw [h2]; exact hz2 j9 h1) (vx_runSW (As := [.ref (ad2 0), .int (nI i)]) (rest := []) ⟨hx, hb, hml, hown, hts⟩ (c_L_keep l hst D cy ad2 hj2 σ sz (nI i) ((-1000003)) (by rw [(kK_2 hi (lit_ne (a := 5) (b := 6) x2 (by omega) (by omega) (by decide)))]; exact w13_2 _) σ (if_neg (by rw [(kK_2 hi (lit_ne (a := 5) (b := 6) x2 (by omega) (by omega) (by decide)))]; decide))) (vx_cwSW 2 hts gL_acts_L_keep rfl rfl rfl (by decide +kernel) ⟨Nat.le_of_ble_eq_true rfl, Nat.le_of_ble_eq_true rfl⟩) ⟨cx_bl, cx_S hP.left.right hK Az_z hxk hS⟩ rfl rfl hl.1 rfl (lv_room (Nat.le_of_ble_eq_true rfl)) dL_acts_1387 ⟨by show _ ≤ 60; omega, by show _ ≤ 360; omega⟩) hS (fun H locs hPW hS hk1 => ?_)
      have hP := setT hne hTt hP hPW hk1
      refine W.eq (g2 := F0 m 1390 ls [.int (-1000003)]) rfl ?_
      refine lv_goto (tgt := 1399) hx hb dL_acts_1390 (by decide) ?_
      refine lv_iload hx hb dL_acts_1399 (lv_at hl 0 rfl) ?_
      refine lv_icmp_ne (tgt := 1441) hx hb dL_acts_1401 (by decide) (fun c_101 => absurd ((by decide : (-1000003 : Int32) = -1000003)) c_101) (fun c_101 => ?_)
      refine lv_iload hx hb dL_acts_1404 (lv_at hl 0 rfl) ?_
      refine lv_if_lt (tgt := 1437) hx hb dL_acts_1406 (by decide) (fun c_102 => ?_) (fun c_102 => absurd ((by decide : (-1000003 : Int32) < 0)) c_102)
      refine lv_iconst (v := 1) hx hb dL_acts_1437 (by decide) ?_
      refine lv_goto (tgt := 1442) hx hb dL_acts_1438 (by decide) ?_
      refine W.widen (k := 60) (n := 360) (by omega) (by omega) ?_
      have hpo : OKs h (N + 70) fa fm fb σ := hO.le (by omega)
      exact W.zret (v := 1) hx hb hr rfl (fun t ht hW => ⟨⟨_, (), rfl, rfl, ⟨_, _, _, _, by rw [ht]; exact hP, hpo⟩⟩, hS.F ht⟩) hS.2.2 dL_acts_1442
    · have xs : σ 1 i = 6 := x2
      rw [xs] at hl
      have hl : lv_has ls 17 [(0, .ref (ad 0)), (1, .ref (ad2 0)), (2, .ref qa), (3, .ref qm), (4, .ref qb), (5, .int zx), (6, .int zy), (7, .int (nI j4)), (8, .int (nI i)), (9, .int 6)] := hl
      obtain ⟨aO, at9, af9⟩ := a_keep hO (by omega) hi xs
      refine lv_istore (lv' := [(10, .int 1), (0, .ref (ad 0)), (1, .ref (ad2 0)), (2, .ref qa), (3, .ref qm), (4, .ref qb), (5, .int zx), (6, .int zy), (7, .int (nI j4)), (8, .int (nI i)), (9, .int 6)]) hx hb dL_acts_1327 hl (by decide) rfl (fun ls hl => ?_)
      refine lv_iload hx hb dL_acts_1329 (lv_at hl 10 rfl) ?_
      refine lv_iload hx hb dL_acts_1331 (lv_at hl 0 rfl) ?_
      refine lv_if_eq (tgt := 1341) hx hb dL_acts_1333 (by decide) (fun c_103 => absurd c_103 ((by decide : ¬ (1 : Int32) = 0))) (fun c_103 => ?_)
      refine lv_bipush (v := 6) hx hb dL_acts_1336 (by decide) ?_
      refine lv_goto (tgt := 1343) hx hb dL_acts_1338 (by decide) ?_
      refine lv_icmp_ne (tgt := 1350) hx hb dL_acts_1343 (by decide) (fun c_104 => absurd ((by decide : (6 : Int32) = 6)) c_104) (fun c_104 => ?_)
      refine lv_iconst (v := 0) hx hb dL_acts_1346 (by decide) ?_
      refine lv_goto (tgt := 1352) hx hb dL_acts_1347 (by decide) ?_
      refine lv_istore (lv' := [(11, .int 0), (10, .int 1), (0, .ref (ad 0)), (1, .ref (ad2 0)), (2, .ref qa), (3, .ref qm), (4, .ref qb), (5, .int zx), (6, .int zy), (7, .int (nI j4)), (8, .int (nI i)), (9, .int 6)]) hx hb dL_acts_1352 hl (by decide) rfl (fun ls hl => ?_)
      refine lv_iload hx hb dL_acts_1354 (lv_at hl 1 rfl) ?_
      refine lv_if_eq (tgt := 1368) hx hb dL_acts_1356 (by decide) (fun c_105 => absurd c_105 ((by decide : ¬ (1 : Int32) = 0))) (fun c_105 => ?_)
      refine lv_aload_n hx hb dL_acts_1359 rfl (lv_at hl 2 rfl) ?_
      refine lv_iload hx hb dL_acts_1360 (lv_at hl 10 rfl) ?_
      obtain ⟨hTo, hTt⟩ := noT_D hD
      refine lMi (fun q ⟨j9, h1, h2⟩ => by rw [h2]; exact hz j9 h1) (vx_runSW (As := [.ref (ad 0), .int (nI i)]) (rest := []) ⟨hx, hb, hml, hown, hts⟩ (c_L_keep l hst D cy ad hj σ sz (nI i) (0) (w13_0 (kK_0 hi xs)) (gKeep σ (nI i)) (if_pos (kK_0 hi xs))) (vx_cwSW 2 hts gL_acts_L_keep rfl rfl rfl (by decide +kernel) ⟨Nat.le_of_ble_eq_true rfl, Nat.le_of_ble_eq_true rfl⟩) ⟨cx_bl, cx_S hP.left.left hK Az_z hxk hS⟩ rfl rfl hl.1 rfl (lv_room (Nat.le_of_ble_eq_true rfl)) dL_acts_1362 ⟨by show _ ≤ 60; omega, by show _ ≤ 360; omega⟩) hS (fun H locs hPW hS hk1 => ?_)
      have hP := setO hne hTo hP hPW hk1
      refine W.eq (g2 := F0 m 1365 ls [.int 0]) rfl ?_
      refine lv_goto (tgt := 1374) hx hb dL_acts_1365 (by decide) ?_
      refine lv_iload hx hb dL_acts_1374 (lv_at hl 0 rfl) ?_
      refine lv_icmp_ne (tgt := 1441) hx hb dL_acts_1376 (by decide) (fun c_106 => absurd ((by decide : (0 : Int32) = 0)) c_106) (fun c_106 => ?_)
      refine lv_iload hx hb dL_acts_1379 (lv_at hl 1 rfl) ?_
      refine lv_if_eq (tgt := 1393) hx hb dL_acts_1381 (by decide) (fun c_107 => absurd c_107 ((by decide : ¬ (1 : Int32) = 0))) (fun c_107 => ?_)
      refine lv_aload_n hx hb dL_acts_1384 rfl (lv_at hl 3 rfl) ?_
      refine lv_iload hx hb dL_acts_1385 (lv_at hl 10 rfl) ?_
      refine lMi (fun q ⟨j9, h1, h2⟩ => by rw [h2]; exact hz2 j9 h1) (vx_runSW (As := [.ref (ad2 0), .int (nI i)]) (rest := []) ⟨hx, hb, hml, hown, hts⟩ (c_L_keep l hst D cy ad2 hj2 σ sz (nI i) (0) (w13_0 (kK_0 hi xs)) (gKeep σ (nI i)) (if_pos (kK_0 hi xs))) (vx_cwSW 2 hts gL_acts_L_keep rfl rfl rfl (by decide +kernel) ⟨Nat.le_of_ble_eq_true rfl, Nat.le_of_ble_eq_true rfl⟩) ⟨cx_bl, cx_S hP.left.right hK Az_z hxk hS⟩ rfl rfl hl.1 rfl (lv_room (Nat.le_of_ble_eq_true rfl)) dL_acts_1387 ⟨by show _ ≤ 60; omega, by show _ ≤ 360; omega⟩) hS (fun H locs hPW hS hk1 => ?_)
      have hP := setT hne hTt hP hPW hk1
      refine W.eq (g2 := F0 m 1390 ls [.int 0]) rfl ?_
      refine lv_goto (tgt := 1399) hx hb dL_acts_1390 (by decide) ?_
      refine lv_iload hx hb dL_acts_1399 (lv_at hl 0 rfl) ?_
      refine lv_icmp_ne (tgt := 1441) hx hb dL_acts_1401 (by decide) (fun c_108 => absurd ((by decide : (0 : Int32) = 0)) c_108) (fun c_108 => ?_)
      refine lv_iload hx hb dL_acts_1404 (lv_at hl 0 rfl) ?_
      refine lv_if_lt (tgt := 1437) hx hb dL_acts_1406 (by decide) (fun c_109 => absurd c_109 ((by decide : ¬ (0 : Int32) < 0))) (fun c_109 => ?_)
      refine lv_aload_n hx hb dL_acts_1409 rfl (lv_at hl 2 rfl) ?_
      refine lv_iload hx hb dL_acts_1410 (lv_at hl 10 rfl) ?_
      refine rMi (vx_runSW (As := [.ref (ad 0), .int (nI i)]) (rest := []) ⟨hx, hb, hml, hown, hts⟩ (c_L_stateOf l hst D cy ad (gKeep σ (nI i)) sz (nI i) (5) ((wS hi).trans at9)) (vx_cwSW 2 hts gL_acts_L_stateOf rfl rfl rfl (by decide +kernel) ⟨Nat.le_of_ble_eq_true rfl, Nat.le_of_ble_eq_true rfl⟩) ⟨cx_bl, cx_S hP.left.left hK Az_z hxk hS⟩ rfl rfl hl.1 rfl (lv_room (Nat.le_of_ble_eq_true rfl)) dL_acts_1412 ⟨by show _ ≤ 60; omega, by show _ ≤ 360; omega⟩) hS (fun H locs hS hg => ?_)
      have hP := hP.grown hg
      refine W.eq (g2 := F0 m 1415 ls [.int 5]) rfl ?_
      refine lv_iload hx hb dL_acts_1415 (lv_at hl 1 rfl) ?_
      refine lv_if_eq (tgt := 1424) hx hb dL_acts_1417 (by decide) (fun c_110 => absurd c_110 ((by decide : ¬ (1 : Int32) = 0))) (fun c_110 => ?_)
      refine lv_iconst (v := 5) hx hb dL_acts_1420 (by decide) ?_
      refine lv_goto (tgt := 1425) hx hb dL_acts_1421 (by decide) ?_
      refine lv_icmp_ne (tgt := 1441) hx hb dL_acts_1425 (by decide) (fun c_111 => absurd ((by decide : (5 : Int32) = 5)) c_111) (fun c_111 => ?_)
      refine lv_aload_n hx hb dL_acts_1428 rfl (lv_at hl 2 rfl) ?_
      refine lv_iload hx hb dL_acts_1429 (lv_at hl 10 rfl) ?_
      refine rMi (vx_runSW (As := [.ref (ad 0), .int (nI i)]) (rest := []) ⟨hx, hb, hml, hown, hts⟩ (c_L_failuresOf l hst D cy ad (gKeep σ (nI i)) sz (nI i) (0) ((wF hi).trans af9)) (vx_cwSW 2 hts gL_acts_L_failuresOf rfl rfl rfl (by decide +kernel) ⟨Nat.le_of_ble_eq_true rfl, Nat.le_of_ble_eq_true rfl⟩) ⟨cx_bl, cx_S hP.left.left hK Az_z hxk hS⟩ rfl rfl hl.1 rfl (lv_room (Nat.le_of_ble_eq_true rfl)) dL_acts_1431 ⟨by show _ ≤ 60; omega, by show _ ≤ 360; omega⟩) hS (fun H locs hS hg => ?_)
      have hP := hP.grown hg
      refine W.eq (g2 := F0 m 1434 ls [.int 0]) rfl ?_
      refine lv_if_ne (tgt := 1441) hx hb dL_acts_1434 (by decide) (fun c_112 => absurd ((by decide : (0 : Int32) = 0)) c_112) (fun c_112 => ?_)
      refine lv_iconst (v := 1) hx hb dL_acts_1437 (by decide) ?_
      refine lv_goto (tgt := 1442) hx hb dL_acts_1438 (by decide) ?_
      refine W.widen (k := 60) (n := 360) (by omega) (by omega) ?_
      have hpo : OKs h (N + 70) fa fm fb (gKeep σ (nI i)) := aO.le (by omega)
      exact W.zret (v := 1) hx hb hr rfl (fun t ht hW => ⟨⟨_, (), rfl, rfl, ⟨_, _, _, _, by rw [ht]; exact hP, hpo⟩⟩, hS.F ht⟩) hS.2.2 dL_acts_1442
    · have xs : σ 1 i = 7 := x2
      rw [xs] at hl
      have hl : lv_has ls 17 [(0, .ref (ad 0)), (1, .ref (ad2 0)), (2, .ref qa), (3, .ref qm), (4, .ref qb), (5, .int zx), (6, .int zy), (7, .int (nI j4)), (8, .int (nI i)), (9, .int 7)] := hl
      refine lv_istore (lv' := [(10, .int 1), (0, .ref (ad 0)), (1, .ref (ad2 0)), (2, .ref qa), (3, .ref qm), (4, .ref qb), (5, .int zx), (6, .int zy), (7, .int (nI j4)), (8, .int (nI i)), (9, .int 7)]) hx hb dL_acts_1327 hl (by decide) rfl (fun ls hl => ?_)
      refine lv_iload hx hb dL_acts_1329 (lv_at hl 10 rfl) ?_
      refine lv_iload hx hb dL_acts_1331 (lv_at hl 0 rfl) ?_
      refine lv_if_eq (tgt := 1341) hx hb dL_acts_1333 (by decide) (fun c_113 => absurd c_113 ((by decide : ¬ (1 : Int32) = 0))) (fun c_113 => ?_)
      refine lv_bipush (v := 6) hx hb dL_acts_1336 (by decide) ?_
      refine lv_goto (tgt := 1343) hx hb dL_acts_1338 (by decide) ?_
      refine lv_icmp_ne (tgt := 1350) hx hb dL_acts_1343 (by decide) (fun c_114 => ?_) (fun c_114 => absurd c_114 ((by decide : ¬ (7 : Int32) = 6)))
      refine lv_ldc (v := (-1000003)) hx hb hown (hts (.constant RL 47 (-1000003)) (by decide +kernel)) dL_acts_1350 ?_
      refine lv_istore (lv' := [(11, .int (-1000003)), (10, .int 1), (0, .ref (ad 0)), (1, .ref (ad2 0)), (2, .ref qa), (3, .ref qm), (4, .ref qb), (5, .int zx), (6, .int zy), (7, .int (nI j4)), (8, .int (nI i)), (9, .int 7)]) hx hb dL_acts_1352 hl (by decide) rfl (fun ls hl => ?_)
      refine lv_iload hx hb dL_acts_1354 (lv_at hl 1 rfl) ?_
      refine lv_if_eq (tgt := 1368) hx hb dL_acts_1356 (by decide) (fun c_115 => absurd c_115 ((by decide : ¬ (1 : Int32) = 0))) (fun c_115 => ?_)
      refine lv_aload_n hx hb dL_acts_1359 rfl (lv_at hl 2 rfl) ?_
      refine lv_iload hx hb dL_acts_1360 (lv_at hl 10 rfl) ?_
      obtain ⟨hTo, hTt⟩ := noT_D hD
      refine lMi (fun q ⟨j9, h1, h2⟩ => by rw [h2]; exact hz j9 h1) (vx_runSW (As := [.ref (ad 0), .int (nI i)]) (rest := []) ⟨hx, hb, hml, hown, hts⟩ (c_L_keep l hst D cy ad hj σ sz (nI i) ((-1000003)) (by rw [(kK_2 hi (lit_ne (a := 7) (b := 6) x2 (by omega) (by omega) (by decide)))]; exact w13_2 _) σ (if_neg (by rw [(kK_2 hi (lit_ne (a := 7) (b := 6) x2 (by omega) (by omega) (by decide)))]; decide))) (vx_cwSW 2 hts gL_acts_L_keep rfl rfl rfl (by decide +kernel) ⟨Nat.le_of_ble_eq_true rfl, Nat.le_of_ble_eq_true rfl⟩) ⟨cx_bl, cx_S hP.left.left hK Az_z hxk hS⟩ rfl rfl hl.1 rfl (lv_room (Nat.le_of_ble_eq_true rfl)) dL_acts_1362 ⟨by show _ ≤ 60; omega, by show _ ≤ 360; omega⟩) hS (fun H locs hPW hS hk1 => ?_)
      have hP := setO hne hTo hP hPW hk1
      refine W.eq (g2 := F0 m 1365 ls [.int (-1000003)]) rfl ?_
      refine lv_goto (tgt := 1374) hx hb dL_acts_1365 (by decide) ?_
      refine lv_iload hx hb dL_acts_1374 (lv_at hl 0 rfl) ?_
      refine lv_icmp_ne (tgt := 1441) hx hb dL_acts_1376 (by decide) (fun c_116 => absurd ((by decide : (-1000003 : Int32) = -1000003)) c_116) (fun c_116 => ?_)
      refine lv_iload hx hb dL_acts_1379 (lv_at hl 1 rfl) ?_
      refine lv_if_eq (tgt := 1393) hx hb dL_acts_1381 (by decide) (fun c_117 => absurd c_117 ((by decide : ¬ (1 : Int32) = 0))) (fun c_117 => ?_)
      refine lv_aload_n hx hb dL_acts_1384 rfl (lv_at hl 3 rfl) ?_
      refine lv_iload hx hb dL_acts_1385 (lv_at hl 10 rfl) ?_
      refine lMi (fun q ⟨j9, h1, h2⟩ => by rw [h2]; exact hz2 j9 h1) (vx_runSW (As := [.ref (ad2 0), .int (nI i)]) (rest := []) ⟨hx, hb, hml, hown, hts⟩ (c_L_keep l hst D cy ad2 hj2 σ sz (nI i) ((-1000003)) (by rw [(kK_2 hi (lit_ne (a := 7) (b := 6) x2 (by omega) (by omega) (by decide)))]; exact w13_2 _) σ (if_neg (by rw [(kK_2 hi (lit_ne (a := 7) (b := 6) x2 (by omega) (by omega) (by decide)))]; decide))) (vx_cwSW 2 hts gL_acts_L_keep rfl rfl rfl (by decide +kernel) ⟨Nat.le_of_ble_eq_true rfl, Nat.le_of_ble_eq_true rfl⟩) ⟨cx_bl, cx_S hP.left.right hK Az_z hxk hS⟩ rfl rfl hl.1 rfl (lv_room (Nat.le_of_ble_eq_true rfl)) dL_acts_1387 ⟨by show _ ≤ 60; omega, by show _ ≤ 360; omega⟩) hS (fun H locs hPW hS hk1 => ?_)
      have hP := setT hne hTt hP hPW hk1
      refine W.eq (g2 := F0 m 1390 ls [.int (-1000003)]) rfl ?_
      refine lv_goto (tgt := 1399) hx hb dL_acts_1390 (by decide) ?_
      refine lv_iload hx hb dL_acts_1399 (lv_at hl 0 rfl) ?_
      refine lv_icmp_ne (tgt := 1441) hx hb dL_acts_1401 (by decide) (fun c_118 => absurd ((by decide : (-1000003 : Int32) = -1000003)) c_118) (fun c_118 => ?_)
      refine lv_iload hx hb dL_acts_1404 (lv_at hl 0 rfl) ?_
      refine lv_if_lt (tgt := 1437) hx hb dL_acts_1406 (by decide) (fun c_119 => ?_) (fun c_119 => absurd ((by decide : (-1000003 : Int32) < 0)) c_119)
      refine lv_iconst (v := 1) hx hb dL_acts_1437 (by decide) ?_
      refine lv_goto (tgt := 1442) hx hb dL_acts_1438 (by decide) ?_
      refine W.widen (k := 60) (n := 360) (by omega) (by omega) ?_
      have hpo : OKs h (N + 70) fa fm fb σ := hO.le (by omega)
      exact W.zret (v := 1) hx hb hr rfl (fun t ht hW => ⟨⟨_, (), rfl, rfl, ⟨_, _, _, _, by rw [ht]; exact hP, hpo⟩⟩, hS.F ht⟩) hS.2.2 dL_acts_1442
