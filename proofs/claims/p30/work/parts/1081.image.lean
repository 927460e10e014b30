set_option maxHeartbeats 2000000 in
set_option maxRecDepth 100000 in
theorem ab_image {p : Program} {l : Launch} {e : Env} {s : State} {m : MethodId} {args : Array Value} {below : List Frame} {meth : Method} {c : Code} {D : va_G} {cy : Nat → ClassId} {ad ad2 : Nat → Nat} {σ : Mem} {sz qa qm qb : Nat} {fa fm fb : Nat → Int32} {h N i : Nat} {zx zy : Int32} {j4 : Nat} {H : Heap} {locs : List Loc} {cells slots : Nat} {ls : Array Slot} (hst : l.stackTraces = false) (hj : inj31 ad) (hj2 : inj31 ad2) (hne : apart ad ad2) (hz : ∀ i, i < 31 → sz ≤ ad i) (hz2 : ∀ i, i < 31 → sz ≤ ad2 i) (C : ACtx p s m args meth c D cy sz) (hN9 : N + 30000 < 2000000000) (hO : OKs h N fa fm fb σ) (hi : i < 16) (hP : va_P D vwCl (X2 cy ad ad2 σ σ ++ [aW cy qa 64 fa, aW cy qm 48 fm, aW cy qb 6 fb]) H) (hD : va_D (Az sz) (X2 cy ad ad2 σ σ ++ [aW cy qa 64 fa, aW cy qm 48 fm, aW cy qb 6 fb])) (hS : va_S (Az sz) s.heap H locs) (hz9 : sz ≤ s.heap.size) (hc9 : cells ≤ 1) (hs9 : slots ≤ 6) (hl : lv_has ls 17 [(0, .ref (ad 0)), (1, .ref (ad2 0)), (2, .ref qa), (3, .ref qm), (4, .ref qb), (5, .int zx), (6, .int zy), (7, .int (nI j4)), (8, .int (nI i)), (9, .int (σ 1 i))]) : W p l e (headSpec wsL_acts ({ frames := 10, cells := 60, slots := 360, locals := 172 })).room s m args below meth c H locs cells slots (MQ below (QI 1 (fun H => ∃ (σ' : Mem) (fa' fm' fb' : Nat → Int32), va_P D vwCl (X2 cy ad ad2 σ' σ' ++ [aW cy qa 64 fa', aW cy qm 48 fm', aW cy qb 6 fb']) H ∧ OKs h (N + 70) fa' fm' fb' σ') (Az sz)) args s 60 360 (Az sz)) (F0 m 303 ls []) := by
  obtain ⟨hx, hb, hr, hts, hown, hlocks, hml, hK, hxk⟩ := C
  refine W.widen (k := 1) (n := 6) hc9 hs9 ?_
  have hA : ∀ q : Nat, s.heap.size ≤ q → Az sz q := fun q hq => Nat.le_trans hz9 hq
  refine lv_iload hx hb dL_acts_303 (lv_at hl 6 rfl) ?_
  refine lv_bipush (v := 8) hx hb dL_acts_305 (by decide) ?_
  refine cS (W.runS (As := [.int zy, .int 8]) (rest := []) ⟨hx, hb, hml, hown, hts⟩ (c_L_low l zy 8 (by decide) (by decide)) (va_cwS 2 hts gL_acts_L_low rfl rfl rfl (by decide +kernel) ⟨Nat.le_of_ble_eq_true rfl, Nat.le_of_ble_eq_true rfl⟩) ⟨fun a U g mk h => h, fun U _ _ => ⟨rfl, trivial⟩⟩ rfl rfl hl.1 rfl (lv_room (Nat.le_of_ble_eq_true rfl)) dL_acts_307 ⟨by show _ ≤ 60; omega, by show _ ≤ 360; omega⟩) (fun j307 hj307 => ?_)
  refine W.eq (g2 := F0 m 310 ls [.int (nI j307)]) rfl ?_
  refine lv_istore (lv' := [(10, .int (nI j307)), (0, .ref (ad 0)), (1, .ref (ad2 0)), (2, .ref qa), (3, .ref qm), (4, .ref qb), (5, .int zx), (6, .int zy), (7, .int (nI j4)), (8, .int (nI i)), (9, .int (σ 1 i))]) hx hb dL_acts_310 hl (by decide) rfl (fun ls hl => ?_)
  by_cases h11 : σ 11 j307 = 0
  · have m0 := hO.2.2.i0 hj307 h11
    refine lv_iload hx hb dL_acts_312 (lv_at hl 7 rfl) ?_
    refine lv_iconst (v := 3) hx hb dL_acts_314 (by decide) ?_
    refine lv_ishr hx hb dL_acts_315 ?_
    refine lv_iconst (v := 3) hx hb dL_acts_316 (by decide) ?_
    refine cS (W.runS (As := [.int (zy >>> (3 &&& 31)), .int 3]) (rest := []) ⟨hx, hb, hml, hown, hts⟩ (c_L_low l (zy >>> (3 &&& 31)) 3 (by decide) (by decide)) (va_cwS 2 hts gL_acts_L_low rfl rfl rfl (by decide +kernel) ⟨Nat.le_of_ble_eq_true rfl, Nat.le_of_ble_eq_true rfl⟩) ⟨fun a U g mk h => h, fun U _ _ => ⟨rfl, trivial⟩⟩ rfl rfl hl.1 rfl (lv_room (Nat.le_of_ble_eq_true rfl)) dL_acts_317 ⟨by show _ ≤ 60; omega, by show _ ≤ 360; omega⟩) (fun j317 hj317 => ?_)
    refine W.eq (g2 := F0 m 320 ls [.int (nI j317)]) rfl ?_
    refine lv_if_ne (tgt := 327) hx hb dL_acts_320 (by decide) (fun c_1 => ?_) (fun c_1 => ?_)
    · refine lv_iconst (v := 0) hx hb dL_acts_327 (by decide) ?_
      refine lv_istore (lv' := [(11, .int 0), (10, .int (nI j307)), (0, .ref (ad 0)), (1, .ref (ad2 0)), (2, .ref qa), (3, .ref qm), (4, .ref qb), (5, .int zx), (6, .int zy), (7, .int (nI j4)), (8, .int (nI i)), (9, .int (σ 1 i))]) hx hb dL_acts_328 hl (by decide) rfl (fun ls hl => ?_)
      refine lv_aload_n hx hb dL_acts_330 rfl (lv_at hl 5 rfl) ?_
      refine lv_bipush (v := 6) hx hb dL_acts_331 (by decide) ?_
      refine lv_iload hx hb dL_acts_333 (lv_at hl 1 rfl) ?_
      refine lv_imul hx hb dL_acts_335 ?_
      refine W.eq (congrArg (fun z9 => F0 m 336 ls [.int z9, .ref qm]) (pk_mul 6 j307)) ?_
      refine raW (x := (-1)) hx hb hK (hP.right.one (k := 1) rfl) (show 6 * j307 < 48 by omega) (by decide) m0 dL_acts_336 ?_
      refine lv_if_ge (tgt := 345) hx hb dL_acts_337 (by decide) (fun c_2 => absurd c_2 ((by decide : ¬ (0 : Int32) ≤ -1))) (fun c_2 => ?_)
      refine lv_ldc (v := (-1000001)) hx hb hown (hts (.constant RL 18 (-1000001)) (by decide +kernel)) dL_acts_340 ?_
      refine lv_goto (tgt := 363) hx hb dL_acts_342 (by decide) ?_
      refine lv_istore (lv' := [(12, .int (-1000001)), (11, .int 0), (10, .int (nI j307)), (0, .ref (ad 0)), (1, .ref (ad2 0)), (2, .ref qa), (3, .ref qm), (4, .ref qb), (5, .int zx), (6, .int zy), (7, .int (nI j4)), (8, .int (nI i)), (9, .int (σ 1 i))]) hx hb dL_acts_363 hl (by decide) rfl (fun ls hl => ?_)
      refine lv_iconst (v := 1) hx hb dL_acts_365 (by decide) ?_
      refine lv_iload hx hb dL_acts_366 (lv_at hl 9 rfl) ?_
      refine lv_iconst (v := 5) hx hb dL_acts_368 (by decide) ?_
      refine lv_ishr hx hb dL_acts_369 ?_
      refine lv_bipush (v := 24) hx hb dL_acts_370 (by decide) ?_
      refine cS (W.runS (As := [.int (zy >>> (5 &&& 31)), .int 24]) (rest := [.int 1]) ⟨hx, hb, hml, hown, hts⟩ (c_L_low l (zy >>> (5 &&& 31)) 24 (by decide) (by decide)) (va_cwS 2 hts gL_acts_L_low rfl rfl rfl (by decide +kernel) ⟨Nat.le_of_ble_eq_true rfl, Nat.le_of_ble_eq_true rfl⟩) ⟨fun a U g mk h => h, fun U _ _ => ⟨rfl, trivial⟩⟩ rfl rfl hl.1 rfl (lv_room (Nat.le_of_ble_eq_true rfl)) dL_acts_372 ⟨by show _ ≤ 60; omega, by show _ ≤ 360; omega⟩) (fun j372 hj372 => ?_)
      refine W.eq (g2 := F0 m 375 ls [.int (nI j372), .int 1]) rfl ?_
      refine lv_iadd hx hb dL_acts_375 ?_
      refine W.eq (congrArg (fun z9 => F0 m 376 ls [.int z9]) (nI_add 1 j372)) ?_
      refine lv_istore (lv' := [(13, .int (nI (1 + j372))), (12, .int (-1000001)), (11, .int 0), (10, .int (nI j307)), (0, .ref (ad 0)), (1, .ref (ad2 0)), (2, .ref qa), (3, .ref qm), (4, .ref qb), (5, .int zx), (6, .int zy), (7, .int (nI j4)), (8, .int (nI i)), (9, .int (σ 1 i))]) hx hb dL_acts_376 hl (by decide) rfl (fun ls hl => ?_)
      refine lv_aload_n hx hb dL_acts_378 rfl (lv_at hl 7 rfl) ?_
      refine lv_bipush (v := 6) hx hb dL_acts_379 (by decide) ?_
      refine lv_iload hx hb dL_acts_381 (lv_at hl 3 rfl) ?_
      refine lv_imul hx hb dL_acts_383 ?_
      refine W.eq (congrArg (fun z9 => F0 m 384 ls [.int z9, .ref qm]) (pk_mul 6 j307)) ?_
      refine lv_iconst (v := 5) hx hb dL_acts_384 (by decide) ?_
      refine lv_iadd hx hb dL_acts_385 ?_
      refine W.eq (congrArg (fun z9 => F0 m 386 ls [.int z9, .ref qm]) (nI_add (6 * j307) 5)) ?_
      refine lv_iload hx hb dL_acts_386 (lv_at hl 0 rfl) ?_
      refine rs5 (j := 1) hx hb hK hP hD hS rfl (show 6 * j307 + 5 < 48 by omega) (by decide) dL_acts_388 (fun H locs hP hD hS => ?_)
      have hP : va_P D vwCl (X2 cy ad ad2 σ σ ++ [aW cy qa 64 fa, aW cy qm 48 (upd fm (6 * j307 + 5) (nI (1 + j372))), aW cy qb 6 fb]) H := hP
      have hD : va_D (Az sz) (X2 cy ad ad2 σ σ ++ [aW cy qa 64 fa, aW cy qm 48 (upd fm (6 * j307 + 5) (nI (1 + j372))), aW cy qb 6 fb]) := hD
      refine lv_aload_n hx hb dL_acts_389 rfl (lv_at hl 7 rfl) ?_
      refine lv_bipush (v := 6) hx hb dL_acts_390 (by decide) ?_
      refine lv_iload hx hb dL_acts_392 (lv_at hl 3 rfl) ?_
      refine lv_imul hx hb dL_acts_394 ?_
      refine W.eq (congrArg (fun z9 => F0 m 395 ls [.int z9, .ref qm]) (pk_mul 6 j307)) ?_
      refine lv_iload hx hb dL_acts_395 (lv_at hl 2 rfl) ?_
      refine lv_if_eq (tgt := 404) hx hb dL_acts_397 (by decide) (fun c_3 => ?_) (fun c_3 => absurd ((by decide : (0 : Int32) = 0)) c_3)
      refine lv_aload_n hx hb dL_acts_404 rfl (lv_at hl 7 rfl) ?_
      refine lv_bipush (v := 6) hx hb dL_acts_405 (by decide) ?_
      refine lv_iload hx hb dL_acts_407 (lv_at hl 3 rfl) ?_
      refine lv_imul hx hb dL_acts_409 ?_
      refine W.eq (congrArg (fun z9 => F0 m 410 ls [.int z9, .ref qm, .int (nI (6 * j307)), .ref qm]) (pk_mul 6 j307)) ?_
      refine raW (x := (-1)) hx hb hK (hP.right.one (k := 1) rfl) (show 6 * j307 < 48 by omega) (by decide) (by rw [upd_o (by omega)]; exact m0) dL_acts_410 ?_
      refine rs5 (j := 1) hx hb hK hP hD hS rfl (show 6 * j307 < 48 by omega) (by decide) dL_acts_411 (fun H locs hP hD hS => ?_)
      have hP : va_P D vwCl (X2 cy ad ad2 σ σ ++ [aW cy qa 64 fa, aW cy qm 48 (upd (upd fm (6 * j307 + 5) (nI (1 + j372))) (6 * j307) (-1)), aW cy qb 6 fb]) H := hP
      have hD : va_D (Az sz) (X2 cy ad ad2 σ σ ++ [aW cy qa 64 fa, aW cy qm 48 (upd (upd fm (6 * j307 + 5) (nI (1 + j372))) (6 * j307) (-1)), aW cy qb 6 fb]) := hD
      refine lv_iload hx hb dL_acts_412 (lv_at hl 2 rfl) ?_
      refine lv_if_eq (tgt := 426) hx hb dL_acts_414 (by decide) (fun c_4 => ?_) (fun c_4 => absurd ((by decide : (0 : Int32) = 0)) c_4)
      refine lv_aload_n hx hb dL_acts_426 rfl (lv_at hl 4 rfl) ?_
      refine lv_iload hx hb dL_acts_427 (lv_at hl 3 rfl) ?_
      refine lv_iload hx hb dL_acts_429 (lv_at hl 0 rfl) ?_
      obtain ⟨hTo, hTt⟩ := noT_D hD
      refine lMi (fun q ⟨j9, h1, h2⟩ => by rw [h2]; exact hz j9 h1) (vx_runSW (As := [.ref (ad 0), .int (nI j307), .int (nI (1 + j372))]) (rest := []) ⟨hx, hb, hml, hown, hts⟩ (c_L_setTime l hst D cy ad hj σ sz (nI j307) (nI (1 + j372)) ((-1000001)) (by rw [kT_1 hj307 h11]; exact w12_1 _) σ (if_neg (by rw [kT_1 hj307 h11]; decide))) (vx_cwSW 3 hts gL_acts_L_setTime rfl rfl rfl (by decide +kernel) ⟨Nat.le_of_ble_eq_true rfl, Nat.le_of_ble_eq_true rfl⟩) ⟨cx_bl, cx_S hP.left.left hK Az_z hxk hS⟩ rfl rfl hl.1 rfl (lv_room (Nat.le_of_ble_eq_true rfl)) dL_acts_431 ⟨by show _ ≤ 60; omega, by show _ ≤ 360; omega⟩) hS (fun H locs hPW hS hk1 => ?_)
      have hP := setO hne hTo hP hPW hk1
      refine W.eq (g2 := F0 m 434 ls [.int (-1000001)]) rfl ?_
      refine lv_iload hx hb dL_acts_434 (lv_at hl 1 rfl) ?_
      refine lv_icmp_ne (tgt := 470) hx hb dL_acts_436 (by decide) (fun c_5 => absurd ((by decide : (-1000001 : Int32) = -1000001)) c_5) (fun c_5 => ?_)
      refine lv_iload hx hb dL_acts_439 (lv_at hl 2 rfl) ?_
      refine lv_if_eq (tgt := 453) hx hb dL_acts_441 (by decide) (fun c_6 => ?_) (fun c_6 => absurd ((by decide : (0 : Int32) = 0)) c_6)
      refine lv_aload_n hx hb dL_acts_453 rfl (lv_at hl 5 rfl) ?_
      refine lv_iload hx hb dL_acts_454 (lv_at hl 3 rfl) ?_
      refine lv_iload hx hb dL_acts_456 (lv_at hl 0 rfl) ?_
      refine lMi (fun q ⟨j9, h1, h2⟩ => by rw [h2]; exact hz2 j9 h1) (vx_runSW (As := [.ref (ad2 0), .int (nI j307), .int (nI (1 + j372))]) (rest := []) ⟨hx, hb, hml, hown, hts⟩ (c_L_setTime l hst D cy ad2 hj2 σ sz (nI j307) (nI (1 + j372)) ((-1000001)) (by rw [kT_1 hj307 h11]; exact w12_1 _) σ (if_neg (by rw [kT_1 hj307 h11]; decide))) (vx_cwSW 3 hts gL_acts_L_setTime rfl rfl rfl (by decide +kernel) ⟨Nat.le_of_ble_eq_true rfl, Nat.le_of_ble_eq_true rfl⟩) ⟨cx_bl, cx_S hP.left.right hK Az_z hxk hS⟩ rfl rfl hl.1 rfl (lv_room (Nat.le_of_ble_eq_true rfl)) dL_acts_458 ⟨by show _ ≤ 60; omega, by show _ ≤ 360; omega⟩) hS (fun H locs hPW hS hk1 => ?_)
      have hP := setT hne hTt hP hPW hk1
      refine W.eq (g2 := F0 m 461 ls [.int (-1000001)]) rfl ?_
      refine lv_iload hx hb dL_acts_461 (lv_at hl 1 rfl) ?_
      refine lv_icmp_ne (tgt := 470) hx hb dL_acts_463 (by decide) (fun c_7 => absurd ((by decide : (-1000001 : Int32) = -1000001)) c_7) (fun c_7 => ?_)
      refine lv_iconst (v := 1) hx hb dL_acts_466 (by decide) ?_
      refine lv_goto (tgt := 471) hx hb dL_acts_467 (by decide) ?_
      refine W.widen (k := 60) (n := 360) (by omega) (by omega) ?_
      have hpo : OKs h (N + 70) fa (upd (upd fm (6 * j307 + 5) (nI (1 + j372))) (6 * j307) (-1)) fb σ := (a_unset (fm' := upd (upd fm (6 * j307 + 5) (nI (1 + j372))) (6 * j307) (-1)) hO hj307 h11 (fun x z1 z2 => by rw [upd_o z1, upd_o z2]) (by rw [upd_s])).le (by omega)
      exact W.zret (v := 1) hx hb hr rfl (fun t ht hW => ⟨⟨_, (), rfl, rfl, ⟨_, _, _, _, by rw [ht]; exact hP, hpo⟩⟩, hS.F ht⟩) hS.2.2 dL_acts_471
    · refine lv_iconst (v := 1) hx hb dL_acts_323 (by decide) ?_
      refine lv_goto (tgt := 328) hx hb dL_acts_324 (by decide) ?_
      refine lv_istore (lv' := [(11, .int 1), (10, .int (nI j307)), (0, .ref (ad 0)), (1, .ref (ad2 0)), (2, .ref qa), (3, .ref qm), (4, .ref qb), (5, .int zx), (6, .int zy), (7, .int (nI j4)), (8, .int (nI i)), (9, .int (σ 1 i))]) hx hb dL_acts_328 hl (by decide) rfl (fun ls hl => ?_)
      refine lv_aload_n hx hb dL_acts_330 rfl (lv_at hl 5 rfl) ?_
      refine lv_bipush (v := 6) hx hb dL_acts_331 (by decide) ?_
      refine lv_iload hx hb dL_acts_333 (lv_at hl 1 rfl) ?_
      refine lv_imul hx hb dL_acts_335 ?_
      refine W.eq (congrArg (fun z9 => F0 m 336 ls [.int z9, .ref qm]) (pk_mul 6 j307)) ?_
      refine raW (x := (-1)) hx hb hK (hP.right.one (k := 1) rfl) (show 6 * j307 < 48 by omega) (by decide) m0 dL_acts_336 ?_
      refine lv_if_ge (tgt := 345) hx hb dL_acts_337 (by decide) (fun c_8 => absurd c_8 ((by decide : ¬ (0 : Int32) ≤ -1))) (fun c_8 => ?_)
      refine lv_ldc (v := (-1000001)) hx hb hown (hts (.constant RL 18 (-1000001)) (by decide +kernel)) dL_acts_340 ?_
      refine lv_goto (tgt := 363) hx hb dL_acts_342 (by decide) ?_
      refine lv_istore (lv' := [(12, .int (-1000001)), (11, .int 1), (10, .int (nI j307)), (0, .ref (ad 0)), (1, .ref (ad2 0)), (2, .ref qa), (3, .ref qm), (4, .ref qb), (5, .int zx), (6, .int zy), (7, .int (nI j4)), (8, .int (nI i)), (9, .int (σ 1 i))]) hx hb dL_acts_363 hl (by decide) rfl (fun ls hl => ?_)
      refine lv_iconst (v := 1) hx hb dL_acts_365 (by decide) ?_
      refine lv_iload hx hb dL_acts_366 (lv_at hl 9 rfl) ?_
      refine lv_iconst (v := 5) hx hb dL_acts_368 (by decide) ?_
      refine lv_ishr hx hb dL_acts_369 ?_
      refine lv_bipush (v := 24) hx hb dL_acts_370 (by decide) ?_
      refine cS (W.runS (As := [.int (zy >>> (5 &&& 31)), .int 24]) (rest := [.int 1]) ⟨hx, hb, hml, hown, hts⟩ (c_L_low l (zy >>> (5 &&& 31)) 24 (by decide) (by decide)) (va_cwS 2 hts gL_acts_L_low rfl rfl rfl (by decide +kernel) ⟨Nat.le_of_ble_eq_true rfl, Nat.le_of_ble_eq_true rfl⟩) ⟨fun a U g mk h => h, fun U _ _ => ⟨rfl, trivial⟩⟩ rfl rfl hl.1 rfl (lv_room (Nat.le_of_ble_eq_true rfl)) dL_acts_372 ⟨by show _ ≤ 60; omega, by show _ ≤ 360; omega⟩) (fun j372 hj372 => ?_)
      refine W.eq (g2 := F0 m 375 ls [.int (nI j372), .int 1]) rfl ?_
      refine lv_iadd hx hb dL_acts_375 ?_
      refine W.eq (congrArg (fun z9 => F0 m 376 ls [.int z9]) (nI_add 1 j372)) ?_
      refine lv_istore (lv' := [(13, .int (nI (1 + j372))), (12, .int (-1000001)), (11, .int 1), (10, .int (nI j307)), (0, .ref (ad 0)), (1, .ref (ad2 0)), (2, .ref qa), (3, .ref qm), (4, .ref qb), (5, .int zx), (6, .int zy), (7, .int (nI j4)), (8, .int (nI i)), (9, .int (σ 1 i))]) hx hb dL_acts_376 hl (by decide) rfl (fun ls hl => ?_)
      refine lv_aload_n hx hb dL_acts_378 rfl (lv_at hl 7 rfl) ?_
      refine lv_bipush (v := 6) hx hb dL_acts_379 (by decide) ?_
      refine lv_iload hx hb dL_acts_381 (lv_at hl 3 rfl) ?_
      refine lv_imul hx hb dL_acts_383 ?_
      refine W.eq (congrArg (fun z9 => F0 m 384 ls [.int z9, .ref qm]) (pk_mul 6 j307)) ?_
      refine lv_iconst (v := 5) hx hb dL_acts_384 (by decide) ?_
      refine lv_iadd hx hb dL_acts_385 ?_
      refine W.eq (congrArg (fun z9 => F0 m 386 ls [.int z9, .ref qm]) (nI_add (6 * j307) 5)) ?_
      refine lv_iload hx hb dL_acts_386 (lv_at hl 0 rfl) ?_
      refine rs5 (j := 1) hx hb hK hP hD hS rfl (show 6 * j307 + 5 < 48 by omega) (by decide) dL_acts_388 (fun H locs hP hD hS => ?_)
      have hP : va_P D vwCl (X2 cy ad ad2 σ σ ++ [aW cy qa 64 fa, aW cy qm 48 (upd fm (6 * j307 + 5) (nI (1 + j372))), aW cy qb 6 fb]) H := hP
      have hD : va_D (Az sz) (X2 cy ad ad2 σ σ ++ [aW cy qa 64 fa, aW cy qm 48 (upd fm (6 * j307 + 5) (nI (1 + j372))), aW cy qb 6 fb]) := hD
      refine lv_aload_n hx hb dL_acts_389 rfl (lv_at hl 7 rfl) ?_
      refine lv_bipush (v := 6) hx hb dL_acts_390 (by decide) ?_
      refine lv_iload hx hb dL_acts_392 (lv_at hl 3 rfl) ?_
      refine lv_imul hx hb dL_acts_394 ?_
      refine W.eq (congrArg (fun z9 => F0 m 395 ls [.int z9, .ref qm]) (pk_mul 6 j307)) ?_
      refine lv_iload hx hb dL_acts_395 (lv_at hl 2 rfl) ?_
      refine lv_if_eq (tgt := 404) hx hb dL_acts_397 (by decide) (fun c_9 => absurd c_9 ((by decide : ¬ (1 : Int32) = 0))) (fun c_9 => ?_)
      refine lv_iconst (v := (-1)) hx hb dL_acts_400 (by decide) ?_
      refine lv_goto (tgt := 411) hx hb dL_acts_401 (by decide) ?_
      refine rs5 (j := 1) hx hb hK hP hD hS rfl (show 6 * j307 < 48 by omega) (by decide) dL_acts_411 (fun H locs hP hD hS => ?_)
      have hP : va_P D vwCl (X2 cy ad ad2 σ σ ++ [aW cy qa 64 fa, aW cy qm 48 (upd (upd fm (6 * j307 + 5) (nI (1 + j372))) (6 * j307) (-1)), aW cy qb 6 fb]) H := hP
      have hD : va_D (Az sz) (X2 cy ad ad2 σ σ ++ [aW cy qa 64 fa, aW cy qm 48 (upd (upd fm (6 * j307 + 5) (nI (1 + j372))) (6 * j307) (-1)), aW cy qb 6 fb]) := hD
      refine lv_iload hx hb dL_acts_412 (lv_at hl 2 rfl) ?_
      refine lv_if_eq (tgt := 426) hx hb dL_acts_414 (by decide) (fun c_10 => absurd c_10 ((by decide : ¬ (1 : Int32) = 0))) (fun c_10 => ?_)
      refine lv_aload_n hx hb dL_acts_417 rfl (lv_at hl 4 rfl) ?_
      refine lv_iload hx hb dL_acts_418 (lv_at hl 3 rfl) ?_
      obtain ⟨hTo, hTt⟩ := noT_D hD
      refine lMi (fun q ⟨j9, h1, h2⟩ => by rw [h2]; exact hz j9 h1) (vx_runSW (As := [.ref (ad 0), .int (nI j307)]) (rest := []) ⟨hx, hb, hml, hown, hts⟩ (c_L_dropImage l hst D cy ad hj σ sz (nI j307) ((-1000001)) (by rw [kD_1 hj307 h11]; exact w1_1 _) σ (if_neg (by rw [kD_1 hj307 h11]; decide))) (vx_cwSW 2 hts gL_acts_L_dropImage rfl rfl rfl (by decide +kernel) ⟨Nat.le_of_ble_eq_true rfl, Nat.le_of_ble_eq_true rfl⟩) ⟨cx_bl, cx_S hP.left.left hK Az_z hxk hS⟩ rfl rfl hl.1 rfl (lv_room (Nat.le_of_ble_eq_true rfl)) dL_acts_420 ⟨by show _ ≤ 60; omega, by show _ ≤ 360; omega⟩) hS (fun H locs hPW hS hk1 => ?_)
      have hP := setO hne hTo hP hPW hk1
      refine W.eq (g2 := F0 m 423 ls [.int (-1000001)]) rfl ?_
      refine lv_goto (tgt := 434) hx hb dL_acts_423 (by decide) ?_
      refine lv_iload hx hb dL_acts_434 (lv_at hl 1 rfl) ?_
      refine lv_icmp_ne (tgt := 470) hx hb dL_acts_436 (by decide) (fun c_11 => absurd ((by decide : (-1000001 : Int32) = -1000001)) c_11) (fun c_11 => ?_)
      refine lv_iload hx hb dL_acts_439 (lv_at hl 2 rfl) ?_
      refine lv_if_eq (tgt := 453) hx hb dL_acts_441 (by decide) (fun c_12 => absurd c_12 ((by decide : ¬ (1 : Int32) = 0))) (fun c_12 => ?_)
      refine lv_aload_n hx hb dL_acts_444 rfl (lv_at hl 5 rfl) ?_
      refine lv_iload hx hb dL_acts_445 (lv_at hl 3 rfl) ?_
      refine lMi (fun q ⟨j9, h1, h2⟩ => by rw [h2]; exact hz2 j9 h1) (vx_runSW (As := [.ref (ad2 0), .int (nI j307)]) (rest := []) ⟨hx, hb, hml, hown, hts⟩ (c_L_dropImage l hst D cy ad2 hj2 σ sz (nI j307) ((-1000001)) (by rw [kD_1 hj307 h11]; exact w1_1 _) σ (if_neg (by rw [kD_1 hj307 h11]; decide))) (vx_cwSW 2 hts gL_acts_L_dropImage rfl rfl rfl (by decide +kernel) ⟨Nat.le_of_ble_eq_true rfl, Nat.le_of_ble_eq_true rfl⟩) ⟨cx_bl, cx_S hP.left.right hK Az_z hxk hS⟩ rfl rfl hl.1 rfl (lv_room (Nat.le_of_ble_eq_true rfl)) dL_acts_447 ⟨by show _ ≤ 60; omega, by show _ ≤ 360; omega⟩) hS (fun H locs hPW hS hk1 => ?_)
      have hP := setT hne hTt hP hPW hk1
      refine W.eq (g2 := F0 m 450 ls [.int (-1000001)]) rfl ?_
      refine lv_goto (tgt := 461) hx hb dL_acts_450 (by decide) ?_
      refine lv_iload hx hb dL_acts_461 (lv_at hl 1 rfl) ?_
      refine lv_icmp_ne (tgt := 470) hx hb dL_acts_463 (by decide) (fun c_13 => absurd ((by decide : (-1000001 : Int32) = -1000001)) c_13) (fun c_13 => ?_)
      refine lv_iconst (v := 1) hx hb dL_acts_466 (by decide) ?_
      refine lv_goto (tgt := 471) hx hb dL_acts_467 (by decide) ?_
      refine W.widen (k := 60) (n := 360) (by omega) (by omega) ?_
      have hpo : OKs h (N + 70) fa (upd (upd fm (6 * j307 + 5) (nI (1 + j372))) (6 * j307) (-1)) fb σ := (a_unset (fm' := upd (upd fm (6 * j307 + 5) (nI (1 + j372))) (6 * j307) (-1)) hO hj307 h11 (fun x z1 z2 => by rw [upd_o z1, upd_o z2]) (by rw [upd_s])).le (by omega)
      exact W.zret (v := 1) hx hb hr rfl (fun t ht hW => ⟨⟨_, (), rfl, rfl, ⟨_, _, _, _, by rw [ht]; exact hP, hpo⟩⟩, hS.F ht⟩) hS.2.2 dL_acts_471
  · obtain ⟨m0, m5⟩ := hO.2.2.i1 hj307 h11
    refine lv_iload hx hb dL_acts_312 (lv_at hl 7 rfl) ?_
    refine lv_iconst (v := 3) hx hb dL_acts_314 (by decide) ?_
    refine lv_ishr hx hb dL_acts_315 ?_
    refine lv_iconst (v := 3) hx hb dL_acts_316 (by decide) ?_
    refine cS (W.runS (As := [.int (zy >>> (3 &&& 31)), .int 3]) (rest := []) ⟨hx, hb, hml, hown, hts⟩ (c_L_low l (zy >>> (3 &&& 31)) 3 (by decide) (by decide)) (va_cwS 2 hts gL_acts_L_low rfl rfl rfl (by decide +kernel) ⟨Nat.le_of_ble_eq_true rfl, Nat.le_of_ble_eq_true rfl⟩) ⟨fun a U g mk h => h, fun U _ _ => ⟨rfl, trivial⟩⟩ rfl rfl hl.1 rfl (lv_room (Nat.le_of_ble_eq_true rfl)) dL_acts_317 ⟨by show _ ≤ 60; omega, by show _ ≤ 360; omega⟩) (fun j317 hj317 => ?_)
    refine W.eq (g2 := F0 m 320 ls [.int (nI j317)]) rfl ?_
    refine lv_if_ne (tgt := 327) hx hb dL_acts_320 (by decide) (fun c_14 => ?_) (fun c_14 => ?_)
    · refine lv_iconst (v := 0) hx hb dL_acts_327 (by decide) ?_
      refine lv_istore (lv' := [(11, .int 0), (10, .int (nI j307)), (0, .ref (ad 0)), (1, .ref (ad2 0)), (2, .ref qa), (3, .ref qm), (4, .ref qb), (5, .int zx), (6, .int zy), (7, .int (nI j4)), (8, .int (nI i)), (9, .int (σ 1 i))]) hx hb dL_acts_328 hl (by decide) rfl (fun ls hl => ?_)
      refine lv_aload_n hx hb dL_acts_330 rfl (lv_at hl 5 rfl) ?_
      refine lv_bipush (v := 6) hx hb dL_acts_331 (by decide) ?_
      refine lv_iload hx hb dL_acts_333 (lv_at hl 1 rfl) ?_
      refine lv_imul hx hb dL_acts_335 ?_
      refine W.eq (congrArg (fun z9 => F0 m 336 ls [.int z9, .ref qm]) (pk_mul 6 j307)) ?_
      refine raW (x := fm (6 * j307)) hx hb hK (hP.right.one (k := 1) rfl) (show 6 * j307 < 48 by omega) (by decide) rfl dL_acts_336 ?_
      refine lv_if_ge (tgt := 345) hx hb dL_acts_337 (by decide) (fun c_15 => ?_) (fun c_15 => absurd ((Int32.not_lt.mp m0)) c_15)
      refine lv_iload hx hb dL_acts_345 (lv_at hl 0 rfl) ?_
      refine lv_if_eq (tgt := 354) hx hb dL_acts_347 (by decide) (fun c_16 => ?_) (fun c_16 => absurd ((by decide : (0 : Int32) = 0)) c_16)
      refine lv_aload_n hx hb dL_acts_354 rfl (lv_at hl 5 rfl) ?_
      refine lv_bipush (v := 6) hx hb dL_acts_355 (by decide) ?_
      refine lv_iload hx hb dL_acts_357 (lv_at hl 1 rfl) ?_
      refine lv_imul hx hb dL_acts_359 ?_
      refine W.eq (congrArg (fun z9 => F0 m 360 ls [.int z9, .ref qm]) (pk_mul 6 j307)) ?_
      refine lv_iconst (v := 5) hx hb dL_acts_360 (by decide) ?_
      refine lv_iadd hx hb dL_acts_361 ?_
      refine W.eq (congrArg (fun z9 => F0 m 362 ls [.int z9, .ref qm]) (nI_add (6 * j307) 5)) ?_
      refine raW (x := σ 17 j307) hx hb hK (hP.right.one (k := 1) rfl) (show 6 * j307 + 5 < 48 by omega) (by decide) m5 dL_acts_362 ?_
      refine lv_istore (lv' := [(12, .int (σ 17 j307)), (11, .int 0), (10, .int (nI j307)), (0, .ref (ad 0)), (1, .ref (ad2 0)), (2, .ref qa), (3, .ref qm), (4, .ref qb), (5, .int zx), (6, .int zy), (7, .int (nI j4)), (8, .int (nI i)), (9, .int (σ 1 i))]) hx hb dL_acts_363 hl (by decide) rfl (fun ls hl => ?_)
      refine lv_iconst (v := 1) hx hb dL_acts_365 (by decide) ?_
      refine lv_iload hx hb dL_acts_366 (lv_at hl 9 rfl) ?_
      refine lv_iconst (v := 5) hx hb dL_acts_368 (by decide) ?_
      refine lv_ishr hx hb dL_acts_369 ?_
      refine lv_bipush (v := 24) hx hb dL_acts_370 (by decide) ?_
      refine cS (W.runS (As := [.int (zy >>> (5 &&& 31)), .int 24]) (rest := [.int 1]) ⟨hx, hb, hml, hown, hts⟩ (c_L_low l (zy >>> (5 &&& 31)) 24 (by decide) (by decide)) (va_cwS 2 hts gL_acts_L_low rfl rfl rfl (by decide +kernel) ⟨Nat.le_of_ble_eq_true rfl, Nat.le_of_ble_eq_true rfl⟩) ⟨fun a U g mk h => h, fun U _ _ => ⟨rfl, trivial⟩⟩ rfl rfl hl.1 rfl (lv_room (Nat.le_of_ble_eq_true rfl)) dL_acts_372 ⟨by show _ ≤ 60; omega, by show _ ≤ 360; omega⟩) (fun j372 hj372 => ?_)
      refine W.eq (g2 := F0 m 375 ls [.int (nI j372), .int 1]) rfl ?_
      refine lv_iadd hx hb dL_acts_375 ?_
      refine W.eq (congrArg (fun z9 => F0 m 376 ls [.int z9]) (nI_add 1 j372)) ?_
      refine lv_istore (lv' := [(13, .int (nI (1 + j372))), (12, .int (σ 17 j307)), (11, .int 0), (10, .int (nI j307)), (0, .ref (ad 0)), (1, .ref (ad2 0)), (2, .ref qa), (3, .ref qm), (4, .ref qb), (5, .int zx), (6, .int zy), (7, .int (nI j4)), (8, .int (nI i)), (9, .int (σ 1 i))]) hx hb dL_acts_376 hl (by decide) rfl (fun ls hl => ?_)
      refine lv_aload_n hx hb dL_acts_378 rfl (lv_at hl 7 rfl) ?_
      refine lv_bipush (v := 6) hx hb dL_acts_379 (by decide) ?_
      refine lv_iload hx hb dL_acts_381 (lv_at hl 3 rfl) ?_
      refine lv_imul hx hb dL_acts_383 ?_
      refine W.eq (congrArg (fun z9 => F0 m 384 ls [.int z9, .ref qm]) (pk_mul 6 j307)) ?_
      refine lv_iconst (v := 5) hx hb dL_acts_384 (by decide) ?_
      refine lv_iadd hx hb dL_acts_385 ?_
      refine W.eq (congrArg (fun z9 => F0 m 386 ls [.int z9, .ref qm]) (nI_add (6 * j307) 5)) ?_
      refine lv_iload hx hb dL_acts_386 (lv_at hl 0 rfl) ?_
      refine rs5 (j := 1) hx hb hK hP hD hS rfl (show 6 * j307 + 5 < 48 by omega) (by decide) dL_acts_388 (fun H locs hP hD hS => ?_)
      have hP : va_P D vwCl (X2 cy ad ad2 σ σ ++ [aW cy qa 64 fa, aW cy qm 48 (upd fm (6 * j307 + 5) (nI (1 + j372))), aW cy qb 6 fb]) H := hP
      have hD : va_D (Az sz) (X2 cy ad ad2 σ σ ++ [aW cy qa 64 fa, aW cy qm 48 (upd fm (6 * j307 + 5) (nI (1 + j372))), aW cy qb 6 fb]) := hD
      refine lv_aload_n hx hb dL_acts_389 rfl (lv_at hl 7 rfl) ?_
      refine lv_bipush (v := 6) hx hb dL_acts_390 (by decide) ?_
      refine lv_iload hx hb dL_acts_392 (lv_at hl 3 rfl) ?_
      refine lv_imul hx hb dL_acts_394 ?_
      refine W.eq (congrArg (fun z9 => F0 m 395 ls [.int z9, .ref qm]) (pk_mul 6 j307)) ?_
      refine lv_iload hx hb dL_acts_395 (lv_at hl 2 rfl) ?_
      refine lv_if_eq (tgt := 404) hx hb dL_acts_397 (by decide) (fun c_17 => ?_) (fun c_17 => absurd ((by decide : (0 : Int32) = 0)) c_17)
      refine lv_aload_n hx hb dL_acts_404 rfl (lv_at hl 7 rfl) ?_
      refine lv_bipush (v := 6) hx hb dL_acts_405 (by decide) ?_
      refine lv_iload hx hb dL_acts_407 (lv_at hl 3 rfl) ?_
      refine lv_imul hx hb dL_acts_409 ?_
      refine W.eq (congrArg (fun z9 => F0 m 410 ls [.int z9, .ref qm, .int (nI (6 * j307)), .ref qm]) (pk_mul 6 j307)) ?_
      refine raW (x := fm (6 * j307)) hx hb hK (hP.right.one (k := 1) rfl) (show 6 * j307 < 48 by omega) (by decide) (by rw [upd_o (by omega)]) dL_acts_410 ?_
      refine rs5 (j := 1) hx hb hK hP hD hS rfl (show 6 * j307 < 48 by omega) (by decide) dL_acts_411 (fun H locs hP hD hS => ?_)
      have hP : va_P D vwCl (X2 cy ad ad2 σ σ ++ [aW cy qa 64 fa, aW cy qm 48 (upd (upd fm (6 * j307 + 5) (nI (1 + j372))) (6 * j307) (fm (6 * j307))), aW cy qb 6 fb]) H := hP
      have hD : va_D (Az sz) (X2 cy ad ad2 σ σ ++ [aW cy qa 64 fa, aW cy qm 48 (upd (upd fm (6 * j307 + 5) (nI (1 + j372))) (6 * j307) (fm (6 * j307))), aW cy qb 6 fb]) := hD
      refine lv_iload hx hb dL_acts_412 (lv_at hl 2 rfl) ?_
      refine lv_if_eq (tgt := 426) hx hb dL_acts_414 (by decide) (fun c_18 => ?_) (fun c_18 => absurd ((by decide : (0 : Int32) = 0)) c_18)
      refine lv_aload_n hx hb dL_acts_426 rfl (lv_at hl 4 rfl) ?_
      refine lv_iload hx hb dL_acts_427 (lv_at hl 3 rfl) ?_
      refine lv_iload hx hb dL_acts_429 (lv_at hl 0 rfl) ?_
      obtain ⟨hTo, hTt⟩ := noT_D hD
      refine lMi (fun q ⟨j9, h1, h2⟩ => by rw [h2]; exact hz j9 h1) (vx_runSW (As := [.ref (ad 0), .int (nI j307), .int (nI (1 + j372))]) (rest := []) ⟨hx, hb, hml, hown, hts⟩ (c_L_setTime l hst D cy ad hj σ sz (nI j307) (nI (1 + j372)) (σ 17 j307) ((w12_0 (kT_0 hj307 h11 (by omega) (by omega))).trans (rT_1 (by omega))) (gSetTime σ (nI j307) (nI (1 + j372))) (if_pos (kT_0 hj307 h11 (by omega) (by omega)))) (vx_cwSW 3 hts gL_acts_L_setTime rfl rfl rfl (by decide +kernel) ⟨Nat.le_of_ble_eq_true rfl, Nat.le_of_ble_eq_true rfl⟩) ⟨cx_bl, cx_S hP.left.left hK Az_z hxk hS⟩ rfl rfl hl.1 rfl (lv_room (Nat.le_of_ble_eq_true rfl)) dL_acts_431 ⟨by show _ ≤ 60; omega, by show _ ≤ 360; omega⟩) hS (fun H locs hPW hS hk1 => ?_)
      have hP := setO hne hTo hP hPW hk1
      refine W.eq (g2 := F0 m 434 ls [.int (σ 17 j307)]) rfl ?_
      refine lv_iload hx hb dL_acts_434 (lv_at hl 1 rfl) ?_
      refine lv_icmp_ne (tgt := 470) hx hb dL_acts_436 (by decide) (fun c_19 => absurd (rfl) c_19) (fun c_19 => ?_)
      refine lv_iload hx hb dL_acts_439 (lv_at hl 2 rfl) ?_
      refine lv_if_eq (tgt := 453) hx hb dL_acts_441 (by decide) (fun c_20 => ?_) (fun c_20 => absurd ((by decide : (0 : Int32) = 0)) c_20)
      refine lv_aload_n hx hb dL_acts_453 rfl (lv_at hl 5 rfl) ?_
      refine lv_iload hx hb dL_acts_454 (lv_at hl 3 rfl) ?_
      refine lv_iload hx hb dL_acts_456 (lv_at hl 0 rfl) ?_
      refine lMi (fun q ⟨j9, h1, h2⟩ => by rw [h2]; exact hz2 j9 h1) (vx_runSW (As := [.ref (ad2 0), .int (nI j307), .int (nI (1 + j372))]) (rest := []) ⟨hx, hb, hml, hown, hts⟩ (c_L_setTime l hst D cy ad2 hj2 σ sz (nI j307) (nI (1 + j372)) (σ 17 j307) ((w12_0 (kT_0 hj307 h11 (by omega) (by omega))).trans (rT_1 (by omega))) (gSetTime σ (nI j307) (nI (1 + j372))) (if_pos (kT_0 hj307 h11 (by omega) (by omega)))) (vx_cwSW 3 hts gL_acts_L_setTime rfl rfl rfl (by decide +kernel) ⟨Nat.le_of_ble_eq_true rfl, Nat.le_of_ble_eq_true rfl⟩) ⟨cx_bl, cx_S hP.left.right hK Az_z hxk hS⟩ rfl rfl hl.1 rfl (lv_room (Nat.le_of_ble_eq_true rfl)) dL_acts_458 ⟨by show _ ≤ 60; omega, by show _ ≤ 360; omega⟩) hS (fun H locs hPW hS hk1 => ?_)
      have hP := setT hne hTt hP hPW hk1
      refine W.eq (g2 := F0 m 461 ls [.int (σ 17 j307)]) rfl ?_
      refine lv_iload hx hb dL_acts_461 (lv_at hl 1 rfl) ?_
      refine lv_icmp_ne (tgt := 470) hx hb dL_acts_463 (by decide) (fun c_21 => absurd (rfl) c_21) (fun c_21 => ?_)
      refine lv_iconst (v := 1) hx hb dL_acts_466 (by decide) ?_
      refine lv_goto (tgt := 471) hx hb dL_acts_467 (by decide) ?_
      refine W.widen (k := 60) (n := 360) (by omega) (by omega) ?_
      have hpo : OKs h (N + 70) fa (upd (upd fm (6 * j307 + 5) (nI (1 + j372))) (6 * j307) (fm (6 * j307))) fb (gSetTime σ (nI j307) (nI (1 + j372))) := (a_setTime (fm' := upd (upd fm (6 * j307 + 5) (nI (1 + j372))) (6 * j307) (fm (6 * j307))) hO (by omega) hj307 (t := 1 + j372) (by omega) (by omega) h11 (fun x z1 => (Classical.em (x = 6 * j307)).elim (fun z2 => by rw [z2, upd_s]) (fun z2 => by rw [upd_o z2, upd_o z1])) (by rw [upd_o (by omega), upd_s])).le (by omega)
      exact W.zret (v := 1) hx hb hr rfl (fun t ht hW => ⟨⟨_, (), rfl, rfl, ⟨_, _, _, _, by rw [ht]; exact hP, hpo⟩⟩, hS.F ht⟩) hS.2.2 dL_acts_471
    · refine lv_iconst (v := 1) hx hb dL_acts_323 (by decide) ?_
      refine lv_goto (tgt := 328) hx hb dL_acts_324 (by decide) ?_
      refine lv_istore (lv' := [(11, .int 1), (10, .int (nI j307)), (0, .ref (ad 0)), (1, .ref (ad2 0)), (2, .ref qa), (3, .ref qm), (4, .ref qb), (5, .int zx), (6, .int zy), (7, .int (nI j4)), (8, .int (nI i)), (9, .int (σ 1 i))]) hx hb dL_acts_328 hl (by decide) rfl (fun ls hl => ?_)
      refine lv_aload_n hx hb dL_acts_330 rfl (lv_at hl 5 rfl) ?_
      refine lv_bipush (v := 6) hx hb dL_acts_331 (by decide) ?_
      refine lv_iload hx hb dL_acts_333 (lv_at hl 1 rfl) ?_
      refine lv_imul hx hb dL_acts_335 ?_
      refine W.eq (congrArg (fun z9 => F0 m 336 ls [.int z9, .ref qm]) (pk_mul 6 j307)) ?_
      refine raW (x := fm (6 * j307)) hx hb hK (hP.right.one (k := 1) rfl) (show 6 * j307 < 48 by omega) (by decide) rfl dL_acts_336 ?_
      refine lv_if_ge (tgt := 345) hx hb dL_acts_337 (by decide) (fun c_22 => ?_) (fun c_22 => absurd ((Int32.not_lt.mp m0)) c_22)
      refine lv_iload hx hb dL_acts_345 (lv_at hl 0 rfl) ?_
      refine lv_if_eq (tgt := 354) hx hb dL_acts_347 (by decide) (fun c_23 => absurd c_23 ((by decide : ¬ (1 : Int32) = 0))) (fun c_23 => ?_)
      refine lv_iconst (v := 0) hx hb dL_acts_350 (by decide) ?_
      refine lv_goto (tgt := 363) hx hb dL_acts_351 (by decide) ?_
      refine lv_istore (lv' := [(12, .int 0), (11, .int 1), (10, .int (nI j307)), (0, .ref (ad 0)), (1, .ref (ad2 0)), (2, .ref qa), (3, .ref qm), (4, .ref qb), (5, .int zx), (6, .int zy), (7, .int (nI j4)), (8, .int (nI i)), (9, .int (σ 1 i))]) hx hb dL_acts_363 hl (by decide) rfl (fun ls hl => ?_)
      refine lv_iconst (v := 1) hx hb dL_acts_365 (by decide) ?_
      refine lv_iload hx hb dL_acts_366 (lv_at hl 9 rfl) ?_
      refine lv_iconst (v := 5) hx hb dL_acts_368 (by decide) ?_
      refine lv_ishr hx hb dL_acts_369 ?_
      refine lv_bipush (v := 24) hx hb dL_acts_370 (by decide) ?_
      refine cS (W.runS (As := [.int (zy >>> (5 &&& 31)), .int 24]) (rest := [.int 1]) ⟨hx, hb, hml, hown, hts⟩ (c_L_low l (zy >>> (5 &&& 31)) 24 (by decide) (by decide)) (va_cwS 2 hts gL_acts_L_low rfl rfl rfl (by decide +kernel) ⟨Nat.le_of_ble_eq_true rfl, Nat.le_of_ble_eq_true rfl⟩) ⟨fun a U g mk h => h, fun U _ _ => ⟨rfl, trivial⟩⟩ rfl rfl hl.1 rfl (lv_room (Nat.le_of_ble_eq_true rfl)) dL_acts_372 ⟨by show _ ≤ 60; omega, by show _ ≤ 360; omega⟩) (fun j372 hj372 => ?_)
      refine W.eq (g2 := F0 m 375 ls [.int (nI j372), .int 1]) rfl ?_
      refine lv_iadd hx hb dL_acts_375 ?_
      refine W.eq (congrArg (fun z9 => F0 m 376 ls [.int z9]) (nI_add 1 j372)) ?_
      refine lv_istore (lv' := [(13, .int (nI (1 + j372))), (12, .int 0), (11, .int 1), (10, .int (nI j307)), (0, .ref (ad 0)), (1, .ref (ad2 0)), (2, .ref qa), (3, .ref qm), (4, .ref qb), (5, .int zx), (6, .int zy), (7, .int (nI j4)), (8, .int (nI i)), (9, .int (σ 1 i))]) hx hb dL_acts_376 hl (by decide) rfl (fun ls hl => ?_)
      refine lv_aload_n hx hb dL_acts_378 rfl (lv_at hl 7 rfl) ?_
      refine lv_bipush (v := 6) hx hb dL_acts_379 (by decide) ?_
      refine lv_iload hx hb dL_acts_381 (lv_at hl 3 rfl) ?_
      refine lv_imul hx hb dL_acts_383 ?_
      refine W.eq (congrArg (fun z9 => F0 m 384 ls [.int z9, .ref qm]) (pk_mul 6 j307)) ?_
      refine lv_iconst (v := 5) hx hb dL_acts_384 (by decide) ?_
      refine lv_iadd hx hb dL_acts_385 ?_
      refine W.eq (congrArg (fun z9 => F0 m 386 ls [.int z9, .ref qm]) (nI_add (6 * j307) 5)) ?_
      refine lv_iload hx hb dL_acts_386 (lv_at hl 0 rfl) ?_
      refine rs5 (j := 1) hx hb hK hP hD hS rfl (show 6 * j307 + 5 < 48 by omega) (by decide) dL_acts_388 (fun H locs hP hD hS => ?_)
      have hP : va_P D vwCl (X2 cy ad ad2 σ σ ++ [aW cy qa 64 fa, aW cy qm 48 (upd fm (6 * j307 + 5) (nI (1 + j372))), aW cy qb 6 fb]) H := hP
      have hD : va_D (Az sz) (X2 cy ad ad2 σ σ ++ [aW cy qa 64 fa, aW cy qm 48 (upd fm (6 * j307 + 5) (nI (1 + j372))), aW cy qb 6 fb]) := hD
      refine lv_aload_n hx hb dL_acts_389 rfl (lv_at hl 7 rfl) ?_
      refine lv_bipush (v := 6) hx hb dL_acts_390 (by decide) ?_
      refine lv_iload hx hb dL_acts_392 (lv_at hl 3 rfl) ?_
      refine lv_imul hx hb dL_acts_394 ?_
      refine W.eq (congrArg (fun z9 => F0 m 395 ls [.int z9, .ref qm]) (pk_mul 6 j307)) ?_
      refine lv_iload hx hb dL_acts_395 (lv_at hl 2 rfl) ?_
      refine lv_if_eq (tgt := 404) hx hb dL_acts_397 (by decide) (fun c_24 => absurd c_24 ((by decide : ¬ (1 : Int32) = 0))) (fun c_24 => ?_)
      refine lv_iconst (v := (-1)) hx hb dL_acts_400 (by decide) ?_
      refine lv_goto (tgt := 411) hx hb dL_acts_401 (by decide) ?_
      refine rs5 (j := 1) hx hb hK hP hD hS rfl (show 6 * j307 < 48 by omega) (by decide) dL_acts_411 (fun H locs hP hD hS => ?_)
      have hP : va_P D vwCl (X2 cy ad ad2 σ σ ++ [aW cy qa 64 fa, aW cy qm 48 (upd (upd fm (6 * j307 + 5) (nI (1 + j372))) (6 * j307) (-1)), aW cy qb 6 fb]) H := hP
      have hD : va_D (Az sz) (X2 cy ad ad2 σ σ ++ [aW cy qa 64 fa, aW cy qm 48 (upd (upd fm (6 * j307 + 5) (nI (1 + j372))) (6 * j307) (-1)), aW cy qb 6 fb]) := hD
      refine lv_iload hx hb dL_acts_412 (lv_at hl 2 rfl) ?_
      refine lv_if_eq (tgt := 426) hx hb dL_acts_414 (by decide) (fun c_25 => absurd c_25 ((by decide : ¬ (1 : Int32) = 0))) (fun c_25 => ?_)
      refine lv_aload_n hx hb dL_acts_417 rfl (lv_at hl 4 rfl) ?_
      refine lv_iload hx hb dL_acts_418 (lv_at hl 3 rfl) ?_
      obtain ⟨hTo, hTt⟩ := noT_D hD
      refine lMi (fun q ⟨j9, h1, h2⟩ => by rw [h2]; exact hz j9 h1) (vx_runSW (As := [.ref (ad 0), .int (nI j307)]) (rest := []) ⟨hx, hb, hml, hown, hts⟩ (c_L_dropImage l hst D cy ad hj σ sz (nI j307) (0) (w1_0 (kD_0 hj307 h11)) (gDropImage σ (nI j307)) (if_pos (kD_0 hj307 h11))) (vx_cwSW 2 hts gL_acts_L_dropImage rfl rfl rfl (by decide +kernel) ⟨Nat.le_of_ble_eq_true rfl, Nat.le_of_ble_eq_true rfl⟩) ⟨cx_bl, cx_S hP.left.left hK Az_z hxk hS⟩ rfl rfl hl.1 rfl (lv_room (Nat.le_of_ble_eq_true rfl)) dL_acts_420 ⟨by show _ ≤ 60; omega, by show _ ≤ 360; omega⟩) hS (fun H locs hPW hS hk1 => ?_)
      have hP := setO hne hTo hP hPW hk1
      refine W.eq (g2 := F0 m 423 ls [.int 0]) rfl ?_
      refine lv_goto (tgt := 434) hx hb dL_acts_423 (by decide) ?_
      refine lv_iload hx hb dL_acts_434 (lv_at hl 1 rfl) ?_
      refine lv_icmp_ne (tgt := 470) hx hb dL_acts_436 (by decide) (fun c_26 => absurd ((by decide : (0 : Int32) = 0)) c_26) (fun c_26 => ?_)
      refine lv_iload hx hb dL_acts_439 (lv_at hl 2 rfl) ?_
      refine lv_if_eq (tgt := 453) hx hb dL_acts_441 (by decide) (fun c_27 => absurd c_27 ((by decide : ¬ (1 : Int32) = 0))) (fun c_27 => ?_)
      refine lv_aload_n hx hb dL_acts_444 rfl (lv_at hl 5 rfl) ?_
      refine lv_iload hx hb dL_acts_445 (lv_at hl 3 rfl) ?_
      refine lMi (fun q ⟨j9, h1, h2⟩ => by rw [h2]; exact hz2 j9 h1) (vx_runSW (As := [.ref (ad2 0), .int (nI j307)]) (rest := []) ⟨hx, hb, hml, hown, hts⟩ (c_L_dropImage l hst D cy ad2 hj2 σ sz (nI j307) (0) (w1_0 (kD_0 hj307 h11)) (gDropImage σ (nI j307)) (if_pos (kD_0 hj307 h11))) (vx_cwSW 2 hts gL_acts_L_dropImage rfl rfl rfl (by decide +kernel) ⟨Nat.le_of_ble_eq_true rfl, Nat.le_of_ble_eq_true rfl⟩) ⟨cx_bl, cx_S hP.left.right hK Az_z hxk hS⟩ rfl rfl hl.1 rfl (lv_room (Nat.le_of_ble_eq_true rfl)) dL_acts_447 ⟨by show _ ≤ 60; omega, by show _ ≤ 360; omega⟩) hS (fun H locs hPW hS hk1 => ?_)
      have hP := setT hne hTt hP hPW hk1
      refine W.eq (g2 := F0 m 450 ls [.int 0]) rfl ?_
      refine lv_goto (tgt := 461) hx hb dL_acts_450 (by decide) ?_
      refine lv_iload hx hb dL_acts_461 (lv_at hl 1 rfl) ?_
      refine lv_icmp_ne (tgt := 470) hx hb dL_acts_463 (by decide) (fun c_28 => absurd ((by decide : (0 : Int32) = 0)) c_28) (fun c_28 => ?_)
      refine lv_iconst (v := 1) hx hb dL_acts_466 (by decide) ?_
      refine lv_goto (tgt := 471) hx hb dL_acts_467 (by decide) ?_
      refine W.widen (k := 60) (n := 360) (by omega) (by omega) ?_
      have hpo : OKs h (N + 70) fa (upd (upd fm (6 * j307 + 5) (nI (1 + j372))) (6 * j307) (-1)) fb (gDropImage σ (nI j307)) := (a_drop (fm' := upd (upd fm (6 * j307 + 5) (nI (1 + j372))) (6 * j307) (-1)) hO (by omega) hj307 (fun x z1 z2 => by rw [upd_o z1, upd_o z2]) (by rw [upd_s])).le (by omega)
      exact W.zret (v := 1) hx hb hr rfl (fun t ht hW => ⟨⟨_, (), rfl, rfl, ⟨_, _, _, _, by rw [ht]; exact hP, hpo⟩⟩, hS.F ht⟩) hS.2.2 dL_acts_471
