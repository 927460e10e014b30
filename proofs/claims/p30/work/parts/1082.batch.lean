set_option maxHeartbeats 2000000 in
set_option maxRecDepth 100000 in
theorem ab_batch {p : Program} {l : Launch} {e : Env} {s : State} {m : MethodId} {args : Array Value} {below : List Frame} {meth : Method} {c : Code} {D : va_G} {cy : Nat → ClassId} {ad ad2 : Nat → Nat} {σ : Mem} {sz qa qm qb : Nat} {fa fm fb : Nat → Int32} {h N i : Nat} {zx zy : Int32} {j4 : Nat} {H : Heap} {locs : List Loc} {cells slots : Nat} {ls : Array Slot} (hst : l.stackTraces = false) (hj : inj31 ad) (hj2 : inj31 ad2) (hne : apart ad ad2) (hz : ∀ i, i < 31 → sz ≤ ad i) (hz2 : ∀ i, i < 31 → sz ≤ ad2 i) (C : ACtx p s m args meth c D cy sz) (hN9 : N + 30000 < 2000000000) (hO : OKs h N fa fm fb σ) (hi : i < 16) (hP : va_P D vwCl (X2 cy ad ad2 σ σ ++ [aW cy qa 64 fa, aW cy qm 48 fm, aW cy qb 6 fb]) H) (hD : va_D (Az sz) (X2 cy ad ad2 σ σ ++ [aW cy qa 64 fa, aW cy qm 48 fm, aW cy qb 6 fb])) (hS : va_S (Az sz) s.heap H locs) (hz9 : sz ≤ s.heap.size) (hc9 : cells ≤ 1) (hs9 : slots ≤ 6) (hl : lv_has ls 17 [(0, .ref (ad 0)), (1, .ref (ad2 0)), (2, .ref qa), (3, .ref qm), (4, .ref qb), (5, .int zx), (6, .int zy), (7, .int (nI j4)), (8, .int (nI i)), (9, .int (σ 1 i))]) : W p l e (headSpec wsL_acts ({ frames := 10, cells := 60, slots := 360, locals := 172 })).room s m args below meth c H locs cells slots (MQ below (QI 1 (fun H => ∃ (σ' : Mem) (fa' fm' fb' : Nat → Int32), va_P D vwCl (X2 cy ad ad2 σ' σ' ++ [aW cy qa 64 fa', aW cy qm 48 fm', aW cy qb 6 fb']) H ∧ OKs h (N + 70) fa' fm' fb' σ') (Az sz)) args s 60 360 (Az sz)) (F0 m 478 ls []) := by
  obtain ⟨hx, hb, hr, hts, hown, hlocks, hml, hK, hxk⟩ := C
  refine W.widen (k := 1) (n := 6) hc9 hs9 ?_
  have hA : ∀ q : Nat, s.heap.size ≤ q → Az sz q := fun q hq => Nat.le_trans hz9 hq
  refine lv_iload hx hb dL_acts_478 (lv_at hl 6 rfl) ?_
  refine lv_iconst (v := 4) hx hb dL_acts_480 (by decide) ?_
  refine cS (W.runS (As := [.int zy, .int 4]) (rest := []) ⟨hx, hb, hml, hown, hts⟩ (c_L_low l zy 4 (by decide) (by decide)) (va_cwS 2 hts gL_acts_L_low rfl rfl rfl (by decide +kernel) ⟨Nat.le_of_ble_eq_true rfl, Nat.le_of_ble_eq_true rfl⟩) ⟨fun a U g mk h => h, fun U _ _ => ⟨rfl, trivial⟩⟩ rfl rfl hl.1 rfl (lv_room (Nat.le_of_ble_eq_true rfl)) dL_acts_481 ⟨by show _ ≤ 60; omega, by show _ ≤ 360; omega⟩) (fun j481 hj481 => ?_)
  refine W.eq (g2 := F0 m 484 ls [.int (nI j481)]) rfl ?_
  refine lv_istore (lv' := [(10, .int (nI j481)), (0, .ref (ad 0)), (1, .ref (ad2 0)), (2, .ref qa), (3, .ref qm), (4, .ref qb), (5, .int zx), (6, .int zy), (7, .int (nI j4)), (8, .int (nI i)), (9, .int (σ 1 i))]) hx hb dL_acts_484 hl (by decide) rfl (fun ls hl => ?_)
  refine lv_aload hx hb dL_acts_486 (lv_at hl 5 rfl) ?_
  refine lv_iload hx hb dL_acts_488 (lv_at hl 0 rfl) ?_
  refine raW (x := σ 21 j481) hx hb hK (hP.right.one (k := 2) rfl) (show j481 < 6 by omega) (by decide) (hO.2.2.2.2.1 j481 hj481) dL_acts_490 ?_
  refine lv_istore (lv' := [(11, .int (σ 21 j481)), (10, .int (nI j481)), (0, .ref (ad 0)), (1, .ref (ad2 0)), (2, .ref qa), (3, .ref qm), (4, .ref qb), (5, .int zx), (6, .int zy), (7, .int (nI j4)), (8, .int (nI i)), (9, .int (σ 1 i))]) hx hb dL_acts_491 hl (by decide) rfl (fun ls hl => ?_)
  refine lv_aload hx hb dL_acts_493 (lv_at hl 6 rfl) ?_
  refine lv_iload hx hb dL_acts_495 (lv_at hl 1 rfl) ?_
  refine lv_iload hx hb dL_acts_497 (lv_at hl 8 rfl) ?_
  refine lv_iconst (v := 2) hx hb dL_acts_499 (by decide) ?_
  refine lv_ishr hx hb dL_acts_500 ?_
  refine lv_iconst (v := 5) hx hb dL_acts_501 (by decide) ?_
  refine cS (W.runS (As := [.int (zy >>> (2 &&& 31)), .int 5]) (rest := [.int (nI j481), .ref qb]) ⟨hx, hb, hml, hown, hts⟩ (c_L_low l (zy >>> (2 &&& 31)) 5 (by decide) (by decide)) (va_cwS 2 hts gL_acts_L_low rfl rfl rfl (by decide +kernel) ⟨Nat.le_of_ble_eq_true rfl, Nat.le_of_ble_eq_true rfl⟩) ⟨fun a U g mk h => h, fun U _ _ => ⟨rfl, trivial⟩⟩ rfl rfl hl.1 rfl (lv_room (Nat.le_of_ble_eq_true rfl)) dL_acts_502 ⟨by show _ ≤ 60; omega, by show _ ≤ 360; omega⟩) (fun j502 hj502 => ?_)
  refine W.eq (g2 := F0 m 505 ls [.int (nI j502), .int (nI j481), .ref qb]) rfl ?_
  refine rs5 (j := 2) hx hb hK hP hD hS rfl (show j481 < 6 by omega) (by decide) dL_acts_505 (fun H locs hP hD hS => ?_)
  have hP : va_P D vwCl (X2 cy ad ad2 σ σ ++ [aW cy qa 64 fa, aW cy qm 48 fm, aW cy qb 6 (upd fb j481 (nI j502))]) H := hP
  have hD : va_D (Az sz) (X2 cy ad ad2 σ σ ++ [aW cy qa 64 fa, aW cy qm 48 fm, aW cy qb 6 (upd fb j481 (nI j502))]) := hD
  refine lv_aload_n hx hb dL_acts_506 rfl (lv_at hl 2 rfl) ?_
  refine lv_iload hx hb dL_acts_507 (lv_at hl 1 rfl) ?_
  refine lv_aload hx hb dL_acts_509 (lv_at hl 6 rfl) ?_
  refine lv_iload hx hb dL_acts_511 (lv_at hl 1 rfl) ?_
  refine raW (x := nI j502) hx hb hK (hP.right.one (k := 2) rfl) (show j481 < 6 by omega) (by decide) (by rw [upd_s]) dL_acts_513 ?_
  obtain ⟨hTo, hTt⟩ := noT_D hD
  refine lMi (fun q ⟨j9, h1, h2⟩ => by rw [h2]; exact hz j9 h1) (vx_runSW (As := [.ref (ad 0), .int (nI j481), .int (nI j502)]) (rest := []) ⟨hx, hb, hml, hown, hts⟩ (c_L_setBatch l hst D cy ad hj σ sz (nI j481) (nI j502) (σ 21 j481) ((w12_0 (kB_0 hj481 (by omega))).trans (rB_1 (by omega))) (gSetBatch σ (nI j481) (nI j502)) (if_pos (kB_0 hj481 (by omega)))) (vx_cwSW 3 hts gL_acts_L_setBatch rfl rfl rfl (by decide +kernel) ⟨Nat.le_of_ble_eq_true rfl, Nat.le_of_ble_eq_true rfl⟩) ⟨cx_bl, cx_S hP.left.left hK Az_z hxk hS⟩ rfl rfl hl.1 rfl (lv_room (Nat.le_of_ble_eq_true rfl)) dL_acts_514 ⟨by show _ ≤ 60; omega, by show _ ≤ 360; omega⟩) hS (fun H locs hPW hS hk1 => ?_)
  have hP := setO hne hTo hP hPW hk1
  refine W.eq (g2 := F0 m 517 ls [.int (σ 21 j481)]) rfl ?_
  refine lv_iload hx hb dL_acts_517 (lv_at hl 0 rfl) ?_
  refine lv_icmp_ne (tgt := 542) hx hb dL_acts_519 (by decide) (fun c_1 => absurd (rfl) c_1) (fun c_1 => ?_)
  refine lv_aload_n hx hb dL_acts_522 rfl (lv_at hl 3 rfl) ?_
  refine lv_iload hx hb dL_acts_523 (lv_at hl 1 rfl) ?_
  refine lv_aload hx hb dL_acts_525 (lv_at hl 6 rfl) ?_
  refine lv_iload hx hb dL_acts_527 (lv_at hl 1 rfl) ?_
  refine raW (x := nI j502) hx hb hK (hP.right.one (k := 2) rfl) (show j481 < 6 by omega) (by decide) (by rw [upd_s]) dL_acts_529 ?_
  refine lMi (fun q ⟨j9, h1, h2⟩ => by rw [h2]; exact hz2 j9 h1) (vx_runSW (As := [.ref (ad2 0), .int (nI j481), .int (nI j502)]) (rest := []) ⟨hx, hb, hml, hown, hts⟩ (c_L_setBatch l hst D cy ad2 hj2 σ sz (nI j481) (nI j502) (σ 21 j481) ((w12_0 (kB_0 hj481 (by omega))).trans (rB_1 (by omega))) (gSetBatch σ (nI j481) (nI j502)) (if_pos (kB_0 hj481 (by omega)))) (vx_cwSW 3 hts gL_acts_L_setBatch rfl rfl rfl (by decide +kernel) ⟨Nat.le_of_ble_eq_true rfl, Nat.le_of_ble_eq_true rfl⟩) ⟨cx_bl, cx_S hP.left.right hK Az_z hxk hS⟩ rfl rfl hl.1 rfl (lv_room (Nat.le_of_ble_eq_true rfl)) dL_acts_530 ⟨by show _ ≤ 60; omega, by show _ ≤ 360; omega⟩) hS (fun H locs hPW hS hk1 => ?_)
  have hP := setT hne hTt hP hPW hk1
  refine W.eq (g2 := F0 m 533 ls [.int (σ 21 j481)]) rfl ?_
  refine lv_iload hx hb dL_acts_533 (lv_at hl 0 rfl) ?_
  refine lv_icmp_ne (tgt := 542) hx hb dL_acts_535 (by decide) (fun c_2 => absurd (rfl) c_2) (fun c_2 => ?_)
  refine lv_iconst (v := 1) hx hb dL_acts_538 (by decide) ?_
  refine lv_goto (tgt := 543) hx hb dL_acts_539 (by decide) ?_
  refine W.widen (k := 60) (n := 360) (by omega) (by omega) ?_
  have hpo : OKs h (N + 70) fa fm (upd fb j481 (nI j502)) (gSetBatch σ (nI j481) (nI j502)) := (a_setBatch (fb' := upd fb j481 (nI j502)) hO (by omega) hj481 (fun x z1 => upd_o z1) (upd_s _ _ _)).le (by omega)
  exact W.zret (v := 1) hx hb hr rfl (fun t ht hW => ⟨⟨_, (), rfl, rfl, ⟨_, _, _, _, by rw [ht]; exact hP, hpo⟩⟩, hS.F ht⟩) hS.2.2 dL_acts_543
set_option maxHeartbeats 2000000 in
set_option maxRecDepth 100000 in
theorem ab_retries {p : Program} {l : Launch} {e : Env} {s : State} {m : MethodId} {args : Array Value} {below : List Frame} {meth : Method} {c : Code} {D : va_G} {cy : Nat → ClassId} {ad ad2 : Nat → Nat} {σ : Mem} {sz qa qm qb : Nat} {fa fm fb : Nat → Int32} {h N i : Nat} {zx zy : Int32} {j4 : Nat} {H : Heap} {locs : List Loc} {cells slots : Nat} {ls : Array Slot} (hst : l.stackTraces = false) (hj : inj31 ad) (hj2 : inj31 ad2) (hne : apart ad ad2) (hz : ∀ i, i < 31 → sz ≤ ad i) (hz2 : ∀ i, i < 31 → sz ≤ ad2 i) (C : ACtx p s m args meth c D cy sz) (hN9 : N + 30000 < 2000000000) (hO : OKs h N fa fm fb σ) (hi : i < 16) (hP : va_P D vwCl (X2 cy ad ad2 σ σ ++ [aW cy qa 64 fa, aW cy qm 48 fm, aW cy qb 6 fb]) H) (hD : va_D (Az sz) (X2 cy ad ad2 σ σ ++ [aW cy qa 64 fa, aW cy qm 48 fm, aW cy qb 6 fb])) (hS : va_S (Az sz) s.heap H locs) (hz9 : sz ≤ s.heap.size) (hc9 : cells ≤ 1) (hs9 : slots ≤ 6) (hl : lv_has ls 17 [(0, .ref (ad 0)), (1, .ref (ad2 0)), (2, .ref qa), (3, .ref qm), (4, .ref qb), (5, .int zx), (6, .int zy), (7, .int (nI j4)), (8, .int (nI i)), (9, .int (σ 1 i))]) : W p l e (headSpec wsL_acts ({ frames := 10, cells := 60, slots := 360, locals := 172 })).room s m args below meth c H locs cells slots (MQ below (QI 1 (fun H => ∃ (σ' : Mem) (fa' fm' fb' : Nat → Int32), va_P D vwCl (X2 cy ad ad2 σ' σ' ++ [aW cy qa 64 fa', aW cy qm 48 fm', aW cy qb 6 fb']) H ∧ OKs h (N + 70) fa' fm' fb' σ') (Az sz)) args s 60 360 (Az sz)) (F0 m 550 ls []) := by
  obtain ⟨hx, hb, hr, hts, hown, hlocks, hml, hK, hxk⟩ := C
  refine W.widen (k := 1) (n := 6) hc9 hs9 ?_
  have hA : ∀ q : Nat, s.heap.size ≤ q → Az sz q := fun q hq => Nat.le_trans hz9 hq
  refine lv_aload hx hb dL_acts_550 (lv_at hl 4 rfl) ?_
  refine lv_iconst (v := 4) hx hb dL_acts_552 (by decide) ?_
  refine lv_iconst (v := 1) hx hb dL_acts_553 (by decide) ?_
  refine lv_iload hx hb dL_acts_554 (lv_at hl 6 rfl) ?_
  refine lv_bipush (v := 6) hx hb dL_acts_556 (by decide) ?_
  refine cS (W.runS (As := [.int zy, .int 6]) (rest := [.int 1, .int 4, .ref qb]) ⟨hx, hb, hml, hown, hts⟩ (c_L_low l zy 6 (by decide) (by decide)) (va_cwS 2 hts gL_acts_L_low rfl rfl rfl (by decide +kernel) ⟨Nat.le_of_ble_eq_true rfl, Nat.le_of_ble_eq_true rfl⟩) ⟨fun a U g mk h => h, fun U _ _ => ⟨rfl, trivial⟩⟩ rfl rfl hl.1 rfl (lv_room (Nat.le_of_ble_eq_true rfl)) dL_acts_558 ⟨by show _ ≤ 60; omega, by show _ ≤ 360; omega⟩) (fun j558 hj558 => ?_)
  refine W.eq (g2 := F0 m 561 ls [.int (nI j558), .int 1, .int 4, .ref qb]) rfl ?_
  refine lv_iadd hx hb dL_acts_561 ?_
  refine W.eq (congrArg (fun z9 => F0 m 562 ls [.int z9, .int 4, .ref qb]) (nI_add 1 j558)) ?_
  refine W.eq (g2 := F0 m 562 ls [.int (nI (1 + j558)), .int (nI 4), .ref qb]) rfl ?_
  refine rs5 (j := 2) hx hb hK hP hD hS rfl (show 4 < 6 by omega) (by decide) dL_acts_562 (fun H locs hP hD hS => ?_)
  have hP : va_P D vwCl (X2 cy ad ad2 σ σ ++ [aW cy qa 64 fa, aW cy qm 48 fm, aW cy qb 6 (upd fb 4 (nI (1 + j558)))]) H := hP
  have hD : va_D (Az sz) (X2 cy ad ad2 σ σ ++ [aW cy qa 64 fa, aW cy qm 48 fm, aW cy qb 6 (upd fb 4 (nI (1 + j558)))]) := hD
  refine lv_aload hx hb dL_acts_563 (lv_at hl 4 rfl) ?_
  refine lv_iconst (v := 5) hx hb dL_acts_565 (by decide) ?_
  refine lv_iconst (v := 1) hx hb dL_acts_566 (by decide) ?_
  refine lv_iload hx hb dL_acts_567 (lv_at hl 6 rfl) ?_
  refine lv_iconst (v := 3) hx hb dL_acts_569 (by decide) ?_
  refine lv_ishr hx hb dL_acts_570 ?_
  refine lv_bipush (v := 9) hx hb dL_acts_571 (by decide) ?_
  refine cS (W.runS (As := [.int (zy >>> (3 &&& 31)), .int 9]) (rest := [.int 1, .int 5, .ref qb]) ⟨hx, hb, hml, hown, hts⟩ (c_L_low l (zy >>> (3 &&& 31)) 9 (by decide) (by decide)) (va_cwS 2 hts gL_acts_L_low rfl rfl rfl (by decide +kernel) ⟨Nat.le_of_ble_eq_true rfl, Nat.le_of_ble_eq_true rfl⟩) ⟨fun a U g mk h => h, fun U _ _ => ⟨rfl, trivial⟩⟩ rfl rfl hl.1 rfl (lv_room (Nat.le_of_ble_eq_true rfl)) dL_acts_573 ⟨by show _ ≤ 60; omega, by show _ ≤ 360; omega⟩) (fun j573 hj573 => ?_)
  refine W.eq (g2 := F0 m 576 ls [.int (nI j573), .int 1, .int 5, .ref qb]) rfl ?_
  refine lv_iadd hx hb dL_acts_576 ?_
  refine W.eq (congrArg (fun z9 => F0 m 577 ls [.int z9, .int 5, .ref qb]) (nI_add 1 j573)) ?_
  refine W.eq (g2 := F0 m 577 ls [.int (nI (1 + j573)), .int (nI 5), .ref qb]) rfl ?_
  refine rs5 (j := 2) hx hb hK hP hD hS rfl (show 5 < 6 by omega) (by decide) dL_acts_577 (fun H locs hP hD hS => ?_)
  have hP : va_P D vwCl (X2 cy ad ad2 σ σ ++ [aW cy qa 64 fa, aW cy qm 48 fm, aW cy qb 6 (upd (upd fb 4 (nI (1 + j558))) 5 (nI (1 + j573)))]) H := hP
  have hD : va_D (Az sz) (X2 cy ad ad2 σ σ ++ [aW cy qa 64 fa, aW cy qm 48 fm, aW cy qb 6 (upd (upd fb 4 (nI (1 + j558))) 5 (nI (1 + j573)))]) := hD
  refine lv_aload_n hx hb dL_acts_578 rfl (lv_at hl 0 rfl) ?_
  refine lv_aload hx hb dL_acts_579 (lv_at hl 4 rfl) ?_
  refine lv_iconst (v := 4) hx hb dL_acts_581 (by decide) ?_
  refine W.eq (g2 := F0 m 582 ls [.int (nI 4), .ref qb, .ref (ad 0)]) rfl ?_
  refine raW (x := nI (1 + j558)) hx hb hK (hP.right.one (k := 2) rfl) (show 4 < 6 by omega) (by decide) (by rw [upd_o (by omega), upd_s]) dL_acts_582 ?_
  refine lv_aload hx hb dL_acts_583 (lv_at hl 4 rfl) ?_
  refine lv_iconst (v := 5) hx hb dL_acts_585 (by decide) ?_
  refine W.eq (g2 := F0 m 586 ls [.int (nI 5), .ref qb, .int (nI (1 + j558)), .ref (ad 0)]) rfl ?_
  refine raW (x := nI (1 + j573)) hx hb hK (hP.right.one (k := 2) rfl) (show 5 < 6 by omega) (by decide) (by rw [upd_s]) dL_acts_586 ?_
  obtain ⟨hTo, hTt⟩ := noT_D hD
  refine lMi (fun q ⟨j9, h1, h2⟩ => by rw [h2]; exact hz j9 h1) (vx_runSW (As := [.ref (ad 0), .int (nI (1 + j558)), .int (nI (1 + j573))]) (rest := []) ⟨hx, hb, hml, hown, hts⟩ (c_L_setRetries l hst D cy ad hj σ sz (nI (1 + j558)) (nI (1 + j573)) (0) (w2_0 (kS_0 (by omega) (by omega) (by omega) (by omega))) (gSetRetries σ (nI (1 + j558)) (nI (1 + j573))) (if_pos (kS_0 (by omega) (by omega) (by omega) (by omega)))) (vx_cwSW 3 hts gL_acts_L_setRetries rfl rfl rfl (by decide +kernel) ⟨Nat.le_of_ble_eq_true rfl, Nat.le_of_ble_eq_true rfl⟩) ⟨cx_bl, cx_S hP.left.left hK Az_z hxk hS⟩ rfl rfl hl.1 rfl (lv_room (Nat.le_of_ble_eq_true rfl)) dL_acts_587 ⟨by show _ ≤ 60; omega, by show _ ≤ 360; omega⟩) hS (fun H locs hPW hS hk1 => ?_)
  have hP := setO hne hTo hP hPW hk1
  refine W.eq (g2 := F0 m 590 ls [.int 0]) rfl ?_
  refine lv_if_ne (tgt := 612) hx hb dL_acts_590 (by decide) (fun c_1 => absurd ((by decide : (0 : Int32) = 0)) c_1) (fun c_1 => ?_)
  refine lv_aload_n hx hb dL_acts_593 rfl (lv_at hl 1 rfl) ?_
  refine lv_aload hx hb dL_acts_594 (lv_at hl 4 rfl) ?_
  refine lv_iconst (v := 4) hx hb dL_acts_596 (by decide) ?_
  refine W.eq (g2 := F0 m 597 ls [.int (nI 4), .ref qb, .ref (ad2 0)]) rfl ?_
  refine raW (x := nI (1 + j558)) hx hb hK (hP.right.one (k := 2) rfl) (show 4 < 6 by omega) (by decide) (by rw [upd_o (by omega), upd_s]) dL_acts_597 ?_
  refine lv_aload hx hb dL_acts_598 (lv_at hl 4 rfl) ?_
  refine lv_iconst (v := 5) hx hb dL_acts_600 (by decide) ?_
  refine W.eq (g2 := F0 m 601 ls [.int (nI 5), .ref qb, .int (nI (1 + j558)), .ref (ad2 0)]) rfl ?_
  refine raW (x := nI (1 + j573)) hx hb hK (hP.right.one (k := 2) rfl) (show 5 < 6 by omega) (by decide) (by rw [upd_s]) dL_acts_601 ?_
  refine lMi (fun q ⟨j9, h1, h2⟩ => by rw [h2]; exact hz2 j9 h1) (vx_runSW (As := [.ref (ad2 0), .int (nI (1 + j558)), .int (nI (1 + j573))]) (rest := []) ⟨hx, hb, hml, hown, hts⟩ (c_L_setRetries l hst D cy ad2 hj2 σ sz (nI (1 + j558)) (nI (1 + j573)) (0) (w2_0 (kS_0 (by omega) (by omega) (by omega) (by omega))) (gSetRetries σ (nI (1 + j558)) (nI (1 + j573))) (if_pos (kS_0 (by omega) (by omega) (by omega) (by omega)))) (vx_cwSW 3 hts gL_acts_L_setRetries rfl rfl rfl (by decide +kernel) ⟨Nat.le_of_ble_eq_true rfl, Nat.le_of_ble_eq_true rfl⟩) ⟨cx_bl, cx_S hP.left.right hK Az_z hxk hS⟩ rfl rfl hl.1 rfl (lv_room (Nat.le_of_ble_eq_true rfl)) dL_acts_602 ⟨by show _ ≤ 60; omega, by show _ ≤ 360; omega⟩) hS (fun H locs hPW hS hk1 => ?_)
  have hP := setT hne hTt hP hPW hk1
  refine W.eq (g2 := F0 m 605 ls [.int 0]) rfl ?_
  refine lv_if_ne (tgt := 612) hx hb dL_acts_605 (by decide) (fun c_2 => absurd ((by decide : (0 : Int32) = 0)) c_2) (fun c_2 => ?_)
  refine lv_iconst (v := 1) hx hb dL_acts_608 (by decide) ?_
  refine lv_goto (tgt := 613) hx hb dL_acts_609 (by decide) ?_
  refine W.widen (k := 60) (n := 360) (by omega) (by omega) ?_
  have hpo : OKs h (N + 70) fa fm (upd (upd fb 4 (nI (1 + j558))) 5 (nI (1 + j573))) (gSetRetries σ (nI (1 + j558)) (nI (1 + j573))) := (a_setRetries (fb' := upd (upd fb 4 (nI (1 + j558))) 5 (nI (1 + j573))) hO (by omega) (f := 1 + j558) (q := 1 + j573) (by omega) (by omega) (by omega) (by omega) (fun x z1 => by rw [upd_o (by omega), upd_o (by omega)]) (by rw [upd_o (by omega), upd_s]) (upd_s _ _ _)).le (by omega)
  exact W.zret (v := 1) hx hb hr rfl (fun t ht hW => ⟨⟨_, (), rfl, rfl, ⟨_, _, _, _, by rw [ht]; exact hP, hpo⟩⟩, hS.F ht⟩) hS.2.2 dL_acts_613
