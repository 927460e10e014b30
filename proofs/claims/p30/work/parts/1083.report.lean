set_option maxHeartbeats 2000000 in
set_option maxRecDepth 100000 in
theorem ab_report {p : Program} {l : Launch} {e : Env} {s : State} {m : MethodId} {args : Array Value} {below : List Frame} {meth : Method} {c : Code} {D : va_G} {cy : Nat → ClassId} {ad ad2 : Nat → Nat} {σ : Mem} {sz qa qm qb : Nat} {fa fm fb : Nat → Int32} {h N i : Nat} {zx zy : Int32} {j4 : Nat} {H : Heap} {locs : List Loc} {cells slots : Nat} {ls : Array Slot} (hst : l.stackTraces = false) (hj : inj31 ad) (hj2 : inj31 ad2) (hne : apart ad ad2) (hz : ∀ i, i < 31 → sz ≤ ad i) (hz2 : ∀ i, i < 31 → sz ≤ ad2 i) (C : ACtx p s m args meth c D cy sz) (hN9 : N + 30000 < 2000000000) (hO : OKs h N fa fm fb σ) (hi : i < 16) (hP : va_P D vwCl (X2 cy ad ad2 σ σ ++ [aW cy qa 64 fa, aW cy qm 48 fm, aW cy qb 6 fb]) H) (hD : va_D (Az sz) (X2 cy ad ad2 σ σ ++ [aW cy qa 64 fa, aW cy qm 48 fm, aW cy qb 6 fb])) (hS : va_S (Az sz) s.heap H locs) (hz9 : sz ≤ s.heap.size) (hc9 : cells ≤ 1) (hs9 : slots ≤ 6) (hl : lv_has ls 17 [(0, .ref (ad 0)), (1, .ref (ad2 0)), (2, .ref qa), (3, .ref qm), (4, .ref qb), (5, .int zx), (6, .int zy), (7, .int (nI j4)), (8, .int (nI i)), (9, .int (σ 1 i))]) : W p l e (headSpec wsL_acts ({ frames := 10, cells := 60, slots := 360, locals := 172 })).room s m args below meth c H locs cells slots (MQ below (QI 1 (fun H => ∃ (σ' : Mem) (fa' fm' fb' : Nat → Int32), va_P D vwCl (X2 cy ad ad2 σ' σ' ++ [aW cy qa 64 fa', aW cy qm 48 fm', aW cy qb 6 fb']) H ∧ OKs h (N + 70) fa' fm' fb' σ') (Az sz)) args s 60 360 (Az sz)) (F0 m 621 ls []) := by
  obtain ⟨hx, hb, hr, hts, hown, hlocks, hml, hK, hxk⟩ := C
  refine W.widen (k := 1) (n := 6) hc9 hs9 ?_
  have hA : ∀ q : Nat, s.heap.size ≤ q → Az sz q := fun q hq => Nat.le_trans hz9 hq
  refine lv_iload hx hb dL_acts_621 (lv_at hl 6 rfl) ?_
  refine lv_iconst (v := 4) hx hb dL_acts_623 (by decide) ?_
  refine lv_ishr hx hb dL_acts_624 ?_
  refine lv_iconst (v := 4) hx hb dL_acts_625 (by decide) ?_
  refine cS (W.runS (As := [.int (zy >>> (4 &&& 31)), .int 4]) (rest := []) ⟨hx, hb, hml, hown, hts⟩ (c_L_low l (zy >>> (4 &&& 31)) 4 (by decide) (by decide)) (va_cwS 2 hts gL_acts_L_low rfl rfl rfl (by decide +kernel) ⟨Nat.le_of_ble_eq_true rfl, Nat.le_of_ble_eq_true rfl⟩) ⟨fun a U g mk h => h, fun U _ _ => ⟨rfl, trivial⟩⟩ rfl rfl hl.1 rfl (lv_room (Nat.le_of_ble_eq_true rfl)) dL_acts_626 ⟨by show _ ≤ 60; omega, by show _ ≤ 360; omega⟩) (fun j626 hj626 => ?_)
  refine W.eq (g2 := F0 m 629 ls [.int (nI j626)]) rfl ?_
  refine lv_iconst (v := 2) hx hb dL_acts_629 (by decide) ?_
  refine lv_idiv hx hb dL_acts_630 (by decide) ?_
  refine W.eq (congrArg (fun z9 => F0 m 631 ls [.int z9]) (pk_div (a := j626) (d := 2) (by omega) (by decide) (by decide))) ?_
  refine lv_istore (lv' := [(10, .int (nI (j626 / 2))), (0, .ref (ad 0)), (1, .ref (ad2 0)), (2, .ref qa), (3, .ref qm), (4, .ref qb), (5, .int zx), (6, .int zy), (7, .int (nI j4)), (8, .int (nI i)), (9, .int (σ 1 i))]) hx hb dL_acts_631 hl (by decide) rfl (fun ls hl => ?_)
  refine lv_iload hx hb dL_acts_633 (lv_at hl 7 rfl) ?_
  refine lv_bipush (v := 6) hx hb dL_acts_635 (by decide) ?_
  refine lv_ishr hx hb dL_acts_637 ?_
  refine lv_bipush (v := 100) hx hb dL_acts_638 (by decide) ?_
  refine cS (W.runS (As := [.int (zy >>> (6 &&& 31)), .int 100]) (rest := []) ⟨hx, hb, hml, hown, hts⟩ (c_L_low l (zy >>> (6 &&& 31)) 100 (by decide) (by decide)) (va_cwS 2 hts gL_acts_L_low rfl rfl rfl (by decide +kernel) ⟨Nat.le_of_ble_eq_true rfl, Nat.le_of_ble_eq_true rfl⟩) ⟨fun a U g mk h => h, fun U _ _ => ⟨rfl, trivial⟩⟩ rfl rfl hl.1 rfl (lv_room (Nat.le_of_ble_eq_true rfl)) dL_acts_640 ⟨by show _ ≤ 60; omega, by show _ ≤ 360; omega⟩) (fun j640 hj640 => ?_)
  refine W.eq (g2 := F0 m 643 ls [.int (nI j640)]) rfl ?_
  refine lv_istore (lv' := [(11, .int (nI j640)), (10, .int (nI (j626 / 2))), (0, .ref (ad 0)), (1, .ref (ad2 0)), (2, .ref qa), (3, .ref qm), (4, .ref qb), (5, .int zx), (6, .int zy), (7, .int (nI j4)), (8, .int (nI i)), (9, .int (σ 1 i))]) hx hb dL_acts_643 hl (by decide) rfl (fun ls hl => ?_)
  refine lv_iload hx hb dL_acts_645 (lv_at hl 8 rfl) ?_
  refine lv_bipush (v := 13) hx hb dL_acts_647 (by decide) ?_
  refine lv_ishr hx hb dL_acts_649 ?_
  refine lv_iconst (v := 4) hx hb dL_acts_650 (by decide) ?_
  refine cS (W.runS (As := [.int (zy >>> (13 &&& 31)), .int 4]) (rest := []) ⟨hx, hb, hml, hown, hts⟩ (c_L_low l (zy >>> (13 &&& 31)) 4 (by decide) (by decide)) (va_cwS 2 hts gL_acts_L_low rfl rfl rfl (by decide +kernel) ⟨Nat.le_of_ble_eq_true rfl, Nat.le_of_ble_eq_true rfl⟩) ⟨fun a U g mk h => h, fun U _ _ => ⟨rfl, trivial⟩⟩ rfl rfl hl.1 rfl (lv_room (Nat.le_of_ble_eq_true rfl)) dL_acts_651 ⟨by show _ ≤ 60; omega, by show _ ≤ 360; omega⟩) (fun j651 hj651 => ?_)
  refine W.eq (g2 := F0 m 654 ls [.int (nI j651)]) rfl ?_
  refine lv_istore (lv' := [(12, .int (nI j651)), (11, .int (nI j640)), (10, .int (nI (j626 / 2))), (0, .ref (ad 0)), (1, .ref (ad2 0)), (2, .ref qa), (3, .ref qm), (4, .ref qb), (5, .int zx), (6, .int zy), (7, .int (nI j4)), (8, .int (nI i)), (9, .int (σ 1 i))]) hx hb dL_acts_654 hl (by decide) rfl (fun ls hl => ?_)
  refine lv_iload hx hb dL_acts_656 (lv_at hl 9 rfl) ?_
  refine lv_bipush (v := 15) hx hb dL_acts_658 (by decide) ?_
  refine lv_ishr hx hb dL_acts_660 ?_
  refine lv_bipush (v := 16) hx hb dL_acts_661 (by decide) ?_
  refine cS (W.runS (As := [.int (zy >>> (15 &&& 31)), .int 16]) (rest := []) ⟨hx, hb, hml, hown, hts⟩ (c_L_low l (zy >>> (15 &&& 31)) 16 (by decide) (by decide)) (va_cwS 2 hts gL_acts_L_low rfl rfl rfl (by decide +kernel) ⟨Nat.le_of_ble_eq_true rfl, Nat.le_of_ble_eq_true rfl⟩) ⟨fun a U g mk h => h, fun U _ _ => ⟨rfl, trivial⟩⟩ rfl rfl hl.1 rfl (lv_room (Nat.le_of_ble_eq_true rfl)) dL_acts_663 ⟨by show _ ≤ 60; omega, by show _ ≤ 360; omega⟩) (fun j663 hj663 => ?_)
  refine W.eq (g2 := F0 m 666 ls [.int (nI j663)]) rfl ?_
  refine lv_istore (lv' := [(13, .int (nI j663)), (12, .int (nI j651)), (11, .int (nI j640)), (10, .int (nI (j626 / 2))), (0, .ref (ad 0)), (1, .ref (ad2 0)), (2, .ref qa), (3, .ref qm), (4, .ref qb), (5, .int zx), (6, .int zy), (7, .int (nI j4)), (8, .int (nI i)), (9, .int (σ 1 i))]) hx hb dL_acts_666 hl (by decide) rfl (fun ls hl => ?_)
  refine lv_aload_n hx hb dL_acts_668 rfl (lv_at hl 6 rfl) ?_
  refine lv_iconst (v := 4) hx hb dL_acts_669 (by decide) ?_
  refine lv_iload hx hb dL_acts_670 (lv_at hl 12 rfl) ?_
  refine lv_imul hx hb dL_acts_672 ?_
  refine W.eq (congrArg (fun z9 => F0 m 673 ls [.int z9, .ref qa]) (pk_mul 4 i)) ?_
  refine lv_iload hx hb dL_acts_673 (lv_at hl 3 rfl) ?_
  refine rs5 (j := 0) hx hb hK hP hD hS rfl (show 4 * i < 64 by omega) (by decide) dL_acts_675 (fun H locs hP hD hS => ?_)
  have hP : va_P D vwCl (X2 cy ad ad2 σ σ ++ [aW cy qa 64 (upd fa (4 * i) (nI (j626 / 2))), aW cy qm 48 fm, aW cy qb 6 fb]) H := hP
  have hD : va_D (Az sz) (X2 cy ad ad2 σ σ ++ [aW cy qa 64 (upd fa (4 * i) (nI (j626 / 2))), aW cy qm 48 fm, aW cy qb 6 fb]) := hD
  refine lv_aload_n hx hb dL_acts_676 rfl (lv_at hl 6 rfl) ?_
  refine lv_iconst (v := 4) hx hb dL_acts_677 (by decide) ?_
  refine lv_iload hx hb dL_acts_678 (lv_at hl 12 rfl) ?_
  refine lv_imul hx hb dL_acts_680 ?_
  refine W.eq (congrArg (fun z9 => F0 m 681 ls [.int z9, .ref qa]) (pk_mul 4 i)) ?_
  refine lv_iconst (v := 1) hx hb dL_acts_681 (by decide) ?_
  refine lv_iadd hx hb dL_acts_682 ?_
  refine W.eq (congrArg (fun z9 => F0 m 683 ls [.int z9, .ref qa]) (nI_add (4 * i) 1)) ?_
  refine lv_iload hx hb dL_acts_683 (lv_at hl 2 rfl) ?_
  refine rs5 (j := 0) hx hb hK hP hD hS rfl (show 4 * i + 1 < 64 by omega) (by decide) dL_acts_685 (fun H locs hP hD hS => ?_)
  have hP : va_P D vwCl (X2 cy ad ad2 σ σ ++ [aW cy qa 64 (upd (upd fa (4 * i) (nI (j626 / 2))) (4 * i + 1) (nI j640)), aW cy qm 48 fm, aW cy qb 6 fb]) H := hP
  have hD : va_D (Az sz) (X2 cy ad ad2 σ σ ++ [aW cy qa 64 (upd (upd fa (4 * i) (nI (j626 / 2))) (4 * i + 1) (nI j640)), aW cy qm 48 fm, aW cy qb 6 fb]) := hD
  refine lv_aload_n hx hb dL_acts_686 rfl (lv_at hl 6 rfl) ?_
  refine lv_iconst (v := 4) hx hb dL_acts_687 (by decide) ?_
  refine lv_iload hx hb dL_acts_688 (lv_at hl 12 rfl) ?_
  refine lv_imul hx hb dL_acts_690 ?_
  refine W.eq (congrArg (fun z9 => F0 m 691 ls [.int z9, .ref qa]) (pk_mul 4 i)) ?_
  refine lv_iconst (v := 2) hx hb dL_acts_691 (by decide) ?_
  refine lv_iadd hx hb dL_acts_692 ?_
  refine W.eq (congrArg (fun z9 => F0 m 693 ls [.int z9, .ref qa]) (nI_add (4 * i) 2)) ?_
  refine lv_iload hx hb dL_acts_693 (lv_at hl 1 rfl) ?_
  refine rs5 (j := 0) hx hb hK hP hD hS rfl (show 4 * i + 2 < 64 by omega) (by decide) dL_acts_695 (fun H locs hP hD hS => ?_)
  have hP : va_P D vwCl (X2 cy ad ad2 σ σ ++ [aW cy qa 64 (upd (upd (upd fa (4 * i) (nI (j626 / 2))) (4 * i + 1) (nI j640)) (4 * i + 2) (nI j651)), aW cy qm 48 fm, aW cy qb 6 fb]) H := hP
  have hD : va_D (Az sz) (X2 cy ad ad2 σ σ ++ [aW cy qa 64 (upd (upd (upd fa (4 * i) (nI (j626 / 2))) (4 * i + 1) (nI j640)) (4 * i + 2) (nI j651)), aW cy qm 48 fm, aW cy qb 6 fb]) := hD
  refine lv_aload_n hx hb dL_acts_696 rfl (lv_at hl 6 rfl) ?_
  refine lv_iconst (v := 4) hx hb dL_acts_697 (by decide) ?_
  refine lv_iload hx hb dL_acts_698 (lv_at hl 12 rfl) ?_
  refine lv_imul hx hb dL_acts_700 ?_
  refine W.eq (congrArg (fun z9 => F0 m 701 ls [.int z9, .ref qa]) (pk_mul 4 i)) ?_
  refine lv_iconst (v := 3) hx hb dL_acts_701 (by decide) ?_
  refine lv_iadd hx hb dL_acts_702 ?_
  refine W.eq (congrArg (fun z9 => F0 m 703 ls [.int z9, .ref qa]) (nI_add (4 * i) 3)) ?_
  refine lv_iload hx hb dL_acts_703 (lv_at hl 0 rfl) ?_
  refine rs5 (j := 0) hx hb hK hP hD hS rfl (show 4 * i + 3 < 64 by omega) (by decide) dL_acts_705 (fun H locs hP hD hS => ?_)
  have hP : va_P D vwCl (X2 cy ad ad2 σ σ ++ [aW cy qa 64 (upd (upd (upd (upd fa (4 * i) (nI (j626 / 2))) (4 * i + 1) (nI j640)) (4 * i + 2) (nI j651)) (4 * i + 3) (nI j663)), aW cy qm 48 fm, aW cy qb 6 fb]) H := hP
  have hD : va_D (Az sz) (X2 cy ad ad2 σ σ ++ [aW cy qa 64 (upd (upd (upd (upd fa (4 * i) (nI (j626 / 2))) (4 * i + 1) (nI j640)) (4 * i + 2) (nI j651)) (4 * i + 3) (nI j663)), aW cy qm 48 fm, aW cy qb 6 fb]) := hD
  have hP : va_P D vwCl (X2 cy ad ad2 σ σ ++ [aW cy qa 64 (up4 fa i (nI (j626 / 2)) (nI j640) (nI j651) (nI j663)), aW cy qm 48 fm, aW cy qb 6 fb]) H := hP
  have hD : va_D (Az sz) (X2 cy ad ad2 σ σ ++ [aW cy qa 64 (up4 fa i (nI (j626 / 2)) (nI j640) (nI j651) (nI j663)), aW cy qm 48 fm, aW cy qb 6 fb]) := hD
  obtain ⟨g0, g1, g2, g3⟩ := up4_at fa i (nI (j626 / 2)) (nI j640) (nI j651) (nI j663)
  obtain ⟨aO, a0, a3, a2, an⟩ := a_report hO (by omega) hi (show j626 / 2 < 4 by omega) (up4_no fa i (nI (j626 / 2)) (nI j640) (nI j651) (nI j663)) g0 g1 g2 g3
  have hI := hO.1
  obtain ⟨s8, r8, n8, x1, x2, x3, x4, x5, x6, x7, x8, x9, x10, x11⟩ := hI.2.1 i hi
  obtain ⟨q8, q1, q2, q3⟩ := hI.2.2.1.2.1
  rcases (show s8 = 0 ∨ s8 = 1 ∨ s8 = 2 ∨ s8 = 3 ∨ s8 = 4 ∨ s8 = 5 ∨ s8 = 6 ∨ s8 = 7 by omega) with rfl | rfl | rfl | rfl | rfl | rfl | rfl | rfl
  · have xs : σ 1 i = 0 := x2
    rw [xs] at hl
    have hl : lv_has ls 17 [(13, .int (nI j663)), (12, .int (nI j651)), (11, .int (nI j640)), (10, .int (nI (j626 / 2))), (0, .ref (ad 0)), (1, .ref (ad2 0)), (2, .ref qa), (3, .ref qm), (4, .ref qb), (5, .int zx), (6, .int zy), (7, .int (nI j4)), (8, .int (nI i)), (9, .int 0)] := hl
    have at9 := a0 xs
    refine lv_aload_n hx hb dL_acts_706 rfl (lv_at hl 4 rfl) ?_
    refine lv_iload hx hb dL_acts_707 (lv_at hl 12 rfl) ?_
    refine rMi (vx_runSW (As := [.ref (ad 0), .int (nI i)]) (rest := []) ⟨hx, hb, hml, hown, hts⟩ (c_L_failuresOf l hst D cy ad σ sz (nI i) (nI n8) ((wF hi).trans x5)) (vx_cwSW 2 hts gL_acts_L_failuresOf rfl rfl rfl (by decide +kernel) ⟨Nat.le_of_ble_eq_true rfl, Nat.le_of_ble_eq_true rfl⟩) ⟨cx_bl, cx_S hP.left.left hK Az_z hxk hS⟩ rfl rfl hl.1 rfl (lv_room (Nat.le_of_ble_eq_true rfl)) dL_acts_709 ⟨by show _ ≤ 60; omega, by show _ ≤ 360; omega⟩) hS (fun H locs hS hg => ?_)
    have hP := hP.grown hg
    refine W.eq (g2 := F0 m 712 ls [.int (nI n8)]) rfl ?_
    refine lv_istore (lv' := [(14, .int (nI n8)), (13, .int (nI j663)), (12, .int (nI j651)), (11, .int (nI j640)), (10, .int (nI (j626 / 2))), (0, .ref (ad 0)), (1, .ref (ad2 0)), (2, .ref qa), (3, .ref qm), (4, .ref qb), (5, .int zx), (6, .int zy), (7, .int (nI j4)), (8, .int (nI i)), (9, .int 0)]) hx hb dL_acts_712 hl (by decide) rfl (fun ls hl => ?_)
    refine lv_aload_n hx hb dL_acts_714 rfl (lv_at hl 5 rfl) ?_
    refine lv_iload hx hb dL_acts_715 (lv_at hl 13 rfl) ?_
    refine lv_iload hx hb dL_acts_717 (lv_at hl 4 rfl) ?_
    refine lv_iload hx hb dL_acts_719 (lv_at hl 3 rfl) ?_
    refine lv_iload hx hb dL_acts_721 (lv_at hl 2 rfl) ?_
    refine lv_iload hx hb dL_acts_723 (lv_at hl 1 rfl) ?_
    obtain ⟨hTo, hTt⟩ := noT_D hD
    refine lMi (fun q ⟨j9, h1, h2⟩ => by rw [h2]; exact hz j9 h1) (vx_runSW (As := [.ref (ad 0), .int (nI i), .int (nI (j626 / 2)), .int (nI j640), .int (nI j651), .int (nI j663)]) (rest := []) ⟨hx, hb, hml, hown, hts⟩ (c_L_report l hst D cy ad hj σ sz (nI i) (nI (j626 / 2)) (nI j640) (nI j651) (nI j663) (1) ((w12_0 (kP_0 hi (by omega) (by omega) (by omega) (by omega))).trans ((rP_1 hi).trans at9)) (gReport σ (nI i) (nI (j626 / 2)) (nI j640) (nI j651) (nI j663)) (if_pos (kP_0 hi (by omega) (by omega) (by omega) (by omega)))) (vx_cwSW 6 hts gL_acts_L_report rfl rfl rfl (by decide +kernel) ⟨Nat.le_of_ble_eq_true rfl, Nat.le_of_ble_eq_true rfl⟩) ⟨cx_bl, cx_S hP.left.left hK Az_z hxk hS⟩ rfl rfl hl.1 rfl (lv_room (Nat.le_of_ble_eq_true rfl)) dL_acts_725 ⟨by show _ ≤ 60; omega, by show _ ≤ 360; omega⟩) hS (fun H locs hPW hS hk1 => ?_)
    have hP := setO hne hTo hP hPW hk1
    refine W.eq (g2 := F0 m 728 ls [.int 1]) rfl ?_
    refine lv_istore (lv' := [(15, .int 1), (14, .int (nI n8)), (13, .int (nI j663)), (12, .int (nI j651)), (11, .int (nI j640)), (10, .int (nI (j626 / 2))), (0, .ref (ad 0)), (1, .ref (ad2 0)), (2, .ref qa), (3, .ref qm), (4, .ref qb), (5, .int zx), (6, .int zy), (7, .int (nI j4)), (8, .int (nI i)), (9, .int 0)]) hx hb dL_acts_728 hl (by decide) rfl (fun ls hl => ?_)
    refine lv_iload hx hb dL_acts_730 (lv_at hl 15 rfl) ?_
    refine lv_if_ne (tgt := 749) hx hb dL_acts_732 (by decide) (fun c_1 => absurd ((by decide : (0 : Int32) = 0)) c_1) (fun c_1 => ?_)
    refine lv_iload hx hb dL_acts_735 (lv_at hl 0 rfl) ?_
    refine lv_iconst (v := 1) hx hb dL_acts_737 (by decide) ?_
    refine lv_icmp_ne (tgt := 745) hx hb dL_acts_738 (by decide) (fun c_2 => absurd ((by decide : (1 : Int32) = 1)) c_2) (fun c_2 => ?_)
    refine lv_iconst (v := 1) hx hb dL_acts_741 (by decide) ?_
    refine lv_goto (tgt := 835) hx hb dL_acts_742 (by decide) ?_
    refine lv_istore (lv' := [(16, .int 1), (15, .int 1), (14, .int (nI n8)), (13, .int (nI j663)), (12, .int (nI j651)), (11, .int (nI j640)), (10, .int (nI (j626 / 2))), (0, .ref (ad 0)), (1, .ref (ad2 0)), (2, .ref qa), (3, .ref qm), (4, .ref qb), (5, .int zx), (6, .int zy), (7, .int (nI j4)), (8, .int (nI i)), (9, .int 0)]) hx hb dL_acts_835 hl (by decide) rfl (fun ls hl => ?_)
    refine lv_iload hx hb dL_acts_837 (lv_at hl 0 rfl) ?_
    refine lv_if_eq (tgt := 876) hx hb dL_acts_839 (by decide) (fun c_3 => absurd c_3 ((by decide : ¬ (1 : Int32) = 0))) (fun c_3 => ?_)
    refine lv_aload_n hx hb dL_acts_842 rfl (lv_at hl 8 rfl) ?_
    refine lv_iload hx hb dL_acts_843 (lv_at hl 15 rfl) ?_
    refine lv_iload hx hb dL_acts_845 (lv_at hl 6 rfl) ?_
    refine lv_iload hx hb dL_acts_847 (lv_at hl 5 rfl) ?_
    refine lv_iload hx hb dL_acts_849 (lv_at hl 4 rfl) ?_
    refine lv_iload hx hb dL_acts_851 (lv_at hl 3 rfl) ?_
    refine lMi (fun q ⟨j9, h1, h2⟩ => by rw [h2]; exact hz2 j9 h1) (vx_runSW (As := [.ref (ad2 0), .int (nI i), .int (nI (j626 / 2)), .int (nI j640), .int (nI j651), .int (nI j663)]) (rest := []) ⟨hx, hb, hml, hown, hts⟩ (c_L_report l hst D cy ad2 hj2 σ sz (nI i) (nI (j626 / 2)) (nI j640) (nI j651) (nI j663) (1) ((w12_0 (kP_0 hi (by omega) (by omega) (by omega) (by omega))).trans ((rP_1 hi).trans at9)) (gReport σ (nI i) (nI (j626 / 2)) (nI j640) (nI j651) (nI j663)) (if_pos (kP_0 hi (by omega) (by omega) (by omega) (by omega)))) (vx_cwSW 6 hts gL_acts_L_report rfl rfl rfl (by decide +kernel) ⟨Nat.le_of_ble_eq_true rfl, Nat.le_of_ble_eq_true rfl⟩) ⟨cx_bl, cx_S hP.left.right hK Az_z hxk hS⟩ rfl rfl hl.1 rfl (lv_room (Nat.le_of_ble_eq_true rfl)) dL_acts_853 ⟨by show _ ≤ 60; omega, by show _ ≤ 360; omega⟩) hS (fun H locs hPW hS hk1 => ?_)
    have hP := setT hne hTt hP hPW hk1
    refine W.eq (g2 := F0 m 856 ls [.int 1]) rfl ?_
    refine lv_iload hx hb dL_acts_856 (lv_at hl 1 rfl) ?_
    refine lv_icmp_ne (tgt := 876) hx hb dL_acts_858 (by decide) (fun c_4 => absurd ((by decide : (1 : Int32) = 1)) c_4) (fun c_4 => ?_)
    refine lv_iload hx hb dL_acts_861 (lv_at hl 1 rfl) ?_
    refine lv_aload_n hx hb dL_acts_863 rfl (lv_at hl 7 rfl) ?_
    refine lv_iload hx hb dL_acts_864 (lv_at hl 15 rfl) ?_
    refine rMi (vx_runSW (As := [.ref (ad 0), .int (nI i)]) (rest := [.int 1]) ⟨hx, hb, hml, hown, hts⟩ (c_L_stateOf l hst D cy ad (gReport σ (nI i) (nI (j626 / 2)) (nI j640) (nI j651) (nI j663)) sz (nI i) (1) ((wS hi).trans at9)) (vx_cwSW 2 hts gL_acts_L_stateOf rfl rfl rfl (by decide +kernel) ⟨Nat.le_of_ble_eq_true rfl, Nat.le_of_ble_eq_true rfl⟩) ⟨cx_bl, cx_S hP.left.left hK Az_z hxk hS⟩ rfl rfl hl.1 rfl (lv_room (Nat.le_of_ble_eq_true rfl)) dL_acts_866 ⟨by show _ ≤ 60; omega, by show _ ≤ 360; omega⟩) hS (fun H locs hS hg => ?_)
    have hP := hP.grown hg
    refine W.eq (g2 := F0 m 869 ls [.int 1, .int 1]) rfl ?_
    refine lv_icmp_ne (tgt := 876) hx hb dL_acts_869 (by decide) (fun c_5 => absurd ((by decide : (1 : Int32) = 1)) c_5) (fun c_5 => ?_)
    refine lv_iconst (v := 1) hx hb dL_acts_872 (by decide) ?_
    refine lv_goto (tgt := 877) hx hb dL_acts_873 (by decide) ?_
    refine W.widen (k := 60) (n := 360) (by omega) (by omega) ?_
    have hpo : OKs h (N + 70) (up4 fa i (nI (j626 / 2)) (nI j640) (nI j651) (nI j663)) fm fb (gReport σ (nI i) (nI (j626 / 2)) (nI j640) (nI j651) (nI j663)) := aO.le (by omega)
    exact W.zret (v := 1) hx hb hr rfl (fun t ht hW => ⟨⟨_, (), rfl, rfl, ⟨_, _, _, _, by rw [ht]; exact hP, hpo⟩⟩, hS.F ht⟩) hS.2.2 dL_acts_877
  · have xs : σ 1 i = 1 := x2
    rw [xs] at hl
    have hl : lv_has ls 17 [(13, .int (nI j663)), (12, .int (nI j651)), (11, .int (nI j640)), (10, .int (nI (j626 / 2))), (0, .ref (ad 0)), (1, .ref (ad2 0)), (2, .ref qa), (3, .ref qm), (4, .ref qb), (5, .int zx), (6, .int zy), (7, .int (nI j4)), (8, .int (nI i)), (9, .int 1)] := hl
    have at9 := (an (lit_ne (a := 1) (b := 0) x2 (by omega) (by omega) (by decide)) (lit_ne (a := 1) (b := 2) x2 (by omega) (by omega) (by decide)) (lit_ne (a := 1) (b := 3) x2 (by omega) (by omega) (by decide))).trans xs
    refine lv_aload_n hx hb dL_acts_706 rfl (lv_at hl 4 rfl) ?_
    refine lv_iload hx hb dL_acts_707 (lv_at hl 12 rfl) ?_
    refine rMi (vx_runSW (As := [.ref (ad 0), .int (nI i)]) (rest := []) ⟨hx, hb, hml, hown, hts⟩ (c_L_failuresOf l hst D cy ad σ sz (nI i) (nI n8) ((wF hi).trans x5)) (vx_cwSW 2 hts gL_acts_L_failuresOf rfl rfl rfl (by decide +kernel) ⟨Nat.le_of_ble_eq_true rfl, Nat.le_of_ble_eq_true rfl⟩) ⟨cx_bl, cx_S hP.left.left hK Az_z hxk hS⟩ rfl rfl hl.1 rfl (lv_room (Nat.le_of_ble_eq_true rfl)) dL_acts_709 ⟨by show _ ≤ 60; omega, by show _ ≤ 360; omega⟩) hS (fun H locs hS hg => ?_)
    have hP := hP.grown hg
    refine W.eq (g2 := F0 m 712 ls [.int (nI n8)]) rfl ?_
    refine lv_istore (lv' := [(14, .int (nI n8)), (13, .int (nI j663)), (12, .int (nI j651)), (11, .int (nI j640)), (10, .int (nI (j626 / 2))), (0, .ref (ad 0)), (1, .ref (ad2 0)), (2, .ref qa), (3, .ref qm), (4, .ref qb), (5, .int zx), (6, .int zy), (7, .int (nI j4)), (8, .int (nI i)), (9, .int 1)]) hx hb dL_acts_712 hl (by decide) rfl (fun ls hl => ?_)
    refine lv_aload_n hx hb dL_acts_714 rfl (lv_at hl 5 rfl) ?_
    refine lv_iload hx hb dL_acts_715 (lv_at hl 13 rfl) ?_
    refine lv_iload hx hb dL_acts_717 (lv_at hl 4 rfl) ?_
    refine lv_iload hx hb dL_acts_719 (lv_at hl 3 rfl) ?_
    refine lv_iload hx hb dL_acts_721 (lv_at hl 2 rfl) ?_
    refine lv_iload hx hb dL_acts_723 (lv_at hl 1 rfl) ?_
    obtain ⟨hTo, hTt⟩ := noT_D hD
    refine lMi (fun q ⟨j9, h1, h2⟩ => by rw [h2]; exact hz j9 h1) (vx_runSW (As := [.ref (ad 0), .int (nI i), .int (nI (j626 / 2)), .int (nI j640), .int (nI j651), .int (nI j663)]) (rest := []) ⟨hx, hb, hml, hown, hts⟩ (c_L_report l hst D cy ad hj σ sz (nI i) (nI (j626 / 2)) (nI j640) (nI j651) (nI j663) (1) ((w12_0 (kP_0 hi (by omega) (by omega) (by omega) (by omega))).trans ((rP_1 hi).trans at9)) (gReport σ (nI i) (nI (j626 / 2)) (nI j640) (nI j651) (nI j663)) (if_pos (kP_0 hi (by omega) (by omega) (by omega) (by omega)))) (vx_cwSW 6 hts gL_acts_L_report rfl rfl rfl (by decide +kernel) ⟨Nat.le_of_ble_eq_true rfl, Nat.le_of_ble_eq_true rfl⟩) ⟨cx_bl, cx_S hP.left.left hK Az_z hxk hS⟩ rfl rfl hl.1 rfl (lv_room (Nat.le_of_ble_eq_true rfl)) dL_acts_725 ⟨by show _ ≤ 60; omega, by show _ ≤ 360; omega⟩) hS (fun H locs hPW hS hk1 => ?_)
    have hP := setO hne hTo hP hPW hk1
    refine W.eq (g2 := F0 m 728 ls [.int 1]) rfl ?_
    refine lv_istore (lv' := [(15, .int 1), (14, .int (nI n8)), (13, .int (nI j663)), (12, .int (nI j651)), (11, .int (nI j640)), (10, .int (nI (j626 / 2))), (0, .ref (ad 0)), (1, .ref (ad2 0)), (2, .ref qa), (3, .ref qm), (4, .ref qb), (5, .int zx), (6, .int zy), (7, .int (nI j4)), (8, .int (nI i)), (9, .int 1)]) hx hb dL_acts_728 hl (by decide) rfl (fun ls hl => ?_)
    refine lv_iload hx hb dL_acts_730 (lv_at hl 15 rfl) ?_
    refine lv_if_ne (tgt := 749) hx hb dL_acts_732 (by decide) (fun c_6 => ?_) (fun c_6 => absurd c_6 ((by decide : ¬ (1 : Int32) = 0)))
    refine lv_iload hx hb dL_acts_749 (lv_at hl 15 rfl) ?_
    refine lv_iconst (v := 3) hx hb dL_acts_751 (by decide) ?_
    refine lv_icmp_ne (tgt := 798) hx hb dL_acts_752 (by decide) (fun c_7 => ?_) (fun c_7 => absurd c_7 ((by decide : ¬ (1 : Int32) = 3)))
    refine lv_iload hx hb dL_acts_798 (lv_at hl 15 rfl) ?_
    refine lv_iconst (v := 2) hx hb dL_acts_800 (by decide) ?_
    refine lv_icmp_ne (tgt := 823) hx hb dL_acts_801 (by decide) (fun c_8 => ?_) (fun c_8 => absurd c_8 ((by decide : ¬ (1 : Int32) = 2)))
    refine lv_iload hx hb dL_acts_823 (lv_at hl 0 rfl) ?_
    refine lv_iload hx hb dL_acts_825 (lv_at hl 15 rfl) ?_
    refine lv_icmp_ne (tgt := 834) hx hb dL_acts_827 (by decide) (fun c_9 => absurd ((by decide : (1 : Int32) = 1)) c_9) (fun c_9 => ?_)
    refine lv_iconst (v := 1) hx hb dL_acts_830 (by decide) ?_
    refine lv_goto (tgt := 835) hx hb dL_acts_831 (by decide) ?_
    refine lv_istore (lv' := [(16, .int 1), (15, .int 1), (14, .int (nI n8)), (13, .int (nI j663)), (12, .int (nI j651)), (11, .int (nI j640)), (10, .int (nI (j626 / 2))), (0, .ref (ad 0)), (1, .ref (ad2 0)), (2, .ref qa), (3, .ref qm), (4, .ref qb), (5, .int zx), (6, .int zy), (7, .int (nI j4)), (8, .int (nI i)), (9, .int 1)]) hx hb dL_acts_835 hl (by decide) rfl (fun ls hl => ?_)
    refine lv_iload hx hb dL_acts_837 (lv_at hl 0 rfl) ?_
    refine lv_if_eq (tgt := 876) hx hb dL_acts_839 (by decide) (fun c_10 => absurd c_10 ((by decide : ¬ (1 : Int32) = 0))) (fun c_10 => ?_)
    refine lv_aload_n hx hb dL_acts_842 rfl (lv_at hl 8 rfl) ?_
    refine lv_iload hx hb dL_acts_843 (lv_at hl 15 rfl) ?_
    refine lv_iload hx hb dL_acts_845 (lv_at hl 6 rfl) ?_
    refine lv_iload hx hb dL_acts_847 (lv_at hl 5 rfl) ?_
    refine lv_iload hx hb dL_acts_849 (lv_at hl 4 rfl) ?_
    refine lv_iload hx hb dL_acts_851 (lv_at hl 3 rfl) ?_
    refine lMi (fun q ⟨j9, h1, h2⟩ => by rw [h2]; exact hz2 j9 h1) (vx_runSW (As := [.ref (ad2 0), .int (nI i), .int (nI (j626 / 2)), .int (nI j640), .int (nI j651), .int (nI j663)]) (rest := []) ⟨hx, hb, hml, hown, hts⟩ (c_L_report l hst D cy ad2 hj2 σ sz (nI i) (nI (j626 / 2)) (nI j640) (nI j651) (nI j663) (1) ((w12_0 (kP_0 hi (by omega) (by omega) (by omega) (by omega))).trans ((rP_1 hi).trans at9)) (gReport σ (nI i) (nI (j626 / 2)) (nI j640) (nI j651) (nI j663)) (if_pos (kP_0 hi (by omega) (by omega) (by omega) (by omega)))) (vx_cwSW 6 hts gL_acts_L_report rfl rfl rfl (by decide +kernel) ⟨Nat.le_of_ble_eq_true rfl, Nat.le_of_ble_eq_true rfl⟩) ⟨cx_bl, cx_S hP.left.right hK Az_z hxk hS⟩ rfl rfl hl.1 rfl (lv_room (Nat.le_of_ble_eq_true rfl)) dL_acts_853 ⟨by show _ ≤ 60; omega, by show _ ≤ 360; omega⟩) hS (fun H locs hPW hS hk1 => ?_)
    have hP := setT hne hTt hP hPW hk1
    refine W.eq (g2 := F0 m 856 ls [.int 1]) rfl ?_
    refine lv_iload hx hb dL_acts_856 (lv_at hl 1 rfl) ?_
    refine lv_icmp_ne (tgt := 876) hx hb dL_acts_858 (by decide) (fun c_11 => absurd ((by decide : (1 : Int32) = 1)) c_11) (fun c_11 => ?_)
    refine lv_iload hx hb dL_acts_861 (lv_at hl 1 rfl) ?_
    refine lv_aload_n hx hb dL_acts_863 rfl (lv_at hl 7 rfl) ?_
    refine lv_iload hx hb dL_acts_864 (lv_at hl 15 rfl) ?_
    refine rMi (vx_runSW (As := [.ref (ad 0), .int (nI i)]) (rest := [.int 1]) ⟨hx, hb, hml, hown, hts⟩ (c_L_stateOf l hst D cy ad (gReport σ (nI i) (nI (j626 / 2)) (nI j640) (nI j651) (nI j663)) sz (nI i) (1) ((wS hi).trans at9)) (vx_cwSW 2 hts gL_acts_L_stateOf rfl rfl rfl (by decide +kernel) ⟨Nat.le_of_ble_eq_true rfl, Nat.le_of_ble_eq_true rfl⟩) ⟨cx_bl, cx_S hP.left.left hK Az_z hxk hS⟩ rfl rfl hl.1 rfl (lv_room (Nat.le_of_ble_eq_true rfl)) dL_acts_866 ⟨by show _ ≤ 60; omega, by show _ ≤ 360; omega⟩) hS (fun H locs hS hg => ?_)
    have hP := hP.grown hg
    refine W.eq (g2 := F0 m 869 ls [.int 1, .int 1]) rfl ?_
    refine lv_icmp_ne (tgt := 876) hx hb dL_acts_869 (by decide) (fun c_12 => absurd ((by decide : (1 : Int32) = 1)) c_12) (fun c_12 => ?_)
    refine lv_iconst (v := 1) hx hb dL_acts_872 (by decide) ?_
    refine lv_goto (tgt := 877) hx hb dL_acts_873 (by decide) ?_
    refine W.widen (k := 60) (n := 360) (by omega) (by omega) ?_
    have hpo : OKs h (N + 70) (up4 fa i (nI (j626 / 2)) (nI j640) (nI j651) (nI j663)) fm fb (gReport σ (nI i) (nI (j626 / 2)) (nI j640) (nI j651) (nI j663)) := aO.le (by omega)
    exact W.zret (v := 1) hx hb hr rfl (fun t ht hW => ⟨⟨_, (), rfl, rfl, ⟨_, _, _, _, by rw [ht]; exact hP, hpo⟩⟩, hS.F ht⟩) hS.2.2 dL_acts_877
  · have xs : σ 1 i = 2 := x2
    rw [xs] at hl
    have hl : lv_has ls 17 [(13, .int (nI j663)), (12, .int (nI j651)), (11, .int (nI j640)), (10, .int (nI (j626 / 2))), (0, .ref (ad 0)), (1, .ref (ad2 0)), (2, .ref qa), (3, .ref qm), (4, .ref qb), (5, .int zx), (6, .int zy), (7, .int (nI j4)), (8, .int (nI i)), (9, .int 2)] := hl
    rcases a2 xs with at9 | at9 | at9
    · refine lv_aload_n hx hb dL_acts_706 rfl (lv_at hl 4 rfl) ?_
      refine lv_iload hx hb dL_acts_707 (lv_at hl 12 rfl) ?_
      refine rMi (vx_runSW (As := [.ref (ad 0), .int (nI i)]) (rest := []) ⟨hx, hb, hml, hown, hts⟩ (c_L_failuresOf l hst D cy ad σ sz (nI i) (nI n8) ((wF hi).trans x5)) (vx_cwSW 2 hts gL_acts_L_failuresOf rfl rfl rfl (by decide +kernel) ⟨Nat.le_of_ble_eq_true rfl, Nat.le_of_ble_eq_true rfl⟩) ⟨cx_bl, cx_S hP.left.left hK Az_z hxk hS⟩ rfl rfl hl.1 rfl (lv_room (Nat.le_of_ble_eq_true rfl)) dL_acts_709 ⟨by show _ ≤ 60; omega, by show _ ≤ 360; omega⟩) hS (fun H locs hS hg => ?_)
      have hP := hP.grown hg
      refine W.eq (g2 := F0 m 712 ls [.int (nI n8)]) rfl ?_
      refine lv_istore (lv' := [(14, .int (nI n8)), (13, .int (nI j663)), (12, .int (nI j651)), (11, .int (nI j640)), (10, .int (nI (j626 / 2))), (0, .ref (ad 0)), (1, .ref (ad2 0)), (2, .ref qa), (3, .ref qm), (4, .ref qb), (5, .int zx), (6, .int zy), (7, .int (nI j4)), (8, .int (nI i)), (9, .int 2)]) hx hb dL_acts_712 hl (by decide) rfl (fun ls hl => ?_)
      refine lv_aload_n hx hb dL_acts_714 rfl (lv_at hl 5 rfl) ?_
      refine lv_iload hx hb dL_acts_715 (lv_at hl 13 rfl) ?_
      refine lv_iload hx hb dL_acts_717 (lv_at hl 4 rfl) ?_
      refine lv_iload hx hb dL_acts_719 (lv_at hl 3 rfl) ?_
      refine lv_iload hx hb dL_acts_721 (lv_at hl 2 rfl) ?_
      refine lv_iload hx hb dL_acts_723 (lv_at hl 1 rfl) ?_
      obtain ⟨hTo, hTt⟩ := noT_D hD
      refine lMi (fun q ⟨j9, h1, h2⟩ => by rw [h2]; exact hz j9 h1) (vx_runSW (As := [.ref (ad 0), .int (nI i), .int (nI (j626 / 2)), .int (nI j640), .int (nI j651), .int (nI j663)]) (rest := []) ⟨hx, hb, hml, hown, hts⟩ (c_L_report l hst D cy ad hj σ sz (nI i) (nI (j626 / 2)) (nI j640) (nI j651) (nI j663) (1) ((w12_0 (kP_0 hi (by omega) (by omega) (by omega) (by omega))).trans ((rP_1 hi).trans at9)) (gReport σ (nI i) (nI (j626 / 2)) (nI j640) (nI j651) (nI j663)) (if_pos (kP_0 hi (by omega) (by omega) (by omega) (by omega)))) (vx_cwSW 6 hts gL_acts_L_report rfl rfl rfl (by decide +kernel) ⟨Nat.le_of_ble_eq_true rfl, Nat.le_of_ble_eq_true rfl⟩) ⟨cx_bl, cx_S hP.left.left hK Az_z hxk hS⟩ rfl rfl hl.1 rfl (lv_room (Nat.le_of_ble_eq_true rfl)) dL_acts_725 ⟨by show _ ≤ 60; omega, by show _ ≤ 360; omega⟩) hS (fun H locs hPW hS hk1 => ?_)
      have hP := setO hne hTo hP hPW hk1
      refine W.eq (g2 := F0 m 728 ls [.int 1]) rfl ?_
      refine lv_istore (lv' := [(15, .int 1), (14, .int (nI n8)), (13, .int (nI j663)), (12, .int (nI j651)), (11, .int (nI j640)), (10, .int (nI (j626 / 2))), (0, .ref (ad 0)), (1, .ref (ad2 0)), (2, .ref qa), (3, .ref qm), (4, .ref qb), (5, .int zx), (6, .int zy), (7, .int (nI j4)), (8, .int (nI i)), (9, .int 2)]) hx hb dL_acts_728 hl (by decide) rfl (fun ls hl => ?_)
      refine lv_iload hx hb dL_acts_730 (lv_at hl 15 rfl) ?_
      refine lv_if_ne (tgt := 749) hx hb dL_acts_732 (by decide) (fun c_13 => ?_) (fun c_13 => absurd c_13 ((by decide : ¬ (2 : Int32) = 0)))
      refine lv_iload hx hb dL_acts_749 (lv_at hl 15 rfl) ?_
      refine lv_iconst (v := 3) hx hb dL_acts_751 (by decide) ?_
      refine lv_icmp_ne (tgt := 798) hx hb dL_acts_752 (by decide) (fun c_14 => ?_) (fun c_14 => absurd c_14 ((by decide : ¬ (2 : Int32) = 3)))
      refine lv_iload hx hb dL_acts_798 (lv_at hl 15 rfl) ?_
      refine lv_iconst (v := 2) hx hb dL_acts_800 (by decide) ?_
      refine lv_icmp_ne (tgt := 823) hx hb dL_acts_801 (by decide) (fun c_15 => absurd ((by decide : (2 : Int32) = 2)) c_15) (fun c_15 => ?_)
      refine lv_iload hx hb dL_acts_804 (lv_at hl 0 rfl) ?_
      refine lv_if_le (tgt := 819) hx hb dL_acts_806 (by decide) (fun c_16 => absurd c_16 ((by decide : ¬ (1 : Int32) ≤ 0))) (fun c_16 => ?_)
      refine lv_iload hx hb dL_acts_809 (lv_at hl 0 rfl) ?_
      refine lv_iconst (v := 4) hx hb dL_acts_811 (by decide) ?_
      refine lv_icmp_ge (tgt := 819) hx hb dL_acts_812 (by decide) (fun c_17 => absurd c_17 ((by decide : ¬ (4 : Int32) ≤ 1))) (fun c_17 => ?_)
      refine lv_iconst (v := 1) hx hb dL_acts_815 (by decide) ?_
      refine lv_goto (tgt := 835) hx hb dL_acts_816 (by decide) ?_
      refine lv_istore (lv' := [(16, .int 1), (15, .int 1), (14, .int (nI n8)), (13, .int (nI j663)), (12, .int (nI j651)), (11, .int (nI j640)), (10, .int (nI (j626 / 2))), (0, .ref (ad 0)), (1, .ref (ad2 0)), (2, .ref qa), (3, .ref qm), (4, .ref qb), (5, .int zx), (6, .int zy), (7, .int (nI j4)), (8, .int (nI i)), (9, .int 2)]) hx hb dL_acts_835 hl (by decide) rfl (fun ls hl => ?_)
      refine lv_iload hx hb dL_acts_837 (lv_at hl 0 rfl) ?_
      refine lv_if_eq (tgt := 876) hx hb dL_acts_839 (by decide) (fun c_18 => absurd c_18 ((by decide : ¬ (1 : Int32) = 0))) (fun c_18 => ?_)
      refine lv_aload_n hx hb dL_acts_842 rfl (lv_at hl 8 rfl) ?_
      refine lv_iload hx hb dL_acts_843 (lv_at hl 15 rfl) ?_
      refine lv_iload hx hb dL_acts_845 (lv_at hl 6 rfl) ?_
      refine lv_iload hx hb dL_acts_847 (lv_at hl 5 rfl) ?_
      refine lv_iload hx hb dL_acts_849 (lv_at hl 4 rfl) ?_
      refine lv_iload hx hb dL_acts_851 (lv_at hl 3 rfl) ?_
      refine lMi (fun q ⟨j9, h1, h2⟩ => by rw [h2]; exact hz2 j9 h1) (vx_runSW (As := [.ref (ad2 0), .int (nI i), .int (nI (j626 / 2)), .int (nI j640), .int (nI j651), .int (nI j663)]) (rest := []) ⟨hx, hb, hml, hown, hts⟩ (c_L_report l hst D cy ad2 hj2 σ sz (nI i) (nI (j626 / 2)) (nI j640) (nI j651) (nI j663) (1) ((w12_0 (kP_0 hi (by omega) (by omega) (by omega) (by omega))).trans ((rP_1 hi).trans at9)) (gReport σ (nI i) (nI (j626 / 2)) (nI j640) (nI j651) (nI j663)) (if_pos (kP_0 hi (by omega) (by omega) (by omega) (by omega)))) (vx_cwSW 6 hts gL_acts_L_report rfl rfl rfl (by decide +kernel) ⟨Nat.le_of_ble_eq_true rfl, Nat.le_of_ble_eq_true rfl⟩) ⟨cx_bl, cx_S hP.left.right hK Az_z hxk hS⟩ rfl rfl hl.1 rfl (lv_room (Nat.le_of_ble_eq_true rfl)) dL_acts_853 ⟨by show _ ≤ 60; omega, by show _ ≤ 360; omega⟩) hS (fun H locs hPW hS hk1 => ?_)
      have hP := setT hne hTt hP hPW hk1
      refine W.eq (g2 := F0 m 856 ls [.int 1]) rfl ?_
      refine lv_iload hx hb dL_acts_856 (lv_at hl 1 rfl) ?_
      refine lv_icmp_ne (tgt := 876) hx hb dL_acts_858 (by decide) (fun c_19 => absurd ((by decide : (1 : Int32) = 1)) c_19) (fun c_19 => ?_)
      refine lv_iload hx hb dL_acts_861 (lv_at hl 1 rfl) ?_
      refine lv_aload_n hx hb dL_acts_863 rfl (lv_at hl 7 rfl) ?_
      refine lv_iload hx hb dL_acts_864 (lv_at hl 15 rfl) ?_
      refine rMi (vx_runSW (As := [.ref (ad 0), .int (nI i)]) (rest := [.int 1]) ⟨hx, hb, hml, hown, hts⟩ (c_L_stateOf l hst D cy ad (gReport σ (nI i) (nI (j626 / 2)) (nI j640) (nI j651) (nI j663)) sz (nI i) (1) ((wS hi).trans at9)) (vx_cwSW 2 hts gL_acts_L_stateOf rfl rfl rfl (by decide +kernel) ⟨Nat.le_of_ble_eq_true rfl, Nat.le_of_ble_eq_true rfl⟩) ⟨cx_bl, cx_S hP.left.left hK Az_z hxk hS⟩ rfl rfl hl.1 rfl (lv_room (Nat.le_of_ble_eq_true rfl)) dL_acts_866 ⟨by show _ ≤ 60; omega, by show _ ≤ 360; omega⟩) hS (fun H locs hS hg => ?_)
      have hP := hP.grown hg
      refine W.eq (g2 := F0 m 869 ls [.int 1, .int 1]) rfl ?_
      refine lv_icmp_ne (tgt := 876) hx hb dL_acts_869 (by decide) (fun c_20 => absurd ((by decide : (1 : Int32) = 1)) c_20) (fun c_20 => ?_)
      refine lv_iconst (v := 1) hx hb dL_acts_872 (by decide) ?_
      refine lv_goto (tgt := 877) hx hb dL_acts_873 (by decide) ?_
      refine W.widen (k := 60) (n := 360) (by omega) (by omega) ?_
      have hpo : OKs h (N + 70) (up4 fa i (nI (j626 / 2)) (nI j640) (nI j651) (nI j663)) fm fb (gReport σ (nI i) (nI (j626 / 2)) (nI j640) (nI j651) (nI j663)) := aO.le (by omega)
      exact W.zret (v := 1) hx hb hr rfl (fun t ht hW => ⟨⟨_, (), rfl, rfl, ⟨_, _, _, _, by rw [ht]; exact hP, hpo⟩⟩, hS.F ht⟩) hS.2.2 dL_acts_877
    · refine lv_aload_n hx hb dL_acts_706 rfl (lv_at hl 4 rfl) ?_
      refine lv_iload hx hb dL_acts_707 (lv_at hl 12 rfl) ?_
      refine rMi (vx_runSW (As := [.ref (ad 0), .int (nI i)]) (rest := []) ⟨hx, hb, hml, hown, hts⟩ (c_L_failuresOf l hst D cy ad σ sz (nI i) (nI n8) ((wF hi).trans x5)) (vx_cwSW 2 hts gL_acts_L_failuresOf rfl rfl rfl (by decide +kernel) ⟨Nat.le_of_ble_eq_true rfl, Nat.le_of_ble_eq_true rfl⟩) ⟨cx_bl, cx_S hP.left.left hK Az_z hxk hS⟩ rfl rfl hl.1 rfl (lv_room (Nat.le_of_ble_eq_true rfl)) dL_acts_709 ⟨by show _ ≤ 60; omega, by show _ ≤ 360; omega⟩) hS (fun H locs hS hg => ?_)
      have hP := hP.grown hg
      refine W.eq (g2 := F0 m 712 ls [.int (nI n8)]) rfl ?_
      refine lv_istore (lv' := [(14, .int (nI n8)), (13, .int (nI j663)), (12, .int (nI j651)), (11, .int (nI j640)), (10, .int (nI (j626 / 2))), (0, .ref (ad 0)), (1, .ref (ad2 0)), (2, .ref qa), (3, .ref qm), (4, .ref qb), (5, .int zx), (6, .int zy), (7, .int (nI j4)), (8, .int (nI i)), (9, .int 2)]) hx hb dL_acts_712 hl (by decide) rfl (fun ls hl => ?_)
      refine lv_aload_n hx hb dL_acts_714 rfl (lv_at hl 5 rfl) ?_
      refine lv_iload hx hb dL_acts_715 (lv_at hl 13 rfl) ?_
      refine lv_iload hx hb dL_acts_717 (lv_at hl 4 rfl) ?_
      refine lv_iload hx hb dL_acts_719 (lv_at hl 3 rfl) ?_
      refine lv_iload hx hb dL_acts_721 (lv_at hl 2 rfl) ?_
      refine lv_iload hx hb dL_acts_723 (lv_at hl 1 rfl) ?_
      obtain ⟨hTo, hTt⟩ := noT_D hD
      refine lMi (fun q ⟨j9, h1, h2⟩ => by rw [h2]; exact hz j9 h1) (vx_runSW (As := [.ref (ad 0), .int (nI i), .int (nI (j626 / 2)), .int (nI j640), .int (nI j651), .int (nI j663)]) (rest := []) ⟨hx, hb, hml, hown, hts⟩ (c_L_report l hst D cy ad hj σ sz (nI i) (nI (j626 / 2)) (nI j640) (nI j651) (nI j663) (2) ((w12_0 (kP_0 hi (by omega) (by omega) (by omega) (by omega))).trans ((rP_1 hi).trans at9)) (gReport σ (nI i) (nI (j626 / 2)) (nI j640) (nI j651) (nI j663)) (if_pos (kP_0 hi (by omega) (by omega) (by omega) (by omega)))) (vx_cwSW 6 hts gL_acts_L_report rfl rfl rfl (by decide +kernel) ⟨Nat.le_of_ble_eq_true rfl, Nat.le_of_ble_eq_true rfl⟩) ⟨cx_bl, cx_S hP.left.left hK Az_z hxk hS⟩ rfl rfl hl.1 rfl (lv_room (Nat.le_of_ble_eq_true rfl)) dL_acts_725 ⟨by show _ ≤ 60; omega, by show _ ≤ 360; omega⟩) hS (fun H locs hPW hS hk1 => ?_)
      have hP := setO hne hTo hP hPW hk1
      refine W.eq (g2 := F0 m 728 ls [.int 2]) rfl ?_
      refine lv_istore (lv' := [(15, .int 2), (14, .int (nI n8)), (13, .int (nI j663)), (12, .int (nI j651)), (11, .int (nI j640)), (10, .int (nI (j626 / 2))), (0, .ref (ad 0)), (1, .ref (ad2 0)), (2, .ref qa), (3, .ref qm), (4, .ref qb), (5, .int zx), (6, .int zy), (7, .int (nI j4)), (8, .int (nI i)), (9, .int 2)]) hx hb dL_acts_728 hl (by decide) rfl (fun ls hl => ?_)
      refine lv_iload hx hb dL_acts_730 (lv_at hl 15 rfl) ?_
      refine lv_if_ne (tgt := 749) hx hb dL_acts_732 (by decide) (fun c_21 => ?_) (fun c_21 => absurd c_21 ((by decide : ¬ (2 : Int32) = 0)))
      refine lv_iload hx hb dL_acts_749 (lv_at hl 15 rfl) ?_
      refine lv_iconst (v := 3) hx hb dL_acts_751 (by decide) ?_
      refine lv_icmp_ne (tgt := 798) hx hb dL_acts_752 (by decide) (fun c_22 => ?_) (fun c_22 => absurd c_22 ((by decide : ¬ (2 : Int32) = 3)))
      refine lv_iload hx hb dL_acts_798 (lv_at hl 15 rfl) ?_
      refine lv_iconst (v := 2) hx hb dL_acts_800 (by decide) ?_
      refine lv_icmp_ne (tgt := 823) hx hb dL_acts_801 (by decide) (fun c_23 => absurd ((by decide : (2 : Int32) = 2)) c_23) (fun c_23 => ?_)
      refine lv_iload hx hb dL_acts_804 (lv_at hl 0 rfl) ?_
      refine lv_if_le (tgt := 819) hx hb dL_acts_806 (by decide) (fun c_24 => absurd c_24 ((by decide : ¬ (2 : Int32) ≤ 0))) (fun c_24 => ?_)
      refine lv_iload hx hb dL_acts_809 (lv_at hl 0 rfl) ?_
      refine lv_iconst (v := 4) hx hb dL_acts_811 (by decide) ?_
      refine lv_icmp_ge (tgt := 819) hx hb dL_acts_812 (by decide) (fun c_25 => absurd c_25 ((by decide : ¬ (4 : Int32) ≤ 2))) (fun c_25 => ?_)
      refine lv_iconst (v := 1) hx hb dL_acts_815 (by decide) ?_
      refine lv_goto (tgt := 835) hx hb dL_acts_816 (by decide) ?_
      refine lv_istore (lv' := [(16, .int 1), (15, .int 2), (14, .int (nI n8)), (13, .int (nI j663)), (12, .int (nI j651)), (11, .int (nI j640)), (10, .int (nI (j626 / 2))), (0, .ref (ad 0)), (1, .ref (ad2 0)), (2, .ref qa), (3, .ref qm), (4, .ref qb), (5, .int zx), (6, .int zy), (7, .int (nI j4)), (8, .int (nI i)), (9, .int 2)]) hx hb dL_acts_835 hl (by decide) rfl (fun ls hl => ?_)
      refine lv_iload hx hb dL_acts_837 (lv_at hl 0 rfl) ?_
      refine lv_if_eq (tgt := 876) hx hb dL_acts_839 (by decide) (fun c_26 => absurd c_26 ((by decide : ¬ (1 : Int32) = 0))) (fun c_26 => ?_)
      refine lv_aload_n hx hb dL_acts_842 rfl (lv_at hl 8 rfl) ?_
      refine lv_iload hx hb dL_acts_843 (lv_at hl 15 rfl) ?_
      refine lv_iload hx hb dL_acts_845 (lv_at hl 6 rfl) ?_
      refine lv_iload hx hb dL_acts_847 (lv_at hl 5 rfl) ?_
      refine lv_iload hx hb dL_acts_849 (lv_at hl 4 rfl) ?_
      refine lv_iload hx hb dL_acts_851 (lv_at hl 3 rfl) ?_
      refine lMi (fun q ⟨j9, h1, h2⟩ => by rw [h2]; exact hz2 j9 h1) (vx_runSW (As := [.ref (ad2 0), .int (nI i), .int (nI (j626 / 2)), .int (nI j640), .int (nI j651), .int (nI j663)]) (rest := []) ⟨hx, hb, hml, hown, hts⟩ (c_L_report l hst D cy ad2 hj2 σ sz (nI i) (nI (j626 / 2)) (nI j640) (nI j651) (nI j663) (2) ((w12_0 (kP_0 hi (by omega) (by omega) (by omega) (by omega))).trans ((rP_1 hi).trans at9)) (gReport σ (nI i) (nI (j626 / 2)) (nI j640) (nI j651) (nI j663)) (if_pos (kP_0 hi (by omega) (by omega) (by omega) (by omega)))) (vx_cwSW 6 hts gL_acts_L_report rfl rfl rfl (by decide +kernel) ⟨Nat.le_of_ble_eq_true rfl, Nat.le_of_ble_eq_true rfl⟩) ⟨cx_bl, cx_S hP.left.right hK Az_z hxk hS⟩ rfl rfl hl.1 rfl (lv_room (Nat.le_of_ble_eq_true rfl)) dL_acts_853 ⟨by show _ ≤ 60; omega, by show _ ≤ 360; omega⟩) hS (fun H locs hPW hS hk1 => ?_)
      have hP := setT hne hTt hP hPW hk1
      refine W.eq (g2 := F0 m 856 ls [.int 2]) rfl ?_
      refine lv_iload hx hb dL_acts_856 (lv_at hl 1 rfl) ?_
      refine lv_icmp_ne (tgt := 876) hx hb dL_acts_858 (by decide) (fun c_27 => absurd ((by decide : (2 : Int32) = 2)) c_27) (fun c_27 => ?_)
      refine lv_iload hx hb dL_acts_861 (lv_at hl 1 rfl) ?_
      refine lv_aload_n hx hb dL_acts_863 rfl (lv_at hl 7 rfl) ?_
      refine lv_iload hx hb dL_acts_864 (lv_at hl 15 rfl) ?_
      refine rMi (vx_runSW (As := [.ref (ad 0), .int (nI i)]) (rest := [.int 2]) ⟨hx, hb, hml, hown, hts⟩ (c_L_stateOf l hst D cy ad (gReport σ (nI i) (nI (j626 / 2)) (nI j640) (nI j651) (nI j663)) sz (nI i) (2) ((wS hi).trans at9)) (vx_cwSW 2 hts gL_acts_L_stateOf rfl rfl rfl (by decide +kernel) ⟨Nat.le_of_ble_eq_true rfl, Nat.le_of_ble_eq_true rfl⟩) ⟨cx_bl, cx_S hP.left.left hK Az_z hxk hS⟩ rfl rfl hl.1 rfl (lv_room (Nat.le_of_ble_eq_true rfl)) dL_acts_866 ⟨by show _ ≤ 60; omega, by show _ ≤ 360; omega⟩) hS (fun H locs hS hg => ?_)
      have hP := hP.grown hg
      refine W.eq (g2 := F0 m 869 ls [.int 2, .int 2]) rfl ?_
      refine lv_icmp_ne (tgt := 876) hx hb dL_acts_869 (by decide) (fun c_28 => absurd ((by decide : (2 : Int32) = 2)) c_28) (fun c_28 => ?_)
      refine lv_iconst (v := 1) hx hb dL_acts_872 (by decide) ?_
      refine lv_goto (tgt := 877) hx hb dL_acts_873 (by decide) ?_
      refine W.widen (k := 60) (n := 360) (by omega) (by omega) ?_
      have hpo : OKs h (N + 70) (up4 fa i (nI (j626 / 2)) (nI j640) (nI j651) (nI j663)) fm fb (gReport σ (nI i) (nI (j626 / 2)) (nI j640) (nI j651) (nI j663)) := aO.le (by omega)
      exact W.zret (v := 1) hx hb hr rfl (fun t ht hW => ⟨⟨_, (), rfl, rfl, ⟨_, _, _, _, by rw [ht]; exact hP, hpo⟩⟩, hS.F ht⟩) hS.2.2 dL_acts_877
    · refine lv_aload_n hx hb dL_acts_706 rfl (lv_at hl 4 rfl) ?_
      refine lv_iload hx hb dL_acts_707 (lv_at hl 12 rfl) ?_
      refine rMi (vx_runSW (As := [.ref (ad 0), .int (nI i)]) (rest := []) ⟨hx, hb, hml, hown, hts⟩ (c_L_failuresOf l hst D cy ad σ sz (nI i) (nI n8) ((wF hi).trans x5)) (vx_cwSW 2 hts gL_acts_L_failuresOf rfl rfl rfl (by decide +kernel) ⟨Nat.le_of_ble_eq_true rfl, Nat.le_of_ble_eq_true rfl⟩) ⟨cx_bl, cx_S hP.left.left hK Az_z hxk hS⟩ rfl rfl hl.1 rfl (lv_room (Nat.le_of_ble_eq_true rfl)) dL_acts_709 ⟨by show _ ≤ 60; omega, by show _ ≤ 360; omega⟩) hS (fun H locs hS hg => ?_)
      have hP := hP.grown hg
      refine W.eq (g2 := F0 m 712 ls [.int (nI n8)]) rfl ?_
      refine lv_istore (lv' := [(14, .int (nI n8)), (13, .int (nI j663)), (12, .int (nI j651)), (11, .int (nI j640)), (10, .int (nI (j626 / 2))), (0, .ref (ad 0)), (1, .ref (ad2 0)), (2, .ref qa), (3, .ref qm), (4, .ref qb), (5, .int zx), (6, .int zy), (7, .int (nI j4)), (8, .int (nI i)), (9, .int 2)]) hx hb dL_acts_712 hl (by decide) rfl (fun ls hl => ?_)
      refine lv_aload_n hx hb dL_acts_714 rfl (lv_at hl 5 rfl) ?_
      refine lv_iload hx hb dL_acts_715 (lv_at hl 13 rfl) ?_
      refine lv_iload hx hb dL_acts_717 (lv_at hl 4 rfl) ?_
      refine lv_iload hx hb dL_acts_719 (lv_at hl 3 rfl) ?_
      refine lv_iload hx hb dL_acts_721 (lv_at hl 2 rfl) ?_
      refine lv_iload hx hb dL_acts_723 (lv_at hl 1 rfl) ?_
      obtain ⟨hTo, hTt⟩ := noT_D hD
      refine lMi (fun q ⟨j9, h1, h2⟩ => by rw [h2]; exact hz j9 h1) (vx_runSW (As := [.ref (ad 0), .int (nI i), .int (nI (j626 / 2)), .int (nI j640), .int (nI j651), .int (nI j663)]) (rest := []) ⟨hx, hb, hml, hown, hts⟩ (c_L_report l hst D cy ad hj σ sz (nI i) (nI (j626 / 2)) (nI j640) (nI j651) (nI j663) (3) ((w12_0 (kP_0 hi (by omega) (by omega) (by omega) (by omega))).trans ((rP_1 hi).trans at9)) (gReport σ (nI i) (nI (j626 / 2)) (nI j640) (nI j651) (nI j663)) (if_pos (kP_0 hi (by omega) (by omega) (by omega) (by omega)))) (vx_cwSW 6 hts gL_acts_L_report rfl rfl rfl (by decide +kernel) ⟨Nat.le_of_ble_eq_true rfl, Nat.le_of_ble_eq_true rfl⟩) ⟨cx_bl, cx_S hP.left.left hK Az_z hxk hS⟩ rfl rfl hl.1 rfl (lv_room (Nat.le_of_ble_eq_true rfl)) dL_acts_725 ⟨by show _ ≤ 60; omega, by show _ ≤ 360; omega⟩) hS (fun H locs hPW hS hk1 => ?_)
      have hP := setO hne hTo hP hPW hk1
      refine W.eq (g2 := F0 m 728 ls [.int 3]) rfl ?_
      refine lv_istore (lv' := [(15, .int 3), (14, .int (nI n8)), (13, .int (nI j663)), (12, .int (nI j651)), (11, .int (nI j640)), (10, .int (nI (j626 / 2))), (0, .ref (ad 0)), (1, .ref (ad2 0)), (2, .ref qa), (3, .ref qm), (4, .ref qb), (5, .int zx), (6, .int zy), (7, .int (nI j4)), (8, .int (nI i)), (9, .int 2)]) hx hb dL_acts_728 hl (by decide) rfl (fun ls hl => ?_)
      refine lv_iload hx hb dL_acts_730 (lv_at hl 15 rfl) ?_
      refine lv_if_ne (tgt := 749) hx hb dL_acts_732 (by decide) (fun c_29 => ?_) (fun c_29 => absurd c_29 ((by decide : ¬ (2 : Int32) = 0)))
      refine lv_iload hx hb dL_acts_749 (lv_at hl 15 rfl) ?_
      refine lv_iconst (v := 3) hx hb dL_acts_751 (by decide) ?_
      refine lv_icmp_ne (tgt := 798) hx hb dL_acts_752 (by decide) (fun c_30 => ?_) (fun c_30 => absurd c_30 ((by decide : ¬ (2 : Int32) = 3)))
      refine lv_iload hx hb dL_acts_798 (lv_at hl 15 rfl) ?_
      refine lv_iconst (v := 2) hx hb dL_acts_800 (by decide) ?_
      refine lv_icmp_ne (tgt := 823) hx hb dL_acts_801 (by decide) (fun c_31 => absurd ((by decide : (2 : Int32) = 2)) c_31) (fun c_31 => ?_)
      refine lv_iload hx hb dL_acts_804 (lv_at hl 0 rfl) ?_
      refine lv_if_le (tgt := 819) hx hb dL_acts_806 (by decide) (fun c_32 => absurd c_32 ((by decide : ¬ (3 : Int32) ≤ 0))) (fun c_32 => ?_)
      refine lv_iload hx hb dL_acts_809 (lv_at hl 0 rfl) ?_
      refine lv_iconst (v := 4) hx hb dL_acts_811 (by decide) ?_
      refine lv_icmp_ge (tgt := 819) hx hb dL_acts_812 (by decide) (fun c_33 => absurd c_33 ((by decide : ¬ (4 : Int32) ≤ 3))) (fun c_33 => ?_)
      refine lv_iconst (v := 1) hx hb dL_acts_815 (by decide) ?_
      refine lv_goto (tgt := 835) hx hb dL_acts_816 (by decide) ?_
      refine lv_istore (lv' := [(16, .int 1), (15, .int 3), (14, .int (nI n8)), (13, .int (nI j663)), (12, .int (nI j651)), (11, .int (nI j640)), (10, .int (nI (j626 / 2))), (0, .ref (ad 0)), (1, .ref (ad2 0)), (2, .ref qa), (3, .ref qm), (4, .ref qb), (5, .int zx), (6, .int zy), (7, .int (nI j4)), (8, .int (nI i)), (9, .int 2)]) hx hb dL_acts_835 hl (by decide) rfl (fun ls hl => ?_)
      refine lv_iload hx hb dL_acts_837 (lv_at hl 0 rfl) ?_
      refine lv_if_eq (tgt := 876) hx hb dL_acts_839 (by decide) (fun c_34 => absurd c_34 ((by decide : ¬ (1 : Int32) = 0))) (fun c_34 => ?_)
      refine lv_aload_n hx hb dL_acts_842 rfl (lv_at hl 8 rfl) ?_
      refine lv_iload hx hb dL_acts_843 (lv_at hl 15 rfl) ?_
      refine lv_iload hx hb dL_acts_845 (lv_at hl 6 rfl) ?_
      refine lv_iload hx hb dL_acts_847 (lv_at hl 5 rfl) ?_
      refine lv_iload hx hb dL_acts_849 (lv_at hl 4 rfl) ?_
      refine lv_iload hx hb dL_acts_851 (lv_at hl 3 rfl) ?_
      refine lMi (fun q ⟨j9, h1, h2⟩ => by rw [h2]; exact hz2 j9 h1) (vx_runSW (As := [.ref (ad2 0), .int (nI i), .int (nI (j626 / 2)), .int (nI j640), .int (nI j651), .int (nI j663)]) (rest := []) ⟨hx, hb, hml, hown, hts⟩ (c_L_report l hst D cy ad2 hj2 σ sz (nI i) (nI (j626 / 2)) (nI j640) (nI j651) (nI j663) (3) ((w12_0 (kP_0 hi (by omega) (by omega) (by omega) (by omega))).trans ((rP_1 hi).trans at9)) (gReport σ (nI i) (nI (j626 / 2)) (nI j640) (nI j651) (nI j663)) (if_pos (kP_0 hi (by omega) (by omega) (by omega) (by omega)))) (vx_cwSW 6 hts gL_acts_L_report rfl rfl rfl (by decide +kernel) ⟨Nat.le_of_ble_eq_true rfl, Nat.le_of_ble_eq_true rfl⟩) ⟨cx_bl, cx_S hP.left.right hK Az_z hxk hS⟩ rfl rfl hl.1 rfl (lv_room (Nat.le_of_ble_eq_true rfl)) dL_acts_853 ⟨by show _ ≤ 60; omega, by show _ ≤ 360; omega⟩) hS (fun H locs hPW hS hk1 => ?_)
      have hP := setT hne hTt hP hPW hk1
      refine W.eq (g2 := F0 m 856 ls [.int 3]) rfl ?_
      refine lv_iload hx hb dL_acts_856 (lv_at hl 1 rfl) ?_
      refine lv_icmp_ne (tgt := 876) hx hb dL_acts_858 (by decide) (fun c_35 => absurd ((by decide : (3 : Int32) = 3)) c_35) (fun c_35 => ?_)
      refine lv_iload hx hb dL_acts_861 (lv_at hl 1 rfl) ?_
      refine lv_aload_n hx hb dL_acts_863 rfl (lv_at hl 7 rfl) ?_
      refine lv_iload hx hb dL_acts_864 (lv_at hl 15 rfl) ?_
      refine rMi (vx_runSW (As := [.ref (ad 0), .int (nI i)]) (rest := [.int 3]) ⟨hx, hb, hml, hown, hts⟩ (c_L_stateOf l hst D cy ad (gReport σ (nI i) (nI (j626 / 2)) (nI j640) (nI j651) (nI j663)) sz (nI i) (3) ((wS hi).trans at9)) (vx_cwSW 2 hts gL_acts_L_stateOf rfl rfl rfl (by decide +kernel) ⟨Nat.le_of_ble_eq_true rfl, Nat.le_of_ble_eq_true rfl⟩) ⟨cx_bl, cx_S hP.left.left hK Az_z hxk hS⟩ rfl rfl hl.1 rfl (lv_room (Nat.le_of_ble_eq_true rfl)) dL_acts_866 ⟨by show _ ≤ 60; omega, by show _ ≤ 360; omega⟩) hS (fun H locs hS hg => ?_)
      have hP := hP.grown hg
      refine W.eq (g2 := F0 m 869 ls [.int 3, .int 3]) rfl ?_
      refine lv_icmp_ne (tgt := 876) hx hb dL_acts_869 (by decide) (fun c_36 => absurd ((by decide : (3 : Int32) = 3)) c_36) (fun c_36 => ?_)
      refine lv_iconst (v := 1) hx hb dL_acts_872 (by decide) ?_
      refine lv_goto (tgt := 877) hx hb dL_acts_873 (by decide) ?_
      refine W.widen (k := 60) (n := 360) (by omega) (by omega) ?_
      have hpo : OKs h (N + 70) (up4 fa i (nI (j626 / 2)) (nI j640) (nI j651) (nI j663)) fm fb (gReport σ (nI i) (nI (j626 / 2)) (nI j640) (nI j651) (nI j663)) := aO.le (by omega)
      exact W.zret (v := 1) hx hb hr rfl (fun t ht hW => ⟨⟨_, (), rfl, rfl, ⟨_, _, _, _, by rw [ht]; exact hP, hpo⟩⟩, hS.F ht⟩) hS.2.2 dL_acts_877
  · have xs : σ 1 i = 3 := x2
    rw [xs] at hl
    have hl : lv_has ls 17 [(13, .int (nI j663)), (12, .int (nI j651)), (11, .int (nI j640)), (10, .int (nI (j626 / 2))), (0, .ref (ad 0)), (1, .ref (ad2 0)), (2, .ref qa), (3, .ref qm), (4, .ref qb), (5, .int zx), (6, .int zy), (7, .int (nI j4)), (8, .int (nI i)), (9, .int 3)] := hl
    by_cases hq : q8 ≤ n8 + 1
    · have at9 := (a3 xs).1.trans (if7 q3 x5 q2 x6 hq)
      have af9 := (a3 xs).2.trans (by rw [x5, nI_1])
      refine lv_aload_n hx hb dL_acts_706 rfl (lv_at hl 4 rfl) ?_
      refine lv_iload hx hb dL_acts_707 (lv_at hl 12 rfl) ?_
      refine rMi (vx_runSW (As := [.ref (ad 0), .int (nI i)]) (rest := []) ⟨hx, hb, hml, hown, hts⟩ (c_L_failuresOf l hst D cy ad σ sz (nI i) (nI n8) ((wF hi).trans x5)) (vx_cwSW 2 hts gL_acts_L_failuresOf rfl rfl rfl (by decide +kernel) ⟨Nat.le_of_ble_eq_true rfl, Nat.le_of_ble_eq_true rfl⟩) ⟨cx_bl, cx_S hP.left.left hK Az_z hxk hS⟩ rfl rfl hl.1 rfl (lv_room (Nat.le_of_ble_eq_true rfl)) dL_acts_709 ⟨by show _ ≤ 60; omega, by show _ ≤ 360; omega⟩) hS (fun H locs hS hg => ?_)
      have hP := hP.grown hg
      refine W.eq (g2 := F0 m 712 ls [.int (nI n8)]) rfl ?_
      refine lv_istore (lv' := [(14, .int (nI n8)), (13, .int (nI j663)), (12, .int (nI j651)), (11, .int (nI j640)), (10, .int (nI (j626 / 2))), (0, .ref (ad 0)), (1, .ref (ad2 0)), (2, .ref qa), (3, .ref qm), (4, .ref qb), (5, .int zx), (6, .int zy), (7, .int (nI j4)), (8, .int (nI i)), (9, .int 3)]) hx hb dL_acts_712 hl (by decide) rfl (fun ls hl => ?_)
      refine lv_aload_n hx hb dL_acts_714 rfl (lv_at hl 5 rfl) ?_
      refine lv_iload hx hb dL_acts_715 (lv_at hl 13 rfl) ?_
      refine lv_iload hx hb dL_acts_717 (lv_at hl 4 rfl) ?_
      refine lv_iload hx hb dL_acts_719 (lv_at hl 3 rfl) ?_
      refine lv_iload hx hb dL_acts_721 (lv_at hl 2 rfl) ?_
      refine lv_iload hx hb dL_acts_723 (lv_at hl 1 rfl) ?_
      obtain ⟨hTo, hTt⟩ := noT_D hD
      refine lMi (fun q ⟨j9, h1, h2⟩ => by rw [h2]; exact hz j9 h1) (vx_runSW (As := [.ref (ad 0), .int (nI i), .int (nI (j626 / 2)), .int (nI j640), .int (nI j651), .int (nI j663)]) (rest := []) ⟨hx, hb, hml, hown, hts⟩ (c_L_report l hst D cy ad hj σ sz (nI i) (nI (j626 / 2)) (nI j640) (nI j651) (nI j663) (7) ((w12_0 (kP_0 hi (by omega) (by omega) (by omega) (by omega))).trans ((rP_1 hi).trans at9)) (gReport σ (nI i) (nI (j626 / 2)) (nI j640) (nI j651) (nI j663)) (if_pos (kP_0 hi (by omega) (by omega) (by omega) (by omega)))) (vx_cwSW 6 hts gL_acts_L_report rfl rfl rfl (by decide +kernel) ⟨Nat.le_of_ble_eq_true rfl, Nat.le_of_ble_eq_true rfl⟩) ⟨cx_bl, cx_S hP.left.left hK Az_z hxk hS⟩ rfl rfl hl.1 rfl (lv_room (Nat.le_of_ble_eq_true rfl)) dL_acts_725 ⟨by show _ ≤ 60; omega, by show _ ≤ 360; omega⟩) hS (fun H locs hPW hS hk1 => ?_)
      have hP := setO hne hTo hP hPW hk1
      refine W.eq (g2 := F0 m 728 ls [.int 7]) rfl ?_
      refine lv_istore (lv' := [(15, .int 7), (14, .int (nI n8)), (13, .int (nI j663)), (12, .int (nI j651)), (11, .int (nI j640)), (10, .int (nI (j626 / 2))), (0, .ref (ad 0)), (1, .ref (ad2 0)), (2, .ref qa), (3, .ref qm), (4, .ref qb), (5, .int zx), (6, .int zy), (7, .int (nI j4)), (8, .int (nI i)), (9, .int 3)]) hx hb dL_acts_728 hl (by decide) rfl (fun ls hl => ?_)
      refine lv_iload hx hb dL_acts_730 (lv_at hl 15 rfl) ?_
      refine lv_if_ne (tgt := 749) hx hb dL_acts_732 (by decide) (fun c_37 => ?_) (fun c_37 => absurd c_37 ((by decide : ¬ (3 : Int32) = 0)))
      refine lv_iload hx hb dL_acts_749 (lv_at hl 15 rfl) ?_
      refine lv_iconst (v := 3) hx hb dL_acts_751 (by decide) ?_
      refine lv_icmp_ne (tgt := 798) hx hb dL_acts_752 (by decide) (fun c_38 => absurd ((by decide : (3 : Int32) = 3)) c_38) (fun c_38 => ?_)
      refine lv_aload_n hx hb dL_acts_755 rfl (lv_at hl 6 rfl) ?_
      refine lv_iload hx hb dL_acts_756 (lv_at hl 14 rfl) ?_
      refine rMi (vx_runSW (As := [.ref (ad 0), .int (nI i)]) (rest := []) ⟨hx, hb, hml, hown, hts⟩ (c_L_failuresOf l hst D cy ad (gReport σ (nI i) (nI (j626 / 2)) (nI j640) (nI j651) (nI j663)) sz (nI i) (nI (n8 + 1)) ((wF hi).trans af9)) (vx_cwSW 2 hts gL_acts_L_failuresOf rfl rfl rfl (by decide +kernel) ⟨Nat.le_of_ble_eq_true rfl, Nat.le_of_ble_eq_true rfl⟩) ⟨cx_bl, cx_S hP.left.left hK Az_z hxk hS⟩ rfl rfl hl.1 rfl (lv_room (Nat.le_of_ble_eq_true rfl)) dL_acts_758 ⟨by show _ ≤ 60; omega, by show _ ≤ 360; omega⟩) hS (fun H locs hS hg => ?_)
      have hP := hP.grown hg
      refine W.eq (g2 := F0 m 761 ls [.int (nI (n8 + 1))]) rfl ?_
      refine lv_iload hx hb dL_acts_761 (lv_at hl 1 rfl) ?_
      refine lv_iconst (v := 1) hx hb dL_acts_763 (by decide) ?_
      refine lv_iadd hx hb dL_acts_764 ?_
      refine W.eq (congrArg (fun z9 => F0 m 765 ls [.int z9, .int (nI (n8 + 1))]) (nI_add n8 1)) ?_
      refine lv_icmp_ne (tgt := 794) hx hb dL_acts_765 (by decide) (fun c_39 => absurd (rfl) c_39) (fun c_39 => ?_)
      refine lv_iload hx hb dL_acts_768 (lv_at hl 0 rfl) ?_
      refine lv_iload hx hb dL_acts_770 (lv_at hl 1 rfl) ?_
      refine lv_iconst (v := 1) hx hb dL_acts_772 (by decide) ?_
      refine lv_iadd hx hb dL_acts_773 ?_
      refine W.eq (congrArg (fun z9 => F0 m 774 ls [.int z9, .int 7]) (nI_add n8 1)) ?_
      refine lv_aload hx hb dL_acts_774 (lv_at hl 10 rfl) ?_
      refine lv_iconst (v := 5) hx hb dL_acts_776 (by decide) ?_
      refine W.eq (g2 := F0 m 777 ls [.int (nI 5), .ref qb, .int (nI (n8 + 1)), .int 7]) rfl ?_
      refine raW (x := nI q8) hx hb hK (hP.right.one (k := 2) rfl) (show 5 < 6 by omega) (by decide) (hO.2.2.2.2.2.2.trans q3) dL_acts_777 ?_
      refine lv_icmp_lt (tgt := 786) hx hb dL_acts_778 (by decide) (fun c_40 => absurd c_40 ((fun z9 => absurd ((nI_ltI (a := n8 + 1) (b := q8) (by omega) (by omega)).mp z9) (by omega)))) (fun c_40 => ?_)
      refine lv_bipush (v := 7) hx hb dL_acts_781 (by decide) ?_
      refine lv_goto (tgt := 787) hx hb dL_acts_783 (by decide) ?_
      refine lv_icmp_ne (tgt := 794) hx hb dL_acts_787 (by decide) (fun c_41 => absurd ((by decide : (7 : Int32) = 7)) c_41) (fun c_41 => ?_)
      refine lv_iconst (v := 1) hx hb dL_acts_790 (by decide) ?_
      refine lv_goto (tgt := 835) hx hb dL_acts_791 (by decide) ?_
      refine lv_istore (lv' := [(16, .int 1), (15, .int 7), (14, .int (nI n8)), (13, .int (nI j663)), (12, .int (nI j651)), (11, .int (nI j640)), (10, .int (nI (j626 / 2))), (0, .ref (ad 0)), (1, .ref (ad2 0)), (2, .ref qa), (3, .ref qm), (4, .ref qb), (5, .int zx), (6, .int zy), (7, .int (nI j4)), (8, .int (nI i)), (9, .int 3)]) hx hb dL_acts_835 hl (by decide) rfl (fun ls hl => ?_)
      refine lv_iload hx hb dL_acts_837 (lv_at hl 0 rfl) ?_
      refine lv_if_eq (tgt := 876) hx hb dL_acts_839 (by decide) (fun c_42 => absurd c_42 ((by decide : ¬ (1 : Int32) = 0))) (fun c_42 => ?_)
      refine lv_aload_n hx hb dL_acts_842 rfl (lv_at hl 8 rfl) ?_
      refine lv_iload hx hb dL_acts_843 (lv_at hl 15 rfl) ?_
      refine lv_iload hx hb dL_acts_845 (lv_at hl 6 rfl) ?_
      refine lv_iload hx hb dL_acts_847 (lv_at hl 5 rfl) ?_
      refine lv_iload hx hb dL_acts_849 (lv_at hl 4 rfl) ?_
      refine lv_iload hx hb dL_acts_851 (lv_at hl 3 rfl) ?_
      refine lMi (fun q ⟨j9, h1, h2⟩ => by rw [h2]; exact hz2 j9 h1) (vx_runSW (As := [.ref (ad2 0), .int (nI i), .int (nI (j626 / 2)), .int (nI j640), .int (nI j651), .int (nI j663)]) (rest := []) ⟨hx, hb, hml, hown, hts⟩ (c_L_report l hst D cy ad2 hj2 σ sz (nI i) (nI (j626 / 2)) (nI j640) (nI j651) (nI j663) (7) ((w12_0 (kP_0 hi (by omega) (by omega) (by omega) (by omega))).trans ((rP_1 hi).trans at9)) (gReport σ (nI i) (nI (j626 / 2)) (nI j640) (nI j651) (nI j663)) (if_pos (kP_0 hi (by omega) (by omega) (by omega) (by omega)))) (vx_cwSW 6 hts gL_acts_L_report rfl rfl rfl (by decide +kernel) ⟨Nat.le_of_ble_eq_true rfl, Nat.le_of_ble_eq_true rfl⟩) ⟨cx_bl, cx_S hP.left.right hK Az_z hxk hS⟩ rfl rfl hl.1 rfl (lv_room (Nat.le_of_ble_eq_true rfl)) dL_acts_853 ⟨by show _ ≤ 60; omega, by show _ ≤ 360; omega⟩) hS (fun H locs hPW hS hk1 => ?_)
      have hP := setT hne hTt hP hPW hk1
      refine W.eq (g2 := F0 m 856 ls [.int 7]) rfl ?_
      refine lv_iload hx hb dL_acts_856 (lv_at hl 1 rfl) ?_
      refine lv_icmp_ne (tgt := 876) hx hb dL_acts_858 (by decide) (fun c_43 => absurd ((by decide : (7 : Int32) = 7)) c_43) (fun c_43 => ?_)
      refine lv_iload hx hb dL_acts_861 (lv_at hl 1 rfl) ?_
      refine lv_aload_n hx hb dL_acts_863 rfl (lv_at hl 7 rfl) ?_
      refine lv_iload hx hb dL_acts_864 (lv_at hl 15 rfl) ?_
      refine rMi (vx_runSW (As := [.ref (ad 0), .int (nI i)]) (rest := [.int 7]) ⟨hx, hb, hml, hown, hts⟩ (c_L_stateOf l hst D cy ad (gReport σ (nI i) (nI (j626 / 2)) (nI j640) (nI j651) (nI j663)) sz (nI i) (7) ((wS hi).trans at9)) (vx_cwSW 2 hts gL_acts_L_stateOf rfl rfl rfl (by decide +kernel) ⟨Nat.le_of_ble_eq_true rfl, Nat.le_of_ble_eq_true rfl⟩) ⟨cx_bl, cx_S hP.left.left hK Az_z hxk hS⟩ rfl rfl hl.1 rfl (lv_room (Nat.le_of_ble_eq_true rfl)) dL_acts_866 ⟨by show _ ≤ 60; omega, by show _ ≤ 360; omega⟩) hS (fun H locs hS hg => ?_)
      have hP := hP.grown hg
      refine W.eq (g2 := F0 m 869 ls [.int 7, .int 7]) rfl ?_
      refine lv_icmp_ne (tgt := 876) hx hb dL_acts_869 (by decide) (fun c_44 => absurd ((by decide : (7 : Int32) = 7)) c_44) (fun c_44 => ?_)
      refine lv_iconst (v := 1) hx hb dL_acts_872 (by decide) ?_
      refine lv_goto (tgt := 877) hx hb dL_acts_873 (by decide) ?_
      refine W.widen (k := 60) (n := 360) (by omega) (by omega) ?_
      have hpo : OKs h (N + 70) (up4 fa i (nI (j626 / 2)) (nI j640) (nI j651) (nI j663)) fm fb (gReport σ (nI i) (nI (j626 / 2)) (nI j640) (nI j651) (nI j663)) := aO.le (by omega)
      exact W.zret (v := 1) hx hb hr rfl (fun t ht hW => ⟨⟨_, (), rfl, rfl, ⟨_, _, _, _, by rw [ht]; exact hP, hpo⟩⟩, hS.F ht⟩) hS.2.2 dL_acts_877
    · have at9 := (a3 xs).1.trans (if4 q3 x5 q2 x6 hq)
      have af9 := (a3 xs).2.trans (by rw [x5, nI_1])
      refine lv_aload_n hx hb dL_acts_706 rfl (lv_at hl 4 rfl) ?_
      refine lv_iload hx hb dL_acts_707 (lv_at hl 12 rfl) ?_
      refine rMi (vx_runSW (As := [.ref (ad 0), .int (nI i)]) (rest := []) ⟨hx, hb, hml, hown, hts⟩ (c_L_failuresOf l hst D cy ad σ sz (nI i) (nI n8) ((wF hi).trans x5)) (vx_cwSW 2 hts gL_acts_L_failuresOf rfl rfl rfl (by decide +kernel) ⟨Nat.le_of_ble_eq_true rfl, Nat.le_of_ble_eq_true rfl⟩) ⟨cx_bl, cx_S hP.left.left hK Az_z hxk hS⟩ rfl rfl hl.1 rfl (lv_room (Nat.le_of_ble_eq_true rfl)) dL_acts_709 ⟨by show _ ≤ 60; omega, by show _ ≤ 360; omega⟩) hS (fun H locs hS hg => ?_)
      have hP := hP.grown hg
      refine W.eq (g2 := F0 m 712 ls [.int (nI n8)]) rfl ?_
      refine lv_istore (lv' := [(14, .int (nI n8)), (13, .int (nI j663)), (12, .int (nI j651)), (11, .int (nI j640)), (10, .int (nI (j626 / 2))), (0, .ref (ad 0)), (1, .ref (ad2 0)), (2, .ref qa), (3, .ref qm), (4, .ref qb), (5, .int zx), (6, .int zy), (7, .int (nI j4)), (8, .int (nI i)), (9, .int 3)]) hx hb dL_acts_712 hl (by decide) rfl (fun ls hl => ?_)
      refine lv_aload_n hx hb dL_acts_714 rfl (lv_at hl 5 rfl) ?_
      refine lv_iload hx hb dL_acts_715 (lv_at hl 13 rfl) ?_
      refine lv_iload hx hb dL_acts_717 (lv_at hl 4 rfl) ?_
      refine lv_iload hx hb dL_acts_719 (lv_at hl 3 rfl) ?_
      refine lv_iload hx hb dL_acts_721 (lv_at hl 2 rfl) ?_
      refine lv_iload hx hb dL_acts_723 (lv_at hl 1 rfl) ?_
      obtain ⟨hTo, hTt⟩ := noT_D hD
      refine lMi (fun q ⟨j9, h1, h2⟩ => by rw [h2]; exact hz j9 h1) (vx_runSW (As := [.ref (ad 0), .int (nI i), .int (nI (j626 / 2)), .int (nI j640), .int (nI j651), .int (nI j663)]) (rest := []) ⟨hx, hb, hml, hown, hts⟩ (c_L_report l hst D cy ad hj σ sz (nI i) (nI (j626 / 2)) (nI j640) (nI j651) (nI j663) (4) ((w12_0 (kP_0 hi (by omega) (by omega) (by omega) (by omega))).trans ((rP_1 hi).trans at9)) (gReport σ (nI i) (nI (j626 / 2)) (nI j640) (nI j651) (nI j663)) (if_pos (kP_0 hi (by omega) (by omega) (by omega) (by omega)))) (vx_cwSW 6 hts gL_acts_L_report rfl rfl rfl (by decide +kernel) ⟨Nat.le_of_ble_eq_true rfl, Nat.le_of_ble_eq_true rfl⟩) ⟨cx_bl, cx_S hP.left.left hK Az_z hxk hS⟩ rfl rfl hl.1 rfl (lv_room (Nat.le_of_ble_eq_true rfl)) dL_acts_725 ⟨by show _ ≤ 60; omega, by show _ ≤ 360; omega⟩) hS (fun H locs hPW hS hk1 => ?_)
      have hP := setO hne hTo hP hPW hk1
      refine W.eq (g2 := F0 m 728 ls [.int 4]) rfl ?_
      refine lv_istore (lv' := [(15, .int 4), (14, .int (nI n8)), (13, .int (nI j663)), (12, .int (nI j651)), (11, .int (nI j640)), (10, .int (nI (j626 / 2))), (0, .ref (ad 0)), (1, .ref (ad2 0)), (2, .ref qa), (3, .ref qm), (4, .ref qb), (5, .int zx), (6, .int zy), (7, .int (nI j4)), (8, .int (nI i)), (9, .int 3)]) hx hb dL_acts_728 hl (by decide) rfl (fun ls hl => ?_)
      refine lv_iload hx hb dL_acts_730 (lv_at hl 15 rfl) ?_
      refine lv_if_ne (tgt := 749) hx hb dL_acts_732 (by decide) (fun c_45 => ?_) (fun c_45 => absurd c_45 ((by decide : ¬ (3 : Int32) = 0)))
      refine lv_iload hx hb dL_acts_749 (lv_at hl 15 rfl) ?_
      refine lv_iconst (v := 3) hx hb dL_acts_751 (by decide) ?_
      refine lv_icmp_ne (tgt := 798) hx hb dL_acts_752 (by decide) (fun c_46 => absurd ((by decide : (3 : Int32) = 3)) c_46) (fun c_46 => ?_)
      refine lv_aload_n hx hb dL_acts_755 rfl (lv_at hl 6 rfl) ?_
      refine lv_iload hx hb dL_acts_756 (lv_at hl 14 rfl) ?_
      refine rMi (vx_runSW (As := [.ref (ad 0), .int (nI i)]) (rest := []) ⟨hx, hb, hml, hown, hts⟩ (c_L_failuresOf l hst D cy ad (gReport σ (nI i) (nI (j626 / 2)) (nI j640) (nI j651) (nI j663)) sz (nI i) (nI (n8 + 1)) ((wF hi).trans af9)) (vx_cwSW 2 hts gL_acts_L_failuresOf rfl rfl rfl (by decide +kernel) ⟨Nat.le_of_ble_eq_true rfl, Nat.le_of_ble_eq_true rfl⟩) ⟨cx_bl, cx_S hP.left.left hK Az_z hxk hS⟩ rfl rfl hl.1 rfl (lv_room (Nat.le_of_ble_eq_true rfl)) dL_acts_758 ⟨by show _ ≤ 60; omega, by show _ ≤ 360; omega⟩) hS (fun H locs hS hg => ?_)
      have hP := hP.grown hg
      refine W.eq (g2 := F0 m 761 ls [.int (nI (n8 + 1))]) rfl ?_
      refine lv_iload hx hb dL_acts_761 (lv_at hl 1 rfl) ?_
      refine lv_iconst (v := 1) hx hb dL_acts_763 (by decide) ?_
      refine lv_iadd hx hb dL_acts_764 ?_
      refine W.eq (congrArg (fun z9 => F0 m 765 ls [.int z9, .int (nI (n8 + 1))]) (nI_add n8 1)) ?_
      refine lv_icmp_ne (tgt := 794) hx hb dL_acts_765 (by decide) (fun c_47 => absurd (rfl) c_47) (fun c_47 => ?_)
      refine lv_iload hx hb dL_acts_768 (lv_at hl 0 rfl) ?_
      refine lv_iload hx hb dL_acts_770 (lv_at hl 1 rfl) ?_
      refine lv_iconst (v := 1) hx hb dL_acts_772 (by decide) ?_
      refine lv_iadd hx hb dL_acts_773 ?_
      refine W.eq (congrArg (fun z9 => F0 m 774 ls [.int z9, .int 4]) (nI_add n8 1)) ?_
      refine lv_aload hx hb dL_acts_774 (lv_at hl 10 rfl) ?_
      refine lv_iconst (v := 5) hx hb dL_acts_776 (by decide) ?_
      refine W.eq (g2 := F0 m 777 ls [.int (nI 5), .ref qb, .int (nI (n8 + 1)), .int 4]) rfl ?_
      refine raW (x := nI q8) hx hb hK (hP.right.one (k := 2) rfl) (show 5 < 6 by omega) (by decide) (hO.2.2.2.2.2.2.trans q3) dL_acts_777 ?_
      refine lv_icmp_lt (tgt := 786) hx hb dL_acts_778 (by decide) (fun c_48 => ?_) (fun c_48 => absurd (((nI_ltI (a := n8 + 1) (b := q8) (by omega) (by omega)).mpr (by omega))) c_48)
      refine lv_iconst (v := 4) hx hb dL_acts_786 (by decide) ?_
      refine lv_icmp_ne (tgt := 794) hx hb dL_acts_787 (by decide) (fun c_49 => absurd ((by decide : (4 : Int32) = 4)) c_49) (fun c_49 => ?_)
      refine lv_iconst (v := 1) hx hb dL_acts_790 (by decide) ?_
      refine lv_goto (tgt := 835) hx hb dL_acts_791 (by decide) ?_
      refine lv_istore (lv' := [(16, .int 1), (15, .int 4), (14, .int (nI n8)), (13, .int (nI j663)), (12, .int (nI j651)), (11, .int (nI j640)), (10, .int (nI (j626 / 2))), (0, .ref (ad 0)), (1, .ref (ad2 0)), (2, .ref qa), (3, .ref qm), (4, .ref qb), (5, .int zx), (6, .int zy), (7, .int (nI j4)), (8, .int (nI i)), (9, .int 3)]) hx hb dL_acts_835 hl (by decide) rfl (fun ls hl => ?_)
      refine lv_iload hx hb dL_acts_837 (lv_at hl 0 rfl) ?_
      refine lv_if_eq (tgt := 876) hx hb dL_acts_839 (by decide) (fun c_50 => absurd c_50 ((by decide : ¬ (1 : Int32) = 0))) (fun c_50 => ?_)
      refine lv_aload_n hx hb dL_acts_842 rfl (lv_at hl 8 rfl) ?_
      refine lv_iload hx hb dL_acts_843 (lv_at hl 15 rfl) ?_
      refine lv_iload hx hb dL_acts_845 (lv_at hl 6 rfl) ?_
      refine lv_iload hx hb dL_acts_847 (lv_at hl 5 rfl) ?_
      refine lv_iload hx hb dL_acts_849 (lv_at hl 4 rfl) ?_
      refine lv_iload hx hb dL_acts_851 (lv_at hl 3 rfl) ?_
      refine lMi (fun q ⟨j9, h1, h2⟩ => by rw [h2]; exact hz2 j9 h1) (vx_runSW (As := [.ref (ad2 0), .int (nI i), .int (nI (j626 / 2)), .int (nI j640), .int (nI j651), .int (nI j663)]) (rest := []) ⟨hx, hb, hml, hown, hts⟩ (c_L_report l hst D cy ad2 hj2 σ sz (nI i) (nI (j626 / 2)) (nI j640) (nI j651) (nI j663) (4) ((w12_0 (kP_0 hi (by omega) (by omega) (by omega) (by omega))).trans ((rP_1 hi).trans at9)) (gReport σ (nI i) (nI (j626 / 2)) (nI j640) (nI j651) (nI j663)) (if_pos (kP_0 hi (by omega) (by omega) (by omega) (by omega)))) (vx_cwSW 6 hts gL_acts_L_report rfl rfl rfl (by decide +kernel) ⟨Nat.le_of_ble_eq_true rfl, Nat.le_of_ble_eq_true rfl⟩) ⟨cx_bl, cx_S hP.left.right hK Az_z hxk hS⟩ rfl rfl hl.1 rfl (lv_room (Nat.le_of_ble_eq_true rfl)) dL_acts_853 ⟨by show _ ≤ 60; omega, by show _ ≤ 360; omega⟩) hS (fun H locs hPW hS hk1 => ?_)
      have hP := setT hne hTt hP hPW hk1
      refine W.eq (g2 := F0 m 856 ls [.int 4]) rfl ?_
      refine lv_iload hx hb dL_acts_856 (lv_at hl 1 rfl) ?_
      refine lv_icmp_ne (tgt := 876) hx hb dL_acts_858 (by decide) (fun c_51 => absurd ((by decide : (4 : Int32) = 4)) c_51) (fun c_51 => ?_)
      refine lv_iload hx hb dL_acts_861 (lv_at hl 1 rfl) ?_
      refine lv_aload_n hx hb dL_acts_863 rfl (lv_at hl 7 rfl) ?_
      refine lv_iload hx hb dL_acts_864 (lv_at hl 15 rfl) ?_
      refine rMi (vx_runSW (As := [.ref (ad 0), .int (nI i)]) (rest := [.int 4]) ⟨hx, hb, hml, hown, hts⟩ (c_L_stateOf l hst D cy ad (gReport σ (nI i) (nI (j626 / 2)) (nI j640) (nI j651) (nI j663)) sz (nI i) (4) ((wS hi).trans at9)) (vx_cwSW 2 hts gL_acts_L_stateOf rfl rfl rfl (by decide +kernel) ⟨Nat.le_of_ble_eq_true rfl, Nat.le_of_ble_eq_true rfl⟩) ⟨cx_bl, cx_S hP.left.left hK Az_z hxk hS⟩ rfl rfl hl.1 rfl (lv_room (Nat.le_of_ble_eq_true rfl)) dL_acts_866 ⟨by show _ ≤ 60; omega, by show _ ≤ 360; omega⟩) hS (fun H locs hS hg => ?_)
      have hP := hP.grown hg
      refine W.eq (g2 := F0 m 869 ls [.int 4, .int 4]) rfl ?_
      refine lv_icmp_ne (tgt := 876) hx hb dL_acts_869 (by decide) (fun c_52 => absurd ((by decide : (4 : Int32) = 4)) c_52) (fun c_52 => ?_)
      refine lv_iconst (v := 1) hx hb dL_acts_872 (by decide) ?_
      refine lv_goto (tgt := 877) hx hb dL_acts_873 (by decide) ?_
      refine W.widen (k := 60) (n := 360) (by omega) (by omega) ?_
      have hpo : OKs h (N + 70) (up4 fa i (nI (j626 / 2)) (nI j640) (nI j651) (nI j663)) fm fb (gReport σ (nI i) (nI (j626 / 2)) (nI j640) (nI j651) (nI j663)) := aO.le (by omega)
      exact W.zret (v := 1) hx hb hr rfl (fun t ht hW => ⟨⟨_, (), rfl, rfl, ⟨_, _, _, _, by rw [ht]; exact hP, hpo⟩⟩, hS.F ht⟩) hS.2.2 dL_acts_877
  · have xs : σ 1 i = 4 := x2
    rw [xs] at hl
    have hl : lv_has ls 17 [(13, .int (nI j663)), (12, .int (nI j651)), (11, .int (nI j640)), (10, .int (nI (j626 / 2))), (0, .ref (ad 0)), (1, .ref (ad2 0)), (2, .ref qa), (3, .ref qm), (4, .ref qb), (5, .int zx), (6, .int zy), (7, .int (nI j4)), (8, .int (nI i)), (9, .int 4)] := hl
    have at9 := (an (lit_ne (a := 4) (b := 0) x2 (by omega) (by omega) (by decide)) (lit_ne (a := 4) (b := 2) x2 (by omega) (by omega) (by decide)) (lit_ne (a := 4) (b := 3) x2 (by omega) (by omega) (by decide))).trans xs
    refine lv_aload_n hx hb dL_acts_706 rfl (lv_at hl 4 rfl) ?_
    refine lv_iload hx hb dL_acts_707 (lv_at hl 12 rfl) ?_
    refine rMi (vx_runSW (As := [.ref (ad 0), .int (nI i)]) (rest := []) ⟨hx, hb, hml, hown, hts⟩ (c_L_failuresOf l hst D cy ad σ sz (nI i) (nI n8) ((wF hi).trans x5)) (vx_cwSW 2 hts gL_acts_L_failuresOf rfl rfl rfl (by decide +kernel) ⟨Nat.le_of_ble_eq_true rfl, Nat.le_of_ble_eq_true rfl⟩) ⟨cx_bl, cx_S hP.left.left hK Az_z hxk hS⟩ rfl rfl hl.1 rfl (lv_room (Nat.le_of_ble_eq_true rfl)) dL_acts_709 ⟨by show _ ≤ 60; omega, by show _ ≤ 360; omega⟩) hS (fun H locs hS hg => ?_)
    have hP := hP.grown hg
    refine W.eq (g2 := F0 m 712 ls [.int (nI n8)]) rfl ?_
    refine lv_istore (lv' := [(14, .int (nI n8)), (13, .int (nI j663)), (12, .int (nI j651)), (11, .int (nI j640)), (10, .int (nI (j626 / 2))), (0, .ref (ad 0)), (1, .ref (ad2 0)), (2, .ref qa), (3, .ref qm), (4, .ref qb), (5, .int zx), (6, .int zy), (7, .int (nI j4)), (8, .int (nI i)), (9, .int 4)]) hx hb dL_acts_712 hl (by decide) rfl (fun ls hl => ?_)
    refine lv_aload_n hx hb dL_acts_714 rfl (lv_at hl 5 rfl) ?_
    refine lv_iload hx hb dL_acts_715 (lv_at hl 13 rfl) ?_
    refine lv_iload hx hb dL_acts_717 (lv_at hl 4 rfl) ?_
    refine lv_iload hx hb dL_acts_719 (lv_at hl 3 rfl) ?_
    refine lv_iload hx hb dL_acts_721 (lv_at hl 2 rfl) ?_
    refine lv_iload hx hb dL_acts_723 (lv_at hl 1 rfl) ?_
    obtain ⟨hTo, hTt⟩ := noT_D hD
    refine lMi (fun q ⟨j9, h1, h2⟩ => by rw [h2]; exact hz j9 h1) (vx_runSW (As := [.ref (ad 0), .int (nI i), .int (nI (j626 / 2)), .int (nI j640), .int (nI j651), .int (nI j663)]) (rest := []) ⟨hx, hb, hml, hown, hts⟩ (c_L_report l hst D cy ad hj σ sz (nI i) (nI (j626 / 2)) (nI j640) (nI j651) (nI j663) (4) ((w12_0 (kP_0 hi (by omega) (by omega) (by omega) (by omega))).trans ((rP_1 hi).trans at9)) (gReport σ (nI i) (nI (j626 / 2)) (nI j640) (nI j651) (nI j663)) (if_pos (kP_0 hi (by omega) (by omega) (by omega) (by omega)))) (vx_cwSW 6 hts gL_acts_L_report rfl rfl rfl (by decide +kernel) ⟨Nat.le_of_ble_eq_true rfl, Nat.le_of_ble_eq_true rfl⟩) ⟨cx_bl, cx_S hP.left.left hK Az_z hxk hS⟩ rfl rfl hl.1 rfl (lv_room (Nat.le_of_ble_eq_true rfl)) dL_acts_725 ⟨by show _ ≤ 60; omega, by show _ ≤ 360; omega⟩) hS (fun H locs hPW hS hk1 => ?_)
    have hP := setO hne hTo hP hPW hk1
    refine W.eq (g2 := F0 m 728 ls [.int 4]) rfl ?_
    refine lv_istore (lv' := [(15, .int 4), (14, .int (nI n8)), (13, .int (nI j663)), (12, .int (nI j651)), (11, .int (nI j640)), (10, .int (nI (j626 / 2))), (0, .ref (ad 0)), (1, .ref (ad2 0)), (2, .ref qa), (3, .ref qm), (4, .ref qb), (5, .int zx), (6, .int zy), (7, .int (nI j4)), (8, .int (nI i)), (9, .int 4)]) hx hb dL_acts_728 hl (by decide) rfl (fun ls hl => ?_)
    refine lv_iload hx hb dL_acts_730 (lv_at hl 15 rfl) ?_
    refine lv_if_ne (tgt := 749) hx hb dL_acts_732 (by decide) (fun c_53 => ?_) (fun c_53 => absurd c_53 ((by decide : ¬ (4 : Int32) = 0)))
    refine lv_iload hx hb dL_acts_749 (lv_at hl 15 rfl) ?_
    refine lv_iconst (v := 3) hx hb dL_acts_751 (by decide) ?_
    refine lv_icmp_ne (tgt := 798) hx hb dL_acts_752 (by decide) (fun c_54 => ?_) (fun c_54 => absurd c_54 ((by decide : ¬ (4 : Int32) = 3)))
    refine lv_iload hx hb dL_acts_798 (lv_at hl 15 rfl) ?_
    refine lv_iconst (v := 2) hx hb dL_acts_800 (by decide) ?_
    refine lv_icmp_ne (tgt := 823) hx hb dL_acts_801 (by decide) (fun c_55 => ?_) (fun c_55 => absurd c_55 ((by decide : ¬ (4 : Int32) = 2)))
    refine lv_iload hx hb dL_acts_823 (lv_at hl 0 rfl) ?_
    refine lv_iload hx hb dL_acts_825 (lv_at hl 15 rfl) ?_
    refine lv_icmp_ne (tgt := 834) hx hb dL_acts_827 (by decide) (fun c_56 => absurd ((by decide : (4 : Int32) = 4)) c_56) (fun c_56 => ?_)
    refine lv_iconst (v := 1) hx hb dL_acts_830 (by decide) ?_
    refine lv_goto (tgt := 835) hx hb dL_acts_831 (by decide) ?_
    refine lv_istore (lv' := [(16, .int 1), (15, .int 4), (14, .int (nI n8)), (13, .int (nI j663)), (12, .int (nI j651)), (11, .int (nI j640)), (10, .int (nI (j626 / 2))), (0, .ref (ad 0)), (1, .ref (ad2 0)), (2, .ref qa), (3, .ref qm), (4, .ref qb), (5, .int zx), (6, .int zy), (7, .int (nI j4)), (8, .int (nI i)), (9, .int 4)]) hx hb dL_acts_835 hl (by decide) rfl (fun ls hl => ?_)
    refine lv_iload hx hb dL_acts_837 (lv_at hl 0 rfl) ?_
    refine lv_if_eq (tgt := 876) hx hb dL_acts_839 (by decide) (fun c_57 => absurd c_57 ((by decide : ¬ (1 : Int32) = 0))) (fun c_57 => ?_)
    refine lv_aload_n hx hb dL_acts_842 rfl (lv_at hl 8 rfl) ?_
    refine lv_iload hx hb dL_acts_843 (lv_at hl 15 rfl) ?_
    refine lv_iload hx hb dL_acts_845 (lv_at hl 6 rfl) ?_
    refine lv_iload hx hb dL_acts_847 (lv_at hl 5 rfl) ?_
    refine lv_iload hx hb dL_acts_849 (lv_at hl 4 rfl) ?_
    refine lv_iload hx hb dL_acts_851 (lv_at hl 3 rfl) ?_
    refine lMi (fun q ⟨j9, h1, h2⟩ => by rw [h2]; exact hz2 j9 h1) (vx_runSW (As := [.ref (ad2 0), .int (nI i), .int (nI (j626 / 2)), .int (nI j640), .int (nI j651), .int (nI j663)]) (rest := []) ⟨hx, hb, hml, hown, hts⟩ (c_L_report l hst D cy ad2 hj2 σ sz (nI i) (nI (j626 / 2)) (nI j640) (nI j651) (nI j663) (4) ((w12_0 (kP_0 hi (by omega) (by omega) (by omega) (by omega))).trans ((rP_1 hi).trans at9)) (gReport σ (nI i) (nI (j626 / 2)) (nI j640) (nI j651) (nI j663)) (if_pos (kP_0 hi (by omega) (by omega) (by omega) (by omega)))) (vx_cwSW 6 hts gL_acts_L_report rfl rfl rfl (by decide +kernel) ⟨Nat.le_of_ble_eq_true rfl, Nat.le_of_ble_eq_true rfl⟩) ⟨cx_bl, cx_S hP.left.right hK Az_z hxk hS⟩ rfl rfl hl.1 rfl (lv_room (Nat.le_of_ble_eq_true rfl)) dL_acts_853 ⟨by show _ ≤ 60; omega, by show _ ≤ 360; omega⟩) hS (fun H locs hPW hS hk1 => ?_)
    have hP := setT hne hTt hP hPW hk1
    refine W.eq (g2 := F0 m 856 ls [.int 4]) rfl ?_
    refine lv_iload hx hb dL_acts_856 (lv_at hl 1 rfl) ?_
    refine lv_icmp_ne (tgt := 876) hx hb dL_acts_858 (by decide) (fun c_58 => absurd ((by decide : (4 : Int32) = 4)) c_58) (fun c_58 => ?_)
    refine lv_iload hx hb dL_acts_861 (lv_at hl 1 rfl) ?_
    refine lv_aload_n hx hb dL_acts_863 rfl (lv_at hl 7 rfl) ?_
    refine lv_iload hx hb dL_acts_864 (lv_at hl 15 rfl) ?_
    refine rMi (vx_runSW (As := [.ref (ad 0), .int (nI i)]) (rest := [.int 4]) ⟨hx, hb, hml, hown, hts⟩ (c_L_stateOf l hst D cy ad (gReport σ (nI i) (nI (j626 / 2)) (nI j640) (nI j651) (nI j663)) sz (nI i) (4) ((wS hi).trans at9)) (vx_cwSW 2 hts gL_acts_L_stateOf rfl rfl rfl (by decide +kernel) ⟨Nat.le_of_ble_eq_true rfl, Nat.le_of_ble_eq_true rfl⟩) ⟨cx_bl, cx_S hP.left.left hK Az_z hxk hS⟩ rfl rfl hl.1 rfl (lv_room (Nat.le_of_ble_eq_true rfl)) dL_acts_866 ⟨by show _ ≤ 60; omega, by show _ ≤ 360; omega⟩) hS (fun H locs hS hg => ?_)
    have hP := hP.grown hg
    refine W.eq (g2 := F0 m 869 ls [.int 4, .int 4]) rfl ?_
    refine lv_icmp_ne (tgt := 876) hx hb dL_acts_869 (by decide) (fun c_59 => absurd ((by decide : (4 : Int32) = 4)) c_59) (fun c_59 => ?_)
    refine lv_iconst (v := 1) hx hb dL_acts_872 (by decide) ?_
    refine lv_goto (tgt := 877) hx hb dL_acts_873 (by decide) ?_
    refine W.widen (k := 60) (n := 360) (by omega) (by omega) ?_
    have hpo : OKs h (N + 70) (up4 fa i (nI (j626 / 2)) (nI j640) (nI j651) (nI j663)) fm fb (gReport σ (nI i) (nI (j626 / 2)) (nI j640) (nI j651) (nI j663)) := aO.le (by omega)
    exact W.zret (v := 1) hx hb hr rfl (fun t ht hW => ⟨⟨_, (), rfl, rfl, ⟨_, _, _, _, by rw [ht]; exact hP, hpo⟩⟩, hS.F ht⟩) hS.2.2 dL_acts_877
  · have xs : σ 1 i = 5 := x2
    rw [xs] at hl
    have hl : lv_has ls 17 [(13, .int (nI j663)), (12, .int (nI j651)), (11, .int (nI j640)), (10, .int (nI (j626 / 2))), (0, .ref (ad 0)), (1, .ref (ad2 0)), (2, .ref qa), (3, .ref qm), (4, .ref qb), (5, .int zx), (6, .int zy), (7, .int (nI j4)), (8, .int (nI i)), (9, .int 5)] := hl
    have at9 := (an (lit_ne (a := 5) (b := 0) x2 (by omega) (by omega) (by decide)) (lit_ne (a := 5) (b := 2) x2 (by omega) (by omega) (by decide)) (lit_ne (a := 5) (b := 3) x2 (by omega) (by omega) (by decide))).trans xs
    refine lv_aload_n hx hb dL_acts_706 rfl (lv_at hl 4 rfl) ?_
    refine lv_iload hx hb dL_acts_707 (lv_at hl 12 rfl) ?_
    refine rMi (vx_runSW (As := [.ref (ad 0), .int (nI i)]) (rest := []) ⟨hx, hb, hml, hown, hts⟩ (c_L_failuresOf l hst D cy ad σ sz (nI i) (nI n8) ((wF hi).trans x5)) (vx_cwSW 2 hts gL_acts_L_failuresOf rfl rfl rfl (by decide +kernel) ⟨Nat.le_of_ble_eq_true rfl, Nat.le_of_ble_eq_true rfl⟩) ⟨cx_bl, cx_S hP.left.left hK Az_z hxk hS⟩ rfl rfl hl.1 rfl (lv_room (Nat.le_of_ble_eq_true rfl)) dL_acts_709 ⟨by show _ ≤ 60; omega, by show _ ≤ 360; omega⟩) hS (fun H locs hS hg => ?_)
    have hP := hP.grown hg
    refine W.eq (g2 := F0 m 712 ls [.int (nI n8)]) rfl ?_
    refine lv_istore (lv' := [(14, .int (nI n8)), (13, .int (nI j663)), (12, .int (nI j651)), (11, .int (nI j640)), (10, .int (nI (j626 / 2))), (0, .ref (ad 0)), (1, .ref (ad2 0)), (2, .ref qa), (3, .ref qm), (4, .ref qb), (5, .int zx), (6, .int zy), (7, .int (nI j4)), (8, .int (nI i)), (9, .int 5)]) hx hb dL_acts_712 hl (by decide) rfl (fun ls hl => ?_)
    refine lv_aload_n hx hb dL_acts_714 rfl (lv_at hl 5 rfl) ?_
    refine lv_iload hx hb dL_acts_715 (lv_at hl 13 rfl) ?_
    refine lv_iload hx hb dL_acts_717 (lv_at hl 4 rfl) ?_
    refine lv_iload hx hb dL_acts_719 (lv_at hl 3 rfl) ?_
    refine lv_iload hx hb dL_acts_721 (lv_at hl 2 rfl) ?_
    refine lv_iload hx hb dL_acts_723 (lv_at hl 1 rfl) ?_
    obtain ⟨hTo, hTt⟩ := noT_D hD
    refine lMi (fun q ⟨j9, h1, h2⟩ => by rw [h2]; exact hz j9 h1) (vx_runSW (As := [.ref (ad 0), .int (nI i), .int (nI (j626 / 2)), .int (nI j640), .int (nI j651), .int (nI j663)]) (rest := []) ⟨hx, hb, hml, hown, hts⟩ (c_L_report l hst D cy ad hj σ sz (nI i) (nI (j626 / 2)) (nI j640) (nI j651) (nI j663) (5) ((w12_0 (kP_0 hi (by omega) (by omega) (by omega) (by omega))).trans ((rP_1 hi).trans at9)) (gReport σ (nI i) (nI (j626 / 2)) (nI j640) (nI j651) (nI j663)) (if_pos (kP_0 hi (by omega) (by omega) (by omega) (by omega)))) (vx_cwSW 6 hts gL_acts_L_report rfl rfl rfl (by decide +kernel) ⟨Nat.le_of_ble_eq_true rfl, Nat.le_of_ble_eq_true rfl⟩) ⟨cx_bl, cx_S hP.left.left hK Az_z hxk hS⟩ rfl rfl hl.1 rfl (lv_room (Nat.le_of_ble_eq_true rfl)) dL_acts_725 ⟨by show _ ≤ 60; omega, by show _ ≤ 360; omega⟩) hS (fun H locs hPW hS hk1 => ?_)
    have hP := setO hne hTo hP hPW hk1
    refine W.eq (g2 := F0 m 728 ls [.int 5]) rfl ?_
    refine lv_istore (lv' := [(15, .int 5), (14, .int (nI n8)), (13, .int (nI j663)), (12, .int (nI j651)), (11, .int (nI j640)), (10, .int (nI (j626 / 2))), (0, .ref (ad 0)), (1, .ref (ad2 0)), (2, .ref qa), (3, .ref qm), (4, .ref qb), (5, .int zx), (6, .int zy), (7, .int (nI j4)), (8, .int (nI i)), (9, .int 5)]) hx hb dL_acts_728 hl (by decide) rfl (fun ls hl => ?_)
    refine lv_iload hx hb dL_acts_730 (lv_at hl 15 rfl) ?_
    refine lv_if_ne (tgt := 749) hx hb dL_acts_732 (by decide) (fun c_60 => ?_) (fun c_60 => absurd c_60 ((by decide : ¬ (5 : Int32) = 0)))
    refine lv_iload hx hb dL_acts_749 (lv_at hl 15 rfl) ?_
    refine lv_iconst (v := 3) hx hb dL_acts_751 (by decide) ?_
    refine lv_icmp_ne (tgt := 798) hx hb dL_acts_752 (by decide) (fun c_61 => ?_) (fun c_61 => absurd c_61 ((by decide : ¬ (5 : Int32) = 3)))
    refine lv_iload hx hb dL_acts_798 (lv_at hl 15 rfl) ?_
    refine lv_iconst (v := 2) hx hb dL_acts_800 (by decide) ?_
    refine lv_icmp_ne (tgt := 823) hx hb dL_acts_801 (by decide) (fun c_62 => ?_) (fun c_62 => absurd c_62 ((by decide : ¬ (5 : Int32) = 2)))
    refine lv_iload hx hb dL_acts_823 (lv_at hl 0 rfl) ?_
    refine lv_iload hx hb dL_acts_825 (lv_at hl 15 rfl) ?_
    refine lv_icmp_ne (tgt := 834) hx hb dL_acts_827 (by decide) (fun c_63 => absurd ((by decide : (5 : Int32) = 5)) c_63) (fun c_63 => ?_)
    refine lv_iconst (v := 1) hx hb dL_acts_830 (by decide) ?_
    refine lv_goto (tgt := 835) hx hb dL_acts_831 (by decide) ?_
    refine lv_istore (lv' := [(16, .int 1), (15, .int 5), (14, .int (nI n8)), (13, .int (nI j663)), (12, .int (nI j651)), (11, .int (nI j640)), (10, .int (nI (j626 / 2))), (0, .ref (ad 0)), (1, .ref (ad2 0)), (2, .ref qa), (3, .ref qm), (4, .ref qb), (5, .int zx), (6, .int zy), (7, .int (nI j4)), (8, .int (nI i)), (9, .int 5)]) hx hb dL_acts_835 hl (by decide) rfl (fun ls hl => ?_)
    refine lv_iload hx hb dL_acts_837 (lv_at hl 0 rfl) ?_
    refine lv_if_eq (tgt := 876) hx hb dL_acts_839 (by decide) (fun c_64 => absurd c_64 ((by decide : ¬ (1 : Int32) = 0))) (fun c_64 => ?_)
    refine lv_aload_n hx hb dL_acts_842 rfl (lv_at hl 8 rfl) ?_
    refine lv_iload hx hb dL_acts_843 (lv_at hl 15 rfl) ?_
    refine lv_iload hx hb dL_acts_845 (lv_at hl 6 rfl) ?_
    refine lv_iload hx hb dL_acts_847 (lv_at hl 5 rfl) ?_
    refine lv_iload hx hb dL_acts_849 (lv_at hl 4 rfl) ?_
    refine lv_iload hx hb dL_acts_851 (lv_at hl 3 rfl) ?_
    refine lMi (fun q ⟨j9, h1, h2⟩ => by rw [h2]; exact hz2 j9 h1) (vx_runSW (As := [.ref (ad2 0), .int (nI i), .int (nI (j626 / 2)), .int (nI j640), .int (nI j651), .int (nI j663)]) (rest := []) ⟨hx, hb, hml, hown, hts⟩ (c_L_report l hst D cy ad2 hj2 σ sz (nI i) (nI (j626 / 2)) (nI j640) (nI j651) (nI j663) (5) ((w12_0 (kP_0 hi (by omega) (by omega) (by omega) (by omega))).trans ((rP_1 hi).trans at9)) (gReport σ (nI i) (nI (j626 / 2)) (nI j640) (nI j651) (nI j663)) (if_pos (kP_0 hi (by omega) (by omega) (by omega) (by omega)))) (vx_cwSW 6 hts gL_acts_L_report rfl rfl rfl (by decide +kernel) ⟨Nat.le_of_ble_eq_true rfl, Nat.le_of_ble_eq_true rfl⟩) ⟨cx_bl, cx_S hP.left.right hK Az_z hxk hS⟩ rfl rfl hl.1 rfl (lv_room (Nat.le_of_ble_eq_true rfl)) dL_acts_853 ⟨by show _ ≤ 60; omega, by show _ ≤ 360; omega⟩) hS (fun H locs hPW hS hk1 => ?_)
    have hP := setT hne hTt hP hPW hk1
    refine W.eq (g2 := F0 m 856 ls [.int 5]) rfl ?_
    refine lv_iload hx hb dL_acts_856 (lv_at hl 1 rfl) ?_
    refine lv_icmp_ne (tgt := 876) hx hb dL_acts_858 (by decide) (fun c_65 => absurd ((by decide : (5 : Int32) = 5)) c_65) (fun c_65 => ?_)
    refine lv_iload hx hb dL_acts_861 (lv_at hl 1 rfl) ?_
    refine lv_aload_n hx hb dL_acts_863 rfl (lv_at hl 7 rfl) ?_
    refine lv_iload hx hb dL_acts_864 (lv_at hl 15 rfl) ?_
    refine rMi (vx_runSW (As := [.ref (ad 0), .int (nI i)]) (rest := [.int 5]) ⟨hx, hb, hml, hown, hts⟩ (c_L_stateOf l hst D cy ad (gReport σ (nI i) (nI (j626 / 2)) (nI j640) (nI j651) (nI j663)) sz (nI i) (5) ((wS hi).trans at9)) (vx_cwSW 2 hts gL_acts_L_stateOf rfl rfl rfl (by decide +kernel) ⟨Nat.le_of_ble_eq_true rfl, Nat.le_of_ble_eq_true rfl⟩) ⟨cx_bl, cx_S hP.left.left hK Az_z hxk hS⟩ rfl rfl hl.1 rfl (lv_room (Nat.le_of_ble_eq_true rfl)) dL_acts_866 ⟨by show _ ≤ 60; omega, by show _ ≤ 360; omega⟩) hS (fun H locs hS hg => ?_)
    have hP := hP.grown hg
    refine W.eq (g2 := F0 m 869 ls [.int 5, .int 5]) rfl ?_
    refine lv_icmp_ne (tgt := 876) hx hb dL_acts_869 (by decide) (fun c_66 => absurd ((by decide : (5 : Int32) = 5)) c_66) (fun c_66 => ?_)
    refine lv_iconst (v := 1) hx hb dL_acts_872 (by decide) ?_
    refine lv_goto (tgt := 877) hx hb dL_acts_873 (by decide) ?_
    refine W.widen (k := 60) (n := 360) (by omega) (by omega) ?_
    have hpo : OKs h (N + 70) (up4 fa i (nI (j626 / 2)) (nI j640) (nI j651) (nI j663)) fm fb (gReport σ (nI i) (nI (j626 / 2)) (nI j640) (nI j651) (nI j663)) := aO.le (by omega)
    exact W.zret (v := 1) hx hb hr rfl (fun t ht hW => ⟨⟨_, (), rfl, rfl, ⟨_, _, _, _, by rw [ht]; exact hP, hpo⟩⟩, hS.F ht⟩) hS.2.2 dL_acts_877
  · have xs : σ 1 i = 6 := x2
    rw [xs] at hl
    have hl : lv_has ls 17 [(13, .int (nI j663)), (12, .int (nI j651)), (11, .int (nI j640)), (10, .int (nI (j626 / 2))), (0, .ref (ad 0)), (1, .ref (ad2 0)), (2, .ref qa), (3, .ref qm), (4, .ref qb), (5, .int zx), (6, .int zy), (7, .int (nI j4)), (8, .int (nI i)), (9, .int 6)] := hl
    have at9 := (an (lit_ne (a := 6) (b := 0) x2 (by omega) (by omega) (by decide)) (lit_ne (a := 6) (b := 2) x2 (by omega) (by omega) (by decide)) (lit_ne (a := 6) (b := 3) x2 (by omega) (by omega) (by decide))).trans xs
    refine lv_aload_n hx hb dL_acts_706 rfl (lv_at hl 4 rfl) ?_
    refine lv_iload hx hb dL_acts_707 (lv_at hl 12 rfl) ?_
    refine rMi (vx_runSW (As := [.ref (ad 0), .int (nI i)]) (rest := []) ⟨hx, hb, hml, hown, hts⟩ (c_L_failuresOf l hst D cy ad σ sz (nI i) (nI n8) ((wF hi).trans x5)) (vx_cwSW 2 hts gL_acts_L_failuresOf rfl rfl rfl (by decide +kernel) ⟨Nat.le_of_ble_eq_true rfl, Nat.le_of_ble_eq_true rfl⟩) ⟨cx_bl, cx_S hP.left.left hK Az_z hxk hS⟩ rfl rfl hl.1 rfl (lv_room (Nat.le_of_ble_eq_true rfl)) dL_acts_709 ⟨by show _ ≤ 60; omega, by show _ ≤ 360; omega⟩) hS (fun H locs hS hg => ?_)
    have hP := hP.grown hg
    refine W.eq (g2 := F0 m 712 ls [.int (nI n8)]) rfl ?_
    refine lv_istore (lv' := [(14, .int (nI n8)), (13, .int (nI j663)), (12, .int (nI j651)), (11, .int (nI j640)), (10, .int (nI (j626 / 2))), (0, .ref (ad 0)), (1, .ref (ad2 0)), (2, .ref qa), (3, .ref qm), (4, .ref qb), (5, .int zx), (6, .int zy), (7, .int (nI j4)), (8, .int (nI i)), (9, .int 6)]) hx hb dL_acts_712 hl (by decide) rfl (fun ls hl => ?_)
    refine lv_aload_n hx hb dL_acts_714 rfl (lv_at hl 5 rfl) ?_
    refine lv_iload hx hb dL_acts_715 (lv_at hl 13 rfl) ?_
    refine lv_iload hx hb dL_acts_717 (lv_at hl 4 rfl) ?_
    refine lv_iload hx hb dL_acts_719 (lv_at hl 3 rfl) ?_
    refine lv_iload hx hb dL_acts_721 (lv_at hl 2 rfl) ?_
    refine lv_iload hx hb dL_acts_723 (lv_at hl 1 rfl) ?_
    obtain ⟨hTo, hTt⟩ := noT_D hD
    refine lMi (fun q ⟨j9, h1, h2⟩ => by rw [h2]; exact hz j9 h1) (vx_runSW (As := [.ref (ad 0), .int (nI i), .int (nI (j626 / 2)), .int (nI j640), .int (nI j651), .int (nI j663)]) (rest := []) ⟨hx, hb, hml, hown, hts⟩ (c_L_report l hst D cy ad hj σ sz (nI i) (nI (j626 / 2)) (nI j640) (nI j651) (nI j663) (6) ((w12_0 (kP_0 hi (by omega) (by omega) (by omega) (by omega))).trans ((rP_1 hi).trans at9)) (gReport σ (nI i) (nI (j626 / 2)) (nI j640) (nI j651) (nI j663)) (if_pos (kP_0 hi (by omega) (by omega) (by omega) (by omega)))) (vx_cwSW 6 hts gL_acts_L_report rfl rfl rfl (by decide +kernel) ⟨Nat.le_of_ble_eq_true rfl, Nat.le_of_ble_eq_true rfl⟩) ⟨cx_bl, cx_S hP.left.left hK Az_z hxk hS⟩ rfl rfl hl.1 rfl (lv_room (Nat.le_of_ble_eq_true rfl)) dL_acts_725 ⟨by show _ ≤ 60; omega, by show _ ≤ 360; omega⟩) hS (fun H locs hPW hS hk1 => ?_)
    have hP := setO hne hTo hP hPW hk1
    refine W.eq (g2 := F0 m 728 ls [.int 6]) rfl ?_
    refine lv_istore (lv' := [(15, .int 6), (14, .int (nI n8)), (13, .int (nI j663)), (12, .int (nI j651)), (11, .int (nI j640)), (10, .int (nI (j626 / 2))), (0, .ref (ad 0)), (1, .ref (ad2 0)), (2, .ref qa), (3, .ref qm), (4, .ref qb), (5, .int zx), (6, .int zy), (7, .int (nI j4)), (8, .int (nI i)), (9, .int 6)]) hx hb dL_acts_728 hl (by decide) rfl (fun ls hl => ?_)
    refine lv_iload hx hb dL_acts_730 (lv_at hl 15 rfl) ?_
    refine lv_if_ne (tgt := 749) hx hb dL_acts_732 (by decide) (fun c_67 => ?_) (fun c_67 => absurd c_67 ((by decide : ¬ (6 : Int32) = 0)))
    refine lv_iload hx hb dL_acts_749 (lv_at hl 15 rfl) ?_
    refine lv_iconst (v := 3) hx hb dL_acts_751 (by decide) ?_
    refine lv_icmp_ne (tgt := 798) hx hb dL_acts_752 (by decide) (fun c_68 => ?_) (fun c_68 => absurd c_68 ((by decide : ¬ (6 : Int32) = 3)))
    refine lv_iload hx hb dL_acts_798 (lv_at hl 15 rfl) ?_
    refine lv_iconst (v := 2) hx hb dL_acts_800 (by decide) ?_
    refine lv_icmp_ne (tgt := 823) hx hb dL_acts_801 (by decide) (fun c_69 => ?_) (fun c_69 => absurd c_69 ((by decide : ¬ (6 : Int32) = 2)))
    refine lv_iload hx hb dL_acts_823 (lv_at hl 0 rfl) ?_
    refine lv_iload hx hb dL_acts_825 (lv_at hl 15 rfl) ?_
    refine lv_icmp_ne (tgt := 834) hx hb dL_acts_827 (by decide) (fun c_70 => absurd ((by decide : (6 : Int32) = 6)) c_70) (fun c_70 => ?_)
    refine lv_iconst (v := 1) hx hb dL_acts_830 (by decide) ?_
    refine lv_goto (tgt := 835) hx hb dL_acts_831 (by decide) ?_
    refine lv_istore (lv' := [(16, .int 1), (15, .int 6), (14, .int (nI n8)), (13, .int (nI j663)), (12, .int (nI j651)), (11, .int (nI j640)), (10, .int (nI (j626 / 2))), (0, .ref (ad 0)), (1, .ref (ad2 0)), (2, .ref qa), (3, .ref qm), (4, .ref qb), (5, .int zx), (6, .int zy), (7, .int (nI j4)), (8, .int (nI i)), (9, .int 6)]) hx hb dL_acts_835 hl (by decide) rfl (fun ls hl => ?_)
    refine lv_iload hx hb dL_acts_837 (lv_at hl 0 rfl) ?_
    refine lv_if_eq (tgt := 876) hx hb dL_acts_839 (by decide) (fun c_71 => absurd c_71 ((by decide : ¬ (1 : Int32) = 0))) (fun c_71 => ?_)
    refine lv_aload_n hx hb dL_acts_842 rfl (lv_at hl 8 rfl) ?_
    refine lv_iload hx hb dL_acts_843 (lv_at hl 15 rfl) ?_
    refine lv_iload hx hb dL_acts_845 (lv_at hl 6 rfl) ?_
    refine lv_iload hx hb dL_acts_847 (lv_at hl 5 rfl) ?_
    refine lv_iload hx hb dL_acts_849 (lv_at hl 4 rfl) ?_
    refine lv_iload hx hb dL_acts_851 (lv_at hl 3 rfl) ?_
    refine lMi (fun q ⟨j9, h1, h2⟩ => by rw [h2]; exact hz2 j9 h1) (vx_runSW (As := [.ref (ad2 0), .int (nI i), .int (nI (j626 / 2)), .int (nI j640), .int (nI j651), .int (nI j663)]) (rest := []) ⟨hx, hb, hml, hown, hts⟩ (c_L_report l hst D cy ad2 hj2 σ sz (nI i) (nI (j626 / 2)) (nI j640) (nI j651) (nI j663) (6) ((w12_0 (kP_0 hi (by omega) (by omega) (by omega) (by omega))).trans ((rP_1 hi).trans at9)) (gReport σ (nI i) (nI (j626 / 2)) (nI j640) (nI j651) (nI j663)) (if_pos (kP_0 hi (by omega) (by omega) (by omega) (by omega)))) (vx_cwSW 6 hts gL_acts_L_report rfl rfl rfl (by decide +kernel) ⟨Nat.le_of_ble_eq_true rfl, Nat.le_of_ble_eq_true rfl⟩) ⟨cx_bl, cx_S hP.left.right hK Az_z hxk hS⟩ rfl rfl hl.1 rfl (lv_room (Nat.le_of_ble_eq_true rfl)) dL_acts_853 ⟨by show _ ≤ 60; omega, by show _ ≤ 360; omega⟩) hS (fun H locs hPW hS hk1 => ?_)
    have hP := setT hne hTt hP hPW hk1
    refine W.eq (g2 := F0 m 856 ls [.int 6]) rfl ?_
    refine lv_iload hx hb dL_acts_856 (lv_at hl 1 rfl) ?_
    refine lv_icmp_ne (tgt := 876) hx hb dL_acts_858 (by decide) (fun c_72 => absurd ((by decide : (6 : Int32) = 6)) c_72) (fun c_72 => ?_)
    refine lv_iload hx hb dL_acts_861 (lv_at hl 1 rfl) ?_
    refine lv_aload_n hx hb dL_acts_863 rfl (lv_at hl 7 rfl) ?_
    refine lv_iload hx hb dL_acts_864 (lv_at hl 15 rfl) ?_
    refine rMi (vx_runSW (As := [.ref (ad 0), .int (nI i)]) (rest := [.int 6]) ⟨hx, hb, hml, hown, hts⟩ (c_L_stateOf l hst D cy ad (gReport σ (nI i) (nI (j626 / 2)) (nI j640) (nI j651) (nI j663)) sz (nI i) (6) ((wS hi).trans at9)) (vx_cwSW 2 hts gL_acts_L_stateOf rfl rfl rfl (by decide +kernel) ⟨Nat.le_of_ble_eq_true rfl, Nat.le_of_ble_eq_true rfl⟩) ⟨cx_bl, cx_S hP.left.left hK Az_z hxk hS⟩ rfl rfl hl.1 rfl (lv_room (Nat.le_of_ble_eq_true rfl)) dL_acts_866 ⟨by show _ ≤ 60; omega, by show _ ≤ 360; omega⟩) hS (fun H locs hS hg => ?_)
    have hP := hP.grown hg
    refine W.eq (g2 := F0 m 869 ls [.int 6, .int 6]) rfl ?_
    refine lv_icmp_ne (tgt := 876) hx hb dL_acts_869 (by decide) (fun c_73 => absurd ((by decide : (6 : Int32) = 6)) c_73) (fun c_73 => ?_)
    refine lv_iconst (v := 1) hx hb dL_acts_872 (by decide) ?_
    refine lv_goto (tgt := 877) hx hb dL_acts_873 (by decide) ?_
    refine W.widen (k := 60) (n := 360) (by omega) (by omega) ?_
    have hpo : OKs h (N + 70) (up4 fa i (nI (j626 / 2)) (nI j640) (nI j651) (nI j663)) fm fb (gReport σ (nI i) (nI (j626 / 2)) (nI j640) (nI j651) (nI j663)) := aO.le (by omega)
    exact W.zret (v := 1) hx hb hr rfl (fun t ht hW => ⟨⟨_, (), rfl, rfl, ⟨_, _, _, _, by rw [ht]; exact hP, hpo⟩⟩, hS.F ht⟩) hS.2.2 dL_acts_877
  · have xs : σ 1 i = 7 := x2
    rw [xs] at hl
    have hl : lv_has ls 17 [(13, .int (nI j663)), (12, .int (nI j651)), (11, .int (nI j640)), (10, .int (nI (j626 / 2))), (0, .ref (ad 0)), (1, .ref (ad2 0)), (2, .ref qa), (3, .ref qm), (4, .ref qb), (5, .int zx), (6, .int zy), (7, .int (nI j4)), (8, .int (nI i)), (9, .int 7)] := hl
    have at9 := (an (lit_ne (a := 7) (b := 0) x2 (by omega) (by omega) (by decide)) (lit_ne (a := 7) (b := 2) x2 (by omega) (by omega) (by decide)) (lit_ne (a := 7) (b := 3) x2 (by omega) (by omega) (by decide))).trans xs
    refine lv_aload_n hx hb dL_acts_706 rfl (lv_at hl 4 rfl) ?_
    refine lv_iload hx hb dL_acts_707 (lv_at hl 12 rfl) ?_
    refine rMi (vx_runSW (As := [.ref (ad 0), .int (nI i)]) (rest := []) ⟨hx, hb, hml, hown, hts⟩ (c_L_failuresOf l hst D cy ad σ sz (nI i) (nI n8) ((wF hi).trans x5)) (vx_cwSW 2 hts gL_acts_L_failuresOf rfl rfl rfl (by decide +kernel) ⟨Nat.le_of_ble_eq_true rfl, Nat.le_of_ble_eq_true rfl⟩) ⟨cx_bl, cx_S hP.left.left hK Az_z hxk hS⟩ rfl rfl hl.1 rfl (lv_room (Nat.le_of_ble_eq_true rfl)) dL_acts_709 ⟨by show _ ≤ 60; omega, by show _ ≤ 360; omega⟩) hS (fun H locs hS hg => ?_)
    have hP := hP.grown hg
    refine W.eq (g2 := F0 m 712 ls [.int (nI n8)]) rfl ?_
    refine lv_istore (lv' := [(14, .int (nI n8)), (13, .int (nI j663)), (12, .int (nI j651)), (11, .int (nI j640)), (10, .int (nI (j626 / 2))), (0, .ref (ad 0)), (1, .ref (ad2 0)), (2, .ref qa), (3, .ref qm), (4, .ref qb), (5, .int zx), (6, .int zy), (7, .int (nI j4)), (8, .int (nI i)), (9, .int 7)]) hx hb dL_acts_712 hl (by decide) rfl (fun ls hl => ?_)
    refine lv_aload_n hx hb dL_acts_714 rfl (lv_at hl 5 rfl) ?_
    refine lv_iload hx hb dL_acts_715 (lv_at hl 13 rfl) ?_
    refine lv_iload hx hb dL_acts_717 (lv_at hl 4 rfl) ?_
    refine lv_iload hx hb dL_acts_719 (lv_at hl 3 rfl) ?_
    refine lv_iload hx hb dL_acts_721 (lv_at hl 2 rfl) ?_
    refine lv_iload hx hb dL_acts_723 (lv_at hl 1 rfl) ?_
    obtain ⟨hTo, hTt⟩ := noT_D hD
    refine lMi (fun q ⟨j9, h1, h2⟩ => by rw [h2]; exact hz j9 h1) (vx_runSW (As := [.ref (ad 0), .int (nI i), .int (nI (j626 / 2)), .int (nI j640), .int (nI j651), .int (nI j663)]) (rest := []) ⟨hx, hb, hml, hown, hts⟩ (c_L_report l hst D cy ad hj σ sz (nI i) (nI (j626 / 2)) (nI j640) (nI j651) (nI j663) (7) ((w12_0 (kP_0 hi (by omega) (by omega) (by omega) (by omega))).trans ((rP_1 hi).trans at9)) (gReport σ (nI i) (nI (j626 / 2)) (nI j640) (nI j651) (nI j663)) (if_pos (kP_0 hi (by omega) (by omega) (by omega) (by omega)))) (vx_cwSW 6 hts gL_acts_L_report rfl rfl rfl (by decide +kernel) ⟨Nat.le_of_ble_eq_true rfl, Nat.le_of_ble_eq_true rfl⟩) ⟨cx_bl, cx_S hP.left.left hK Az_z hxk hS⟩ rfl rfl hl.1 rfl (lv_room (Nat.le_of_ble_eq_true rfl)) dL_acts_725 ⟨by show _ ≤ 60; omega, by show _ ≤ 360; omega⟩) hS (fun H locs hPW hS hk1 => ?_)
    have hP := setO hne hTo hP hPW hk1
    refine W.eq (g2 := F0 m 728 ls [.int 7]) rfl ?_
    refine lv_istore (lv' := [(15, .int 7), (14, .int (nI n8)), (13, .int (nI j663)), (12, .int (nI j651)), (11, .int (nI j640)), (10, .int (nI (j626 / 2))), (0, .ref (ad 0)), (1, .ref (ad2 0)), (2, .ref qa), (3, .ref qm), (4, .ref qb), (5, .int zx), (6, .int zy), (7, .int (nI j4)), (8, .int (nI i)), (9, .int 7)]) hx hb dL_acts_728 hl (by decide) rfl (fun ls hl => ?_)
    refine lv_iload hx hb dL_acts_730 (lv_at hl 15 rfl) ?_
    refine lv_if_ne (tgt := 749) hx hb dL_acts_732 (by decide) (fun c_74 => ?_) (fun c_74 => absurd c_74 ((by decide : ¬ (7 : Int32) = 0)))
    refine lv_iload hx hb dL_acts_749 (lv_at hl 15 rfl) ?_
    refine lv_iconst (v := 3) hx hb dL_acts_751 (by decide) ?_
    refine lv_icmp_ne (tgt := 798) hx hb dL_acts_752 (by decide) (fun c_75 => ?_) (fun c_75 => absurd c_75 ((by decide : ¬ (7 : Int32) = 3)))
    refine lv_iload hx hb dL_acts_798 (lv_at hl 15 rfl) ?_
    refine lv_iconst (v := 2) hx hb dL_acts_800 (by decide) ?_
    refine lv_icmp_ne (tgt := 823) hx hb dL_acts_801 (by decide) (fun c_76 => ?_) (fun c_76 => absurd c_76 ((by decide : ¬ (7 : Int32) = 2)))
    refine lv_iload hx hb dL_acts_823 (lv_at hl 0 rfl) ?_
    refine lv_iload hx hb dL_acts_825 (lv_at hl 15 rfl) ?_
    refine lv_icmp_ne (tgt := 834) hx hb dL_acts_827 (by decide) (fun c_77 => absurd ((by decide : (7 : Int32) = 7)) c_77) (fun c_77 => ?_)
    refine lv_iconst (v := 1) hx hb dL_acts_830 (by decide) ?_
    refine lv_goto (tgt := 835) hx hb dL_acts_831 (by decide) ?_
    refine lv_istore (lv' := [(16, .int 1), (15, .int 7), (14, .int (nI n8)), (13, .int (nI j663)), (12, .int (nI j651)), (11, .int (nI j640)), (10, .int (nI (j626 / 2))), (0, .ref (ad 0)), (1, .ref (ad2 0)), (2, .ref qa), (3, .ref qm), (4, .ref qb), (5, .int zx), (6, .int zy), (7, .int (nI j4)), (8, .int (nI i)), (9, .int 7)]) hx hb dL_acts_835 hl (by decide) rfl (fun ls hl => ?_)
    refine lv_iload hx hb dL_acts_837 (lv_at hl 0 rfl) ?_
    refine lv_if_eq (tgt := 876) hx hb dL_acts_839 (by decide) (fun c_78 => absurd c_78 ((by decide : ¬ (1 : Int32) = 0))) (fun c_78 => ?_)
    refine lv_aload_n hx hb dL_acts_842 rfl (lv_at hl 8 rfl) ?_
    refine lv_iload hx hb dL_acts_843 (lv_at hl 15 rfl) ?_
    refine lv_iload hx hb dL_acts_845 (lv_at hl 6 rfl) ?_
    refine lv_iload hx hb dL_acts_847 (lv_at hl 5 rfl) ?_
    refine lv_iload hx hb dL_acts_849 (lv_at hl 4 rfl) ?_
    refine lv_iload hx hb dL_acts_851 (lv_at hl 3 rfl) ?_
    refine lMi (fun q ⟨j9, h1, h2⟩ => by rw [h2]; exact hz2 j9 h1) (vx_runSW (As := [.ref (ad2 0), .int (nI i), .int (nI (j626 / 2)), .int (nI j640), .int (nI j651), .int (nI j663)]) (rest := []) ⟨hx, hb, hml, hown, hts⟩ (c_L_report l hst D cy ad2 hj2 σ sz (nI i) (nI (j626 / 2)) (nI j640) (nI j651) (nI j663) (7) ((w12_0 (kP_0 hi (by omega) (by omega) (by omega) (by omega))).trans ((rP_1 hi).trans at9)) (gReport σ (nI i) (nI (j626 / 2)) (nI j640) (nI j651) (nI j663)) (if_pos (kP_0 hi (by omega) (by omega) (by omega) (by omega)))) (vx_cwSW 6 hts gL_acts_L_report rfl rfl rfl (by decide +kernel) ⟨Nat.le_of_ble_eq_true rfl, Nat.le_of_ble_eq_true rfl⟩) ⟨cx_bl, cx_S hP.left.right hK Az_z hxk hS⟩ rfl rfl hl.1 rfl (lv_room (Nat.le_of_ble_eq_true rfl)) dL_acts_853 ⟨by show _ ≤ 60; omega, by show _ ≤ 360; omega⟩) hS (fun H locs hPW hS hk1 => ?_)
    have hP := setT hne hTt hP hPW hk1
    refine W.eq (g2 := F0 m 856 ls [.int 7]) rfl ?_
    refine lv_iload hx hb dL_acts_856 (lv_at hl 1 rfl) ?_
    refine lv_icmp_ne (tgt := 876) hx hb dL_acts_858 (by decide) (fun c_79 => absurd ((by decide : (7 : Int32) = 7)) c_79) (fun c_79 => ?_)
    refine lv_iload hx hb dL_acts_861 (lv_at hl 1 rfl) ?_
    refine lv_aload_n hx hb dL_acts_863 rfl (lv_at hl 7 rfl) ?_
    refine lv_iload hx hb dL_acts_864 (lv_at hl 15 rfl) ?_
    refine rMi (vx_runSW (As := [.ref (ad 0), .int (nI i)]) (rest := [.int 7]) ⟨hx, hb, hml, hown, hts⟩ (c_L_stateOf l hst D cy ad (gReport σ (nI i) (nI (j626 / 2)) (nI j640) (nI j651) (nI j663)) sz (nI i) (7) ((wS hi).trans at9)) (vx_cwSW 2 hts gL_acts_L_stateOf rfl rfl rfl (by decide +kernel) ⟨Nat.le_of_ble_eq_true rfl, Nat.le_of_ble_eq_true rfl⟩) ⟨cx_bl, cx_S hP.left.left hK Az_z hxk hS⟩ rfl rfl hl.1 rfl (lv_room (Nat.le_of_ble_eq_true rfl)) dL_acts_866 ⟨by show _ ≤ 60; omega, by show _ ≤ 360; omega⟩) hS (fun H locs hS hg => ?_)
    have hP := hP.grown hg
    refine W.eq (g2 := F0 m 869 ls [.int 7, .int 7]) rfl ?_
    refine lv_icmp_ne (tgt := 876) hx hb dL_acts_869 (by decide) (fun c_80 => absurd ((by decide : (7 : Int32) = 7)) c_80) (fun c_80 => ?_)
    refine lv_iconst (v := 1) hx hb dL_acts_872 (by decide) ?_
    refine lv_goto (tgt := 877) hx hb dL_acts_873 (by decide) ?_
    refine W.widen (k := 60) (n := 360) (by omega) (by omega) ?_
    have hpo : OKs h (N + 70) (up4 fa i (nI (j626 / 2)) (nI j640) (nI j651) (nI j663)) fm fb (gReport σ (nI i) (nI (j626 / 2)) (nI j640) (nI j651) (nI j663)) := aO.le (by omega)
    exact W.zret (v := 1) hx hb hr rfl (fun t ht hW => ⟨⟨_, (), rfl, rfl, ⟨_, _, _, _, by rw [ht]; exact hP, hpo⟩⟩, hS.F ht⟩) hS.2.2 dL_acts_877
