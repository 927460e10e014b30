set_option maxHeartbeats 2000000 in
set_option maxRecDepth 100000 in
theorem ab_finish {p : Program} {l : Launch} {e : Env} {s : State} {m : MethodId} {args : Array Value} {below : List Frame} {meth : Method} {c : Code} {D : va_G} {cy : Nat → ClassId} {ad ad2 : Nat → Nat} {σ : Mem} {sz qa qm qb : Nat} {fa fm fb : Nat → Int32} {h N i : Nat} {zx zy : Int32} {j4 : Nat} {H : Heap} {locs : List Loc} {cells slots : Nat} {ls : Array Slot} (hst : l.stackTraces = false) (hj : inj31 ad) (hj2 : inj31 ad2) (hne : apart ad ad2) (hz : ∀ i, i < 31 → sz ≤ ad i) (hz2 : ∀ i, i < 31 → sz ≤ ad2 i) (C : ACtx p s m args meth c D cy sz) (hN9 : N + 30000 < 2000000000) (hO : OKs h N fa fm fb σ) (hi : i < 16) (hP : va_P D vwCl (X2 cy ad ad2 σ σ ++ [aW cy qa 64 fa, aW cy qm 48 fm, aW cy qb 6 fb]) H) (hD : va_D (Az sz) (X2 cy ad ad2 σ σ ++ [aW cy qa 64 fa, aW cy qm 48 fm, aW cy qb 6 fb])) (hS : va_S (Az sz) s.heap H locs) (hz9 : sz ≤ s.heap.size) (hc9 : cells ≤ 1) (hs9 : slots ≤ 6) (hl : lv_has ls 17 [(0, .ref (ad 0)), (1, .ref (ad2 0)), (2, .ref qa), (3, .ref qm), (4, .ref qb), (5, .int zx), (6, .int zy), (7, .int (nI j4)), (8, .int (nI i)), (9, .int (σ 1 i))]) : W p l e (headSpec wsL_acts ({ frames := 10, cells := 60, slots := 360, locals := 172 })).room s m args below meth c H locs cells slots (MQ below (QI 1 (fun H => ∃ (σ' : Mem) (fa' fm' fb' : Nat → Int32), va_P D vwCl (X2 cy ad ad2 σ' σ' ++ [aW cy qa 64 fa', aW cy qm 48 fm', aW cy qb 6 fb']) H ∧ OKs h (N + 70) fa' fm' fb' σ') (Az sz)) args s 60 360 (Az sz)) (F0 m 1054 ls []) := by
  obtain ⟨hx, hb, hr, hts, hown, hlocks, hml, hK, hxk⟩ := C
  refine W.widen (k := 1) (n := 6) hc9 hs9 ?_
  have hA : ∀ q : Nat, s.heap.size ≤ q → Az sz q := fun q hq => Nat.le_trans hz9 hq
  refine lv_iload hx hb dL_acts_1054 (lv_at hl 6 rfl) ?_
  refine lv_iconst (v := 4) hx hb dL_acts_1056 (by decide) ?_
  refine lv_ishr hx hb dL_acts_1057 ?_
  refine lv_iconst (v := 3) hx hb dL_acts_1058 (by decide) ?_
  refine cS (W.runS (As := [.int (zy >>> (4 &&& 31)), .int 3]) (rest := []) ⟨hx, hb, hml, hown, hts⟩ (c_L_low l (zy >>> (4 &&& 31)) 3 (by decide) (by decide)) (va_cwS 2 hts gL_acts_L_low rfl rfl rfl (by decide +kernel) ⟨Nat.le_of_ble_eq_true rfl, Nat.le_of_ble_eq_true rfl⟩) ⟨fun a U g mk h => h, fun U _ _ => ⟨rfl, trivial⟩⟩ rfl rfl hl.1 rfl (lv_room (Nat.le_of_ble_eq_true rfl)) dL_acts_1059 ⟨by show _ ≤ 60; omega, by show _ ≤ 360; omega⟩) (fun j1059 hj1059 => ?_)
  refine W.eq (g2 := F0 m 1062 ls [.int (nI j1059)]) rfl ?_
  refine lv_if_le (tgt := 1069) hx hb dL_acts_1062 (by decide) (fun c_1 => ?_) (fun c_1 => ?_)
  · have d_1 := Int32.not_lt.mpr c_1
    refine lv_iconst (v := 0) hx hb dL_acts_1069 (by decide) ?_
    have hI := hO.1
    obtain ⟨s8, r8, n8, x1, x2, x3, x4, x5, x6, x7, x8, x9, x10, x11⟩ := hI.2.1 i hi
    obtain ⟨q8, q1, q2, q3⟩ := hI.2.2.1.2.1
    rcases (show s8 = 0 ∨ s8 = 1 ∨ s8 = 2 ∨ s8 = 3 ∨ s8 = 4 ∨ s8 = 5 ∨ s8 = 6 ∨ s8 = 7 by omega) with rfl | rfl | rfl | rfl | rfl | rfl | rfl | rfl
    · have xs : σ 1 i = 0 := x2
      rw [xs] at hl
      have hl : lv_has ls 17 [(0, .ref (ad 0)), (1, .ref (ad2 0)), (2, .ref qa), (3, .ref qm), (4, .ref qb), (5, .int zx), (6, .int zy), (7, .int (nI j4)), (8, .int (nI i)), (9, .int 0)] := hl
      refine lv_istore (lv' := [(10, .int 0), (0, .ref (ad 0)), (1, .ref (ad2 0)), (2, .ref qa), (3, .ref qm), (4, .ref qb), (5, .int zx), (6, .int zy), (7, .int (nI j4)), (8, .int (nI i)), (9, .int 0)]) hx hb dL_acts_1070 hl (by decide) rfl (fun ls hl => ?_)
      refine lv_aload_n hx hb dL_acts_1072 rfl (lv_at hl 1 rfl) ?_
      refine lv_iload hx hb dL_acts_1073 (lv_at hl 9 rfl) ?_
      refine rMi (vx_runSW (As := [.ref (ad 0), .int (nI i)]) (rest := []) ⟨hx, hb, hml, hown, hts⟩ (c_L_failuresOf l hst D cy ad σ sz (nI i) (nI n8) ((wF hi).trans x5)) (vx_cwSW 2 hts gL_acts_L_failuresOf rfl rfl rfl (by decide +kernel) ⟨Nat.le_of_ble_eq_true rfl, Nat.le_of_ble_eq_true rfl⟩) ⟨cx_bl, cx_S hP.left.left hK Az_z hxk hS⟩ rfl rfl hl.1 rfl (lv_room (Nat.le_of_ble_eq_true rfl)) dL_acts_1075 ⟨by show _ ≤ 60; omega, by show _ ≤ 360; omega⟩) hS (fun H locs hS hg => ?_)
      have hP := hP.grown hg
      refine W.eq (g2 := F0 m 1078 ls [.int (nI n8)]) rfl ?_
      refine lv_istore (lv' := [(11, .int (nI n8)), (10, .int 0), (0, .ref (ad 0)), (1, .ref (ad2 0)), (2, .ref qa), (3, .ref qm), (4, .ref qb), (5, .int zx), (6, .int zy), (7, .int (nI j4)), (8, .int (nI i)), (9, .int 0)]) hx hb dL_acts_1078 hl (by decide) rfl (fun ls hl => ?_)
      refine lv_iload hx hb dL_acts_1080 (lv_at hl 11 rfl) ?_
      refine lv_iconst (v := 3) hx hb dL_acts_1082 (by decide) ?_
      refine lv_icmp_eq (tgt := 1091) hx hb dL_acts_1083 (by decide) (fun c_2 => absurd c_2 ((by decide : ¬ (0 : Int32) = 3))) (fun c_2 => ?_)
      refine lv_ldc (v := (-1000003)) hx hb hown (hts (.constant RL 47 (-1000003)) (by decide +kernel)) dL_acts_1086 ?_
      refine lv_goto (tgt := 1117) hx hb dL_acts_1088 (by decide) ?_
      refine lv_istore (lv' := [(12, .int (-1000003)), (11, .int (nI n8)), (10, .int 0), (0, .ref (ad 0)), (1, .ref (ad2 0)), (2, .ref qa), (3, .ref qm), (4, .ref qb), (5, .int zx), (6, .int zy), (7, .int (nI j4)), (8, .int (nI i)), (9, .int 0)]) hx hb dL_acts_1117 hl (by decide) rfl (fun ls hl => ?_)
      refine lv_aload_n hx hb dL_acts_1119 rfl (lv_at hl 3 rfl) ?_
      refine lv_iload hx hb dL_acts_1120 (lv_at hl 11 rfl) ?_
      refine lv_iload hx hb dL_acts_1122 (lv_at hl 2 rfl) ?_
      obtain ⟨hTo, hTt⟩ := noT_D hD
      refine lMi (fun q ⟨j9, h1, h2⟩ => by rw [h2]; exact hz j9 h1) (vx_runSW (As := [.ref (ad 0), .int (nI i), .int 0]) (rest := []) ⟨hx, hb, hml, hown, hts⟩ (c_L_finish l hst D cy ad hj σ sz (nI i) false ((-1000003)) (by rw [(kF_2 hi (lit_ne (a := 0) (b := 3) x2 (by omega) (by omega) (by decide)))]; exact w13_2 _) σ (if_neg (by rw [(kF_2 hi (lit_ne (a := 0) (b := 3) x2 (by omega) (by omega) (by decide)))]; decide))) (vx_cwSW 3 hts gL_acts_L_finish rfl rfl rfl (by decide +kernel) ⟨Nat.le_of_ble_eq_true rfl, Nat.le_of_ble_eq_true rfl⟩) ⟨cx_bl, cx_S hP.left.left hK Az_z hxk hS⟩ rfl rfl hl.1 rfl (lv_room (Nat.le_of_ble_eq_true rfl)) dL_acts_1124 ⟨by show _ ≤ 60; omega, by show _ ≤ 360; omega⟩) hS (fun H locs hPW hS hk1 => ?_)
      have hP := setO hne hTo hP hPW hk1
      refine W.eq (g2 := F0 m 1127 ls [.int (-1000003)]) rfl ?_
      refine lv_iload hx hb dL_acts_1127 (lv_at hl 0 rfl) ?_
      refine lv_icmp_ne (tgt := 1182) hx hb dL_acts_1129 (by decide) (fun c_3 => absurd ((by decide : (-1000003 : Int32) = -1000003)) c_3) (fun c_3 => ?_)
      refine lv_aload_n hx hb dL_acts_1132 rfl (lv_at hl 4 rfl) ?_
      refine lv_iload hx hb dL_acts_1133 (lv_at hl 11 rfl) ?_
      refine lv_iload hx hb dL_acts_1135 (lv_at hl 2 rfl) ?_
      refine lMi (fun q ⟨j9, h1, h2⟩ => by rw [h2]; exact hz2 j9 h1) (vx_runSW (As := [.ref (ad2 0), .int (nI i), .int 0]) (rest := []) ⟨hx, hb, hml, hown, hts⟩ (c_L_finish l hst D cy ad2 hj2 σ sz (nI i) false ((-1000003)) (by rw [(kF_2 hi (lit_ne (a := 0) (b := 3) x2 (by omega) (by omega) (by decide)))]; exact w13_2 _) σ (if_neg (by rw [(kF_2 hi (lit_ne (a := 0) (b := 3) x2 (by omega) (by omega) (by decide)))]; decide))) (vx_cwSW 3 hts gL_acts_L_finish rfl rfl rfl (by decide +kernel) ⟨Nat.le_of_ble_eq_true rfl, Nat.le_of_ble_eq_true rfl⟩) ⟨cx_bl, cx_S hP.left.right hK Az_z hxk hS⟩ rfl rfl hl.1 rfl (lv_room (Nat.le_of_ble_eq_true rfl)) dL_acts_1137 ⟨by show _ ≤ 60; omega, by show _ ≤ 360; omega⟩) hS (fun H locs hPW hS hk1 => ?_)
      have hP := setT hne hTt hP hPW hk1
      refine W.eq (g2 := F0 m 1140 ls [.int (-1000003)]) rfl ?_
      refine lv_iload hx hb dL_acts_1140 (lv_at hl 0 rfl) ?_
      refine lv_icmp_ne (tgt := 1182) hx hb dL_acts_1142 (by decide) (fun c_4 => absurd ((by decide : (-1000003 : Int32) = -1000003)) c_4) (fun c_4 => ?_)
      refine lv_aload_n hx hb dL_acts_1145 rfl (lv_at hl 3 rfl) ?_
      refine lv_iload hx hb dL_acts_1146 (lv_at hl 11 rfl) ?_
      refine rMi (vx_runSW (As := [.ref (ad 0), .int (nI i)]) (rest := []) ⟨hx, hb, hml, hown, hts⟩ (c_L_failuresOf l hst D cy ad σ sz (nI i) (nI n8) ((wF hi).trans x5)) (vx_cwSW 2 hts gL_acts_L_failuresOf rfl rfl rfl (by decide +kernel) ⟨Nat.le_of_ble_eq_true rfl, Nat.le_of_ble_eq_true rfl⟩) ⟨cx_bl, cx_S hP.left.left hK Az_z hxk hS⟩ rfl rfl hl.1 rfl (lv_room (Nat.le_of_ble_eq_true rfl)) dL_acts_1148 ⟨by show _ ≤ 60; omega, by show _ ≤ 360; omega⟩) hS (fun H locs hS hg => ?_)
      have hP := hP.grown hg
      refine W.eq (g2 := F0 m 1151 ls [.int (nI n8)]) rfl ?_
      refine lv_iload hx hb dL_acts_1151 (lv_at hl 12 rfl) ?_
      refine lv_iconst (v := 3) hx hb dL_acts_1153 (by decide) ?_
      refine lv_icmp_eq (tgt := 1162) hx hb dL_acts_1154 (by decide) (fun c_5 => absurd c_5 ((by decide : ¬ (0 : Int32) = 3))) (fun c_5 => ?_)
      refine lv_iload hx hb dL_acts_1157 (lv_at hl 1 rfl) ?_
      refine lv_goto (tgt := 1175) hx hb dL_acts_1159 (by decide) ?_
      refine lv_icmp_ne (tgt := 1182) hx hb dL_acts_1175 (by decide) (fun c_6 => absurd (rfl) c_6) (fun c_6 => ?_)
      refine lv_iconst (v := 1) hx hb dL_acts_1178 (by decide) ?_
      refine lv_goto (tgt := 1183) hx hb dL_acts_1179 (by decide) ?_
      refine W.widen (k := 60) (n := 360) (by omega) (by omega) ?_
      have hpo : OKs h (N + 70) fa fm fb σ := hO.le (by omega)
      exact W.zret (v := 1) hx hb hr rfl (fun t ht hW => ⟨⟨_, (), rfl, rfl, ⟨_, _, _, _, by rw [ht]; exact hP, hpo⟩⟩, hS.F ht⟩) hS.2.2 dL_acts_1183
    · have xs : σ 1 i = 1 := x2
      rw [xs] at hl
      have hl : lv_has ls 17 [(0, .ref (ad 0)), (1, .ref (ad2 0)), (2, .ref qa), (3, .ref qm), (4, .ref qb), (5, .int zx), (6, .int zy), (7, .int (nI j4)), (8, .int (nI i)), (9, .int 1)] := hl
      refine lv_istore (lv' := [(10, .int 0), (0, .ref (ad 0)), (1, .ref (ad2 0)), (2, .ref qa), (3, .ref qm), (4, .ref qb), (5, .int zx), (6, .int zy), (7, .int (nI j4)), (8, .int (nI i)), (9, .int 1)]) hx hb dL_acts_1070 hl (by decide) rfl (fun ls hl => ?_)
      refine lv_aload_n hx hb dL_acts_1072 rfl (lv_at hl 1 rfl) ?_
      refine lv_iload hx hb dL_acts_1073 (lv_at hl 9 rfl) ?_
      refine rMi (vx_runSW (As := [.ref (ad 0), .int (nI i)]) (rest := []) ⟨hx, hb, hml, hown, hts⟩ (c_L_failuresOf l hst D cy ad σ sz (nI i) (nI n8) ((wF hi).trans x5)) (vx_cwSW 2 hts gL_acts_L_failuresOf rfl rfl rfl (by decide +kernel) ⟨Nat.le_of_ble_eq_true rfl, Nat.le_of_ble_eq_true rfl⟩) ⟨cx_bl, cx_S hP.left.left hK Az_z hxk hS⟩ rfl rfl hl.1 rfl (lv_room (Nat.le_of_ble_eq_true rfl)) dL_acts_1075 ⟨by show _ ≤ 60; omega, by show _ ≤ 360; omega⟩) hS (fun H locs hS hg => ?_)
      have hP := hP.grown hg
      refine W.eq (g2 := F0 m 1078 ls [.int (nI n8)]) rfl ?_
      refine lv_istore (lv' := [(11, .int (nI n8)), (10, .int 0), (0, .ref (ad 0)), (1, .ref (ad2 0)), (2, .ref qa), (3, .ref qm), (4, .ref qb), (5, .int zx), (6, .int zy), (7, .int (nI j4)), (8, .int (nI i)), (9, .int 1)]) hx hb dL_acts_1078 hl (by decide) rfl (fun ls hl => ?_)
      refine lv_iload hx hb dL_acts_1080 (lv_at hl 11 rfl) ?_
      refine lv_iconst (v := 3) hx hb dL_acts_1082 (by decide) ?_
      refine lv_icmp_eq (tgt := 1091) hx hb dL_acts_1083 (by decide) (fun c_7 => absurd c_7 ((by decide : ¬ (1 : Int32) = 3))) (fun c_7 => ?_)
      refine lv_ldc (v := (-1000003)) hx hb hown (hts (.constant RL 47 (-1000003)) (by decide +kernel)) dL_acts_1086 ?_
      refine lv_goto (tgt := 1117) hx hb dL_acts_1088 (by decide) ?_
      refine lv_istore (lv' := [(12, .int (-1000003)), (11, .int (nI n8)), (10, .int 0), (0, .ref (ad 0)), (1, .ref (ad2 0)), (2, .ref qa), (3, .ref qm), (4, .ref qb), (5, .int zx), (6, .int zy), (7, .int (nI j4)), (8, .int (nI i)), (9, .int 1)]) hx hb dL_acts_1117 hl (by decide) rfl (fun ls hl => ?_)
      refine lv_aload_n hx hb dL_acts_1119 rfl (lv_at hl 3 rfl) ?_
      refine lv_iload hx hb dL_acts_1120 (lv_at hl 11 rfl) ?_
      refine lv_iload hx hb dL_acts_1122 (lv_at hl 2 rfl) ?_
      obtain ⟨hTo, hTt⟩ := noT_D hD
      refine lMi (fun q ⟨j9, h1, h2⟩ => by rw [h2]; exact hz j9 h1) (vx_runSW (As := [.ref (ad 0), .int (nI i), .int 0]) (rest := []) ⟨hx, hb, hml, hown, hts⟩ (c_L_finish l hst D cy ad hj σ sz (nI i) false ((-1000003)) (by rw [(kF_2 hi (lit_ne (a := 1) (b := 3) x2 (by omega) (by omega) (by decide)))]; exact w13_2 _) σ (if_neg (by rw [(kF_2 hi (lit_ne (a := 1) (b := 3) x2 (by omega) (by omega) (by decide)))]; decide))) (vx_cwSW 3 hts gL_acts_L_finish rfl rfl rfl (by decide +kernel) ⟨Nat.le_of_ble_eq_true rfl, Nat.le_of_ble_eq_true rfl⟩) ⟨cx_bl, cx_S hP.left.left hK Az_z hxk hS⟩ rfl rfl hl.1 rfl (lv_room (Nat.le_of_ble_eq_true rfl)) dL_acts_1124 ⟨by show _ ≤ 60; omega, by show _ ≤ 360; omega⟩) hS (fun H locs hPW hS hk1 => ?_)
      have hP := setO hne hTo hP hPW hk1
      refine W.eq (g2 := F0 m 1127 ls [.int (-1000003)]) rfl ?_
      refine lv_iload hx hb dL_acts_1127 (lv_at hl 0 rfl) ?_
      refine lv_icmp_ne (tgt := 1182) hx hb dL_acts_1129 (by decide) (fun c_8 => absurd ((by decide : (-1000003 : Int32) = -1000003)) c_8) (fun c_8 => ?_)
      refine lv_aload_n hx hb dL_acts_1132 rfl (lv_at hl 4 rfl) ?_
      refine lv_iload hx hb dL_acts_1133 (lv_at hl 11 rfl) ?_
      refine lv_iload hx hb dL_acts_1135 (lv_at hl 2 rfl) ?_
      refine lMi (fun q ⟨j9, h1, h2⟩ => by rw [h2]; exact hz2 j9 h1) (vx_runSW (As := [.ref (ad2 0), .int (nI i), .int 0]) (rest := []) ⟨hx, hb, hml, hown, hts⟩ (c_L_finish l hst D cy ad2 hj2 σ sz (nI i) false ((-1000003)) (by rw [(kF_2 hi (lit_ne (a := 1) (b := 3) x2 (by omega) (by omega) (by decide)))]; exact w13_2 _) σ (if_neg (by rw [(kF_2 hi (lit_ne (a := 1) (b := 3) x2 (by omega) (by omega) (by decide)))]; decide))) (vx_cwSW 3 hts gL_acts_L_finish rfl rfl rfl (by decide +kernel) ⟨Nat.le_of_ble_eq_true rfl, Nat.le_of_ble_eq_true rfl⟩) ⟨cx_bl, cx_S hP.left.right hK Az_z hxk hS⟩ rfl rfl hl.1 rfl (lv_room (Nat.le_of_ble_eq_true rfl)) dL_acts_1137 ⟨by show _ ≤ 60; omega, by show _ ≤ 360; omega⟩) hS (fun H locs hPW hS hk1 => ?_)
      have hP := setT hne hTt hP hPW hk1
      refine W.eq (g2 := F0 m 1140 ls [.int (-1000003)]) rfl ?_
      refine lv_iload hx hb dL_acts_1140 (lv_at hl 0 rfl) ?_
      refine lv_icmp_ne (tgt := 1182) hx hb dL_acts_1142 (by decide) (fun c_9 => absurd ((by decide : (-1000003 : Int32) = -1000003)) c_9) (fun c_9 => ?_)
      refine lv_aload_n hx hb dL_acts_1145 rfl (lv_at hl 3 rfl) ?_
      refine lv_iload hx hb dL_acts_1146 (lv_at hl 11 rfl) ?_
      refine rMi (vx_runSW (As := [.ref (ad 0), .int (nI i)]) (rest := []) ⟨hx, hb, hml, hown, hts⟩ (c_L_failuresOf l hst D cy ad σ sz (nI i) (nI n8) ((wF hi).trans x5)) (vx_cwSW 2 hts gL_acts_L_failuresOf rfl rfl rfl (by decide +kernel) ⟨Nat.le_of_ble_eq_true rfl, Nat.le_of_ble_eq_true rfl⟩) ⟨cx_bl, cx_S hP.left.left hK Az_z hxk hS⟩ rfl rfl hl.1 rfl (lv_room (Nat.le_of_ble_eq_true rfl)) dL_acts_1148 ⟨by show _ ≤ 60; omega, by show _ ≤ 360; omega⟩) hS (fun H locs hS hg => ?_)
      have hP := hP.grown hg
      refine W.eq (g2 := F0 m 1151 ls [.int (nI n8)]) rfl ?_
      refine lv_iload hx hb dL_acts_1151 (lv_at hl 12 rfl) ?_
      refine lv_iconst (v := 3) hx hb dL_acts_1153 (by decide) ?_
      refine lv_icmp_eq (tgt := 1162) hx hb dL_acts_1154 (by decide) (fun c_10 => absurd c_10 ((by decide : ¬ (1 : Int32) = 3))) (fun c_10 => ?_)
      refine lv_iload hx hb dL_acts_1157 (lv_at hl 1 rfl) ?_
      refine lv_goto (tgt := 1175) hx hb dL_acts_1159 (by decide) ?_
      refine lv_icmp_ne (tgt := 1182) hx hb dL_acts_1175 (by decide) (fun c_11 => absurd (rfl) c_11) (fun c_11 => ?_)
      refine lv_iconst (v := 1) hx hb dL_acts_1178 (by decide) ?_
      refine lv_goto (tgt := 1183) hx hb dL_acts_1179 (by decide) ?_
      refine W.widen (k := 60) (n := 360) (by omega) (by omega) ?_
      have hpo : OKs h (N + 70) fa fm fb σ := hO.le (by omega)
      exact W.zret (v := 1) hx hb hr rfl (fun t ht hW => ⟨⟨_, (), rfl, rfl, ⟨_, _, _, _, by rw [ht]; exact hP, hpo⟩⟩, hS.F ht⟩) hS.2.2 dL_acts_1183
    · have xs : σ 1 i = 2 := x2
      rw [xs] at hl
      have hl : lv_has ls 17 [(0, .ref (ad 0)), (1, .ref (ad2 0)), (2, .ref qa), (3, .ref qm), (4, .ref qb), (5, .int zx), (6, .int zy), (7, .int (nI j4)), (8, .int (nI i)), (9, .int 2)] := hl
      refine lv_istore (lv' := [(10, .int 0), (0, .ref (ad 0)), (1, .ref (ad2 0)), (2, .ref qa), (3, .ref qm), (4, .ref qb), (5, .int zx), (6, .int zy), (7, .int (nI j4)), (8, .int (nI i)), (9, .int 2)]) hx hb dL_acts_1070 hl (by decide) rfl (fun ls hl => ?_)
      refine lv_aload_n hx hb dL_acts_1072 rfl (lv_at hl 1 rfl) ?_
      refine lv_iload hx hb dL_acts_1073 (lv_at hl 9 rfl) ?_
      refine rMi (vx_runSW (As := [.ref (ad 0), .int (nI i)]) (rest := []) ⟨hx, hb, hml, hown, hts⟩ (c_L_failuresOf l hst D cy ad σ sz (nI i) (nI n8) ((wF hi).trans x5)) (vx_cwSW 2 hts gL_acts_L_failuresOf rfl rfl rfl (by decide +kernel) ⟨Nat.le_of_ble_eq_true rfl, Nat.le_of_ble_eq_true rfl⟩) ⟨cx_bl, cx_S hP.left.left hK Az_z hxk hS⟩ rfl rfl hl.1 rfl (lv_room (Nat.le_of_ble_eq_true rfl)) dL_acts_1075 ⟨by show _ ≤ 60; omega, by show _ ≤ 360; omega⟩) hS (fun H locs hS hg => ?_)
      have hP := hP.grown hg
      refine W.eq (g2 := F0 m 1078 ls [.int (nI n8)]) rfl ?_
      refine lv_istore (lv' := [(11, .int (nI n8)), (10, .int 0), (0, .ref (ad 0)), (1, .ref (ad2 0)), (2, .ref qa), (3, .ref qm), (4, .ref qb), (5, .int zx), (6, .int zy), (7, .int (nI j4)), (8, .int (nI i)), (9, .int 2)]) hx hb dL_acts_1078 hl (by decide) rfl (fun ls hl => ?_)
      refine lv_iload hx hb dL_acts_1080 (lv_at hl 11 rfl) ?_
      refine lv_iconst (v := 3) hx hb dL_acts_1082 (by decide) ?_
      refine lv_icmp_eq (tgt := 1091) hx hb dL_acts_1083 (by decide) (fun c_12 => absurd c_12 ((by decide : ¬ (2 : Int32) = 3))) (fun c_12 => ?_)
      refine lv_ldc (v := (-1000003)) hx hb hown (hts (.constant RL 47 (-1000003)) (by decide +kernel)) dL_acts_1086 ?_
      refine lv_goto (tgt := 1117) hx hb dL_acts_1088 (by decide) ?_
      refine lv_istore (lv' := [(12, .int (-1000003)), (11, .int (nI n8)), (10, .int 0), (0, .ref (ad 0)), (1, .ref (ad2 0)), (2, .ref qa), (3, .ref qm), (4, .ref qb), (5, .int zx), (6, .int zy), (7, .int (nI j4)), (8, .int (nI i)), (9, .int 2)]) hx hb dL_acts_1117 hl (by decide) rfl (fun ls hl => ?_)
      refine lv_aload_n hx hb dL_acts_1119 rfl (lv_at hl 3 rfl) ?_
      refine lv_iload hx hb dL_acts_1120 (lv_at hl 11 rfl) ?_
      refine lv_iload hx hb dL_acts_1122 (lv_at hl 2 rfl) ?_
      obtain ⟨hTo, hTt⟩ := noT_D hD
      refine lMi (fun q ⟨j9, h1, h2⟩ => by rw [h2]; exact hz j9 h1) (vx_runSW (As := [.ref (ad 0), .int (nI i), .int 0]) (rest := []) ⟨hx, hb, hml, hown, hts⟩ (c_L_finish l hst D cy ad hj σ sz (nI i) false ((-1000003)) (by rw [(kF_2 hi (lit_ne (a := 2) (b := 3) x2 (by omega) (by omega) (by decide)))]; exact w13_2 _) σ (if_neg (by rw [(kF_2 hi (lit_ne (a := 2) (b := 3) x2 (by omega) (by omega) (by decide)))]; decide))) (vx_cwSW 3 hts gL_acts_L_finish rfl rfl rfl (by decide +kernel) ⟨Nat.le_of_ble_eq_true rfl, Nat.le_of_ble_eq_true rfl⟩) ⟨cx_bl, cx_S hP.left.left hK Az_z hxk hS⟩ rfl rfl hl.1 rfl (lv_room (Nat.le_of_ble_eq_true rfl)) dL_acts_1124 ⟨by show _ ≤ 60; omega, by show _ ≤ 360; omega⟩) hS (fun H locs hPW hS hk1 => ?_)
      have hP := setO hne hTo hP hPW hk1
      refine W.eq (g2 := F0 m 1127 ls [.int (-1000003)]) rfl ?_
      refine lv_iload hx hb dL_acts_1127 (lv_at hl 0 rfl) ?_
      refine lv_icmp_ne (tgt := 1182) hx hb dL_acts_1129 (by decide) (fun c_13 => absurd ((by decide : (-1000003 : Int32) = -1000003)) c_13) (fun c_13 => ?_)
      refine lv_aload_n hx hb dL_acts_1132 rfl (lv_at hl 4 rfl) ?_
      refine lv_iload hx hb dL_acts_1133 (lv_at hl 11 rfl) ?_
      refine lv_iload hx hb dL_acts_1135 (lv_at hl 2 rfl) ?_
      refine lMi (fun q ⟨j9, h1, h2⟩ => by rw [h2]; exact hz2 j9 h1) (vx_runSW (As := [.ref (ad2 0), .int (nI i), .int 0]) (rest := []) ⟨hx, hb, hml, hown, hts⟩ (c_L_finish l hst D cy ad2 hj2 σ sz (nI i) false ((-1000003)) (by rw [(kF_2 hi (lit_ne (a := 2) (b := 3) x2 (by omega) (by omega) (by decide)))]; exact w13_2 _) σ (if_neg (by rw [(kF_2 hi (lit_ne (a := 2) (b := 3) x2 (by omega) (by omega) (by decide)))]; decide))) (vx_cwSW 3 hts gL_acts_L_finish rfl rfl rfl (by decide +kernel) ⟨Nat.le_of_ble_eq_true rfl, Nat.le_of_ble_eq_true rfl⟩) ⟨cx_bl, cx_S hP.left.right hK Az_z hxk hS⟩ rfl rfl hl.1 rfl (lv_room (Nat.le_of_ble_eq_true rfl)) dL_acts_1137 ⟨by show _ ≤ 60; omega, by show _ ≤ 360; omega⟩) hS (fun H locs hPW hS hk1 => ?_)
      have hP := setT hne hTt hP hPW hk1
      refine W.eq (g2 := F0 m 1140 ls [.int (-1000003)]) rfl ?_
      refine lv_iload hx hb dL_acts_1140 (lv_at hl 0 rfl) ?_
      refine lv_icmp_ne (tgt := 1182) hx hb dL_acts_1142 (by decide) (fun c_14 => absurd ((by decide : (-1000003 : Int32) = -1000003)) c_14) (fun c_14 => ?_)
      refine lv_aload_n hx hb dL_acts_1145 rfl (lv_at hl 3 rfl) ?_
      refine lv_iload hx hb dL_acts_1146 (lv_at hl 11 rfl) ?_
      refine rMi (vx_runSW (As := [.ref (ad 0), .int (nI i)]) (rest := []) ⟨hx, hb, hml, hown, hts⟩ (c_L_failuresOf l hst D cy ad σ sz (nI i) (nI n8) ((wF hi).trans x5)) (vx_cwSW 2 hts gL_acts_L_failuresOf rfl rfl rfl (by decide +kernel) ⟨Nat.le_of_ble_eq_true rfl, Nat.le_of_ble_eq_true rfl⟩) ⟨cx_bl, cx_S hP.left.left hK Az_z hxk hS⟩ rfl rfl hl.1 rfl (lv_room (Nat.le_of_ble_eq_true rfl)) dL_acts_1148 ⟨by show _ ≤ 60; omega, by show _ ≤ 360; omega⟩) hS (fun H locs hS hg => ?_)
      have hP := hP.grown hg
      refine W.eq (g2 := F0 m 1151 ls [.int (nI n8)]) rfl ?_
      refine lv_iload hx hb dL_acts_1151 (lv_at hl 12 rfl) ?_
      refine lv_iconst (v := 3) hx hb dL_acts_1153 (by decide) ?_
      refine lv_icmp_eq (tgt := 1162) hx hb dL_acts_1154 (by decide) (fun c_15 => absurd c_15 ((by decide : ¬ (2 : Int32) = 3))) (fun c_15 => ?_)
      refine lv_iload hx hb dL_acts_1157 (lv_at hl 1 rfl) ?_
      refine lv_goto (tgt := 1175) hx hb dL_acts_1159 (by decide) ?_
      refine lv_icmp_ne (tgt := 1182) hx hb dL_acts_1175 (by decide) (fun c_16 => absurd (rfl) c_16) (fun c_16 => ?_)
      refine lv_iconst (v := 1) hx hb dL_acts_1178 (by decide) ?_
      refine lv_goto (tgt := 1183) hx hb dL_acts_1179 (by decide) ?_
      refine W.widen (k := 60) (n := 360) (by omega) (by omega) ?_
      have hpo : OKs h (N + 70) fa fm fb σ := hO.le (by omega)
      exact W.zret (v := 1) hx hb hr rfl (fun t ht hW => ⟨⟨_, (), rfl, rfl, ⟨_, _, _, _, by rw [ht]; exact hP, hpo⟩⟩, hS.F ht⟩) hS.2.2 dL_acts_1183
    · have xs : σ 1 i = 3 := x2
      rw [xs] at hl
      have hl : lv_has ls 17 [(0, .ref (ad 0)), (1, .ref (ad2 0)), (2, .ref qa), (3, .ref qm), (4, .ref qb), (5, .int zx), (6, .int zy), (7, .int (nI j4)), (8, .int (nI i)), (9, .int 3)] := hl
      obtain ⟨aO, at8, af8⟩ := a_finBad hO (by omega) hi xs
      have af9 := af8.trans (by rw [x5, nI_1])
      by_cases hq : q8 ≤ n8 + 1
      · have at9 := at8.trans (if7 q3 x5 q2 x6 hq)
        refine lv_istore (lv' := [(10, .int 0), (0, .ref (ad 0)), (1, .ref (ad2 0)), (2, .ref qa), (3, .ref qm), (4, .ref qb), (5, .int zx), (6, .int zy), (7, .int (nI j4)), (8, .int (nI i)), (9, .int 3)]) hx hb dL_acts_1070 hl (by decide) rfl (fun ls hl => ?_)
        refine lv_aload_n hx hb dL_acts_1072 rfl (lv_at hl 1 rfl) ?_
        refine lv_iload hx hb dL_acts_1073 (lv_at hl 9 rfl) ?_
        refine rMi (vx_runSW (As := [.ref (ad 0), .int (nI i)]) (rest := []) ⟨hx, hb, hml, hown, hts⟩ (c_L_failuresOf l hst D cy ad σ sz (nI i) (nI n8) ((wF hi).trans x5)) (vx_cwSW 2 hts gL_acts_L_failuresOf rfl rfl rfl (by decide +kernel) ⟨Nat.le_of_ble_eq_true rfl, Nat.le_of_ble_eq_true rfl⟩) ⟨cx_bl, cx_S hP.left.left hK Az_z hxk hS⟩ rfl rfl hl.1 rfl (lv_room (Nat.le_of_ble_eq_true rfl)) dL_acts_1075 ⟨by show _ ≤ 60; omega, by show _ ≤ 360; omega⟩) hS (fun H locs hS hg => ?_)
        have hP := hP.grown hg
        refine W.eq (g2 := F0 m 1078 ls [.int (nI n8)]) rfl ?_
        refine lv_istore (lv' := [(11, .int (nI n8)), (10, .int 0), (0, .ref (ad 0)), (1, .ref (ad2 0)), (2, .ref qa), (3, .ref qm), (4, .ref qb), (5, .int zx), (6, .int zy), (7, .int (nI j4)), (8, .int (nI i)), (9, .int 3)]) hx hb dL_acts_1078 hl (by decide) rfl (fun ls hl => ?_)
        refine lv_iload hx hb dL_acts_1080 (lv_at hl 11 rfl) ?_
        refine lv_iconst (v := 3) hx hb dL_acts_1082 (by decide) ?_
        refine lv_icmp_eq (tgt := 1091) hx hb dL_acts_1083 (by decide) (fun c_17 => ?_) (fun c_17 => absurd ((by decide : (3 : Int32) = 3)) c_17)
        refine lv_iload hx hb dL_acts_1091 (lv_at hl 1 rfl) ?_
        refine lv_if_eq (tgt := 1100) hx hb dL_acts_1093 (by decide) (fun c_18 => ?_) (fun c_18 => absurd ((by decide : (0 : Int32) = 0)) c_18)
        refine lv_iload hx hb dL_acts_1100 (lv_at hl 0 rfl) ?_
        refine lv_iconst (v := 1) hx hb dL_acts_1102 (by decide) ?_
        refine lv_iadd hx hb dL_acts_1103 ?_
        refine W.eq (congrArg (fun z9 => F0 m 1104 ls [.int z9]) (nI_add n8 1)) ?_
        refine lv_aload hx hb dL_acts_1104 (lv_at hl 6 rfl) ?_
        refine lv_iconst (v := 5) hx hb dL_acts_1106 (by decide) ?_
        refine W.eq (g2 := F0 m 1107 ls [.int (nI 5), .ref qb, .int (nI (n8 + 1))]) rfl ?_
        refine raW (x := nI q8) hx hb hK (hP.right.one (k := 2) rfl) (show 5 < 6 by omega) (by decide) (hO.2.2.2.2.2.2.trans q3) dL_acts_1107 ?_
        refine lv_icmp_lt (tgt := 1116) hx hb dL_acts_1108 (by decide) (fun c_19 => absurd c_19 ((fun z9 => absurd ((nI_ltI (a := n8 + 1) (b := q8) (by omega) (by omega)).mp z9) (by omega)))) (fun c_19 => ?_)
        refine lv_bipush (v := 7) hx hb dL_acts_1111 (by decide) ?_
        refine lv_goto (tgt := 1117) hx hb dL_acts_1113 (by decide) ?_
        refine lv_istore (lv' := [(12, .int 7), (11, .int (nI n8)), (10, .int 0), (0, .ref (ad 0)), (1, .ref (ad2 0)), (2, .ref qa), (3, .ref qm), (4, .ref qb), (5, .int zx), (6, .int zy), (7, .int (nI j4)), (8, .int (nI i)), (9, .int 3)]) hx hb dL_acts_1117 hl (by decide) rfl (fun ls hl => ?_)
        refine lv_aload_n hx hb dL_acts_1119 rfl (lv_at hl 3 rfl) ?_
        refine lv_iload hx hb dL_acts_1120 (lv_at hl 11 rfl) ?_
        refine lv_iload hx hb dL_acts_1122 (lv_at hl 2 rfl) ?_
        obtain ⟨hTo, hTt⟩ := noT_D hD
        refine lMi (fun q ⟨j9, h1, h2⟩ => by rw [h2]; exact hz j9 h1) (vx_runSW (As := [.ref (ad 0), .int (nI i), .int 0]) (rest := []) ⟨hx, hb, hml, hown, hts⟩ (c_L_finish l hst D cy ad hj σ sz (nI i) false (7) ((w13_0 (kF_0 hi xs)).trans ((rF_1 hi).trans at9)) (gFinish σ (nI i) false) (if_pos (kF_0 hi xs))) (vx_cwSW 3 hts gL_acts_L_finish rfl rfl rfl (by decide +kernel) ⟨Nat.le_of_ble_eq_true rfl, Nat.le_of_ble_eq_true rfl⟩) ⟨cx_bl, cx_S hP.left.left hK Az_z hxk hS⟩ rfl rfl hl.1 rfl (lv_room (Nat.le_of_ble_eq_true rfl)) dL_acts_1124 ⟨by show _ ≤ 60; omega, by show _ ≤ 360; omega⟩) hS (fun H locs hPW hS hk1 => ?_)
        have hP := setO hne hTo hP hPW hk1
        refine W.eq (g2 := F0 m 1127 ls [.int 7]) rfl ?_
        refine lv_iload hx hb dL_acts_1127 (lv_at hl 0 rfl) ?_
        refine lv_icmp_ne (tgt := 1182) hx hb dL_acts_1129 (by decide) (fun c_20 => absurd ((by decide : (7 : Int32) = 7)) c_20) (fun c_20 => ?_)
        refine lv_aload_n hx hb dL_acts_1132 rfl (lv_at hl 4 rfl) ?_
        refine lv_iload hx hb dL_acts_1133 (lv_at hl 11 rfl) ?_
        refine lv_iload hx hb dL_acts_1135 (lv_at hl 2 rfl) ?_
        refine lMi (fun q ⟨j9, h1, h2⟩ => by rw [h2]; exact hz2 j9 h1) (vx_runSW (As := [.ref (ad2 0), .int (nI i), .int 0]) (rest := []) ⟨hx, hb, hml, hown, hts⟩ (c_L_finish l hst D cy ad2 hj2 σ sz (nI i) false (7) ((w13_0 (kF_0 hi xs)).trans ((rF_1 hi).trans at9)) (gFinish σ (nI i) false) (if_pos (kF_0 hi xs))) (vx_cwSW 3 hts gL_acts_L_finish rfl rfl rfl (by decide +kernel) ⟨Nat.le_of_ble_eq_true rfl, Nat.le_of_ble_eq_true rfl⟩) ⟨cx_bl, cx_S hP.left.right hK Az_z hxk hS⟩ rfl rfl hl.1 rfl (lv_room (Nat.le_of_ble_eq_true rfl)) dL_acts_1137 ⟨by show _ ≤ 60; omega, by show _ ≤ 360; omega⟩) hS (fun H locs hPW hS hk1 => ?_)
        have hP := setT hne hTt hP hPW hk1
        refine W.eq (g2 := F0 m 1140 ls [.int 7]) rfl ?_
        refine lv_iload hx hb dL_acts_1140 (lv_at hl 0 rfl) ?_
        refine lv_icmp_ne (tgt := 1182) hx hb dL_acts_1142 (by decide) (fun c_21 => absurd ((by decide : (7 : Int32) = 7)) c_21) (fun c_21 => ?_)
        refine lv_aload_n hx hb dL_acts_1145 rfl (lv_at hl 3 rfl) ?_
        refine lv_iload hx hb dL_acts_1146 (lv_at hl 11 rfl) ?_
        refine rMi (vx_runSW (As := [.ref (ad 0), .int (nI i)]) (rest := []) ⟨hx, hb, hml, hown, hts⟩ (c_L_failuresOf l hst D cy ad (gFinish σ (nI i) false) sz (nI i) (nI (n8 + 1)) ((wF hi).trans af9)) (vx_cwSW 2 hts gL_acts_L_failuresOf rfl rfl rfl (by decide +kernel) ⟨Nat.le_of_ble_eq_true rfl, Nat.le_of_ble_eq_true rfl⟩) ⟨cx_bl, cx_S hP.left.left hK Az_z hxk hS⟩ rfl rfl hl.1 rfl (lv_room (Nat.le_of_ble_eq_true rfl)) dL_acts_1148 ⟨by show _ ≤ 60; omega, by show _ ≤ 360; omega⟩) hS (fun H locs hS hg => ?_)
        have hP := hP.grown hg
        refine W.eq (g2 := F0 m 1151 ls [.int (nI (n8 + 1))]) rfl ?_
        refine lv_iload hx hb dL_acts_1151 (lv_at hl 12 rfl) ?_
        refine lv_iconst (v := 3) hx hb dL_acts_1153 (by decide) ?_
        refine lv_icmp_eq (tgt := 1162) hx hb dL_acts_1154 (by decide) (fun c_22 => ?_) (fun c_22 => absurd ((by decide : (3 : Int32) = 3)) c_22)
        refine lv_iload hx hb dL_acts_1162 (lv_at hl 2 rfl) ?_
        refine lv_if_eq (tgt := 1171) hx hb dL_acts_1164 (by decide) (fun c_23 => ?_) (fun c_23 => absurd ((by decide : (0 : Int32) = 0)) c_23)
        refine lv_iload hx hb dL_acts_1171 (lv_at hl 1 rfl) ?_
        refine lv_iconst (v := 1) hx hb dL_acts_1173 (by decide) ?_
        refine lv_iadd hx hb dL_acts_1174 ?_
        refine W.eq (congrArg (fun z9 => F0 m 1175 ls [.int z9, .int (nI (n8 + 1))]) (nI_add n8 1)) ?_
        refine lv_icmp_ne (tgt := 1182) hx hb dL_acts_1175 (by decide) (fun c_24 => absurd (rfl) c_24) (fun c_24 => ?_)
        refine lv_iconst (v := 1) hx hb dL_acts_1178 (by decide) ?_
        refine lv_goto (tgt := 1183) hx hb dL_acts_1179 (by decide) ?_
        refine W.widen (k := 60) (n := 360) (by omega) (by omega) ?_
        have hpo : OKs h (N + 70) fa fm fb (gFinish σ (nI i) false) := aO.le (by omega)
        exact W.zret (v := 1) hx hb hr rfl (fun t ht hW => ⟨⟨_, (), rfl, rfl, ⟨_, _, _, _, by rw [ht]; exact hP, hpo⟩⟩, hS.F ht⟩) hS.2.2 dL_acts_1183
      · have at9 := at8.trans (if4 q3 x5 q2 x6 hq)
        refine lv_istore (lv' := [(10, .int 0), (0, .ref (ad 0)), (1, .ref (ad2 0)), (2, .ref qa), (3, .ref qm), (4, .ref qb), (5, .int zx), (6, .int zy), (7, .int (nI j4)), (8, .int (nI i)), (9, .int 3)]) hx hb dL_acts_1070 hl (by decide) rfl (fun ls hl => ?_)
        refine lv_aload_n hx hb dL_acts_1072 rfl (lv_at hl 1 rfl) ?_
        refine lv_iload hx hb dL_acts_1073 (lv_at hl 9 rfl) ?_
        refine rMi (vx_runSW (As := [.ref (ad 0), .int (nI i)]) (rest := []) ⟨hx, hb, hml, hown, hts⟩ (c_L_failuresOf l hst D cy ad σ sz (nI i) (nI n8) ((wF hi).trans x5)) (vx_cwSW 2 hts gL_acts_L_failuresOf rfl rfl rfl (by decide +kernel) ⟨Nat.le_of_ble_eq_true rfl, Nat.le_of_ble_eq_true rfl⟩) ⟨cx_bl, cx_S hP.left.left hK Az_z hxk hS⟩ rfl rfl hl.1 rfl (lv_room (Nat.le_of_ble_eq_true rfl)) dL_acts_1075 ⟨by show _ ≤ 60; omega, by show _ ≤ 360; omega⟩) hS (fun H locs hS hg => ?_)
        have hP := hP.grown hg
        refine W.eq (g2 := F0 m 1078 ls [.int (nI n8)]) rfl ?_
        refine lv_istore (lv' := [(11, .int (nI n8)), (10, .int 0), (0, .ref (ad 0)), (1, .ref (ad2 0)), (2, .ref qa), (3, .ref qm), (4, .ref qb), (5, .int zx), (6, .int zy), (7, .int (nI j4)), (8, .int (nI i)), (9, .int 3)]) hx hb dL_acts_1078 hl (by decide) rfl (fun ls hl => ?_)
        refine lv_iload hx hb dL_acts_1080 (lv_at hl 11 rfl) ?_
        refine lv_iconst (v := 3) hx hb dL_acts_1082 (by decide) ?_
        refine lv_icmp_eq (tgt := 1091) hx hb dL_acts_1083 (by decide) (fun c_25 => ?_) (fun c_25 => absurd ((by decide : (3 : Int32) = 3)) c_25)
        refine lv_iload hx hb dL_acts_1091 (lv_at hl 1 rfl) ?_
        refine lv_if_eq (tgt := 1100) hx hb dL_acts_1093 (by decide) (fun c_26 => ?_) (fun c_26 => absurd ((by decide : (0 : Int32) = 0)) c_26)
        refine lv_iload hx hb dL_acts_1100 (lv_at hl 0 rfl) ?_
        refine lv_iconst (v := 1) hx hb dL_acts_1102 (by decide) ?_
        refine lv_iadd hx hb dL_acts_1103 ?_
        refine W.eq (congrArg (fun z9 => F0 m 1104 ls [.int z9]) (nI_add n8 1)) ?_
        refine lv_aload hx hb dL_acts_1104 (lv_at hl 6 rfl) ?_
        refine lv_iconst (v := 5) hx hb dL_acts_1106 (by decide) ?_
        refine W.eq (g2 := F0 m 1107 ls [.int (nI 5), .ref qb, .int (nI (n8 + 1))]) rfl ?_
        refine raW (x := nI q8) hx hb hK (hP.right.one (k := 2) rfl) (show 5 < 6 by omega) (by decide) (hO.2.2.2.2.2.2.trans q3) dL_acts_1107 ?_
        refine lv_icmp_lt (tgt := 1116) hx hb dL_acts_1108 (by decide) (fun c_27 => ?_) (fun c_27 => absurd (((nI_ltI (a := n8 + 1) (b := q8) (by omega) (by omega)).mpr (by omega))) c_27)
        refine lv_iconst (v := 4) hx hb dL_acts_1116 (by decide) ?_
        refine lv_istore (lv' := [(12, .int 4), (11, .int (nI n8)), (10, .int 0), (0, .ref (ad 0)), (1, .ref (ad2 0)), (2, .ref qa), (3, .ref qm), (4, .ref qb), (5, .int zx), (6, .int zy), (7, .int (nI j4)), (8, .int (nI i)), (9, .int 3)]) hx hb dL_acts_1117 hl (by decide) rfl (fun ls hl => ?_)
        refine lv_aload_n hx hb dL_acts_1119 rfl (lv_at hl 3 rfl) ?_
        refine lv_iload hx hb dL_acts_1120 (lv_at hl 11 rfl) ?_
        refine lv_iload hx hb dL_acts_1122 (lv_at hl 2 rfl) ?_
        obtain ⟨hTo, hTt⟩ := noT_D hD
        refine lMi (fun q ⟨j9, h1, h2⟩ => by rw [h2]; exact hz j9 h1) (vx_runSW (As := [.ref (ad 0), .int (nI i), .int 0]) (rest := []) ⟨hx, hb, hml, hown, hts⟩ (c_L_finish l hst D cy ad hj σ sz (nI i) false (4) ((w13_0 (kF_0 hi xs)).trans ((rF_1 hi).trans at9)) (gFinish σ (nI i) false) (if_pos (kF_0 hi xs))) (vx_cwSW 3 hts gL_acts_L_finish rfl rfl rfl (by decide +kernel) ⟨Nat.le_of_ble_eq_true rfl, Nat.le_of_ble_eq_true rfl⟩) ⟨cx_bl, cx_S hP.left.left hK Az_z hxk hS⟩ rfl rfl hl.1 rfl (lv_room (Nat.le_of_ble_eq_true rfl)) dL_acts_1124 ⟨by show _ ≤ 60; omega, by show _ ≤ 360; omega⟩) hS (fun H locs hPW hS hk1 => ?_)
        have hP := setO hne hTo hP hPW hk1
        refine W.eq (g2 := F0 m 1127 ls [.int 4]) rfl ?_
        refine lv_iload hx hb dL_acts_1127 (lv_at hl 0 rfl) ?_
        refine lv_icmp_ne (tgt := 1182) hx hb dL_acts_1129 (by decide) (fun c_28 => absurd ((by decide : (4 : Int32) = 4)) c_28) (fun c_28 => ?_)
        refine lv_aload_n hx hb dL_acts_1132 rfl (lv_at hl 4 rfl) ?_
        refine lv_iload hx hb dL_acts_1133 (lv_at hl 11 rfl) ?_
        refine lv_iload hx hb dL_acts_1135 (lv_at hl 2 rfl) ?_
        refine lMi (fun q ⟨j9, h1, h2⟩ => by rw [h2]; exact hz2 j9 h1) (vx_runSW (As := [.ref (ad2 0), .int (nI i), .int 0]) (rest := []) ⟨hx, hb, hml, hown, hts⟩ (c_L_finish l hst D cy ad2 hj2 σ sz (nI i) false (4) ((w13_0 (kF_0 hi xs)).trans ((rF_1 hi).trans at9)) (gFinish σ (nI i) false) (if_pos (kF_0 hi xs))) (vx_cwSW 3 hts gL_acts_L_finish rfl rfl rfl (by decide +kernel) ⟨Nat.le_of_ble_eq_true rfl, Nat.le_of_ble_eq_true rfl⟩) ⟨cx_bl, cx_S hP.left.right hK Az_z hxk hS⟩ rfl rfl hl.1 rfl (lv_room (Nat.le_of_ble_eq_true rfl)) dL_acts_1137 ⟨by show _ ≤ 60; omega, by show _ ≤ 360; omega⟩) hS (fun H locs hPW hS hk1 => ?_)
        have hP := setT hne hTt hP hPW hk1
        refine W.eq (g2 := F0 m 1140 ls [.int 4]) rfl ?_
        refine lv_iload hx hb dL_acts_1140 (lv_at hl 0 rfl) ?_
        refine lv_icmp_ne (tgt := 1182) hx hb dL_acts_1142 (by decide) (fun c_29 => absurd ((by decide : (4 : Int32) = 4)) c_29) (fun c_29 => ?_)
        refine lv_aload_n hx hb dL_acts_1145 rfl (lv_at hl 3 rfl) ?_
        refine lv_iload hx hb dL_acts_1146 (lv_at hl 11 rfl) ?_
        refine rMi (vx_runSW (As := [.ref (ad 0), .int (nI i)]) (rest := []) ⟨hx, hb, hml, hown, hts⟩ (c_L_failuresOf l hst D cy ad (gFinish σ (nI i) false) sz (nI i) (nI (n8 + 1)) ((wF hi).trans af9)) (vx_cwSW 2 hts gL_acts_L_failuresOf rfl rfl rfl (by decide +kernel) ⟨Nat.le_of_ble_eq_true rfl, Nat.le_of_ble_eq_true rfl⟩) ⟨cx_bl, cx_S hP.left.left hK Az_z hxk hS⟩ rfl rfl hl.1 rfl (lv_room (Nat.le_of_ble_eq_true rfl)) dL_acts_1148 ⟨by show _ ≤ 60; omega, by show _ ≤ 360; omega⟩) hS (fun H locs hS hg => ?_)
        have hP := hP.grown hg
        refine W.eq (g2 := F0 m 1151 ls [.int (nI (n8 + 1))]) rfl ?_
        refine lv_iload hx hb dL_acts_1151 (lv_at hl 12 rfl) ?_
        refine lv_iconst (v := 3) hx hb dL_acts_1153 (by decide) ?_
        refine lv_icmp_eq (tgt := 1162) hx hb dL_acts_1154 (by decide) (fun c_30 => ?_) (fun c_30 => absurd ((by decide : (3 : Int32) = 3)) c_30)
        refine lv_iload hx hb dL_acts_1162 (lv_at hl 2 rfl) ?_
        refine lv_if_eq (tgt := 1171) hx hb dL_acts_1164 (by decide) (fun c_31 => ?_) (fun c_31 => absurd ((by decide : (0 : Int32) = 0)) c_31)
        refine lv_iload hx hb dL_acts_1171 (lv_at hl 1 rfl) ?_
        refine lv_iconst (v := 1) hx hb dL_acts_1173 (by decide) ?_
        refine lv_iadd hx hb dL_acts_1174 ?_
        refine W.eq (congrArg (fun z9 => F0 m 1175 ls [.int z9, .int (nI (n8 + 1))]) (nI_add n8 1)) ?_
        refine lv_icmp_ne (tgt := 1182) hx hb dL_acts_1175 (by decide) (fun c_32 => absurd (rfl) c_32) (fun c_32 => ?_)
        refine lv_iconst (v := 1) hx hb dL_acts_1178 (by decide) ?_
        refine lv_goto (tgt := 1183) hx hb dL_acts_1179 (by decide) ?_
        refine W.widen (k := 60) (n := 360) (by omega) (by omega) ?_
        have hpo : OKs h (N + 70) fa fm fb (gFinish σ (nI i) false) := aO.le (by omega)
        exact W.zret (v := 1) hx hb hr rfl (fun t ht hW => ⟨⟨_, (), rfl, rfl, ⟨_, _, _, _, by rw [ht]; exact hP, hpo⟩⟩, hS.F ht⟩) hS.2.2 dL_acts_1183
    · have xs : σ 1 i = 4 := x2
      rw [xs] at hl
      have hl : lv_has ls 17 [(0, .ref (ad 0)), (1, .ref (ad2 0)), (2, .ref qa), (3, .ref qm), (4, .ref qb), (5, .int zx), (6, .int zy), (7, .int (nI j4)), (8, .int (nI i)), (9, .int 4)] := hl
      refine lv_istore (lv' := [(10, .int 0), (0, .ref (ad 0)), (1, .ref (ad2 0)), (2, .ref qa), (3, .ref qm), (4, .ref qb), (5, .int zx), (6, .int zy), (7, .int (nI j4)), (8, .int (nI i)), (9, .int 4)]) hx hb dL_acts_1070 hl (by decide) rfl (fun ls hl => ?_)
      refine lv_aload_n hx hb dL_acts_1072 rfl (lv_at hl 1 rfl) ?_
      refine lv_iload hx hb dL_acts_1073 (lv_at hl 9 rfl) ?_
      refine rMi (vx_runSW (As := [.ref (ad 0), .int (nI i)]) (rest := []) ⟨hx, hb, hml, hown, hts⟩ (c_L_failuresOf l hst D cy ad σ sz (nI i) (nI n8) ((wF hi).trans x5)) (vx_cwSW 2 hts gL_acts_L_failuresOf rfl rfl rfl (by decide +kernel) ⟨Nat.le_of_ble_eq_true rfl, Nat.le_of_ble_eq_true rfl⟩) ⟨cx_bl, cx_S hP.left.left hK Az_z hxk hS⟩ rfl rfl hl.1 rfl (lv_room (Nat.le_of_ble_eq_true rfl)) dL_acts_1075 ⟨by show _ ≤ 60; omega, by show _ ≤ 360; omega⟩) hS (fun H locs hS hg => ?_)
      have hP := hP.grown hg
      refine W.eq (g2 := F0 m 1078 ls [.int (nI n8)]) rfl ?_
      refine lv_istore (lv' := [(11, .int (nI n8)), (10, .int 0), (0, .ref (ad 0)), (1, .ref (ad2 0)), (2, .ref qa), (3, .ref qm), (4, .ref qb), (5, .int zx), (6, .int zy), (7, .int (nI j4)), (8, .int (nI i)), (9, .int 4)]) hx hb dL_acts_1078 hl (by decide) rfl (fun ls hl => ?_)
      refine lv_iload hx hb dL_acts_1080 (lv_at hl 11 rfl) ?_
      refine lv_iconst (v := 3) hx hb dL_acts_1082 (by decide) ?_
      refine lv_icmp_eq (tgt := 1091) hx hb dL_acts_1083 (by decide) (fun c_33 => absurd c_33 ((by decide : ¬ (4 : Int32) = 3))) (fun c_33 => ?_)
      refine lv_ldc (v := (-1000003)) hx hb hown (hts (.constant RL 47 (-1000003)) (by decide +kernel)) dL_acts_1086 ?_
      refine lv_goto (tgt := 1117) hx hb dL_acts_1088 (by decide) ?_
      refine lv_istore (lv' := [(12, .int (-1000003)), (11, .int (nI n8)), (10, .int 0), (0, .ref (ad 0)), (1, .ref (ad2 0)), (2, .ref qa), (3, .ref qm), (4, .ref qb), (5, .int zx), (6, .int zy), (7, .int (nI j4)), (8, .int (nI i)), (9, .int 4)]) hx hb dL_acts_1117 hl (by decide) rfl (fun ls hl => ?_)
      refine lv_aload_n hx hb dL_acts_1119 rfl (lv_at hl 3 rfl) ?_
      refine lv_iload hx hb dL_acts_1120 (lv_at hl 11 rfl) ?_
      refine lv_iload hx hb dL_acts_1122 (lv_at hl 2 rfl) ?_
      obtain ⟨hTo, hTt⟩ := noT_D hD
      refine lMi (fun q ⟨j9, h1, h2⟩ => by rw [h2]; exact hz j9 h1) (vx_runSW (As := [.ref (ad 0), .int (nI i), .int 0]) (rest := []) ⟨hx, hb, hml, hown, hts⟩ (c_L_finish l hst D cy ad hj σ sz (nI i) false ((-1000003)) (by rw [(kF_2 hi (lit_ne (a := 4) (b := 3) x2 (by omega) (by omega) (by decide)))]; exact w13_2 _) σ (if_neg (by rw [(kF_2 hi (lit_ne (a := 4) (b := 3) x2 (by omega) (by omega) (by decide)))]; decide))) (vx_cwSW 3 hts gL_acts_L_finish rfl rfl rfl (by decide +kernel) ⟨Nat.le_of_ble_eq_true rfl, Nat.le_of_ble_eq_true rfl⟩) ⟨cx_bl, cx_S hP.left.left hK Az_z hxk hS⟩ rfl rfl hl.1 rfl (lv_room (Nat.le_of_ble_eq_true rfl)) dL_acts_1124 ⟨by show _ ≤ 60; omega, by show _ ≤ 360; omega⟩) hS (fun H locs hPW hS hk1 => ?_)
      have hP := setO hne hTo hP hPW hk1
      refine W.eq (g2 := F0 m 1127 ls [.int (-1000003)]) rfl ?_
      refine lv_iload hx hb dL_acts_1127 (lv_at hl 0 rfl) ?_
      refine lv_icmp_ne (tgt := 1182) hx hb dL_acts_1129 (by decide) (fun c_34 => absurd ((by decide : (-1000003 : Int32) = -1000003)) c_34) (fun c_34 => ?_)
      refine lv_aload_n hx hb dL_acts_1132 rfl (lv_at hl 4 rfl) ?_
      refine lv_iload hx hb dL_acts_1133 (lv_at hl 11 rfl) ?_
      refine lv_iload hx hb dL_acts_1135 (lv_at hl 2 rfl) ?_
      refine lMi (fun q ⟨j9, h1, h2⟩ => by rw [h2]; exact hz2 j9 h1) (vx_runSW (As := [.ref (ad2 0), .int (nI i), .int 0]) (rest := []) ⟨hx, hb, hml, hown, hts⟩ (c_L_finish l hst D cy ad2 hj2 σ sz (nI i) false ((-1000003)) (by rw [(kF_2 hi (lit_ne (a := 4) (b := 3) x2 (by omega) (by omega) (by decide)))]; exact w13_2 _) σ (if_neg (by rw [(kF_2 hi (lit_ne (a := 4) (b := 3) x2 (by omega) (by omega) (by decide)))]; decide))) (vx_cwSW 3 hts gL_acts_L_finish rfl rfl rfl (by decide +kernel) ⟨Nat.le_of_ble_eq_true rfl, Nat.le_of_ble_eq_true rfl⟩) ⟨cx_bl, cx_S hP.left.right hK Az_z hxk hS⟩ rfl rfl hl.1 rfl (lv_room (Nat.le_of_ble_eq_true rfl)) dL_acts_1137 ⟨by show _ ≤ 60; omega, by show _ ≤ 360; omega⟩) hS (fun H locs hPW hS hk1 => ?_)
      have hP := setT hne hTt hP hPW hk1
      refine W.eq (g2 := F0 m 1140 ls [.int (-1000003)]) rfl ?_
      refine lv_iload hx hb dL_acts_1140 (lv_at hl 0 rfl) ?_
      refine lv_icmp_ne (tgt := 1182) hx hb dL_acts_1142 (by decide) (fun c_35 => absurd ((by decide : (-1000003 : Int32) = -1000003)) c_35) (fun c_35 => ?_)
      refine lv_aload_n hx hb dL_acts_1145 rfl (lv_at hl 3 rfl) ?_
      refine lv_iload hx hb dL_acts_1146 (lv_at hl 11 rfl) ?_
      refine rMi (vx_runSW (As := [.ref (ad 0), .int (nI i)]) (rest := []) ⟨hx, hb, hml, hown, hts⟩ (c_L_failuresOf l hst D cy ad σ sz (nI i) (nI n8) ((wF hi).trans x5)) (vx_cwSW 2 hts gL_acts_L_failuresOf rfl rfl rfl (by decide +kernel) ⟨Nat.le_of_ble_eq_true rfl, Nat.le_of_ble_eq_true rfl⟩) ⟨cx_bl, cx_S hP.left.left hK Az_z hxk hS⟩ rfl rfl hl.1 rfl (lv_room (Nat.le_of_ble_eq_true rfl)) dL_acts_1148 ⟨by show _ ≤ 60; omega, by show _ ≤ 360; omega⟩) hS (fun H locs hS hg => ?_)
      have hP := hP.grown hg
      refine W.eq (g2 := F0 m 1151 ls [.int (nI n8)]) rfl ?_
      refine lv_iload hx hb dL_acts_1151 (lv_at hl 12 rfl) ?_
      refine lv_iconst (v := 3) hx hb dL_acts_1153 (by decide) ?_
      refine lv_icmp_eq (tgt := 1162) hx hb dL_acts_1154 (by decide) (fun c_36 => absurd c_36 ((by decide : ¬ (4 : Int32) = 3))) (fun c_36 => ?_)
      refine lv_iload hx hb dL_acts_1157 (lv_at hl 1 rfl) ?_
      refine lv_goto (tgt := 1175) hx hb dL_acts_1159 (by decide) ?_
      refine lv_icmp_ne (tgt := 1182) hx hb dL_acts_1175 (by decide) (fun c_37 => absurd (rfl) c_37) (fun c_37 => ?_)
      refine lv_iconst (v := 1) hx hb dL_acts_1178 (by decide) ?_
      refine lv_goto (tgt := 1183) hx hb dL_acts_1179 (by decide) ?_
      refine W.widen (k := 60) (n := 360) (by omega) (by omega) ?_
      have hpo : OKs h (N + 70) fa fm fb σ := hO.le (by omega)
      exact W.zret (v := 1) hx hb hr rfl (fun t ht hW => ⟨⟨_, (), rfl, rfl, ⟨_, _, _, _, by rw [ht]; exact hP, hpo⟩⟩, hS.F ht⟩) hS.2.2 dL_acts_1183
    · have xs : σ 1 i = 5 := x2
      rw [xs] at hl
      have hl : lv_has ls 17 [(0, .ref (ad 0)), (1, .ref (ad2 0)), (2, .ref qa), (3, .ref qm), (4, .ref qb), (5, .int zx), (6, .int zy), (7, .int (nI j4)), (8, .int (nI i)), (9, .int 5)] := hl
      refine lv_istore (lv' := [(10, .int 0), (0, .ref (ad 0)), (1, .ref (ad2 0)), (2, .ref qa), (3, .ref qm), (4, .ref qb), (5, .int zx), (6, .int zy), (7, .int (nI j4)), (8, .int (nI i)), (9, .int 5)]) hx hb dL_acts_1070 hl (by decide) rfl (fun ls hl => ?_)
      refine lv_aload_n hx hb dL_acts_1072 rfl (lv_at hl 1 rfl) ?_
      refine lv_iload hx hb dL_acts_1073 (lv_at hl 9 rfl) ?_
      refine rMi (vx_runSW (As := [.ref (ad 0), .int (nI i)]) (rest := []) ⟨hx, hb, hml, hown, hts⟩ (c_L_failuresOf l hst D cy ad σ sz (nI i) (nI n8) ((wF hi).trans x5)) (vx_cwSW 2 hts gL_acts_L_failuresOf rfl rfl rfl (by decide +kernel) ⟨Nat.le_of_ble_eq_true rfl, Nat.le_of_ble_eq_true rfl⟩) ⟨cx_bl, cx_S hP.left.left hK Az_z hxk hS⟩ rfl rfl hl.1 rfl (lv_room (Nat.le_of_ble_eq_true rfl)) dL_acts_1075 ⟨by show _ ≤ 60; omega, by show _ ≤ 360; omega⟩) hS (fun H locs hS hg => ?_)
      have hP := hP.grown hg
      refine W.eq (g2 := F0 m 1078 ls [.int (nI n8)]) rfl ?_
      refine lv_istore (lv' := [(11, .int (nI n8)), (10, .int 0), (0, .ref (ad 0)), (1, .ref (ad2 0)), (2, .ref qa), (3, .ref qm), (4, .ref qb), (5, .int zx), (6, .int zy), (7, .int (nI j4)), (8, .int (nI i)), (9, .int 5)]) hx hb dL_acts_1078 hl (by decide) rfl (fun ls hl => ?_)
      refine lv_iload hx hb dL_acts_1080 (lv_at hl 11 rfl) ?_
      refine lv_iconst (v := 3) hx hb dL_acts_1082 (by decide) ?_
      refine lv_icmp_eq (tgt := 1091) hx hb dL_acts_1083 (by decide) (fun c_38 => absurd c_38 ((by decide : ¬ (5 : Int32) = 3))) (fun c_38 => ?_)
      refine lv_ldc (v := (-1000003)) hx hb hown (hts (.constant RL 47 (-1000003)) (by decide +kernel)) dL_acts_1086 ?_
      refine lv_goto (tgt := 1117) hx hb dL_acts_1088 (by decide) ?_
      refine lv_istore (lv' := [(12, .int (-1000003)), (11, .int (nI n8)), (10, .int 0), (0, .ref (ad 0)), (1, .ref (ad2 0)), (2, .ref qa), (3, .ref qm), (4, .ref qb), (5, .int zx), (6, .int zy), (7, .int (nI j4)), (8, .int (nI i)), (9, .int 5)]) hx hb dL_acts_1117 hl (by decide) rfl (fun ls hl => ?_)
      refine lv_aload_n hx hb dL_acts_1119 rfl (lv_at hl 3 rfl) ?_
      refine lv_iload hx hb dL_acts_1120 (lv_at hl 11 rfl) ?_
      refine lv_iload hx hb dL_acts_1122 (lv_at hl 2 rfl) ?_
      obtain ⟨hTo, hTt⟩ := noT_D hD
      refine lMi (fun q ⟨j9, h1, h2⟩ => by rw [h2]; exact hz j9 h1) (vx_runSW (As := [.ref (ad 0), .int (nI i), .int 0]) (rest := []) ⟨hx, hb, hml, hown, hts⟩ (c_L_finish l hst D cy ad hj σ sz (nI i) false ((-1000003)) (by rw [(kF_2 hi (lit_ne (a := 5) (b := 3) x2 (by omega) (by omega) (by decide)))]; exact w13_2 _) σ (if_neg (by rw [(kF_2 hi (lit_ne (a := 5) (b := 3) x2 (by omega) (by omega) (by decide)))]; decide))) (vx_cwSW 3 hts gL_acts_L_finish rfl rfl rfl (by decide +kernel) ⟨Nat.le_of_ble_eq_true rfl, Nat.le_of_ble_eq_true rfl⟩) ⟨cx_bl, cx_S hP.left.left hK Az_z hxk hS⟩ rfl rfl hl.1 rfl (lv_room (Nat.le_of_ble_eq_true rfl)) dL_acts_1124 ⟨by show _ ≤ 60; omega, by show _ ≤ 360; omega⟩) hS (fun H locs hPW hS hk1 => ?_)
      have hP := setO hne hTo hP hPW hk1
      refine W.eq (g2 := F0 m 1127 ls [.int (-1000003)]) rfl ?_
      refine lv_iload hx hb dL_acts_1127 (lv_at hl 0 rfl) ?_
      refine lv_icmp_ne (tgt := 1182) hx hb dL_acts_1129 (by decide) (fun c_39 => absurd ((by decide : (-1000003 : Int32) = -1000003)) c_39) (fun c_39 => ?_)
      refine lv_aload_n hx hb dL_acts_1132 rfl (lv_at hl 4 rfl) ?_
      refine lv_iload hx hb dL_acts_1133 (lv_at hl 11 rfl) ?_
      refine lv_iload hx hb dL_acts_1135 (lv_at hl 2 rfl) ?_
      refine lMi (fun q ⟨j9, h1, h2⟩ => by rw [h2]; exact hz2 j9 h1) (vx_runSW (As := [.ref (ad2 0), .int (nI i), .int 0]) (rest := []) ⟨hx, hb, hml, hown, hts⟩ (c_L_finish l hst D cy ad2 hj2 σ sz (nI i) false ((-1000003)) (by rw [(kF_2 hi (lit_ne (a := 5) (b := 3) x2 (by omega) (by omega) (by decide)))]; exact w13_2 _) σ (if_neg (by rw [(kF_2 hi (lit_ne (a := 5) (b := 3) x2 (by omega) (by omega) (by decide)))]; decide))) (vx_cwSW 3 hts gL_acts_L_finish rfl rfl rfl (by decide +kernel) ⟨Nat.le_of_ble_eq_true rfl, Nat.le_of_ble_eq_true rfl⟩) ⟨cx_bl, cx_S hP.left.right hK Az_z hxk hS⟩ rfl rfl hl.1 rfl (lv_room (Nat.le_of_ble_eq_true rfl)) dL_acts_1137 ⟨by show _ ≤ 60; omega, by show _ ≤ 360; omega⟩) hS (fun H locs hPW hS hk1 => ?_)
      have hP := setT hne hTt hP hPW hk1
      refine W.eq (g2 := F0 m 1140 ls [.int (-1000003)]) rfl ?_
      refine lv_iload hx hb dL_acts_1140 (lv_at hl 0 rfl) ?_
      refine lv_icmp_ne (tgt := 1182) hx hb dL_acts_1142 (by decide) (fun c_40 => absurd ((by decide : (-1000003 : Int32) = -1000003)) c_40) (fun c_40 => ?_)
      refine lv_aload_n hx hb dL_acts_1145 rfl (lv_at hl 3 rfl) ?_
      refine lv_iload hx hb dL_acts_1146 (lv_at hl 11 rfl) ?_
      refine rMi (vx_runSW (As := [.ref (ad 0), .int (nI i)]) (rest := []) ⟨hx, hb, hml, hown, hts⟩ (c_L_failuresOf l hst D cy ad σ sz (nI i) (nI n8) ((wF hi).trans x5)) (vx_cwSW 2 hts gL_acts_L_failuresOf rfl rfl rfl (by decide +kernel) ⟨Nat.le_of_ble_eq_true rfl, Nat.le_of_ble_eq_true rfl⟩) ⟨cx_bl, cx_S hP.left.left hK Az_z hxk hS⟩ rfl rfl hl.1 rfl (lv_room (Nat.le_of_ble_eq_true rfl)) dL_acts_1148 ⟨by show _ ≤ 60; omega, by show _ ≤ 360; omega⟩) hS (fun H locs hS hg => ?_)
      have hP := hP.grown hg
      refine W.eq (g2 := F0 m 1151 ls [.int (nI n8)]) rfl ?_
      refine lv_iload hx hb dL_acts_1151 (lv_at hl 12 rfl) ?_
      refine lv_iconst (v := 3) hx hb dL_acts_1153 (by decide) ?_
      refine lv_icmp_eq (tgt := 1162) hx hb dL_acts_1154 (by decide) (fun c_41 => absurd c_41 ((by decide : ¬ (5 : Int32) = 3))) (fun c_41 => ?_)
      refine lv_iload hx hb dL_acts_1157 (lv_at hl 1 rfl) ?_
      refine lv_goto (tgt := 1175) hx hb dL_acts_1159 (by decide) ?_
      refine lv_icmp_ne (tgt := 1182) hx hb dL_acts_1175 (by decide) (fun c_42 => absurd (rfl) c_42) (fun c_42 => ?_)
      refine lv_iconst (v := 1) hx hb dL_acts_1178 (by decide) ?_
      refine lv_goto (tgt := 1183) hx hb dL_acts_1179 (by decide) ?_
      refine W.widen (k := 60) (n := 360) (by omega) (by omega) ?_
      have hpo : OKs h (N + 70) fa fm fb σ := hO.le (by omega)
      exact W.zret (v := 1) hx hb hr rfl (fun t ht hW => ⟨⟨_, (), rfl, rfl, ⟨_, _, _, _, by rw [ht]; exact hP, hpo⟩⟩, hS.F ht⟩) hS.2.2 dL_acts_1183
    · have xs : σ 1 i = 6 := x2
      rw [xs] at hl
      have hl : lv_has ls 17 [(0, .ref (ad 0)), (1, .ref (ad2 0)), (2, .ref qa), (3, .ref qm), (4, .ref qb), (5, .int zx), (6, .int zy), (7, .int (nI j4)), (8, .int (nI i)), (9, .int 6)] := hl
      refine lv_istore (lv' := [(10, .int 0), (0, .ref (ad 0)), (1, .ref (ad2 0)), (2, .ref qa), (3, .ref qm), (4, .ref qb), (5, .int zx), (6, .int zy), (7, .int (nI j4)), (8, .int (nI i)), (9, .int 6)]) hx hb dL_acts_1070 hl (by decide) rfl (fun ls hl => ?_)
      refine lv_aload_n hx hb dL_acts_1072 rfl (lv_at hl 1 rfl) ?_
      refine lv_iload hx hb dL_acts_1073 (lv_at hl 9 rfl) ?_
      refine rMi (vx_runSW (As := [.ref (ad 0), .int (nI i)]) (rest := []) ⟨hx, hb, hml, hown, hts⟩ (c_L_failuresOf l hst D cy ad σ sz (nI i) (nI n8) ((wF hi).trans x5)) (vx_cwSW 2 hts gL_acts_L_failuresOf rfl rfl rfl (by decide +kernel) ⟨Nat.le_of_ble_eq_true rfl, Nat.le_of_ble_eq_true rfl⟩) ⟨cx_bl, cx_S hP.left.left hK Az_z hxk hS⟩ rfl rfl hl.1 rfl (lv_room (Nat.le_of_ble_eq_true rfl)) dL_acts_1075 ⟨by show _ ≤ 60; omega, by show _ ≤ 360; omega⟩) hS (fun H locs hS hg => ?_)
      have hP := hP.grown hg
      refine W.eq (g2 := F0 m 1078 ls [.int (nI n8)]) rfl ?_
      refine lv_istore (lv' := [(11, .int (nI n8)), (10, .int 0), (0, .ref (ad 0)), (1, .ref (ad2 0)), (2, .ref qa), (3, .ref qm), (4, .ref qb), (5, .int zx), (6, .int zy), (7, .int (nI j4)), (8, .int (nI i)), (9, .int 6)]) hx hb dL_acts_1078 hl (by decide) rfl (fun ls hl => ?_)
      refine lv_iload hx hb dL_acts_1080 (lv_at hl 11 rfl) ?_
      refine lv_iconst (v := 3) hx hb dL_acts_1082 (by decide) ?_
      refine lv_icmp_eq (tgt := 1091) hx hb dL_acts_1083 (by decide) (fun c_43 => absurd c_43 ((by decide : ¬ (6 : Int32) = 3))) (fun c_43 => ?_)
      refine lv_ldc (v := (-1000003)) hx hb hown (hts (.constant RL 47 (-1000003)) (by decide +kernel)) dL_acts_1086 ?_
      refine lv_goto (tgt := 1117) hx hb dL_acts_1088 (by decide) ?_
      refine lv_istore (lv' := [(12, .int (-1000003)), (11, .int (nI n8)), (10, .int 0), (0, .ref (ad 0)), (1, .ref (ad2 0)), (2, .ref qa), (3, .ref qm), (4, .ref qb), (5, .int zx), (6, .int zy), (7, .int (nI j4)), (8, .int (nI i)), (9, .int 6)]) hx hb dL_acts_1117 hl (by decide) rfl (fun ls hl => ?_)
      refine lv_aload_n hx hb dL_acts_1119 rfl (lv_at hl 3 rfl) ?_
      refine lv_iload hx hb dL_acts_1120 (lv_at hl 11 rfl) ?_
      refine lv_iload hx hb dL_acts_1122 (lv_at hl 2 rfl) ?_
      obtain ⟨hTo, hTt⟩ := noT_D hD
      refine lMi (fun q ⟨j9, h1, h2⟩ => by rw [h2]; exact hz j9 h1) (vx_runSW (As := [.ref (ad 0), .int (nI i), .int 0]) (rest := []) ⟨hx, hb, hml, hown, hts⟩ (c_L_finish l hst D cy ad hj σ sz (nI i) false ((-1000003)) (by rw [(kF_2 hi (lit_ne (a := 6) (b := 3) x2 (by omega) (by omega) (by decide)))]; exact w13_2 _) σ (if_neg (by rw [(kF_2 hi (lit_ne (a := 6) (b := 3) x2 (by omega) (by omega) (by decide)))]; decide))) (vx_cwSW 3 hts gL_acts_L_finish rfl rfl rfl (by decide +kernel) ⟨Nat.le_of_ble_eq_true rfl, Nat.le_of_ble_eq_true rfl⟩) ⟨cx_bl, cx_S hP.left.left hK Az_z hxk hS⟩ rfl rfl hl.1 rfl (lv_room (Nat.le_of_ble_eq_true rfl)) dL_acts_1124 ⟨by show _ ≤ 60; omega, by show _ ≤ 360; omega⟩) hS (fun H locs hPW hS hk1 => ?_)
      have hP := setO hne hTo hP hPW hk1
      refine W.eq (g2 := F0 m 1127 ls [.int (-1000003)]) rfl ?_
      refine lv_iload hx hb dL_acts_1127 (lv_at hl 0 rfl) ?_
      refine lv_icmp_ne (tgt := 1182) hx hb dL_acts_1129 (by decide) (fun c_44 => absurd ((by decide : (-1000003 : Int32) = -1000003)) c_44) (fun c_44 => ?_)
      refine lv_aload_n hx hb dL_acts_1132 rfl (lv_at hl 4 rfl) ?_
      refine lv_iload hx hb dL_acts_1133 (lv_at hl 11 rfl) ?_
      refine lv_iload hx hb dL_acts_1135 (lv_at hl 2 rfl) ?_
      refine lMi (fun q ⟨j9, h1, h2⟩ => by rw [h2]; exact hz2 j9 h1) (vx_runSW (As := [.ref (ad2 0), .int (nI i), .int 0]) (rest := []) ⟨hx, hb, hml, hown, hts⟩ (c_L_finish l hst D cy ad2 hj2 σ sz (nI i) false ((-1000003)) (by rw [(kF_2 hi (lit_ne (a := 6) (b := 3) x2 (by omega) (by omega) (by decide)))]; exact w13_2 _) σ (if_neg (by rw [(kF_2 hi (lit_ne (a := 6) (b := 3) x2 (by omega) (by omega) (by decide)))]; decide))) (vx_cwSW 3 hts gL_acts_L_finish rfl rfl rfl (by decide +kernel) ⟨Nat.le_of_ble_eq_true rfl, Nat.le_of_ble_eq_true rfl⟩) ⟨cx_bl, cx_S hP.left.right hK Az_z hxk hS⟩ rfl rfl hl.1 rfl (lv_room (Nat.le_of_ble_eq_true rfl)) dL_acts_1137 ⟨by show _ ≤ 60; omega, by show _ ≤ 360; omega⟩) hS (fun H locs hPW hS hk1 => ?_)
      have hP := setT hne hTt hP hPW hk1
      refine W.eq (g2 := F0 m 1140 ls [.int (-1000003)]) rfl ?_
      refine lv_iload hx hb dL_acts_1140 (lv_at hl 0 rfl) ?_
      refine lv_icmp_ne (tgt := 1182) hx hb dL_acts_1142 (by decide) (fun c_45 => absurd ((by decide : (-1000003 : Int32) = -1000003)) c_45) (fun c_45 => ?_)
      refine lv_aload_n hx hb dL_acts_1145 rfl (lv_at hl 3 rfl) ?_
      refine lv_iload hx hb dL_acts_1146 (lv_at hl 11 rfl) ?_
      refine rMi (vx_runSW (As := [.ref (ad 0), .int (nI i)]) (rest := []) ⟨hx, hb, hml, hown, hts⟩ (c_L_failuresOf l hst D cy ad σ sz (nI i) (nI n8) ((wF hi).trans x5)) (vx_cwSW 2 hts gL_acts_L_failuresOf rfl rfl rfl (by decide +kernel) ⟨Nat.le_of_ble_eq_true rfl, Nat.le_of_ble_eq_true rfl⟩) ⟨cx_bl, cx_S hP.left.left hK Az_z hxk hS⟩ rfl rfl hl.1 rfl (lv_room (Nat.le_of_ble_eq_true rfl)) dL_acts_1148 ⟨by show _ ≤ 60; omega, by show _ ≤ 360; omega⟩) hS (fun H locs hS hg => ?_)
      have hP := hP.grown hg
      refine W.eq (g2 := F0 m 1151 ls [.int (nI n8)]) rfl ?_
      refine lv_iload hx hb dL_acts_1151 (lv_at hl 12 rfl) ?_
      refine lv_iconst (v := 3) hx hb dL_acts_1153 (by decide) ?_
      refine lv_icmp_eq (tgt := 1162) hx hb dL_acts_1154 (by decide) (fun c_46 => absurd c_46 ((by decide : ¬ (6 : Int32) = 3))) (fun c_46 => ?_)
      refine lv_iload hx hb dL_acts_1157 (lv_at hl 1 rfl) ?_
      refine lv_goto (tgt := 1175) hx hb dL_acts_1159 (by decide) ?_
      refine lv_icmp_ne (tgt := 1182) hx hb dL_acts_1175 (by decide) (fun c_47 => absurd (rfl) c_47) (fun c_47 => ?_)
      refine lv_iconst (v := 1) hx hb dL_acts_1178 (by decide) ?_
      refine lv_goto (tgt := 1183) hx hb dL_acts_1179 (by decide) ?_
      refine W.widen (k := 60) (n := 360) (by omega) (by omega) ?_
      have hpo : OKs h (N + 70) fa fm fb σ := hO.le (by omega)
      exact W.zret (v := 1) hx hb hr rfl (fun t ht hW => ⟨⟨_, (), rfl, rfl, ⟨_, _, _, _, by rw [ht]; exact hP, hpo⟩⟩, hS.F ht⟩) hS.2.2 dL_acts_1183
    · have xs : σ 1 i = 7 := x2
      rw [xs] at hl
      have hl : lv_has ls 17 [(0, .ref (ad 0)), (1, .ref (ad2 0)), (2, .ref qa), (3, .ref qm), (4, .ref qb), (5, .int zx), (6, .int zy), (7, .int (nI j4)), (8, .int (nI i)), (9, .int 7)] := hl
      refine lv_istore (lv' := [(10, .int 0), (0, .ref (ad 0)), (1, .ref (ad2 0)), (2, .ref qa), (3, .ref qm), (4, .ref qb), (5, .int zx), (6, .int zy), (7, .int (nI j4)), (8, .int (nI i)), (9, .int 7)]) hx hb dL_acts_1070 hl (by decide) rfl (fun ls hl => ?_)
      refine lv_aload_n hx hb dL_acts_1072 rfl (lv_at hl 1 rfl) ?_
      refine lv_iload hx hb dL_acts_1073 (lv_at hl 9 rfl) ?_
      refine rMi (vx_runSW (As := [.ref (ad 0), .int (nI i)]) (rest := []) ⟨hx, hb, hml, hown, hts⟩ (c_L_failuresOf l hst D cy ad σ sz (nI i) (nI n8) ((wF hi).trans x5)) (vx_cwSW 2 hts gL_acts_L_failuresOf rfl rfl rfl (by decide +kernel) ⟨Nat.le_of_ble_eq_true rfl, Nat.le_of_ble_eq_true rfl⟩) ⟨cx_bl, cx_S hP.left.left hK Az_z hxk hS⟩ rfl rfl hl.1 rfl (lv_room (Nat.le_of_ble_eq_true rfl)) dL_acts_1075 ⟨by show _ ≤ 60; omega, by show _ ≤ 360; omega⟩) hS (fun H locs hS hg => ?_)
      have hP := hP.grown hg
      refine W.eq (g2 := F0 m 1078 ls [.int (nI n8)]) rfl ?_
      refine lv_istore (lv' := [(11, .int (nI n8)), (10, .int 0), (0, .ref (ad 0)), (1, .ref (ad2 0)), (2, .ref qa), (3, .ref qm), (4, .ref qb), (5, .int zx), (6, .int zy), (7, .int (nI j4)), (8, .int (nI i)), (9, .int 7)]) hx hb dL_acts_1078 hl (by decide) rfl (fun ls hl => ?_)
      refine lv_iload hx hb dL_acts_1080 (lv_at hl 11 rfl) ?_
      refine lv_iconst (v := 3) hx hb dL_acts_1082 (by decide) ?_
      refine lv_icmp_eq (tgt := 1091) hx hb dL_acts_1083 (by decide) (fun c_48 => absurd c_48 ((by decide : ¬ (7 : Int32) = 3))) (fun c_48 => ?_)
      refine lv_ldc (v := (-1000003)) hx hb hown (hts (.constant RL 47 (-1000003)) (by decide +kernel)) dL_acts_1086 ?_
      refine lv_goto (tgt := 1117) hx hb dL_acts_1088 (by decide) ?_
      refine lv_istore (lv' := [(12, .int (-1000003)), (11, .int (nI n8)), (10, .int 0), (0, .ref (ad 0)), (1, .ref (ad2 0)), (2, .ref qa), (3, .ref qm), (4, .ref qb), (5, .int zx), (6, .int zy), (7, .int (nI j4)), (8, .int (nI i)), (9, .int 7)]) hx hb dL_acts_1117 hl (by decide) rfl (fun ls hl => ?_)
      refine lv_aload_n hx hb dL_acts_1119 rfl (lv_at hl 3 rfl) ?_
      refine lv_iload hx hb dL_acts_1120 (lv_at hl 11 rfl) ?_
      refine lv_iload hx hb dL_acts_1122 (lv_at hl 2 rfl) ?_
      obtain ⟨hTo, hTt⟩ := noT_D hD
      refine lMi (fun q ⟨j9, h1, h2⟩ => by rw [h2]; exact hz j9 h1) (vx_runSW (As := [.ref (ad 0), .int (nI i), .int 0]) (rest := []) ⟨hx, hb, hml, hown, hts⟩ (c_L_finish l hst D cy ad hj σ sz (nI i) false ((-1000003)) (by rw [(kF_2 hi (lit_ne (a := 7) (b := 3) x2 (by omega) (by omega) (by decide)))]; exact w13_2 _) σ (if_neg (by rw [(kF_2 hi (lit_ne (a := 7) (b := 3) x2 (by omega) (by omega) (by decide)))]; decide))) (vx_cwSW 3 hts gL_acts_L_finish rfl rfl rfl (by decide +kernel) ⟨Nat.le_of_ble_eq_true rfl, Nat.le_of_ble_eq_true rfl⟩) ⟨cx_bl, cx_S hP.left.left hK Az_z hxk hS⟩ rfl rfl hl.1 rfl (lv_room (Nat.le_of_ble_eq_true rfl)) dL_acts_1124 ⟨by show _ ≤ 60; omega, by show _ ≤ 360; omega⟩) hS (fun H locs hPW hS hk1 => ?_)
      have hP := setO hne hTo hP hPW hk1
      refine W.eq (g2 := F0 m 1127 ls [.int (-1000003)]) rfl ?_
      refine lv_iload hx hb dL_acts_1127 (lv_at hl 0 rfl) ?_
      refine lv_icmp_ne (tgt := 1182) hx hb dL_acts_1129 (by decide) (fun c_49 => absurd ((by decide : (-1000003 : Int32) = -1000003)) c_49) (fun c_49 => ?_)
      refine lv_aload_n hx hb dL_acts_1132 rfl (lv_at hl 4 rfl) ?_
      refine lv_iload hx hb dL_acts_1133 (lv_at hl 11 rfl) ?_
      refine lv_iload hx hb dL_acts_1135 (lv_at hl 2 rfl) ?_
      refine lMi (fun q ⟨j9, h1, h2⟩ => by rw [h2]; exact hz2 j9 h1) (vx_runSW (As := [.ref (ad2 0), .int (nI i), .int 0]) (rest := []) ⟨hx, hb, hml, hown, hts⟩ (c_L_finish l hst D cy ad2 hj2 σ sz (nI i) false ((-1000003)) (by rw [(kF_2 hi (lit_ne (a := 7) (b := 3) x2 (by omega) (by omega) (by decide)))]; exact w13_2 _) σ (if_neg (by rw [(kF_2 hi (lit_ne (a := 7) (b := 3) x2 (by omega) (by omega) (by decide)))]; decide))) (vx_cwSW 3 hts gL_acts_L_finish rfl rfl rfl (by decide +kernel) ⟨Nat.le_of_ble_eq_true rfl, Nat.le_of_ble_eq_true rfl⟩) ⟨cx_bl, cx_S hP.left.right hK Az_z hxk hS⟩ rfl rfl hl.1 rfl (lv_room (Nat.le_of_ble_eq_true rfl)) dL_acts_1137 ⟨by show _ ≤ 60; omega, by show _ ≤ 360; omega⟩) hS (fun H locs hPW hS hk1 => ?_)
      have hP := setT hne hTt hP hPW hk1
      refine W.eq (g2 := F0 m 1140 ls [.int (-1000003)]) rfl ?_
      refine lv_iload hx hb dL_acts_1140 (lv_at hl 0 rfl) ?_
      refine lv_icmp_ne (tgt := 1182) hx hb dL_acts_1142 (by decide) (fun c_50 => absurd ((by decide : (-1000003 : Int32) = -1000003)) c_50) (fun c_50 => ?_)
      refine lv_aload_n hx hb dL_acts_1145 rfl (lv_at hl 3 rfl) ?_
      refine lv_iload hx hb dL_acts_1146 (lv_at hl 11 rfl) ?_
      refine rMi (vx_runSW (As := [.ref (ad 0), .int (nI i)]) (rest := []) ⟨hx, hb, hml, hown, hts⟩ (c_L_failuresOf l hst D cy ad σ sz (nI i) (nI n8) ((wF hi).trans x5)) (vx_cwSW 2 hts gL_acts_L_failuresOf rfl rfl rfl (by decide +kernel) ⟨Nat.le_of_ble_eq_true rfl, Nat.le_of_ble_eq_true rfl⟩) ⟨cx_bl, cx_S hP.left.left hK Az_z hxk hS⟩ rfl rfl hl.1 rfl (lv_room (Nat.le_of_ble_eq_true rfl)) dL_acts_1148 ⟨by show _ ≤ 60; omega, by show _ ≤ 360; omega⟩) hS (fun H locs hS hg => ?_)
      have hP := hP.grown hg
      refine W.eq (g2 := F0 m 1151 ls [.int (nI n8)]) rfl ?_
      refine lv_iload hx hb dL_acts_1151 (lv_at hl 12 rfl) ?_
      refine lv_iconst (v := 3) hx hb dL_acts_1153 (by decide) ?_
      refine lv_icmp_eq (tgt := 1162) hx hb dL_acts_1154 (by decide) (fun c_51 => absurd c_51 ((by decide : ¬ (7 : Int32) = 3))) (fun c_51 => ?_)
      refine lv_iload hx hb dL_acts_1157 (lv_at hl 1 rfl) ?_
      refine lv_goto (tgt := 1175) hx hb dL_acts_1159 (by decide) ?_
      refine lv_icmp_ne (tgt := 1182) hx hb dL_acts_1175 (by decide) (fun c_52 => absurd (rfl) c_52) (fun c_52 => ?_)
      refine lv_iconst (v := 1) hx hb dL_acts_1178 (by decide) ?_
      refine lv_goto (tgt := 1183) hx hb dL_acts_1179 (by decide) ?_
      refine W.widen (k := 60) (n := 360) (by omega) (by omega) ?_
      have hpo : OKs h (N + 70) fa fm fb σ := hO.le (by omega)
      exact W.zret (v := 1) hx hb hr rfl (fun t ht hW => ⟨⟨_, (), rfl, rfl, ⟨_, _, _, _, by rw [ht]; exact hP, hpo⟩⟩, hS.F ht⟩) hS.2.2 dL_acts_1183
  · have d_1 := Int32.not_le.mp c_1
    refine lv_iconst (v := 1) hx hb dL_acts_1065 (by decide) ?_
    refine lv_goto (tgt := 1070) hx hb dL_acts_1066 (by decide) ?_
    have hI := hO.1
    obtain ⟨s8, r8, n8, x1, x2, x3, x4, x5, x6, x7, x8, x9, x10, x11⟩ := hI.2.1 i hi
    obtain ⟨q8, q1, q2, q3⟩ := hI.2.2.1.2.1
    rcases (show s8 = 0 ∨ s8 = 1 ∨ s8 = 2 ∨ s8 = 3 ∨ s8 = 4 ∨ s8 = 5 ∨ s8 = 6 ∨ s8 = 7 by omega) with rfl | rfl | rfl | rfl | rfl | rfl | rfl | rfl
    · have xs : σ 1 i = 0 := x2
      rw [xs] at hl
      have hl : lv_has ls 17 [(0, .ref (ad 0)), (1, .ref (ad2 0)), (2, .ref qa), (3, .ref qm), (4, .ref qb), (5, .int zx), (6, .int zy), (7, .int (nI j4)), (8, .int (nI i)), (9, .int 0)] := hl
      refine lv_istore (lv' := [(10, .int 1), (0, .ref (ad 0)), (1, .ref (ad2 0)), (2, .ref qa), (3, .ref qm), (4, .ref qb), (5, .int zx), (6, .int zy), (7, .int (nI j4)), (8, .int (nI i)), (9, .int 0)]) hx hb dL_acts_1070 hl (by decide) rfl (fun ls hl => ?_)
      refine lv_aload_n hx hb dL_acts_1072 rfl (lv_at hl 1 rfl) ?_
      refine lv_iload hx hb dL_acts_1073 (lv_at hl 9 rfl) ?_
      refine rMi (vx_runSW (As := [.ref (ad 0), .int (nI i)]) (rest := []) ⟨hx, hb, hml, hown, hts⟩ (c_L_failuresOf l hst D cy ad σ sz (nI i) (nI n8) ((wF hi).trans x5)) (vx_cwSW 2 hts gL_acts_L_failuresOf rfl rfl rfl (by decide +kernel) ⟨Nat.le_of_ble_eq_true rfl, Nat.le_of_ble_eq_true rfl⟩) ⟨cx_bl, cx_S hP.left.left hK Az_z hxk hS⟩ rfl rfl hl.1 rfl (lv_room (Nat.le_of_ble_eq_true rfl)) dL_acts_1075 ⟨by show _ ≤ 60; omega, by show _ ≤ 360; omega⟩) hS (fun H locs hS hg => ?_)
      have hP := hP.grown hg
      refine W.eq (g2 := F0 m 1078 ls [.int (nI n8)]) rfl ?_
      refine lv_istore (lv' := [(11, .int (nI n8)), (10, .int 1), (0, .ref (ad 0)), (1, .ref (ad2 0)), (2, .ref qa), (3, .ref qm), (4, .ref qb), (5, .int zx), (6, .int zy), (7, .int (nI j4)), (8, .int (nI i)), (9, .int 0)]) hx hb dL_acts_1078 hl (by decide) rfl (fun ls hl => ?_)
      refine lv_iload hx hb dL_acts_1080 (lv_at hl 11 rfl) ?_
      refine lv_iconst (v := 3) hx hb dL_acts_1082 (by decide) ?_
      refine lv_icmp_eq (tgt := 1091) hx hb dL_acts_1083 (by decide) (fun c_53 => absurd c_53 ((by decide : ¬ (0 : Int32) = 3))) (fun c_53 => ?_)
      refine lv_ldc (v := (-1000003)) hx hb hown (hts (.constant RL 47 (-1000003)) (by decide +kernel)) dL_acts_1086 ?_
      refine lv_goto (tgt := 1117) hx hb dL_acts_1088 (by decide) ?_
      refine lv_istore (lv' := [(12, .int (-1000003)), (11, .int (nI n8)), (10, .int 1), (0, .ref (ad 0)), (1, .ref (ad2 0)), (2, .ref qa), (3, .ref qm), (4, .ref qb), (5, .int zx), (6, .int zy), (7, .int (nI j4)), (8, .int (nI i)), (9, .int 0)]) hx hb dL_acts_1117 hl (by decide) rfl (fun ls hl => ?_)
      refine lv_aload_n hx hb dL_acts_1119 rfl (lv_at hl 3 rfl) ?_
      refine lv_iload hx hb dL_acts_1120 (lv_at hl 11 rfl) ?_
      refine lv_iload hx hb dL_acts_1122 (lv_at hl 2 rfl) ?_
      obtain ⟨hTo, hTt⟩ := noT_D hD
      refine lMi (fun q ⟨j9, h1, h2⟩ => by rw [h2]; exact hz j9 h1) (vx_runSW (As := [.ref (ad 0), .int (nI i), .int 1]) (rest := []) ⟨hx, hb, hml, hown, hts⟩ (c_L_finish l hst D cy ad hj σ sz (nI i) true ((-1000003)) (by rw [(kF_2 hi (lit_ne (a := 0) (b := 3) x2 (by omega) (by omega) (by decide)))]; exact w13_2 _) σ (if_neg (by rw [(kF_2 hi (lit_ne (a := 0) (b := 3) x2 (by omega) (by omega) (by decide)))]; decide))) (vx_cwSW 3 hts gL_acts_L_finish rfl rfl rfl (by decide +kernel) ⟨Nat.le_of_ble_eq_true rfl, Nat.le_of_ble_eq_true rfl⟩) ⟨cx_bl, cx_S hP.left.left hK Az_z hxk hS⟩ rfl rfl hl.1 rfl (lv_room (Nat.le_of_ble_eq_true rfl)) dL_acts_1124 ⟨by show _ ≤ 60; omega, by show _ ≤ 360; omega⟩) hS (fun H locs hPW hS hk1 => ?_)
      have hP := setO hne hTo hP hPW hk1
      refine W.eq (g2 := F0 m 1127 ls [.int (-1000003)]) rfl ?_
      refine lv_iload hx hb dL_acts_1127 (lv_at hl 0 rfl) ?_
      refine lv_icmp_ne (tgt := 1182) hx hb dL_acts_1129 (by decide) (fun c_54 => absurd ((by decide : (-1000003 : Int32) = -1000003)) c_54) (fun c_54 => ?_)
      refine lv_aload_n hx hb dL_acts_1132 rfl (lv_at hl 4 rfl) ?_
      refine lv_iload hx hb dL_acts_1133 (lv_at hl 11 rfl) ?_
      refine lv_iload hx hb dL_acts_1135 (lv_at hl 2 rfl) ?_
      refine lMi (fun q ⟨j9, h1, h2⟩ => by rw [h2]; exact hz2 j9 h1) (vx_runSW (As := [.ref (ad2 0), .int (nI i), .int 1]) (rest := []) ⟨hx, hb, hml, hown, hts⟩ (c_L_finish l hst D cy ad2 hj2 σ sz (nI i) true ((-1000003)) (by rw [(kF_2 hi (lit_ne (a := 0) (b := 3) x2 (by omega) (by omega) (by decide)))]; exact w13_2 _) σ (if_neg (by rw [(kF_2 hi (lit_ne (a := 0) (b := 3) x2 (by omega) (by omega) (by decide)))]; decide))) (vx_cwSW 3 hts gL_acts_L_finish rfl rfl rfl (by decide +kernel) ⟨Nat.le_of_ble_eq_true rfl, Nat.le_of_ble_eq_true rfl⟩) ⟨cx_bl, cx_S hP.left.right hK Az_z hxk hS⟩ rfl rfl hl.1 rfl (lv_room (Nat.le_of_ble_eq_true rfl)) dL_acts_1137 ⟨by show _ ≤ 60; omega, by show _ ≤ 360; omega⟩) hS (fun H locs hPW hS hk1 => ?_)
      have hP := setT hne hTt hP hPW hk1
      refine W.eq (g2 := F0 m 1140 ls [.int (-1000003)]) rfl ?_
      refine lv_iload hx hb dL_acts_1140 (lv_at hl 0 rfl) ?_
      refine lv_icmp_ne (tgt := 1182) hx hb dL_acts_1142 (by decide) (fun c_55 => absurd ((by decide : (-1000003 : Int32) = -1000003)) c_55) (fun c_55 => ?_)
      refine lv_aload_n hx hb dL_acts_1145 rfl (lv_at hl 3 rfl) ?_
      refine lv_iload hx hb dL_acts_1146 (lv_at hl 11 rfl) ?_
      refine rMi (vx_runSW (As := [.ref (ad 0), .int (nI i)]) (rest := []) ⟨hx, hb, hml, hown, hts⟩ (c_L_failuresOf l hst D cy ad σ sz (nI i) (nI n8) ((wF hi).trans x5)) (vx_cwSW 2 hts gL_acts_L_failuresOf rfl rfl rfl (by decide +kernel) ⟨Nat.le_of_ble_eq_true rfl, Nat.le_of_ble_eq_true rfl⟩) ⟨cx_bl, cx_S hP.left.left hK Az_z hxk hS⟩ rfl rfl hl.1 rfl (lv_room (Nat.le_of_ble_eq_true rfl)) dL_acts_1148 ⟨by show _ ≤ 60; omega, by show _ ≤ 360; omega⟩) hS (fun H locs hS hg => ?_)
      have hP := hP.grown hg
      refine W.eq (g2 := F0 m 1151 ls [.int (nI n8)]) rfl ?_
      refine lv_iload hx hb dL_acts_1151 (lv_at hl 12 rfl) ?_
      refine lv_iconst (v := 3) hx hb dL_acts_1153 (by decide) ?_
      refine lv_icmp_eq (tgt := 1162) hx hb dL_acts_1154 (by decide) (fun c_56 => absurd c_56 ((by decide : ¬ (0 : Int32) = 3))) (fun c_56 => ?_)
      refine lv_iload hx hb dL_acts_1157 (lv_at hl 1 rfl) ?_
      refine lv_goto (tgt := 1175) hx hb dL_acts_1159 (by decide) ?_
      refine lv_icmp_ne (tgt := 1182) hx hb dL_acts_1175 (by decide) (fun c_57 => absurd (rfl) c_57) (fun c_57 => ?_)
      refine lv_iconst (v := 1) hx hb dL_acts_1178 (by decide) ?_
      refine lv_goto (tgt := 1183) hx hb dL_acts_1179 (by decide) ?_
      refine W.widen (k := 60) (n := 360) (by omega) (by omega) ?_
      have hpo : OKs h (N + 70) fa fm fb σ := hO.le (by omega)
      exact W.zret (v := 1) hx hb hr rfl (fun t ht hW => ⟨⟨_, (), rfl, rfl, ⟨_, _, _, _, by rw [ht]; exact hP, hpo⟩⟩, hS.F ht⟩) hS.2.2 dL_acts_1183
    · have xs : σ 1 i = 1 := x2
      rw [xs] at hl
      have hl : lv_has ls 17 [(0, .ref (ad 0)), (1, .ref (ad2 0)), (2, .ref qa), (3, .ref qm), (4, .ref qb), (5, .int zx), (6, .int zy), (7, .int (nI j4)), (8, .int (nI i)), (9, .int 1)] := hl
      refine lv_istore (lv' := [(10, .int 1), (0, .ref (ad 0)), (1, .ref (ad2 0)), (2, .ref qa), (3, .ref qm), (4, .ref qb), (5, .int zx), (6, .int zy), (7, .int (nI j4)), (8, .int (nI i)), (9, .int 1)]) hx hb dL_acts_1070 hl (by decide) rfl (fun ls hl => ?_)
      refine lv_aload_n hx hb dL_acts_1072 rfl (lv_at hl 1 rfl) ?_
      refine lv_iload hx hb dL_acts_1073 (lv_at hl 9 rfl) ?_
      refine rMi (vx_runSW (As := [.ref (ad 0), .int (nI i)]) (rest := []) ⟨hx, hb, hml, hown, hts⟩ (c_L_failuresOf l hst D cy ad σ sz (nI i) (nI n8) ((wF hi).trans x5)) (vx_cwSW 2 hts gL_acts_L_failuresOf rfl rfl rfl (by decide +kernel) ⟨Nat.le_of_ble_eq_true rfl, Nat.le_of_ble_eq_true rfl⟩) ⟨cx_bl, cx_S hP.left.left hK Az_z hxk hS⟩ rfl rfl hl.1 rfl (lv_room (Nat.le_of_ble_eq_true rfl)) dL_acts_1075 ⟨by show _ ≤ 60; omega, by show _ ≤ 360; omega⟩) hS (fun H locs hS hg => ?_)
      have hP := hP.grown hg
      refine W.eq (g2 := F0 m 1078 ls [.int (nI n8)]) rfl ?_
      refine lv_istore (lv' := [(11, .int (nI n8)), (10, .int 1), (0, .ref (ad 0)), (1, .ref (ad2 0)), (2, .ref qa), (3, .ref qm), (4, .ref qb), (5, .int zx), (6, .int zy), (7, .int (nI j4)), (8, .int (nI i)), (9, .int 1)]) hx hb dL_acts_1078 hl (by decide) rfl (fun ls hl => ?_)
      refine lv_iload hx hb dL_acts_1080 (lv_at hl 11 rfl) ?_
      refine lv_iconst (v := 3) hx hb dL_acts_1082 (by decide) ?_
      refine lv_icmp_eq (tgt := 1091) hx hb dL_acts_1083 (by decide) (fun c_58 => absurd c_58 ((by decide : ¬ (1 : Int32) = 3))) (fun c_58 => ?_)
      refine lv_ldc (v := (-1000003)) hx hb hown (hts (.constant RL 47 (-1000003)) (by decide +kernel)) dL_acts_1086 ?_
      refine lv_goto (tgt := 1117) hx hb dL_acts_1088 (by decide) ?_
      refine lv_istore (lv' := [(12, .int (-1000003)), (11, .int (nI n8)), (10, .int 1), (0, .ref (ad 0)), (1, .ref (ad2 0)), (2, .ref qa), (3, .ref qm), (4, .ref qb), (5, .int zx), (6, .int zy), (7, .int (nI j4)), (8, .int (nI i)), (9, .int 1)]) hx hb dL_acts_1117 hl (by decide) rfl (fun ls hl => ?_)
      refine lv_aload_n hx hb dL_acts_1119 rfl (lv_at hl 3 rfl) ?_
      refine lv_iload hx hb dL_acts_1120 (lv_at hl 11 rfl) ?_
      refine lv_iload hx hb dL_acts_1122 (lv_at hl 2 rfl) ?_
      obtain ⟨hTo, hTt⟩ := noT_D hD
      refine lMi (fun q ⟨j9, h1, h2⟩ => by rw [h2]; exact hz j9 h1) (vx_runSW (As := [.ref (ad 0), .int (nI i), .int 1]) (rest := []) ⟨hx, hb, hml, hown, hts⟩ (c_L_finish l hst D cy ad hj σ sz (nI i) true ((-1000003)) (by rw [(kF_2 hi (lit_ne (a := 1) (b := 3) x2 (by omega) (by omega) (by decide)))]; exact w13_2 _) σ (if_neg (by rw [(kF_2 hi (lit_ne (a := 1) (b := 3) x2 (by omega) (by omega) (by decide)))]; decide))) (vx_cwSW 3 hts gL_acts_L_finish rfl rfl rfl (by decide +kernel) ⟨Nat.le_of_ble_eq_true rfl, Nat.le_of_ble_eq_true rfl⟩) ⟨cx_bl, cx_S hP.left.left hK Az_z hxk hS⟩ rfl rfl hl.1 rfl (lv_room (Nat.le_of_ble_eq_true rfl)) dL_acts_1124 ⟨by show _ ≤ 60; omega, by show _ ≤ 360; omega⟩) hS (fun H locs hPW hS hk1 => ?_)
      have hP := setO hne hTo hP hPW hk1
      refine W.eq (g2 := F0 m 1127 ls [.int (-1000003)]) rfl ?_
      refine lv_iload hx hb dL_acts_1127 (lv_at hl 0 rfl) ?_
      refine lv_icmp_ne (tgt := 1182) hx hb dL_acts_1129 (by decide) (fun c_59 => absurd ((by decide : (-1000003 : Int32) = -1000003)) c_59) (fun c_59 => ?_)
      refine lv_aload_n hx hb dL_acts_1132 rfl (lv_at hl 4 rfl) ?_
      refine lv_iload hx hb dL_acts_1133 (lv_at hl 11 rfl) ?_
      refine lv_iload hx hb dL_acts_1135 (lv_at hl 2 rfl) ?_
      refine lMi (fun q ⟨j9, h1, h2⟩ => by rw [h2]; exact hz2 j9 h1) (vx_runSW (As := [.ref (ad2 0), .int (nI i), .int 1]) (rest := []) ⟨hx, hb, hml, hown, hts⟩ (c_L_finish l hst D cy ad2 hj2 σ sz (nI i) true ((-1000003)) (by rw [(kF_2 hi (lit_ne (a := 1) (b := 3) x2 (by omega) (by omega) (by decide)))]; exact w13_2 _) σ (if_neg (by rw [(kF_2 hi (lit_ne (a := 1) (b := 3) x2 (by omega) (by omega) (by decide)))]; decide))) (vx_cwSW 3 hts gL_acts_L_finish rfl rfl rfl (by decide +kernel) ⟨Nat.le_of_ble_eq_true rfl, Nat.le_of_ble_eq_true rfl⟩) ⟨cx_bl, cx_S hP.left.right hK Az_z hxk hS⟩ rfl rfl hl.1 rfl (lv_room (Nat.le_of_ble_eq_true rfl)) dL_acts_1137 ⟨by show _ ≤ 60; omega, by show _ ≤ 360; omega⟩) hS (fun H locs hPW hS hk1 => ?_)
      have hP := setT hne hTt hP hPW hk1
      refine W.eq (g2 := F0 m 1140 ls [.int (-1000003)]) rfl ?_
      refine lv_iload hx hb dL_acts_1140 (lv_at hl 0 rfl) ?_
      refine lv_icmp_ne (tgt := 1182) hx hb dL_acts_1142 (by decide) (fun c_60 => absurd ((by decide : (-1000003 : Int32) = -1000003)) c_60) (fun c_60 => ?_)
      refine lv_aload_n hx hb dL_acts_1145 rfl (lv_at hl 3 rfl) ?_
      refine lv_iload hx hb dL_acts_1146 (lv_at hl 11 rfl) ?_
      refine rMi (vx_runSW (As := [.ref (ad 0), .int (nI i)]) (rest := []) ⟨hx, hb, hml, hown, hts⟩ (c_L_failuresOf l hst D cy ad σ sz (nI i) (nI n8) ((wF hi).trans x5)) (vx_cwSW 2 hts gL_acts_L_failuresOf rfl rfl rfl (by decide +kernel) ⟨Nat.le_of_ble_eq_true rfl, Nat.le_of_ble_eq_true rfl⟩) ⟨cx_bl, cx_S hP.left.left hK Az_z hxk hS⟩ rfl rfl hl.1 rfl (lv_room (Nat.le_of_ble_eq_true rfl)) dL_acts_1148 ⟨by show _ ≤ 60; omega, by show _ ≤ 360; omega⟩) hS (fun H locs hS hg => ?_)
      have hP := hP.grown hg
      refine W.eq (g2 := F0 m 1151 ls [.int (nI n8)]) rfl ?_
      refine lv_iload hx hb dL_acts_1151 (lv_at hl 12 rfl) ?_
      refine lv_iconst (v := 3) hx hb dL_acts_1153 (by decide) ?_
      refine lv_icmp_eq (tgt := 1162) hx hb dL_acts_1154 (by decide) (fun c_61 => absurd c_61 ((by decide : ¬ (1 : Int32) = 3))) (fun c_61 => ?_)
      refine lv_iload hx hb dL_acts_1157 (lv_at hl 1 rfl) ?_
      refine lv_goto (tgt := 1175) hx hb dL_acts_1159 (by decide) ?_
      refine lv_icmp_ne (tgt := 1182) hx hb dL_acts_1175 (by decide) (fun c_62 => absurd (rfl) c_62) (fun c_62 => ?_)
      refine lv_iconst (v := 1) hx hb dL_acts_1178 (by decide) ?_
      refine lv_goto (tgt := 1183) hx hb dL_acts_1179 (by decide) ?_
      refine W.widen (k := 60) (n := 360) (by omega) (by omega) ?_
      have hpo : OKs h (N + 70) fa fm fb σ := hO.le (by omega)
      exact W.zret (v := 1) hx hb hr rfl (fun t ht hW => ⟨⟨_, (), rfl, rfl, ⟨_, _, _, _, by rw [ht]; exact hP, hpo⟩⟩, hS.F ht⟩) hS.2.2 dL_acts_1183
    · have xs : σ 1 i = 2 := x2
      rw [xs] at hl
      have hl : lv_has ls 17 [(0, .ref (ad 0)), (1, .ref (ad2 0)), (2, .ref qa), (3, .ref qm), (4, .ref qb), (5, .int zx), (6, .int zy), (7, .int (nI j4)), (8, .int (nI i)), (9, .int 2)] := hl
      refine lv_istore (lv' := [(10, .int 1), (0, .ref (ad 0)), (1, .ref (ad2 0)), (2, .ref qa), (3, .ref qm), (4, .ref qb), (5, .int zx), (6, .int zy), (7, .int (nI j4)), (8, .int (nI i)), (9, .int 2)]) hx hb dL_acts_1070 hl (by decide) rfl (fun ls hl => ?_)
      refine lv_aload_n hx hb dL_acts_1072 rfl (lv_at hl 1 rfl) ?_
      refine lv_iload hx hb dL_acts_1073 (lv_at hl 9 rfl) ?_
      refine rMi (vx_runSW (As := [.ref (ad 0), .int (nI i)]) (rest := []) ⟨hx, hb, hml, hown, hts⟩ (c_L_failuresOf l hst D cy ad σ sz (nI i) (nI n8) ((wF hi).trans x5)) (vx_cwSW 2 hts gL_acts_L_failuresOf rfl rfl rfl (by decide +kernel) ⟨Nat.le_of_ble_eq_true rfl, Nat.le_of_ble_eq_true rfl⟩) ⟨cx_bl, cx_S hP.left.left hK Az_z hxk hS⟩ rfl rfl hl.1 rfl (lv_room (Nat.le_of_ble_eq_true rfl)) dL_acts_1075 ⟨by show _ ≤ 60; omega, by show _ ≤ 360; omega⟩) hS (fun H locs hS hg => ?_)
      have hP := hP.grown hg
      refine W.eq (g2 := F0 m 1078 ls [.int (nI n8)]) rfl ?_
      refine lv_istore (lv' := [(11, .int (nI n8)), (10, .int 1), (0, .ref (ad 0)), (1, .ref (ad2 0)), (2, .ref qa), (3, .ref qm), (4, .ref qb), (5, .int zx), (6, .int zy), (7, .int (nI j4)), (8, .int (nI i)), (9, .int 2)]) hx hb dL_acts_1078 hl (by decide) rfl (fun ls hl => ?_)
      refine lv_iload hx hb dL_acts_1080 (lv_at hl 11 rfl) ?_
      refine lv_iconst (v := 3) hx hb dL_acts_1082 (by decide) ?_
      refine lv_icmp_eq (tgt := 1091) hx hb dL_acts_1083 (by decide) (fun c_63 => absurd c_63 ((by decide : ¬ (2 : Int32) = 3))) (fun c_63 => ?_)
      refine lv_ldc (v := (-1000003)) hx hb hown (hts (.constant RL 47 (-1000003)) (by decide +kernel)) dL_acts_1086 ?_
      refine lv_goto (tgt := 1117) hx hb dL_acts_1088 (by decide) ?_
      refine lv_istore (lv' := [(12, .int (-1000003)), (11, .int (nI n8)), (10, .int 1), (0, .ref (ad 0)), (1, .ref (ad2 0)), (2, .ref qa), (3, .ref qm), (4, .ref qb), (5, .int zx), (6, .int zy), (7, .int (nI j4)), (8, .int (nI i)), (9, .int 2)]) hx hb dL_acts_1117 hl (by decide) rfl (fun ls hl => ?_)
      refine lv_aload_n hx hb dL_acts_1119 rfl (lv_at hl 3 rfl) ?_
      refine lv_iload hx hb dL_acts_1120 (lv_at hl 11 rfl) ?_
      refine lv_iload hx hb dL_acts_1122 (lv_at hl 2 rfl) ?_
      obtain ⟨hTo, hTt⟩ := noT_D hD
      refine lMi (fun q ⟨j9, h1, h2⟩ => by rw [h2]; exact hz j9 h1) (vx_runSW (As := [.ref (ad 0), .int (nI i), .int 1]) (rest := []) ⟨hx, hb, hml, hown, hts⟩ (c_L_finish l hst D cy ad hj σ sz (nI i) true ((-1000003)) (by rw [(kF_2 hi (lit_ne (a := 2) (b := 3) x2 (by omega) (by omega) (by decide)))]; exact w13_2 _) σ (if_neg (by rw [(kF_2 hi (lit_ne (a := 2) (b := 3) x2 (by omega) (by omega) (by decide)))]; decide))) (vx_cwSW 3 hts gL_acts_L_finish rfl rfl rfl (by decide +kernel) ⟨Nat.le_of_ble_eq_true rfl, Nat.le_of_ble_eq_true rfl⟩) ⟨cx_bl, cx_S hP.left.left hK Az_z hxk hS⟩ rfl rfl hl.1 rfl (lv_room (Nat.le_of_ble_eq_true rfl)) dL_acts_1124 ⟨by show _ ≤ 60; omega, by show _ ≤ 360; omega⟩) hS (fun H locs hPW hS hk1 => ?_)
      have hP := setO hne hTo hP hPW hk1
      refine W.eq (g2 := F0 m 1127 ls [.int (-1000003)]) rfl ?_
      refine lv_iload hx hb dL_acts_1127 (lv_at hl 0 rfl) ?_
      refine lv_icmp_ne (tgt := 1182) hx hb dL_acts_1129 (by decide) (fun c_64 => absurd ((by decide : (-1000003 : Int32) = -1000003)) c_64) (fun c_64 => ?_)
      refine lv_aload_n hx hb dL_acts_1132 rfl (lv_at hl 4 rfl) ?_
      refine lv_iload hx hb dL_acts_1133 (lv_at hl 11 rfl) ?_
      refine lv_iload hx hb dL_acts_1135 (lv_at hl 2 rfl) ?_
      refine lMi (fun q ⟨j9, h1, h2⟩ => by rw [h2]; exact hz2 j9 h1) (vx_runSW (As := [.ref (ad2 0), .int (nI i), .int 1]) (rest := []) ⟨hx, hb, hml, hown, hts⟩ (c_L_finish l hst D cy ad2 hj2 σ sz (nI i) true ((-1000003)) (by rw [(kF_2 hi (lit_ne (a := 2) (b := 3) x2 (by omega) (by omega) (by decide)))]; exact w13_2 _) σ (if_neg (by rw [(kF_2 hi (lit_ne (a := 2) (b := 3) x2 (by omega) (by omega) (by decide)))]; decide))) (vx_cwSW 3 hts gL_acts_L_finish rfl rfl rfl (by decide +kernel) ⟨Nat.le_of_ble_eq_true rfl, Nat.le_of_ble_eq_true rfl⟩) ⟨cx_bl, cx_S hP.left.right hK Az_z hxk hS⟩ rfl rfl hl.1 rfl (lv_room (Nat.le_of_ble_eq_true rfl)) dL_acts_1137 ⟨by show _ ≤ 60; omega, by show _ ≤ 360; omega⟩) hS (fun H locs hPW hS hk1 => ?_)
      have hP := setT hne hTt hP hPW hk1
      refine W.eq (g2 := F0 m 1140 ls [.int (-1000003)]) rfl ?_
      refine lv_iload hx hb dL_acts_1140 (lv_at hl 0 rfl) ?_
      refine lv_icmp_ne (tgt := 1182) hx hb dL_acts_1142 (by decide) (fun c_65 => absurd ((by decide : (-1000003 : Int32) = -1000003)) c_65) (fun c_65 => ?_)
      refine lv_aload_n hx hb dL_acts_1145 rfl (lv_at hl 3 rfl) ?_
      refine lv_iload hx hb dL_acts_1146 (lv_at hl 11 rfl) ?_
      refine rMi (vx_runSW (As := [.ref (ad 0), .int (nI i)]) (rest := []) ⟨hx, hb, hml, hown, hts⟩ (c_L_failuresOf l hst D cy ad σ sz (nI i) (nI n8) ((wF hi).trans x5)) (vx_cwSW 2 hts gL_acts_L_failuresOf rfl rfl rfl (by decide +kernel) ⟨Nat.le_of_ble_eq_true rfl, Nat.le_of_ble_eq_true rfl⟩) ⟨cx_bl, cx_S hP.left.left hK Az_z hxk hS⟩ rfl rfl hl.1 rfl (lv_room (Nat.le_of_ble_eq_true rfl)) dL_acts_1148 ⟨by show _ ≤ 60; omega, by show _ ≤ 360; omega⟩) hS (fun H locs hS hg => ?_)
      have hP := hP.grown hg
      refine W.eq (g2 := F0 m 1151 ls [.int (nI n8)]) rfl ?_
      refine lv_iload hx hb dL_acts_1151 (lv_at hl 12 rfl) ?_
      refine lv_iconst (v := 3) hx hb dL_acts_1153 (by decide) ?_
      refine lv_icmp_eq (tgt := 1162) hx hb dL_acts_1154 (by decide) (fun c_66 => absurd c_66 ((by decide : ¬ (2 : Int32) = 3))) (fun c_66 => ?_)
      refine lv_iload hx hb dL_acts_1157 (lv_at hl 1 rfl) ?_
      refine lv_goto (tgt := 1175) hx hb dL_acts_1159 (by decide) ?_
      refine lv_icmp_ne (tgt := 1182) hx hb dL_acts_1175 (by decide) (fun c_67 => absurd (rfl) c_67) (fun c_67 => ?_)
      refine lv_iconst (v := 1) hx hb dL_acts_1178 (by decide) ?_
      refine lv_goto (tgt := 1183) hx hb dL_acts_1179 (by decide) ?_
      refine W.widen (k := 60) (n := 360) (by omega) (by omega) ?_
      have hpo : OKs h (N + 70) fa fm fb σ := hO.le (by omega)
      exact W.zret (v := 1) hx hb hr rfl (fun t ht hW => ⟨⟨_, (), rfl, rfl, ⟨_, _, _, _, by rw [ht]; exact hP, hpo⟩⟩, hS.F ht⟩) hS.2.2 dL_acts_1183
    · have xs : σ 1 i = 3 := x2
      rw [xs] at hl
      have hl : lv_has ls 17 [(0, .ref (ad 0)), (1, .ref (ad2 0)), (2, .ref qa), (3, .ref qm), (4, .ref qb), (5, .int zx), (6, .int zy), (7, .int (nI j4)), (8, .int (nI i)), (9, .int 3)] := hl
      obtain ⟨aO, at9, af9⟩ := a_good hO (by omega) hi xs
      refine lv_istore (lv' := [(10, .int 1), (0, .ref (ad 0)), (1, .ref (ad2 0)), (2, .ref qa), (3, .ref qm), (4, .ref qb), (5, .int zx), (6, .int zy), (7, .int (nI j4)), (8, .int (nI i)), (9, .int 3)]) hx hb dL_acts_1070 hl (by decide) rfl (fun ls hl => ?_)
      refine lv_aload_n hx hb dL_acts_1072 rfl (lv_at hl 1 rfl) ?_
      refine lv_iload hx hb dL_acts_1073 (lv_at hl 9 rfl) ?_
      refine rMi (vx_runSW (As := [.ref (ad 0), .int (nI i)]) (rest := []) ⟨hx, hb, hml, hown, hts⟩ (c_L_failuresOf l hst D cy ad σ sz (nI i) (nI n8) ((wF hi).trans x5)) (vx_cwSW 2 hts gL_acts_L_failuresOf rfl rfl rfl (by decide +kernel) ⟨Nat.le_of_ble_eq_true rfl, Nat.le_of_ble_eq_true rfl⟩) ⟨cx_bl, cx_S hP.left.left hK Az_z hxk hS⟩ rfl rfl hl.1 rfl (lv_room (Nat.le_of_ble_eq_true rfl)) dL_acts_1075 ⟨by show _ ≤ 60; omega, by show _ ≤ 360; omega⟩) hS (fun H locs hS hg => ?_)
      have hP := hP.grown hg
      refine W.eq (g2 := F0 m 1078 ls [.int (nI n8)]) rfl ?_
      refine lv_istore (lv' := [(11, .int (nI n8)), (10, .int 1), (0, .ref (ad 0)), (1, .ref (ad2 0)), (2, .ref qa), (3, .ref qm), (4, .ref qb), (5, .int zx), (6, .int zy), (7, .int (nI j4)), (8, .int (nI i)), (9, .int 3)]) hx hb dL_acts_1078 hl (by decide) rfl (fun ls hl => ?_)
      refine lv_iload hx hb dL_acts_1080 (lv_at hl 11 rfl) ?_
      refine lv_iconst (v := 3) hx hb dL_acts_1082 (by decide) ?_
      refine lv_icmp_eq (tgt := 1091) hx hb dL_acts_1083 (by decide) (fun c_68 => ?_) (fun c_68 => absurd ((by decide : (3 : Int32) = 3)) c_68)
      refine lv_iload hx hb dL_acts_1091 (lv_at hl 1 rfl) ?_
      refine lv_if_eq (tgt := 1100) hx hb dL_acts_1093 (by decide) (fun c_69 => absurd c_69 ((by decide : ¬ (1 : Int32) = 0))) (fun c_69 => ?_)
      refine lv_iconst (v := 5) hx hb dL_acts_1096 (by decide) ?_
      refine lv_goto (tgt := 1117) hx hb dL_acts_1097 (by decide) ?_
      refine lv_istore (lv' := [(12, .int 5), (11, .int (nI n8)), (10, .int 1), (0, .ref (ad 0)), (1, .ref (ad2 0)), (2, .ref qa), (3, .ref qm), (4, .ref qb), (5, .int zx), (6, .int zy), (7, .int (nI j4)), (8, .int (nI i)), (9, .int 3)]) hx hb dL_acts_1117 hl (by decide) rfl (fun ls hl => ?_)
      refine lv_aload_n hx hb dL_acts_1119 rfl (lv_at hl 3 rfl) ?_
      refine lv_iload hx hb dL_acts_1120 (lv_at hl 11 rfl) ?_
      refine lv_iload hx hb dL_acts_1122 (lv_at hl 2 rfl) ?_
      obtain ⟨hTo, hTt⟩ := noT_D hD
      refine lMi (fun q ⟨j9, h1, h2⟩ => by rw [h2]; exact hz j9 h1) (vx_runSW (As := [.ref (ad 0), .int (nI i), .int 1]) (rest := []) ⟨hx, hb, hml, hown, hts⟩ (c_L_finish l hst D cy ad hj σ sz (nI i) true (5) ((w13_0 (kF_0 hi xs)).trans ((rF_1 hi).trans at9)) (gFinish σ (nI i) true) (if_pos (kF_0 hi xs))) (vx_cwSW 3 hts gL_acts_L_finish rfl rfl rfl (by decide +kernel) ⟨Nat.le_of_ble_eq_true rfl, Nat.le_of_ble_eq_true rfl⟩) ⟨cx_bl, cx_S hP.left.left hK Az_z hxk hS⟩ rfl rfl hl.1 rfl (lv_room (Nat.le_of_ble_eq_true rfl)) dL_acts_1124 ⟨by show _ ≤ 60; omega, by show _ ≤ 360; omega⟩) hS (fun H locs hPW hS hk1 => ?_)
      have hP := setO hne hTo hP hPW hk1
      refine W.eq (g2 := F0 m 1127 ls [.int 5]) rfl ?_
      refine lv_iload hx hb dL_acts_1127 (lv_at hl 0 rfl) ?_
      refine lv_icmp_ne (tgt := 1182) hx hb dL_acts_1129 (by decide) (fun c_70 => absurd ((by decide : (5 : Int32) = 5)) c_70) (fun c_70 => ?_)
      refine lv_aload_n hx hb dL_acts_1132 rfl (lv_at hl 4 rfl) ?_
      refine lv_iload hx hb dL_acts_1133 (lv_at hl 11 rfl) ?_
      refine lv_iload hx hb dL_acts_1135 (lv_at hl 2 rfl) ?_
      refine lMi (fun q ⟨j9, h1, h2⟩ => by rw [h2]; exact hz2 j9 h1) (vx_runSW (As := [.ref (ad2 0), .int (nI i), .int 1]) (rest := []) ⟨hx, hb, hml, hown, hts⟩ (c_L_finish l hst D cy ad2 hj2 σ sz (nI i) true (5) ((w13_0 (kF_0 hi xs)).trans ((rF_1 hi).trans at9)) (gFinish σ (nI i) true) (if_pos (kF_0 hi xs))) (vx_cwSW 3 hts gL_acts_L_finish rfl rfl rfl (by decide +kernel) ⟨Nat.le_of_ble_eq_true rfl, Nat.le_of_ble_eq_true rfl⟩) ⟨cx_bl, cx_S hP.left.right hK Az_z hxk hS⟩ rfl rfl hl.1 rfl (lv_room (Nat.le_of_ble_eq_true rfl)) dL_acts_1137 ⟨by show _ ≤ 60; omega, by show _ ≤ 360; omega⟩) hS (fun H locs hPW hS hk1 => ?_)
      have hP := setT hne hTt hP hPW hk1
      refine W.eq (g2 := F0 m 1140 ls [.int 5]) rfl ?_
      refine lv_iload hx hb dL_acts_1140 (lv_at hl 0 rfl) ?_
      refine lv_icmp_ne (tgt := 1182) hx hb dL_acts_1142 (by decide) (fun c_71 => absurd ((by decide : (5 : Int32) = 5)) c_71) (fun c_71 => ?_)
      refine lv_aload_n hx hb dL_acts_1145 rfl (lv_at hl 3 rfl) ?_
      refine lv_iload hx hb dL_acts_1146 (lv_at hl 11 rfl) ?_
      refine rMi (vx_runSW (As := [.ref (ad 0), .int (nI i)]) (rest := []) ⟨hx, hb, hml, hown, hts⟩ (c_L_failuresOf l hst D cy ad (gFinish σ (nI i) true) sz (nI i) (0) ((wF hi).trans af9)) (vx_cwSW 2 hts gL_acts_L_failuresOf rfl rfl rfl (by decide +kernel) ⟨Nat.le_of_ble_eq_true rfl, Nat.le_of_ble_eq_true rfl⟩) ⟨cx_bl, cx_S hP.left.left hK Az_z hxk hS⟩ rfl rfl hl.1 rfl (lv_room (Nat.le_of_ble_eq_true rfl)) dL_acts_1148 ⟨by show _ ≤ 60; omega, by show _ ≤ 360; omega⟩) hS (fun H locs hS hg => ?_)
      have hP := hP.grown hg
      refine W.eq (g2 := F0 m 1151 ls [.int 0]) rfl ?_
      refine lv_iload hx hb dL_acts_1151 (lv_at hl 12 rfl) ?_
      refine lv_iconst (v := 3) hx hb dL_acts_1153 (by decide) ?_
      refine lv_icmp_eq (tgt := 1162) hx hb dL_acts_1154 (by decide) (fun c_72 => ?_) (fun c_72 => absurd ((by decide : (3 : Int32) = 3)) c_72)
      refine lv_iload hx hb dL_acts_1162 (lv_at hl 2 rfl) ?_
      refine lv_if_eq (tgt := 1171) hx hb dL_acts_1164 (by decide) (fun c_73 => absurd c_73 ((by decide : ¬ (1 : Int32) = 0))) (fun c_73 => ?_)
      refine lv_iconst (v := 0) hx hb dL_acts_1167 (by decide) ?_
      refine lv_goto (tgt := 1175) hx hb dL_acts_1168 (by decide) ?_
      refine lv_icmp_ne (tgt := 1182) hx hb dL_acts_1175 (by decide) (fun c_74 => absurd ((by decide : (0 : Int32) = 0)) c_74) (fun c_74 => ?_)
      refine lv_iconst (v := 1) hx hb dL_acts_1178 (by decide) ?_
      refine lv_goto (tgt := 1183) hx hb dL_acts_1179 (by decide) ?_
      refine W.widen (k := 60) (n := 360) (by omega) (by omega) ?_
      have hpo : OKs h (N + 70) fa fm fb (gFinish σ (nI i) true) := aO.le (by omega)
      exact W.zret (v := 1) hx hb hr rfl (fun t ht hW => ⟨⟨_, (), rfl, rfl, ⟨_, _, _, _, by rw [ht]; exact hP, hpo⟩⟩, hS.F ht⟩) hS.2.2 dL_acts_1183
    · have xs : σ 1 i = 4 := x2
      rw [xs] at hl
      have hl : lv_has ls 17 [(0, .ref (ad 0)), (1, .ref (ad2 0)), (2, .ref qa), (3, .ref qm), (4, .ref qb), (5, .int zx), (6, .int zy), (7, .int (nI j4)), (8, .int (nI i)), (9, .int 4)] := hl
      refine lv_istore (lv' := [(10, .int 1), (0, .ref (ad 0)), (1, .ref (ad2 0)), (2, .ref qa), (3, .ref qm), (4, .ref qb), (5, .int zx), (6, .int zy), (7, .int (nI j4)), (8, .int (nI i)), (9, .int 4)]) hx hb dL_acts_1070 hl (by decide) rfl (fun ls hl => ?_)
      refine lv_aload_n hx hb dL_acts_1072 rfl (lv_at hl 1 rfl) ?_
      refine lv_iload hx hb dL_acts_1073 (lv_at hl 9 rfl) ?_
      refine rMi (vx_runSW (As := [.ref (ad 0), .int (nI i)]) (rest := []) ⟨hx, hb, hml, hown, hts⟩ (c_L_failuresOf l hst D cy ad σ sz (nI i) (nI n8) ((wF hi).trans x5)) (vx_cwSW 2 hts gL_acts_L_failuresOf rfl rfl rfl (by decide +kernel) ⟨Nat.le_of_ble_eq_true rfl, Nat.le_of_ble_eq_true rfl⟩) ⟨cx_bl, cx_S hP.left.left hK Az_z hxk hS⟩ rfl rfl hl.1 rfl (lv_room (Nat.le_of_ble_eq_true rfl)) dL_acts_1075 ⟨by show _ ≤ 60; omega, by show _ ≤ 360; omega⟩) hS (fun H locs hS hg => ?_)
      have hP := hP.grown hg
      refine W.eq (g2 := F0 m 1078 ls [.int (nI n8)]) rfl ?_
      refine lv_istore (lv' := [(11, .int (nI n8)), (10, .int 1), (0, .ref (ad 0)), (1, .ref (ad2 0)), (2, .ref qa), (3, .ref qm), (4, .ref qb), (5, .int zx), (6, .int zy), (7, .int (nI j4)), (8, .int (nI i)), (9, .int 4)]) hx hb dL_acts_1078 hl (by decide) rfl (fun ls hl => ?_)
      refine lv_iload hx hb dL_acts_1080 (lv_at hl 11 rfl) ?_
      refine lv_iconst (v := 3) hx hb dL_acts_1082 (by decide) ?_
      refine lv_icmp_eq (tgt := 1091) hx hb dL_acts_1083 (by decide) (fun c_75 => absurd c_75 ((by decide : ¬ (4 : Int32) = 3))) (fun c_75 => ?_)
      refine lv_ldc (v := (-1000003)) hx hb hown (hts (.constant RL 47 (-1000003)) (by decide +kernel)) dL_acts_1086 ?_
      refine lv_goto (tgt := 1117) hx hb dL_acts_1088 (by decide) ?_
      refine lv_istore (lv' := [(12, .int (-1000003)), (11, .int (nI n8)), (10, .int 1), (0, .ref (ad 0)), (1, .ref (ad2 0)), (2, .ref qa), (3, .ref qm), (4, .ref qb), (5, .int zx), (6, .int zy), (7, .int (nI j4)), (8, .int (nI i)), (9, .int 4)]) hx hb dL_acts_1117 hl (by decide) rfl (fun ls hl => ?_)
      refine lv_aload_n hx hb dL_acts_1119 rfl (lv_at hl 3 rfl) ?_
      refine lv_iload hx hb dL_acts_1120 (lv_at hl 11 rfl) ?_
      refine lv_iload hx hb dL_acts_1122 (lv_at hl 2 rfl) ?_
      obtain ⟨hTo, hTt⟩ := noT_D hD
      refine lMi (fun q ⟨j9, h1, h2⟩ => by rw [h2]; exact hz j9 h1) (vx_runSW (As := [.ref (ad 0), .int (nI i), .int 1]) (rest := []) ⟨hx, hb, hml, hown, hts⟩ (c_L_finish l hst D cy ad hj σ sz (nI i) true ((-1000003)) (by rw [(kF_2 hi (lit_ne (a := 4) (b := 3) x2 (by omega) (by omega) (by decide)))]; exact w13_2 _) σ (if_neg (by rw [(kF_2 hi (lit_ne (a := 4) (b := 3) x2 (by omega) (by omega) (by decide)))]; decide))) (vx_cwSW 3 hts gL_acts_L_finish rfl rfl rfl (by decide +kernel) ⟨Nat.le_of_ble_eq_true rfl, Nat.le_of_ble_eq_true rfl⟩) ⟨cx_bl, cx_S hP.left.left hK Az_z hxk hS⟩ rfl rfl hl.1 rfl (lv_room (Nat.le_of_ble_eq_true rfl)) dL_acts_1124 ⟨by show _ ≤ 60; omega, by show _ ≤ 360; omega⟩) hS (fun H locs hPW hS hk1 => ?_)
      have hP := setO hne hTo hP hPW hk1
      refine W.eq (g2 := F0 m 1127 ls [.int (-1000003)]) rfl ?_
      refine lv_iload hx hb dL_acts_1127 (lv_at hl 0 rfl) ?_
      refine lv_icmp_ne (tgt := 1182) hx hb dL_acts_1129 (by decide) (fun c_76 => absurd ((by decide : (-1000003 : Int32) = -1000003)) c_76) (fun c_76 => ?_)
      refine lv_aload_n hx hb dL_acts_1132 rfl (lv_at hl 4 rfl) ?_
      refine lv_iload hx hb dL_acts_1133 (lv_at hl 11 rfl) ?_
      refine lv_iload hx hb dL_acts_1135 (lv_at hl 2 rfl) ?_
      refine lMi (fun q ⟨j9, h1, h2⟩ => by rw [h2]; exact hz2 j9 h1) (vx_runSW (As := [.ref (ad2 0), .int (nI i), .int 1]) (rest := []) ⟨hx, hb, hml, hown, hts⟩ (c_L_finish l hst D cy ad2 hj2 σ sz (nI i) true ((-1000003)) (by rw [(kF_2 hi (lit_ne (a := 4) (b := 3) x2 (by omega) (by omega) (by decide)))]; exact w13_2 _) σ (if_neg (by rw [(kF_2 hi (lit_ne (a := 4) (b := 3) x2 (by omega) (by omega) (by decide)))]; decide))) (vx_cwSW 3 hts gL_acts_L_finish rfl rfl rfl (by decide +kernel) ⟨Nat.le_of_ble_eq_true rfl, Nat.le_of_ble_eq_true rfl⟩) ⟨cx_bl, cx_S hP.left.right hK Az_z hxk hS⟩ rfl rfl hl.1 rfl (lv_room (Nat.le_of_ble_eq_true rfl)) dL_acts_1137 ⟨by show _ ≤ 60; omega, by show _ ≤ 360; omega⟩) hS (fun H locs hPW hS hk1 => ?_)
      have hP := setT hne hTt hP hPW hk1
      refine W.eq (g2 := F0 m 1140 ls [.int (-1000003)]) rfl ?_
      refine lv_iload hx hb dL_acts_1140 (lv_at hl 0 rfl) ?_
      refine lv_icmp_ne (tgt := 1182) hx hb dL_acts_1142 (by decide) (fun c_77 => absurd ((by decide : (-1000003 : Int32) = -1000003)) c_77) (fun c_77 => ?_)
      refine lv_aload_n hx hb dL_acts_1145 rfl (lv_at hl 3 rfl) ?_
      refine lv_iload hx hb dL_acts_1146 (lv_at hl 11 rfl) ?_
      refine rMi (vx_runSW (As := [.ref (ad 0), .int (nI i)]) (rest := []) ⟨hx, hb, hml, hown, hts⟩ (c_L_failuresOf l hst D cy ad σ sz (nI i) (nI n8) ((wF hi).trans x5)) (vx_cwSW 2 hts gL_acts_L_failuresOf rfl rfl rfl (by decide +kernel) ⟨Nat.le_of_ble_eq_true rfl, Nat.le_of_ble_eq_true rfl⟩) ⟨cx_bl, cx_S hP.left.left hK Az_z hxk hS⟩ rfl rfl hl.1 rfl (lv_room (Nat.le_of_ble_eq_true rfl)) dL_acts_1148 ⟨by show _ ≤ 60; omega, by show _ ≤ 360; omega⟩) hS (fun H locs hS hg => ?_)
      have hP := hP.grown hg
      refine W.eq (g2 := F0 m 1151 ls [.int (nI n8)]) rfl ?_
      refine lv_iload hx hb dL_acts_1151 (lv_at hl 12 rfl) ?_
      refine lv_iconst (v := 3) hx hb dL_acts_1153 (by decide) ?_
      refine lv_icmp_eq (tgt := 1162) hx hb dL_acts_1154 (by decide) (fun c_78 => absurd c_78 ((by decide : ¬ (4 : Int32) = 3))) (fun c_78 => ?_)
      refine lv_iload hx hb dL_acts_1157 (lv_at hl 1 rfl) ?_
      refine lv_goto (tgt := 1175) hx hb dL_acts_1159 (by decide) ?_
      refine lv_icmp_ne (tgt := 1182) hx hb dL_acts_1175 (by decide) (fun c_79 => absurd (rfl) c_79) (fun c_79 => ?_)
      refine lv_iconst (v := 1) hx hb dL_acts_1178 (by decide) ?_
      refine lv_goto (tgt := 1183) hx hb dL_acts_1179 (by decide) ?_
      refine W.widen (k := 60) (n := 360) (by omega) (by omega) ?_
      have hpo : OKs h (N + 70) fa fm fb σ := hO.le (by omega)
      exact W.zret (v := 1) hx hb hr rfl (fun t ht hW => ⟨⟨_, (), rfl, rfl, ⟨_, _, _, _, by rw [ht]; exact hP, hpo⟩⟩, hS.F ht⟩) hS.2.2 dL_acts_1183
    · have xs : σ 1 i = 5 := x2
      rw [xs] at hl
      have hl : lv_has ls 17 [(0, .ref (ad 0)), (1, .ref (ad2 0)), (2, .ref qa), (3, .ref qm), (4, .ref qb), (5, .int zx), (6, .int zy), (7, .int (nI j4)), (8, .int (nI i)), (9, .int 5)] := hl
      refine lv_istore (lv' := [(10, .int 1), (0, .ref (ad 0)), (1, .ref (ad2 0)), (2, .ref qa), (3, .ref qm), (4, .ref qb), (5, .int zx), (6, .int zy), (7, .int (nI j4)), (8, .int (nI i)), (9, .int 5)]) hx hb dL_acts_1070 hl (by decide) rfl (fun ls hl => ?_)
      refine lv_aload_n hx hb dL_acts_1072 rfl (lv_at hl 1 rfl) ?_
      refine lv_iload hx hb dL_acts_1073 (lv_at hl 9 rfl) ?_
      refine rMi (vx_runSW (As := [.ref (ad 0), .int (nI i)]) (rest := []) ⟨hx, hb, hml, hown, hts⟩ (c_L_failuresOf l hst D cy ad σ sz (nI i) (nI n8) ((wF hi).trans x5)) (vx_cwSW 2 hts gL_acts_L_failuresOf rfl rfl rfl (by decide +kernel) ⟨Nat.le_of_ble_eq_true rfl, Nat.le_of_ble_eq_true rfl⟩) ⟨cx_bl, cx_S hP.left.left hK Az_z hxk hS⟩ rfl rfl hl.1 rfl (lv_room (Nat.le_of_ble_eq_true rfl)) dL_acts_1075 ⟨by show _ ≤ 60; omega, by show _ ≤ 360; omega⟩) hS (fun H locs hS hg => ?_)
      have hP := hP.grown hg
      refine W.eq (g2 := F0 m 1078 ls [.int (nI n8)]) rfl ?_
      refine lv_istore (lv' := [(11, .int (nI n8)), (10, .int 1), (0, .ref (ad 0)), (1, .ref (ad2 0)), (2, .ref qa), (3, .ref qm), (4, .ref qb), (5, .int zx), (6, .int zy), (7, .int (nI j4)), (8, .int (nI i)), (9, .int 5)]) hx hb dL_acts_1078 hl (by decide) rfl (fun ls hl => ?_)
      refine lv_iload hx hb dL_acts_1080 (lv_at hl 11 rfl) ?_
      refine lv_iconst (v := 3) hx hb dL_acts_1082 (by decide) ?_
      refine lv_icmp_eq (tgt := 1091) hx hb dL_acts_1083 (by decide) (fun c_80 => absurd c_80 ((by decide : ¬ (5 : Int32) = 3))) (fun c_80 => ?_)
      refine lv_ldc (v := (-1000003)) hx hb hown (hts (.constant RL 47 (-1000003)) (by decide +kernel)) dL_acts_1086 ?_
      refine lv_goto (tgt := 1117) hx hb dL_acts_1088 (by decide) ?_
      refine lv_istore (lv' := [(12, .int (-1000003)), (11, .int (nI n8)), (10, .int 1), (0, .ref (ad 0)), (1, .ref (ad2 0)), (2, .ref qa), (3, .ref qm), (4, .ref qb), (5, .int zx), (6, .int zy), (7, .int (nI j4)), (8, .int (nI i)), (9, .int 5)]) hx hb dL_acts_1117 hl (by decide) rfl (fun ls hl => ?_)
      refine lv_aload_n hx hb dL_acts_1119 rfl (lv_at hl 3 rfl) ?_
      refine lv_iload hx hb dL_acts_1120 (lv_at hl 11 rfl) ?_
      refine lv_iload hx hb dL_acts_1122 (lv_at hl 2 rfl) ?_
      obtain ⟨hTo, hTt⟩ := noT_D hD
      refine lMi (fun q ⟨j9, h1, h2⟩ => by rw [h2]; exact hz j9 h1) (vx_runSW (As := [.ref (ad 0), .int (nI i), .int 1]) (rest := []) ⟨hx, hb, hml, hown, hts⟩ (c_L_finish l hst D cy ad hj σ sz (nI i) true ((-1000003)) (by rw [(kF_2 hi (lit_ne (a := 5) (b := 3) x2 (by omega) (by omega) (by decide)))]; exact w13_2 _) σ (if_neg (by rw [(kF_2 hi (lit_ne (a := 5) (b := 3) x2 (by omega) (by omega) (by decide)))]; decide))) (vx_cwSW 3 hts gL_acts_L_finish rfl rfl rfl (by decide +kernel) ⟨Nat.le_of_ble_eq_true rfl, Nat.le_of_ble_eq_true rfl⟩) ⟨cx_bl, cx_S hP.left.left hK Az_z hxk hS⟩ rfl rfl hl.1 rfl (lv_room (Nat.le_of_ble_eq_true rfl)) dL_acts_1124 ⟨by show _ ≤ 60; omega, by show _ ≤ 360; omega⟩) hS (fun H locs hPW hS hk1 => ?_)
      have hP := setO hne hTo hP hPW hk1
      refine W.eq (g2 := F0 m 1127 ls [.int (-1000003)]) rfl ?_
      refine lv_iload hx hb dL_acts_1127 (lv_at hl 0 rfl) ?_
      refine lv_icmp_ne (tgt := 1182) hx hb dL_acts_1129 (by decide) (fun c_81 => absurd ((by decide : (-1000003 : Int32) = -1000003)) c_81) (fun c_81 => ?_)
      refine lv_aload_n hx hb dL_acts_1132 rfl (lv_at hl 4 rfl) ?_
      refine lv_iload hx hb dL_acts_1133 (lv_at hl 11 rfl) ?_
      refine lv_iload hx hb dL_acts_1135 (lv_at hl 2 rfl) ?_
      refine lMi (fun q ⟨j9, h1, h2⟩ => by rw [h2]; exact hz2 j9 h1) (vx_runSW (As := [.ref (ad2 0), .int (nI i), .int 1]) (rest := []) ⟨hx, hb, hml, hown, hts⟩ (c_L_finish l hst D cy ad2 hj2 σ sz (nI i) true ((-1000003)) (by rw [(kF_2 hi (lit_ne (a := 5) (b := 3) x2 (by omega) (by omega) (by decide)))]; exact w13_2 _) σ (if_neg (by rw [(kF_2 hi (lit_ne (a := 5) (b := 3) x2 (by omega) (by omega) (by decide)))]; decide))) (vx_cwSW 3 hts gL_acts_L_finish rfl rfl rfl (by decide +kernel) ⟨Nat.le_of_ble_eq_true rfl, Nat.le_of_ble_eq_true rfl⟩) ⟨cx_bl, cx_S hP.left.right hK Az_z hxk hS⟩ rfl rfl hl.1 rfl (lv_room (Nat.le_of_ble_eq_true rfl)) dL_acts_1137 ⟨by show _ ≤ 60; omega, by show _ ≤ 360; omega⟩) hS (fun H locs hPW hS hk1 => ?_)
      have hP := setT hne hTt hP hPW hk1
      refine W.eq (g2 := F0 m 1140 ls [.int (-1000003)]) rfl ?_
      refine lv_iload hx hb dL_acts_1140 (lv_at hl 0 rfl) ?_
      refine lv_icmp_ne (tgt := 1182) hx hb dL_acts_1142 (by decide) (fun c_82 => absurd ((by decide : (-1000003 : Int32) = -1000003)) c_82) (fun c_82 => ?_)
      refine lv_aload_n hx hb dL_acts_1145 rfl (lv_at hl 3 rfl) ?_
      refine lv_iload hx hb dL_acts_1146 (lv_at hl 11 rfl) ?_
      refine rMi (vx_runSW (As := [.ref (ad 0), .int (nI i)]) (rest := []) ⟨hx, hb, hml, hown, hts⟩ (c_L_failuresOf l hst D cy ad σ sz (nI i) (nI n8) ((wF hi).trans x5)) (vx_cwSW 2 hts gL_acts_L_failuresOf rfl rfl rfl (by decide +kernel) ⟨Nat.le_of_ble_eq_true rfl, Nat.le_of_ble_eq_true rfl⟩) ⟨cx_bl, cx_S hP.left.left hK Az_z hxk hS⟩ rfl rfl hl.1 rfl (lv_room (Nat.le_of_ble_eq_true rfl)) dL_acts_1148 ⟨by show _ ≤ 60; omega, by show _ ≤ 360; omega⟩) hS (fun H locs hS hg => ?_)
      have hP := hP.grown hg
      refine W.eq (g2 := F0 m 1151 ls [.int (nI n8)]) rfl ?_
      refine lv_iload hx hb dL_acts_1151 (lv_at hl 12 rfl) ?_
      refine lv_iconst (v := 3) hx hb dL_acts_1153 (by decide) ?_
      refine lv_icmp_eq (tgt := 1162) hx hb dL_acts_1154 (by decide) (fun c_83 => absurd c_83 ((by decide : ¬ (5 : Int32) = 3))) (fun c_83 => ?_)
      refine lv_iload hx hb dL_acts_1157 (lv_at hl 1 rfl) ?_
      refine lv_goto (tgt := 1175) hx hb dL_acts_1159 (by decide) ?_
      refine lv_icmp_ne (tgt := 1182) hx hb dL_acts_1175 (by decide) (fun c_84 => absurd (rfl) c_84) (fun c_84 => ?_)
      refine lv_iconst (v := 1) hx hb dL_acts_1178 (by decide) ?_
      refine lv_goto (tgt := 1183) hx hb dL_acts_1179 (by decide) ?_
      refine W.widen (k := 60) (n := 360) (by omega) (by omega) ?_
      have hpo : OKs h (N + 70) fa fm fb σ := hO.le (by omega)
      exact W.zret (v := 1) hx hb hr rfl (fun t ht hW => ⟨⟨_, (), rfl, rfl, ⟨_, _, _, _, by rw [ht]; exact hP, hpo⟩⟩, hS.F ht⟩) hS.2.2 dL_acts_1183
    · have xs : σ 1 i = 6 := x2
      rw [xs] at hl
      have hl : lv_has ls 17 [(0, .ref (ad 0)), (1, .ref (ad2 0)), (2, .ref qa), (3, .ref qm), (4, .ref qb), (5, .int zx), (6, .int zy), (7, .int (nI j4)), (8, .int (nI i)), (9, .int 6)] := hl
      refine lv_istore (lv' := [(10, .int 1), (0, .ref (ad 0)), (1, .ref (ad2 0)), (2, .ref qa), (3, .ref qm), (4, .ref qb), (5, .int zx), (6, .int zy), (7, .int (nI j4)), (8, .int (nI i)), (9, .int 6)]) hx hb dL_acts_1070 hl (by decide) rfl (fun ls hl => ?_)
      refine lv_aload_n hx hb dL_acts_1072 rfl (lv_at hl 1 rfl) ?_
      refine lv_iload hx hb dL_acts_1073 (lv_at hl 9 rfl) ?_
      refine rMi (vx_runSW (As := [.ref (ad 0), .int (nI i)]) (rest := []) ⟨hx, hb, hml, hown, hts⟩ (c_L_failuresOf l hst D cy ad σ sz (nI i) (nI n8) ((wF hi).trans x5)) (vx_cwSW 2 hts gL_acts_L_failuresOf rfl rfl rfl (by decide +kernel) ⟨Nat.le_of_ble_eq_true rfl, Nat.le_of_ble_eq_true rfl⟩) ⟨cx_bl, cx_S hP.left.left hK Az_z hxk hS⟩ rfl rfl hl.1 rfl (lv_room (Nat.le_of_ble_eq_true rfl)) dL_acts_1075 ⟨by show _ ≤ 60; omega, by show _ ≤ 360; omega⟩) hS (fun H locs hS hg => ?_)
      have hP := hP.grown hg
      refine W.eq (g2 := F0 m 1078 ls [.int (nI n8)]) rfl ?_
      refine lv_istore (lv' := [(11, .int (nI n8)), (10, .int 1), (0, .ref (ad 0)), (1, .ref (ad2 0)), (2, .ref qa), (3, .ref qm), (4, .ref qb), (5, .int zx), (6, .int zy), (7, .int (nI j4)), (8, .int (nI i)), (9, .int 6)]) hx hb dL_acts_1078 hl (by decide) rfl (fun ls hl => ?_)
      refine lv_iload hx hb dL_acts_1080 (lv_at hl 11 rfl) ?_
      refine lv_iconst (v := 3) hx hb dL_acts_1082 (by decide) ?_
      refine lv_icmp_eq (tgt := 1091) hx hb dL_acts_1083 (by decide) (fun c_85 => absurd c_85 ((by decide : ¬ (6 : Int32) = 3))) (fun c_85 => ?_)
      refine lv_ldc (v := (-1000003)) hx hb hown (hts (.constant RL 47 (-1000003)) (by decide +kernel)) dL_acts_1086 ?_
      refine lv_goto (tgt := 1117) hx hb dL_acts_1088 (by decide) ?_
      refine lv_istore (lv' := [(12, .int (-1000003)), (11, .int (nI n8)), (10, .int 1), (0, .ref (ad 0)), (1, .ref (ad2 0)), (2, .ref qa), (3, .ref qm), (4, .ref qb), (5, .int zx), (6, .int zy), (7, .int (nI j4)), (8, .int (nI i)), (9, .int 6)]) hx hb dL_acts_1117 hl (by decide) rfl (fun ls hl => ?_)
      refine lv_aload_n hx hb dL_acts_1119 rfl (lv_at hl 3 rfl) ?_
      refine lv_iload hx hb dL_acts_1120 (lv_at hl 11 rfl) ?_
      refine lv_iload hx hb dL_acts_1122 (lv_at hl 2 rfl) ?_
      obtain ⟨hTo, hTt⟩ := noT_D hD
      refine lMi (fun q ⟨j9, h1, h2⟩ => by rw [h2]; exact hz j9 h1) (vx_runSW (As := [.ref (ad 0), .int (nI i), .int 1]) (rest := []) ⟨hx, hb, hml, hown, hts⟩ (c_L_finish l hst D cy ad hj σ sz (nI i) true ((-1000003)) (by rw [(kF_2 hi (lit_ne (a := 6) (b := 3) x2 (by omega) (by omega) (by decide)))]; exact w13_2 _) σ (if_neg (by rw [(kF_2 hi (lit_ne (a := 6) (b := 3) x2 (by omega) (by omega) (by decide)))]; decide))) (vx_cwSW 3 hts gL_acts_L_finish rfl rfl rfl (by decide +kernel) ⟨Nat.le_of_ble_eq_true rfl, Nat.le_of_ble_eq_true rfl⟩) ⟨cx_bl, cx_S hP.left.left hK Az_z hxk hS⟩ rfl rfl hl.1 rfl (lv_room (Nat.le_of_ble_eq_true rfl)) dL_acts_1124 ⟨by show _ ≤ 60; omega, by show _ ≤ 360; omega⟩) hS (fun H locs hPW hS hk1 => ?_)
      have hP := setO hne hTo hP hPW hk1
      refine W.eq (g2 := F0 m 1127 ls [.int (-1000003)]) rfl ?_
      refine lv_iload hx hb dL_acts_1127 (lv_at hl 0 rfl) ?_
      refine lv_icmp_ne (tgt := 1182) hx hb dL_acts_1129 (by decide) (fun c_86 => absurd ((by decide : (-1000003 : Int32) = -1000003)) c_86) (fun c_86 => ?_)
      refine lv_aload_n hx hb dL_acts_1132 rfl (lv_at hl 4 rfl) ?_
      refine lv_iload hx hb dL_acts_1133 (lv_at hl 11 rfl) ?_
      refine lv_iload hx hb dL_acts_1135 (lv_at hl 2 rfl) ?_
      refine lMi (fun q ⟨j9, h1, h2⟩ => by rw [h2]; exact hz2 j9 h1) (vx_runSW (As := [.ref (ad2 0), .int (nI i), .int 1]) (rest := []) ⟨hx, hb, hml, hown, hts⟩ (c_L_finish l hst D cy ad2 hj2 σ sz (nI i) true ((-1000003)) (by rw [(kF_2 hi (lit_ne (a := 6) (b := 3) x2 (by omega) (by omega) (by decide)))]; exact w13_2 _) σ (if_neg (by rw [(kF_2 hi (lit_ne (a := 6) (b := 3) x2 (by omega) (by omega) (by decide)))]; decide))) (vx_cwSW 3 hts gL_acts_L_finish rfl rfl rfl (by decide +kernel) ⟨Nat.le_of_ble_eq_true rfl, Nat.le_of_ble_eq_true rfl⟩) ⟨cx_bl, cx_S hP.left.right hK Az_z hxk hS⟩ rfl rfl hl.1 rfl (lv_room (Nat.le_of_ble_eq_true rfl)) dL_acts_1137 ⟨by show _ ≤ 60; omega, by show _ ≤ 360; omega⟩) hS (fun H locs hPW hS hk1 => ?_)
      have hP := setT hne hTt hP hPW hk1
      refine W.eq (g2 := F0 m 1140 ls [.int (-1000003)]) rfl ?_
      refine lv_iload hx hb dL_acts_1140 (lv_at hl 0 rfl) ?_
      refine lv_icmp_ne (tgt := 1182) hx hb dL_acts_1142 (by decide) (fun c_87 => absurd ((by decide : (-1000003 : Int32) = -1000003)) c_87) (fun c_87 => ?_)
      refine lv_aload_n hx hb dL_acts_1145 rfl (lv_at hl 3 rfl) ?_
      refine lv_iload hx hb dL_acts_1146 (lv_at hl 11 rfl) ?_
      refine rMi (vx_runSW (As := [.ref (ad 0), .int (nI i)]) (rest := []) ⟨hx, hb, hml, hown, hts⟩ (c_L_failuresOf l hst D cy ad σ sz (nI i) (nI n8) ((wF hi).trans x5)) (vx_cwSW 2 hts gL_acts_L_failuresOf rfl rfl rfl (by decide +kernel) ⟨Nat.le_of_ble_eq_true rfl, Nat.le_of_ble_eq_true rfl⟩) ⟨cx_bl, cx_S hP.left.left hK Az_z hxk hS⟩ rfl rfl hl.1 rfl (lv_room (Nat.le_of_ble_eq_true rfl)) dL_acts_1148 ⟨by show _ ≤ 60; omega, by show _ ≤ 360; omega⟩) hS (fun H locs hS hg => ?_)
      have hP := hP.grown hg
      refine W.eq (g2 := F0 m 1151 ls [.int (nI n8)]) rfl ?_
      refine lv_iload hx hb dL_acts_1151 (lv_at hl 12 rfl) ?_
      refine lv_iconst (v := 3) hx hb dL_acts_1153 (by decide) ?_
      refine lv_icmp_eq (tgt := 1162) hx hb dL_acts_1154 (by decide) (fun c_88 => absurd c_88 ((by decide : ¬ (6 : Int32) = 3))) (fun c_88 => ?_)
      refine lv_iload hx hb dL_acts_1157 (lv_at hl 1 rfl) ?_
      refine lv_goto (tgt := 1175) hx hb dL_acts_1159 (by decide) ?_
      refine lv_icmp_ne (tgt := 1182) hx hb dL_acts_1175 (by decide) (fun c_89 => absurd (rfl) c_89) (fun c_89 => ?_)
      refine lv_iconst (v := 1) hx hb dL_acts_1178 (by decide) ?_
      refine lv_goto (tgt := 1183) hx hb dL_acts_1179 (by decide) ?_
      refine W.widen (k := 60) (n := 360) (by omega) (by omega) ?_
      have hpo : OKs h (N + 70) fa fm fb σ := hO.le (by omega)
      exact W.zret (v := 1) hx hb hr rfl (fun t ht hW => ⟨⟨_, (), rfl, rfl, ⟨_, _, _, _, by rw [ht]; exact hP, hpo⟩⟩, hS.F ht⟩) hS.2.2 dL_acts_1183
    · have xs : σ 1 i = 7 := x2
      rw [xs] at hl
      have hl : lv_has ls 17 [(0, .ref (ad 0)), (1, .ref (ad2 0)), (2, .ref qa), (3, .ref qm), (4, .ref qb), (5, .int zx), (6, .int zy), (7, .int (nI j4)), (8, .int (nI i)), (9, .int 7)] := hl
      refine lv_istore (lv' := [(10, .int 1), (0, .ref (ad 0)), (1, .ref (ad2 0)), (2, .ref qa), (3, .ref qm), (4, .ref qb), (5, .int zx), (6, .int zy), (7, .int (nI j4)), (8, .int (nI i)), (9, .int 7)]) hx hb dL_acts_1070 hl (by decide) rfl (fun ls hl => ?_)
      refine lv_aload_n hx hb dL_acts_1072 rfl (lv_at hl 1 rfl) ?_
      refine lv_iload hx hb dL_acts_1073 (lv_at hl 9 rfl) ?_
      refine rMi (vx_runSW (As := [.ref (ad 0), .int (nI i)]) (rest := []) ⟨hx, hb, hml, hown, hts⟩ (c_L_failuresOf l hst D cy ad σ sz (nI i) (nI n8) ((wF hi).trans x5)) (vx_cwSW 2 hts gL_acts_L_failuresOf rfl rfl rfl (by decide +kernel) ⟨Nat.le_of_ble_eq_true rfl, Nat.le_of_ble_eq_true rfl⟩) ⟨cx_bl, cx_S hP.left.left hK Az_z hxk hS⟩ rfl rfl hl.1 rfl (lv_room (Nat.le_of_ble_eq_true rfl)) dL_acts_1075 ⟨by show _ ≤ 60; omega, by show _ ≤ 360; omega⟩) hS (fun H locs hS hg => ?_)
      have hP := hP.grown hg
      refine W.eq (g2 := F0 m 1078 ls [.int (nI n8)]) rfl ?_
      refine lv_istore (lv' := [(11, .int (nI n8)), (10, .int 1), (0, .ref (ad 0)), (1, .ref (ad2 0)), (2, .ref qa), (3, .ref qm), (4, .ref qb), (5, .int zx), (6, .int zy), (7, .int (nI j4)), (8, .int (nI i)), (9, .int 7)]) hx hb dL_acts_1078 hl (by decide) rfl (fun ls hl => ?_)
      refine lv_iload hx hb dL_acts_1080 (lv_at hl 11 rfl) ?_
      refine lv_iconst (v := 3) hx hb dL_acts_1082 (by decide) ?_
      refine lv_icmp_eq (tgt := 1091) hx hb dL_acts_1083 (by decide) (fun c_90 => absurd c_90 ((by decide : ¬ (7 : Int32) = 3))) (fun c_90 => ?_)
      refine lv_ldc (v := (-1000003)) hx hb hown (hts (.constant RL 47 (-1000003)) (by decide +kernel)) dL_acts_1086 ?_
      refine lv_goto (tgt := 1117) hx hb dL_acts_1088 (by decide) ?_
      refine lv_istore (lv' := [(12, .int (-1000003)), (11, .int (nI n8)), (10, .int 1), (0, .ref (ad 0)), (1, .ref (ad2 0)), (2, .ref qa), (3, .ref qm), (4, .ref qb), (5, .int zx), (6, .int zy), (7, .int (nI j4)), (8, .int (nI i)), (9, .int 7)]) hx hb dL_acts_1117 hl (by decide) rfl (fun ls hl => ?_)
      refine lv_aload_n hx hb dL_acts_1119 rfl (lv_at hl 3 rfl) ?_
      refine lv_iload hx hb dL_acts_1120 (lv_at hl 11 rfl) ?_
      refine lv_iload hx hb dL_acts_1122 (lv_at hl 2 rfl) ?_
      obtain ⟨hTo, hTt⟩ := noT_D hD
      refine lMi (fun q ⟨j9, h1, h2⟩ => by rw [h2]; exact hz j9 h1) (vx_runSW (As := [.ref (ad 0), .int (nI i), .int 1]) (rest := []) ⟨hx, hb, hml, hown, hts⟩ (c_L_finish l hst D cy ad hj σ sz (nI i) true ((-1000003)) (by rw [(kF_2 hi (lit_ne (a := 7) (b := 3) x2 (by omega) (by omega) (by decide)))]; exact w13_2 _) σ (if_neg (by rw [(kF_2 hi (lit_ne (a := 7) (b := 3) x2 (by omega) (by omega) (by decide)))]; decide))) (vx_cwSW 3 hts gL_acts_L_finish rfl rfl rfl (by decide +kernel) ⟨Nat.le_of_ble_eq_true rfl, Nat.le_of_ble_eq_true rfl⟩) ⟨cx_bl, cx_S hP.left.left hK Az_z hxk hS⟩ rfl rfl hl.1 rfl (lv_room (Nat.le_of_ble_eq_true rfl)) dL_acts_1124 ⟨by show _ ≤ 60; omega, by show _ ≤ 360; omega⟩) hS (fun H locs hPW hS hk1 => ?_)
      have hP := setO hne hTo hP hPW hk1
      refine W.eq (g2 := F0 m 1127 ls [.int (-1000003)]) rfl ?_
      refine lv_iload hx hb dL_acts_1127 (lv_at hl 0 rfl) ?_
      refine lv_icmp_ne (tgt := 1182) hx hb dL_acts_1129 (by decide) (fun c_91 => absurd ((by decide : (-1000003 : Int32) = -1000003)) c_91) (fun c_91 => ?_)
      refine lv_aload_n hx hb dL_acts_1132 rfl (lv_at hl 4 rfl) ?_
      refine lv_iload hx hb dL_acts_1133 (lv_at hl 11 rfl) ?_
      refine lv_iload hx hb dL_acts_1135 (lv_at hl 2 rfl) ?_
      refine lMi (fun q ⟨j9, h1, h2⟩ => by rw [h2]; exact hz2 j9 h1) (vx_runSW (As := [.ref (ad2 0), .int (nI i), .int 1]) (rest := []) ⟨hx, hb, hml, hown, hts⟩ (c_L_finish l hst D cy ad2 hj2 σ sz (nI i) true ((-1000003)) (by rw [(kF_2 hi (lit_ne (a := 7) (b := 3) x2 (by omega) (by omega) (by decide)))]; exact w13_2 _) σ (if_neg (by rw [(kF_2 hi (lit_ne (a := 7) (b := 3) x2 (by omega) (by omega) (by decide)))]; decide))) (vx_cwSW 3 hts gL_acts_L_finish rfl rfl rfl (by decide +kernel) ⟨Nat.le_of_ble_eq_true rfl, Nat.le_of_ble_eq_true rfl⟩) ⟨cx_bl, cx_S hP.left.right hK Az_z hxk hS⟩ rfl rfl hl.1 rfl (lv_room (Nat.le_of_ble_eq_true rfl)) dL_acts_1137 ⟨by show _ ≤ 60; omega, by show _ ≤ 360; omega⟩) hS (fun H locs hPW hS hk1 => ?_)
      have hP := setT hne hTt hP hPW hk1
      refine W.eq (g2 := F0 m 1140 ls [.int (-1000003)]) rfl ?_
      refine lv_iload hx hb dL_acts_1140 (lv_at hl 0 rfl) ?_
      refine lv_icmp_ne (tgt := 1182) hx hb dL_acts_1142 (by decide) (fun c_92 => absurd ((by decide : (-1000003 : Int32) = -1000003)) c_92) (fun c_92 => ?_)
      refine lv_aload_n hx hb dL_acts_1145 rfl (lv_at hl 3 rfl) ?_
      refine lv_iload hx hb dL_acts_1146 (lv_at hl 11 rfl) ?_
      refine rMi (vx_runSW (As := [.ref (ad 0), .int (nI i)]) (rest := []) ⟨hx, hb, hml, hown, hts⟩ (c_L_failuresOf l hst D cy ad σ sz (nI i) (nI n8) ((wF hi).trans x5)) (vx_cwSW 2 hts gL_acts_L_failuresOf rfl rfl rfl (by decide +kernel) ⟨Nat.le_of_ble_eq_true rfl, Nat.le_of_ble_eq_true rfl⟩) ⟨cx_bl, cx_S hP.left.left hK Az_z hxk hS⟩ rfl rfl hl.1 rfl (lv_room (Nat.le_of_ble_eq_true rfl)) dL_acts_1148 ⟨by show _ ≤ 60; omega, by show _ ≤ 360; omega⟩) hS (fun H locs hS hg => ?_)
      have hP := hP.grown hg
      refine W.eq (g2 := F0 m 1151 ls [.int (nI n8)]) rfl ?_
      refine lv_iload hx hb dL_acts_1151 (lv_at hl 12 rfl) ?_
      refine lv_iconst (v := 3) hx hb dL_acts_1153 (by decide) ?_
      refine lv_icmp_eq (tgt := 1162) hx hb dL_acts_1154 (by decide) (fun c_93 => absurd c_93 ((by decide : ¬ (7 : Int32) = 3))) (fun c_93 => ?_)
      refine lv_iload hx hb dL_acts_1157 (lv_at hl 1 rfl) ?_
      refine lv_goto (tgt := 1175) hx hb dL_acts_1159 (by decide) ?_
      refine lv_icmp_ne (tgt := 1182) hx hb dL_acts_1175 (by decide) (fun c_94 => absurd (rfl) c_94) (fun c_94 => ?_)
      refine lv_iconst (v := 1) hx hb dL_acts_1178 (by decide) ?_
      refine lv_goto (tgt := 1183) hx hb dL_acts_1179 (by decide) ?_
      refine W.widen (k := 60) (n := 360) (by omega) (by omega) ?_
      have hpo : OKs h (N + 70) fa fm fb σ := hO.le (by omega)
      exact W.zret (v := 1) hx hb hr rfl (fun t ht hW => ⟨⟨_, (), rfl, rfl, ⟨_, _, _, _, by rw [ht]; exact hP, hpo⟩⟩, hS.F ht⟩) hS.2.2 dL_acts_1183
