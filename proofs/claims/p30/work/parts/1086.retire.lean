set_option maxHeartbeats 2000000 in
set_option maxRecDepth 100000 in
theorem ab_retire {p : Program} {l : Launch} {e : Env} {s : State} {m : MethodId} {args : Array Value} {below : List Frame} {meth : Method} {c : Code} {D : va_G} {cy : Nat → ClassId} {ad ad2 : Nat → Nat} {σ : Mem} {sz qa qm qb : Nat} {fa fm fb : Nat → Int32} {h N i : Nat} {zx zy : Int32} {j4 : Nat} {H : Heap} {locs : List Loc} {cells slots : Nat} {ls : Array Slot} (hst : l.stackTraces = false) (hj : inj31 ad) (hj2 : inj31 ad2) (hne : apart ad ad2) (hz : ∀ i, i < 31 → sz ≤ ad i) (hz2 : ∀ i, i < 31 → sz ≤ ad2 i) (C : ACtx p s m args meth c D cy sz) (hN9 : N + 30000 < 2000000000) (hO : OKs h N fa fm fb σ) (hi : i < 16) (hP : va_P D vwCl (X2 cy ad ad2 σ σ ++ [aW cy qa 64 fa, aW cy qm 48 fm, aW cy qb 6 fb]) H) (hD : va_D (Az sz) (X2 cy ad ad2 σ σ ++ [aW cy qa 64 fa, aW cy qm 48 fm, aW cy qb 6 fb])) (hS : va_S (Az sz) s.heap H locs) (hz9 : sz ≤ s.heap.size) (hc9 : cells ≤ 1) (hs9 : slots ≤ 6) (hl : lv_has ls 17 [(0, .ref (ad 0)), (1, .ref (ad2 0)), (2, .ref qa), (3, .ref qm), (4, .ref qb), (5, .int zx), (6, .int zy), (7, .int (nI j4)), (8, .int (nI i)), (9, .int (σ 1 i))]) : W p l e (headSpec wsL_acts ({ frames := 10, cells := 60, slots := 360, locals := 172 })).room s m args below meth c H locs cells slots (MQ below (QI 1 (fun H => ∃ (σ' : Mem) (fa' fm' fb' : Nat → Int32), va_P D vwCl (X2 cy ad ad2 σ' σ' ++ [aW cy qa 64 fa', aW cy qm 48 fm', aW cy qb 6 fb']) H ∧ OKs h (N + 70) fa' fm' fb' σ') (Az sz)) args s 60 360 (Az sz)) (F0 m 1191 ls []) := by
  obtain ⟨hx, hb, hr, hts, hown, hlocks, hml, hK, hxk⟩ := C
  refine W.widen (k := 1) (n := 6) hc9 hs9 ?_
  have hA : ∀ q : Nat, s.heap.size ≤ q → Az sz q := fun q hq => Nat.le_trans hz9 hq
  refine lv_iload hx hb dL_acts_1191 (lv_at hl 6 rfl) ?_
  refine lv_iconst (v := 4) hx hb dL_acts_1193 (by decide) ?_
  refine lv_ishr hx hb dL_acts_1194 ?_
  refine lv_iconst (v := 3) hx hb dL_acts_1195 (by decide) ?_
  refine cS (W.runS (As := [.int (zy >>> (4 &&& 31)), .int 3]) (rest := []) ⟨hx, hb, hml, hown, hts⟩ (c_L_low l (zy >>> (4 &&& 31)) 3 (by decide) (by decide)) (va_cwS 2 hts gL_acts_L_low rfl rfl rfl (by decide +kernel) ⟨Nat.le_of_ble_eq_true rfl, Nat.le_of_ble_eq_true rfl⟩) ⟨fun a U g mk h => h, fun U _ _ => ⟨rfl, trivial⟩⟩ rfl rfl hl.1 rfl (lv_room (Nat.le_of_ble_eq_true rfl)) dL_acts_1196 ⟨by show _ ≤ 60; omega, by show _ ≤ 360; omega⟩) (fun j1196 hj1196 => ?_)
  refine W.eq (g2 := F0 m 1199 ls [.int (nI j1196)]) rfl ?_
  refine lv_if_ne (tgt := 1206) hx hb dL_acts_1199 (by decide) (fun c_1 => ?_) (fun c_1 => ?_)
  · refine lv_iload hx hb dL_acts_1206 (lv_at hl 6 rfl) ?_
    refine lv_bipush (v := 6) hx hb dL_acts_1208 (by decide) ?_
    refine lv_ishr hx hb dL_acts_1210 ?_
    refine lv_bipush (v := 49) hx hb dL_acts_1211 (by decide) ?_
    refine cS (W.runS (As := [.int (zy >>> (6 &&& 31)), .int 49]) (rest := []) ⟨hx, hb, hml, hown, hts⟩ (c_L_low l (zy >>> (6 &&& 31)) 49 (by decide) (by decide)) (va_cwS 2 hts gL_acts_L_low rfl rfl rfl (by decide +kernel) ⟨Nat.le_of_ble_eq_true rfl, Nat.le_of_ble_eq_true rfl⟩) ⟨fun a U g mk h => h, fun U _ _ => ⟨rfl, trivial⟩⟩ rfl rfl hl.1 rfl (lv_room (Nat.le_of_ble_eq_true rfl)) dL_acts_1213 ⟨by show _ ≤ 60; omega, by show _ ≤ 360; omega⟩) (fun j1213 hj1213 => ?_)
    refine W.eq (g2 := F0 m 1216 ls [.int (nI j1213)]) rfl ?_
    by_cases h0 : j1213 = 0
    · refine W.eq (g2 := F0 m 1216 ls [.int 0]) (by rw [h0]; rfl) ?_
      have hI := hO.1
      obtain ⟨s8, r8, n8, x1, x2, x3, x4, x5, x6, x7, x8, x9, x10, x11⟩ := hI.2.1 i hi
      obtain ⟨q8, q1, q2, q3⟩ := hI.2.2.1.2.1
      rcases (show s8 = 0 ∨ s8 = 1 ∨ s8 = 2 ∨ s8 = 3 ∨ s8 = 4 ∨ s8 = 5 ∨ s8 = 6 ∨ s8 = 7 by omega) with rfl | rfl | rfl | rfl | rfl | rfl | rfl | rfl
      · have xs : σ 1 i = 0 := x2
        rw [xs] at hl
        have hl : lv_has ls 17 [(0, .ref (ad 0)), (1, .ref (ad2 0)), (2, .ref qa), (3, .ref qm), (4, .ref qb), (5, .int zx), (6, .int zy), (7, .int (nI j4)), (8, .int (nI i)), (9, .int 0)] := hl
        refine lv_istore (lv' := [(10, .int 0), (0, .ref (ad 0)), (1, .ref (ad2 0)), (2, .ref qa), (3, .ref qm), (4, .ref qb), (5, .int zx), (6, .int zy), (7, .int (nI j4)), (8, .int (nI i)), (9, .int 0)]) hx hb dL_acts_1216 hl (by decide) rfl (fun ls hl => ?_)
        refine lv_iload hx hb dL_acts_1218 (lv_at hl 10 rfl) ?_
        refine lv_iconst (v := 5) hx hb dL_acts_1220 (by decide) ?_
        refine lv_icmp_ne (tgt := 1228) hx hb dL_acts_1221 (by decide) (fun c_2 => ?_) (fun c_2 => absurd c_2 ((by decide : ¬ (0 : Int32) = 5)))
        refine lv_ldc (v := (-1000003)) hx hb hown (hts (.constant RL 47 (-1000003)) (by decide +kernel)) dL_acts_1228 ?_
        refine lv_istore (lv' := [(11, .int (-1000003)), (10, .int 0), (0, .ref (ad 0)), (1, .ref (ad2 0)), (2, .ref qa), (3, .ref qm), (4, .ref qb), (5, .int zx), (6, .int zy), (7, .int (nI j4)), (8, .int (nI i)), (9, .int 0)]) hx hb dL_acts_1230 hl (by decide) rfl (fun ls hl => ?_)
        refine lv_aload_n hx hb dL_acts_1232 rfl (lv_at hl 2 rfl) ?_
        refine cS (W.runV (As := []) (rest := []) ⟨hx, hb, hml, hown, hts⟩ (c_X3_wipes l D cy ad σ) (cwV 0 hts gL_acts_X3_wipes rfl rfl rfl (by decide +kernel) ⟨Nat.le_of_ble_eq_true rfl, Nat.le_of_ble_eq_true rfl⟩) ⟨cw_bl, cw_F hP.left.left hK, cw_at hP.left.left hK⟩ rfl rfl hl.1 rfl (lv_room (Nat.le_of_ble_eq_true rfl)) dL_acts_1233 ⟨by show _ ≤ 60; omega, by show _ ≤ 360; omega⟩) (fun _ _ => ?_)
        refine W.eq (g2 := F0 m 1236 ls [.int (σ 20 7)]) rfl ?_
        refine W.eq (g2 := F0 m 1236 ls [.int (σ 20 7)]) (by rw [show σ 20 7 = σ 20 7 from rfl]) ?_
        refine lv_istore (lv' := [(12, .int (σ 20 7)), (11, .int (-1000003)), (10, .int 0), (0, .ref (ad 0)), (1, .ref (ad2 0)), (2, .ref qa), (3, .ref qm), (4, .ref qb), (5, .int zx), (6, .int zy), (7, .int (nI j4)), (8, .int (nI i)), (9, .int 0)]) hx hb dL_acts_1236 hl (by decide) rfl (fun ls hl => ?_)
        refine lv_aload_n hx hb dL_acts_1238 rfl (lv_at hl 3 rfl) ?_
        refine lv_iload hx hb dL_acts_1239 (lv_at hl 11 rfl) ?_
        refine lv_iload hx hb dL_acts_1241 (lv_at hl 2 rfl) ?_
        obtain ⟨hTo, hTt⟩ := noT_D hD
        refine lMi (fun q ⟨j9, h1, h2⟩ => by rw [h2]; exact hz j9 h1) (vx_runSW (As := [.ref (ad 0), .int (nI i), .int 0]) (rest := []) ⟨hx, hb, hml, hown, hts⟩ (c_L_retire l hst D cy ad hj σ sz (nI i) 0 ((-1000003)) (by rw [(show kRetire σ (nI i) 0 = 3 from kW_3 (d := 0) hi (by omega) (lit_ne (a := 0) (b := 5) x2 (by omega) (by omega) (by decide)))]; exact w123_3 _) σ (if_neg (by rw [(show kRetire σ (nI i) 0 = 3 from kW_3 (d := 0) hi (by omega) (lit_ne (a := 0) (b := 5) x2 (by omega) (by omega) (by decide)))]; decide))) (vx_cwSW 3 hts gL_acts_L_retire rfl rfl rfl (by decide +kernel) ⟨Nat.le_of_ble_eq_true rfl, Nat.le_of_ble_eq_true rfl⟩) ⟨cx_bl, cx_S hP.left.left hK Az_z hxk hS⟩ rfl rfl hl.1 rfl (lv_room (Nat.le_of_ble_eq_true rfl)) dL_acts_1243 ⟨by show _ ≤ 60; omega, by show _ ≤ 360; omega⟩) hS (fun H locs hPW hS hk1 => ?_)
        have hP := setO hne hTo hP hPW hk1
        refine W.eq (g2 := F0 m 1246 ls [.int (-1000003)]) rfl ?_
        refine lv_iload hx hb dL_acts_1246 (lv_at hl 1 rfl) ?_
        refine lv_icmp_ne (tgt := 1313) hx hb dL_acts_1248 (by decide) (fun c_3 => absurd ((by decide : (-1000003 : Int32) = -1000003)) c_3) (fun c_3 => ?_)
        refine lv_aload_n hx hb dL_acts_1251 rfl (lv_at hl 4 rfl) ?_
        refine lv_iload hx hb dL_acts_1252 (lv_at hl 11 rfl) ?_
        refine lv_iload hx hb dL_acts_1254 (lv_at hl 2 rfl) ?_
        refine lMi (fun q ⟨j9, h1, h2⟩ => by rw [h2]; exact hz2 j9 h1) (vx_runSW (As := [.ref (ad2 0), .int (nI i), .int 0]) (rest := []) ⟨hx, hb, hml, hown, hts⟩ (c_L_retire l hst D cy ad2 hj2 σ sz (nI i) 0 ((-1000003)) (by rw [(show kRetire σ (nI i) 0 = 3 from kW_3 (d := 0) hi (by omega) (lit_ne (a := 0) (b := 5) x2 (by omega) (by omega) (by decide)))]; exact w123_3 _) σ (if_neg (by rw [(show kRetire σ (nI i) 0 = 3 from kW_3 (d := 0) hi (by omega) (lit_ne (a := 0) (b := 5) x2 (by omega) (by omega) (by decide)))]; decide))) (vx_cwSW 3 hts gL_acts_L_retire rfl rfl rfl (by decide +kernel) ⟨Nat.le_of_ble_eq_true rfl, Nat.le_of_ble_eq_true rfl⟩) ⟨cx_bl, cx_S hP.left.right hK Az_z hxk hS⟩ rfl rfl hl.1 rfl (lv_room (Nat.le_of_ble_eq_true rfl)) dL_acts_1256 ⟨by show _ ≤ 60; omega, by show _ ≤ 360; omega⟩) hS (fun H locs hPW hS hk1 => ?_)
        have hP := setT hne hTt hP hPW hk1
        refine W.eq (g2 := F0 m 1259 ls [.int (-1000003)]) rfl ?_
        refine lv_iload hx hb dL_acts_1259 (lv_at hl 1 rfl) ?_
        refine lv_icmp_ne (tgt := 1313) hx hb dL_acts_1261 (by decide) (fun c_4 => absurd ((by decide : (-1000003 : Int32) = -1000003)) c_4) (fun c_4 => ?_)
        refine lv_iload hx hb dL_acts_1264 (lv_at hl 1 rfl) ?_
        refine lv_if_lt (tgt := 1309) hx hb dL_acts_1266 (by decide) (fun c_5 => ?_) (fun c_5 => absurd ((by decide : (-1000003 : Int32) < 0)) c_5)
        refine lv_iconst (v := 1) hx hb dL_acts_1309 (by decide) ?_
        refine lv_goto (tgt := 1314) hx hb dL_acts_1310 (by decide) ?_
        refine W.widen (k := 60) (n := 360) (by omega) (by omega) ?_
        have hpo : OKs h (N + 70) fa fm fb σ := hO.le (by omega)
        exact W.zret (v := 1) hx hb hr rfl (fun t ht hW => ⟨⟨_, (), rfl, rfl, ⟨_, _, _, _, by rw [ht]; exact hP, hpo⟩⟩, hS.F ht⟩) hS.2.2 dL_acts_1314
      · have xs : σ 1 i = 1 := x2
        rw [xs] at hl
        have hl : lv_has ls 17 [(0, .ref (ad 0)), (1, .ref (ad2 0)), (2, .ref qa), (3, .ref qm), (4, .ref qb), (5, .int zx), (6, .int zy), (7, .int (nI j4)), (8, .int (nI i)), (9, .int 1)] := hl
        refine lv_istore (lv' := [(10, .int 0), (0, .ref (ad 0)), (1, .ref (ad2 0)), (2, .ref qa), (3, .ref qm), (4, .ref qb), (5, .int zx), (6, .int zy), (7, .int (nI j4)), (8, .int (nI i)), (9, .int 1)]) hx hb dL_acts_1216 hl (by decide) rfl (fun ls hl => ?_)
        refine lv_iload hx hb dL_acts_1218 (lv_at hl 10 rfl) ?_
        refine lv_iconst (v := 5) hx hb dL_acts_1220 (by decide) ?_
        refine lv_icmp_ne (tgt := 1228) hx hb dL_acts_1221 (by decide) (fun c_6 => ?_) (fun c_6 => absurd c_6 ((by decide : ¬ (1 : Int32) = 5)))
        refine lv_ldc (v := (-1000003)) hx hb hown (hts (.constant RL 47 (-1000003)) (by decide +kernel)) dL_acts_1228 ?_
        refine lv_istore (lv' := [(11, .int (-1000003)), (10, .int 0), (0, .ref (ad 0)), (1, .ref (ad2 0)), (2, .ref qa), (3, .ref qm), (4, .ref qb), (5, .int zx), (6, .int zy), (7, .int (nI j4)), (8, .int (nI i)), (9, .int 1)]) hx hb dL_acts_1230 hl (by decide) rfl (fun ls hl => ?_)
        refine lv_aload_n hx hb dL_acts_1232 rfl (lv_at hl 2 rfl) ?_
        refine cS (W.runV (As := []) (rest := []) ⟨hx, hb, hml, hown, hts⟩ (c_X3_wipes l D cy ad σ) (cwV 0 hts gL_acts_X3_wipes rfl rfl rfl (by decide +kernel) ⟨Nat.le_of_ble_eq_true rfl, Nat.le_of_ble_eq_true rfl⟩) ⟨cw_bl, cw_F hP.left.left hK, cw_at hP.left.left hK⟩ rfl rfl hl.1 rfl (lv_room (Nat.le_of_ble_eq_true rfl)) dL_acts_1233 ⟨by show _ ≤ 60; omega, by show _ ≤ 360; omega⟩) (fun _ _ => ?_)
        refine W.eq (g2 := F0 m 1236 ls [.int (σ 20 7)]) rfl ?_
        refine W.eq (g2 := F0 m 1236 ls [.int (σ 20 7)]) (by rw [show σ 20 7 = σ 20 7 from rfl]) ?_
        refine lv_istore (lv' := [(12, .int (σ 20 7)), (11, .int (-1000003)), (10, .int 0), (0, .ref (ad 0)), (1, .ref (ad2 0)), (2, .ref qa), (3, .ref qm), (4, .ref qb), (5, .int zx), (6, .int zy), (7, .int (nI j4)), (8, .int (nI i)), (9, .int 1)]) hx hb dL_acts_1236 hl (by decide) rfl (fun ls hl => ?_)
        refine lv_aload_n hx hb dL_acts_1238 rfl (lv_at hl 3 rfl) ?_
        refine lv_iload hx hb dL_acts_1239 (lv_at hl 11 rfl) ?_
        refine lv_iload hx hb dL_acts_1241 (lv_at hl 2 rfl) ?_
        obtain ⟨hTo, hTt⟩ := noT_D hD
        refine lMi (fun q ⟨j9, h1, h2⟩ => by rw [h2]; exact hz j9 h1) (vx_runSW (As := [.ref (ad 0), .int (nI i), .int 0]) (rest := []) ⟨hx, hb, hml, hown, hts⟩ (c_L_retire l hst D cy ad hj σ sz (nI i) 0 ((-1000003)) (by rw [(show kRetire σ (nI i) 0 = 3 from kW_3 (d := 0) hi (by omega) (lit_ne (a := 1) (b := 5) x2 (by omega) (by omega) (by decide)))]; exact w123_3 _) σ (if_neg (by rw [(show kRetire σ (nI i) 0 = 3 from kW_3 (d := 0) hi (by omega) (lit_ne (a := 1) (b := 5) x2 (by omega) (by omega) (by decide)))]; decide))) (vx_cwSW 3 hts gL_acts_L_retire rfl rfl rfl (by decide +kernel) ⟨Nat.le_of_ble_eq_true rfl, Nat.le_of_ble_eq_true rfl⟩) ⟨cx_bl, cx_S hP.left.left hK Az_z hxk hS⟩ rfl rfl hl.1 rfl (lv_room (Nat.le_of_ble_eq_true rfl)) dL_acts_1243 ⟨by show _ ≤ 60; omega, by show _ ≤ 360; omega⟩) hS (fun H locs hPW hS hk1 => ?_)
        have hP := setO hne hTo hP hPW hk1
        refine W.eq (g2 := F0 m 1246 ls [.int (-1000003)]) rfl ?_
        refine lv_iload hx hb dL_acts_1246 (lv_at hl 1 rfl) ?_
        refine lv_icmp_ne (tgt := 1313) hx hb dL_acts_1248 (by decide) (fun c_7 => absurd ((by decide : (-1000003 : Int32) = -1000003)) c_7) (fun c_7 => ?_)
        refine lv_aload_n hx hb dL_acts_1251 rfl (lv_at hl 4 rfl) ?_
        refine lv_iload hx hb dL_acts_1252 (lv_at hl 11 rfl) ?_
        refine lv_iload hx hb dL_acts_1254 (lv_at hl 2 rfl) ?_
        refine lMi (fun q ⟨j9, h1, h2⟩ => by rw [h2]; exact hz2 j9 h1) (vx_runSW (As := [.ref (ad2 0), .int (nI i), .int 0]) (rest := []) ⟨hx, hb, hml, hown, hts⟩ (c_L_retire l hst D cy ad2 hj2 σ sz (nI i) 0 ((-1000003)) (by rw [(show kRetire σ (nI i) 0 = 3 from kW_3 (d := 0) hi (by omega) (lit_ne (a := 1) (b := 5) x2 (by omega) (by omega) (by decide)))]; exact w123_3 _) σ (if_neg (by rw [(show kRetire σ (nI i) 0 = 3 from kW_3 (d := 0) hi (by omega) (lit_ne (a := 1) (b := 5) x2 (by omega) (by omega) (by decide)))]; decide))) (vx_cwSW 3 hts gL_acts_L_retire rfl rfl rfl (by decide +kernel) ⟨Nat.le_of_ble_eq_true rfl, Nat.le_of_ble_eq_true rfl⟩) ⟨cx_bl, cx_S hP.left.right hK Az_z hxk hS⟩ rfl rfl hl.1 rfl (lv_room (Nat.le_of_ble_eq_true rfl)) dL_acts_1256 ⟨by show _ ≤ 60; omega, by show _ ≤ 360; omega⟩) hS (fun H locs hPW hS hk1 => ?_)
        have hP := setT hne hTt hP hPW hk1
        refine W.eq (g2 := F0 m 1259 ls [.int (-1000003)]) rfl ?_
        refine lv_iload hx hb dL_acts_1259 (lv_at hl 1 rfl) ?_
        refine lv_icmp_ne (tgt := 1313) hx hb dL_acts_1261 (by decide) (fun c_8 => absurd ((by decide : (-1000003 : Int32) = -1000003)) c_8) (fun c_8 => ?_)
        refine lv_iload hx hb dL_acts_1264 (lv_at hl 1 rfl) ?_
        refine lv_if_lt (tgt := 1309) hx hb dL_acts_1266 (by decide) (fun c_9 => ?_) (fun c_9 => absurd ((by decide : (-1000003 : Int32) < 0)) c_9)
        refine lv_iconst (v := 1) hx hb dL_acts_1309 (by decide) ?_
        refine lv_goto (tgt := 1314) hx hb dL_acts_1310 (by decide) ?_
        refine W.widen (k := 60) (n := 360) (by omega) (by omega) ?_
        have hpo : OKs h (N + 70) fa fm fb σ := hO.le (by omega)
        exact W.zret (v := 1) hx hb hr rfl (fun t ht hW => ⟨⟨_, (), rfl, rfl, ⟨_, _, _, _, by rw [ht]; exact hP, hpo⟩⟩, hS.F ht⟩) hS.2.2 dL_acts_1314
      · have xs : σ 1 i = 2 := x2
        rw [xs] at hl
        have hl : lv_has ls 17 [(0, .ref (ad 0)), (1, .ref (ad2 0)), (2, .ref qa), (3, .ref qm), (4, .ref qb), (5, .int zx), (6, .int zy), (7, .int (nI j4)), (8, .int (nI i)), (9, .int 2)] := hl
        refine lv_istore (lv' := [(10, .int 0), (0, .ref (ad 0)), (1, .ref (ad2 0)), (2, .ref qa), (3, .ref qm), (4, .ref qb), (5, .int zx), (6, .int zy), (7, .int (nI j4)), (8, .int (nI i)), (9, .int 2)]) hx hb dL_acts_1216 hl (by decide) rfl (fun ls hl => ?_)
        refine lv_iload hx hb dL_acts_1218 (lv_at hl 10 rfl) ?_
        refine lv_iconst (v := 5) hx hb dL_acts_1220 (by decide) ?_
        refine lv_icmp_ne (tgt := 1228) hx hb dL_acts_1221 (by decide) (fun c_10 => ?_) (fun c_10 => absurd c_10 ((by decide : ¬ (2 : Int32) = 5)))
        refine lv_ldc (v := (-1000003)) hx hb hown (hts (.constant RL 47 (-1000003)) (by decide +kernel)) dL_acts_1228 ?_
        refine lv_istore (lv' := [(11, .int (-1000003)), (10, .int 0), (0, .ref (ad 0)), (1, .ref (ad2 0)), (2, .ref qa), (3, .ref qm), (4, .ref qb), (5, .int zx), (6, .int zy), (7, .int (nI j4)), (8, .int (nI i)), (9, .int 2)]) hx hb dL_acts_1230 hl (by decide) rfl (fun ls hl => ?_)
        refine lv_aload_n hx hb dL_acts_1232 rfl (lv_at hl 2 rfl) ?_
        refine cS (W.runV (As := []) (rest := []) ⟨hx, hb, hml, hown, hts⟩ (c_X3_wipes l D cy ad σ) (cwV 0 hts gL_acts_X3_wipes rfl rfl rfl (by decide +kernel) ⟨Nat.le_of_ble_eq_true rfl, Nat.le_of_ble_eq_true rfl⟩) ⟨cw_bl, cw_F hP.left.left hK, cw_at hP.left.left hK⟩ rfl rfl hl.1 rfl (lv_room (Nat.le_of_ble_eq_true rfl)) dL_acts_1233 ⟨by show _ ≤ 60; omega, by show _ ≤ 360; omega⟩) (fun _ _ => ?_)
        refine W.eq (g2 := F0 m 1236 ls [.int (σ 20 7)]) rfl ?_
        refine W.eq (g2 := F0 m 1236 ls [.int (σ 20 7)]) (by rw [show σ 20 7 = σ 20 7 from rfl]) ?_
        refine lv_istore (lv' := [(12, .int (σ 20 7)), (11, .int (-1000003)), (10, .int 0), (0, .ref (ad 0)), (1, .ref (ad2 0)), (2, .ref qa), (3, .ref qm), (4, .ref qb), (5, .int zx), (6, .int zy), (7, .int (nI j4)), (8, .int (nI i)), (9, .int 2)]) hx hb dL_acts_1236 hl (by decide) rfl (fun ls hl => ?_)
        refine lv_aload_n hx hb dL_acts_1238 rfl (lv_at hl 3 rfl) ?_
        refine lv_iload hx hb dL_acts_1239 (lv_at hl 11 rfl) ?_
        refine lv_iload hx hb dL_acts_1241 (lv_at hl 2 rfl) ?_
        obtain ⟨hTo, hTt⟩ := noT_D hD
        refine lMi (fun q ⟨j9, h1, h2⟩ => by rw [h2]; exact hz j9 h1) (vx_runSW (As := [.ref (ad 0), .int (nI i), .int 0]) (rest := []) ⟨hx, hb, hml, hown, hts⟩ (c_L_retire l hst D cy ad hj σ sz (nI i) 0 ((-1000003)) (by rw [(show kRetire σ (nI i) 0 = 3 from kW_3 (d := 0) hi (by omega) (lit_ne (a := 2) (b := 5) x2 (by omega) (by omega) (by decide)))]; exact w123_3 _) σ (if_neg (by rw [(show kRetire σ (nI i) 0 = 3 from kW_3 (d := 0) hi (by omega) (lit_ne (a := 2) (b := 5) x2 (by omega) (by omega) (by decide)))]; decide))) (vx_cwSW 3 hts gL_acts_L_retire rfl rfl rfl (by decide +kernel) ⟨Nat.le_of_ble_eq_true rfl, Nat.le_of_ble_eq_true rfl⟩) ⟨cx_bl, cx_S hP.left.left hK Az_z hxk hS⟩ rfl rfl hl.1 rfl (lv_room (Nat.le_of_ble_eq_true rfl)) dL_acts_1243 ⟨by show _ ≤ 60; omega, by show _ ≤ 360; omega⟩) hS (fun H locs hPW hS hk1 => ?_)
        have hP := setO hne hTo hP hPW hk1
        refine W.eq (g2 := F0 m 1246 ls [.int (-1000003)]) rfl ?_
        refine lv_iload hx hb dL_acts_1246 (lv_at hl 1 rfl) ?_
        refine lv_icmp_ne (tgt := 1313) hx hb dL_acts_1248 (by decide) (fun c_11 => absurd ((by decide : (-1000003 : Int32) = -1000003)) c_11) (fun c_11 => ?_)
        refine lv_aload_n hx hb dL_acts_1251 rfl (lv_at hl 4 rfl) ?_
        refine lv_iload hx hb dL_acts_1252 (lv_at hl 11 rfl) ?_
        refine lv_iload hx hb dL_acts_1254 (lv_at hl 2 rfl) ?_
        refine lMi (fun q ⟨j9, h1, h2⟩ => by rw [h2]; exact hz2 j9 h1) (vx_runSW (As := [.ref (ad2 0), .int (nI i), .int 0]) (rest := []) ⟨hx, hb, hml, hown, hts⟩ (c_L_retire l hst D cy ad2 hj2 σ sz (nI i) 0 ((-1000003)) (by rw [(show kRetire σ (nI i) 0 = 3 from kW_3 (d := 0) hi (by omega) (lit_ne (a := 2) (b := 5) x2 (by omega) (by omega) (by decide)))]; exact w123_3 _) σ (if_neg (by rw [(show kRetire σ (nI i) 0 = 3 from kW_3 (d := 0) hi (by omega) (lit_ne (a := 2) (b := 5) x2 (by omega) (by omega) (by decide)))]; decide))) (vx_cwSW 3 hts gL_acts_L_retire rfl rfl rfl (by decide +kernel) ⟨Nat.le_of_ble_eq_true rfl, Nat.le_of_ble_eq_true rfl⟩) ⟨cx_bl, cx_S hP.left.right hK Az_z hxk hS⟩ rfl rfl hl.1 rfl (lv_room (Nat.le_of_ble_eq_true rfl)) dL_acts_1256 ⟨by show _ ≤ 60; omega, by show _ ≤ 360; omega⟩) hS (fun H locs hPW hS hk1 => ?_)
        have hP := setT hne hTt hP hPW hk1
        refine W.eq (g2 := F0 m 1259 ls [.int (-1000003)]) rfl ?_
        refine lv_iload hx hb dL_acts_1259 (lv_at hl 1 rfl) ?_
        refine lv_icmp_ne (tgt := 1313) hx hb dL_acts_1261 (by decide) (fun c_12 => absurd ((by decide : (-1000003 : Int32) = -1000003)) c_12) (fun c_12 => ?_)
        refine lv_iload hx hb dL_acts_1264 (lv_at hl 1 rfl) ?_
        refine lv_if_lt (tgt := 1309) hx hb dL_acts_1266 (by decide) (fun c_13 => ?_) (fun c_13 => absurd ((by decide : (-1000003 : Int32) < 0)) c_13)
        refine lv_iconst (v := 1) hx hb dL_acts_1309 (by decide) ?_
        refine lv_goto (tgt := 1314) hx hb dL_acts_1310 (by decide) ?_
        refine W.widen (k := 60) (n := 360) (by omega) (by omega) ?_
        have hpo : OKs h (N + 70) fa fm fb σ := hO.le (by omega)
        exact W.zret (v := 1) hx hb hr rfl (fun t ht hW => ⟨⟨_, (), rfl, rfl, ⟨_, _, _, _, by rw [ht]; exact hP, hpo⟩⟩, hS.F ht⟩) hS.2.2 dL_acts_1314
      · have xs : σ 1 i = 3 := x2
        rw [xs] at hl
        have hl : lv_has ls 17 [(0, .ref (ad 0)), (1, .ref (ad2 0)), (2, .ref qa), (3, .ref qm), (4, .ref qb), (5, .int zx), (6, .int zy), (7, .int (nI j4)), (8, .int (nI i)), (9, .int 3)] := hl
        refine lv_istore (lv' := [(10, .int 0), (0, .ref (ad 0)), (1, .ref (ad2 0)), (2, .ref qa), (3, .ref qm), (4, .ref qb), (5, .int zx), (6, .int zy), (7, .int (nI j4)), (8, .int (nI i)), (9, .int 3)]) hx hb dL_acts_1216 hl (by decide) rfl (fun ls hl => ?_)
        refine lv_iload hx hb dL_acts_1218 (lv_at hl 10 rfl) ?_
        refine lv_iconst (v := 5) hx hb dL_acts_1220 (by decide) ?_
        refine lv_icmp_ne (tgt := 1228) hx hb dL_acts_1221 (by decide) (fun c_14 => ?_) (fun c_14 => absurd c_14 ((by decide : ¬ (3 : Int32) = 5)))
        refine lv_ldc (v := (-1000003)) hx hb hown (hts (.constant RL 47 (-1000003)) (by decide +kernel)) dL_acts_1228 ?_
        refine lv_istore (lv' := [(11, .int (-1000003)), (10, .int 0), (0, .ref (ad 0)), (1, .ref (ad2 0)), (2, .ref qa), (3, .ref qm), (4, .ref qb), (5, .int zx), (6, .int zy), (7, .int (nI j4)), (8, .int (nI i)), (9, .int 3)]) hx hb dL_acts_1230 hl (by decide) rfl (fun ls hl => ?_)
        refine lv_aload_n hx hb dL_acts_1232 rfl (lv_at hl 2 rfl) ?_
        refine cS (W.runV (As := []) (rest := []) ⟨hx, hb, hml, hown, hts⟩ (c_X3_wipes l D cy ad σ) (cwV 0 hts gL_acts_X3_wipes rfl rfl rfl (by decide +kernel) ⟨Nat.le_of_ble_eq_true rfl, Nat.le_of_ble_eq_true rfl⟩) ⟨cw_bl, cw_F hP.left.left hK, cw_at hP.left.left hK⟩ rfl rfl hl.1 rfl (lv_room (Nat.le_of_ble_eq_true rfl)) dL_acts_1233 ⟨by show _ ≤ 60; omega, by show _ ≤ 360; omega⟩) (fun _ _ => ?_)
        refine W.eq (g2 := F0 m 1236 ls [.int (σ 20 7)]) rfl ?_
        refine W.eq (g2 := F0 m 1236 ls [.int (σ 20 7)]) (by rw [show σ 20 7 = σ 20 7 from rfl]) ?_
        refine lv_istore (lv' := [(12, .int (σ 20 7)), (11, .int (-1000003)), (10, .int 0), (0, .ref (ad 0)), (1, .ref (ad2 0)), (2, .ref qa), (3, .ref qm), (4, .ref qb), (5, .int zx), (6, .int zy), (7, .int (nI j4)), (8, .int (nI i)), (9, .int 3)]) hx hb dL_acts_1236 hl (by decide) rfl (fun ls hl => ?_)
        refine lv_aload_n hx hb dL_acts_1238 rfl (lv_at hl 3 rfl) ?_
        refine lv_iload hx hb dL_acts_1239 (lv_at hl 11 rfl) ?_
        refine lv_iload hx hb dL_acts_1241 (lv_at hl 2 rfl) ?_
        obtain ⟨hTo, hTt⟩ := noT_D hD
        refine lMi (fun q ⟨j9, h1, h2⟩ => by rw [h2]; exact hz j9 h1) (vx_runSW (As := [.ref (ad 0), .int (nI i), .int 0]) (rest := []) ⟨hx, hb, hml, hown, hts⟩ (c_L_retire l hst D cy ad hj σ sz (nI i) 0 ((-1000003)) (by rw [(show kRetire σ (nI i) 0 = 3 from kW_3 (d := 0) hi (by omega) (lit_ne (a := 3) (b := 5) x2 (by omega) (by omega) (by decide)))]; exact w123_3 _) σ (if_neg (by rw [(show kRetire σ (nI i) 0 = 3 from kW_3 (d := 0) hi (by omega) (lit_ne (a := 3) (b := 5) x2 (by omega) (by omega) (by decide)))]; decide))) (vx_cwSW 3 hts gL_acts_L_retire rfl rfl rfl (by decide +kernel) ⟨Nat.le_of_ble_eq_true rfl, Nat.le_of_ble_eq_true rfl⟩) ⟨cx_bl, cx_S hP.left.left hK Az_z hxk hS⟩ rfl rfl hl.1 rfl (lv_room (Nat.le_of_ble_eq_true rfl)) dL_acts_1243 ⟨by show _ ≤ 60; omega, by show _ ≤ 360; omega⟩) hS (fun H locs hPW hS hk1 => ?_)
        have hP := setO hne hTo hP hPW hk1
        refine W.eq (g2 := F0 m 1246 ls [.int (-1000003)]) rfl ?_
        refine lv_iload hx hb dL_acts_1246 (lv_at hl 1 rfl) ?_
        refine lv_icmp_ne (tgt := 1313) hx hb dL_acts_1248 (by decide) (fun c_15 => absurd ((by decide : (-1000003 : Int32) = -1000003)) c_15) (fun c_15 => ?_)
        refine lv_aload_n hx hb dL_acts_1251 rfl (lv_at hl 4 rfl) ?_
        refine lv_iload hx hb dL_acts_1252 (lv_at hl 11 rfl) ?_
        refine lv_iload hx hb dL_acts_1254 (lv_at hl 2 rfl) ?_
        refine lMi (fun q ⟨j9, h1, h2⟩ => by rw [h2]; exact hz2 j9 h1) (vx_runSW (As := [.ref (ad2 0), .int (nI i), .int 0]) (rest := []) ⟨hx, hb, hml, hown, hts⟩ (c_L_retire l hst D cy ad2 hj2 σ sz (nI i) 0 ((-1000003)) (by rw [(show kRetire σ (nI i) 0 = 3 from kW_3 (d := 0) hi (by omega) (lit_ne (a := 3) (b := 5) x2 (by omega) (by omega) (by decide)))]; exact w123_3 _) σ (if_neg (by rw [(show kRetire σ (nI i) 0 = 3 from kW_3 (d := 0) hi (by omega) (lit_ne (a := 3) (b := 5) x2 (by omega) (by omega) (by decide)))]; decide))) (vx_cwSW 3 hts gL_acts_L_retire rfl rfl rfl (by decide +kernel) ⟨Nat.le_of_ble_eq_true rfl, Nat.le_of_ble_eq_true rfl⟩) ⟨cx_bl, cx_S hP.left.right hK Az_z hxk hS⟩ rfl rfl hl.1 rfl (lv_room (Nat.le_of_ble_eq_true rfl)) dL_acts_1256 ⟨by show _ ≤ 60; omega, by show _ ≤ 360; omega⟩) hS (fun H locs hPW hS hk1 => ?_)
        have hP := setT hne hTt hP hPW hk1
        refine W.eq (g2 := F0 m 1259 ls [.int (-1000003)]) rfl ?_
        refine lv_iload hx hb dL_acts_1259 (lv_at hl 1 rfl) ?_
        refine lv_icmp_ne (tgt := 1313) hx hb dL_acts_1261 (by decide) (fun c_16 => absurd ((by decide : (-1000003 : Int32) = -1000003)) c_16) (fun c_16 => ?_)
        refine lv_iload hx hb dL_acts_1264 (lv_at hl 1 rfl) ?_
        refine lv_if_lt (tgt := 1309) hx hb dL_acts_1266 (by decide) (fun c_17 => ?_) (fun c_17 => absurd ((by decide : (-1000003 : Int32) < 0)) c_17)
        refine lv_iconst (v := 1) hx hb dL_acts_1309 (by decide) ?_
        refine lv_goto (tgt := 1314) hx hb dL_acts_1310 (by decide) ?_
        refine W.widen (k := 60) (n := 360) (by omega) (by omega) ?_
        have hpo : OKs h (N + 70) fa fm fb σ := hO.le (by omega)
        exact W.zret (v := 1) hx hb hr rfl (fun t ht hW => ⟨⟨_, (), rfl, rfl, ⟨_, _, _, _, by rw [ht]; exact hP, hpo⟩⟩, hS.F ht⟩) hS.2.2 dL_acts_1314
      · have xs : σ 1 i = 4 := x2
        rw [xs] at hl
        have hl : lv_has ls 17 [(0, .ref (ad 0)), (1, .ref (ad2 0)), (2, .ref qa), (3, .ref qm), (4, .ref qb), (5, .int zx), (6, .int zy), (7, .int (nI j4)), (8, .int (nI i)), (9, .int 4)] := hl
        refine lv_istore (lv' := [(10, .int 0), (0, .ref (ad 0)), (1, .ref (ad2 0)), (2, .ref qa), (3, .ref qm), (4, .ref qb), (5, .int zx), (6, .int zy), (7, .int (nI j4)), (8, .int (nI i)), (9, .int 4)]) hx hb dL_acts_1216 hl (by decide) rfl (fun ls hl => ?_)
        refine lv_iload hx hb dL_acts_1218 (lv_at hl 10 rfl) ?_
        refine lv_iconst (v := 5) hx hb dL_acts_1220 (by decide) ?_
        refine lv_icmp_ne (tgt := 1228) hx hb dL_acts_1221 (by decide) (fun c_18 => ?_) (fun c_18 => absurd c_18 ((by decide : ¬ (4 : Int32) = 5)))
        refine lv_ldc (v := (-1000003)) hx hb hown (hts (.constant RL 47 (-1000003)) (by decide +kernel)) dL_acts_1228 ?_
        refine lv_istore (lv' := [(11, .int (-1000003)), (10, .int 0), (0, .ref (ad 0)), (1, .ref (ad2 0)), (2, .ref qa), (3, .ref qm), (4, .ref qb), (5, .int zx), (6, .int zy), (7, .int (nI j4)), (8, .int (nI i)), (9, .int 4)]) hx hb dL_acts_1230 hl (by decide) rfl (fun ls hl => ?_)
        refine lv_aload_n hx hb dL_acts_1232 rfl (lv_at hl 2 rfl) ?_
        refine cS (W.runV (As := []) (rest := []) ⟨hx, hb, hml, hown, hts⟩ (c_X3_wipes l D cy ad σ) (cwV 0 hts gL_acts_X3_wipes rfl rfl rfl (by decide +kernel) ⟨Nat.le_of_ble_eq_true rfl, Nat.le_of_ble_eq_true rfl⟩) ⟨cw_bl, cw_F hP.left.left hK, cw_at hP.left.left hK⟩ rfl rfl hl.1 rfl (lv_room (Nat.le_of_ble_eq_true rfl)) dL_acts_1233 ⟨by show _ ≤ 60; omega, by show _ ≤ 360; omega⟩) (fun _ _ => ?_)
        refine W.eq (g2 := F0 m 1236 ls [.int (σ 20 7)]) rfl ?_
        refine W.eq (g2 := F0 m 1236 ls [.int (σ 20 7)]) (by rw [show σ 20 7 = σ 20 7 from rfl]) ?_
        refine lv_istore (lv' := [(12, .int (σ 20 7)), (11, .int (-1000003)), (10, .int 0), (0, .ref (ad 0)), (1, .ref (ad2 0)), (2, .ref qa), (3, .ref qm), (4, .ref qb), (5, .int zx), (6, .int zy), (7, .int (nI j4)), (8, .int (nI i)), (9, .int 4)]) hx hb dL_acts_1236 hl (by decide) rfl (fun ls hl => ?_)
        refine lv_aload_n hx hb dL_acts_1238 rfl (lv_at hl 3 rfl) ?_
        refine lv_iload hx hb dL_acts_1239 (lv_at hl 11 rfl) ?_
        refine lv_iload hx hb dL_acts_1241 (lv_at hl 2 rfl) ?_
        obtain ⟨hTo, hTt⟩ := noT_D hD
        refine lMi (fun q ⟨j9, h1, h2⟩ => by rw [h2]; exact hz j9 h1) (vx_runSW (As := [.ref (ad 0), .int (nI i), .int 0]) (rest := []) ⟨hx, hb, hml, hown, hts⟩ (c_L_retire l hst D cy ad hj σ sz (nI i) 0 ((-1000003)) (by rw [(show kRetire σ (nI i) 0 = 3 from kW_3 (d := 0) hi (by omega) (lit_ne (a := 4) (b := 5) x2 (by omega) (by omega) (by decide)))]; exact w123_3 _) σ (if_neg (by rw [(show kRetire σ (nI i) 0 = 3 from kW_3 (d := 0) hi (by omega) (lit_ne (a := 4) (b := 5) x2 (by omega) (by omega) (by decide)))]; decide))) (vx_cwSW 3 hts gL_acts_L_retire rfl rfl rfl (by decide +kernel) ⟨Nat.le_of_ble_eq_true rfl, Nat.le_of_ble_eq_true rfl⟩) ⟨cx_bl, cx_S hP.left.left hK Az_z hxk hS⟩ rfl rfl hl.1 rfl (lv_room (Nat.le_of_ble_eq_true rfl)) dL_acts_1243 ⟨by show _ ≤ 60; omega, by show _ ≤ 360; omega⟩) hS (fun H locs hPW hS hk1 => ?_)
        have hP := setO hne hTo hP hPW hk1
        refine W.eq (g2 := F0 m 1246 ls [.int (-1000003)]) rfl ?_
        refine lv_iload hx hb dL_acts_1246 (lv_at hl 1 rfl) ?_
        refine lv_icmp_ne (tgt := 1313) hx hb dL_acts_1248 (by decide) (fun c_19 => absurd ((by decide : (-1000003 : Int32) = -1000003)) c_19) (fun c_19 => ?_)
        refine lv_aload_n hx hb dL_acts_1251 rfl (lv_at hl 4 rfl) ?_
        refine lv_iload hx hb dL_acts_1252 (lv_at hl 11 rfl) ?_
        refine lv_iload hx hb dL_acts_1254 (lv_at hl 2 rfl) ?_
        refine lMi (fun q ⟨j9, h1, h2⟩ => by rw [h2]; exact hz2 j9 h1) (vx_runSW (As := [.ref (ad2 0), .int (nI i), .int 0]) (rest := []) ⟨hx, hb, hml, hown, hts⟩ (c_L_retire l hst D cy ad2 hj2 σ sz (nI i) 0 ((-1000003)) (by rw [(show kRetire σ (nI i) 0 = 3 from kW_3 (d := 0) hi (by omega) (lit_ne (a := 4) (b := 5) x2 (by omega) (by omega) (by decide)))]; exact w123_3 _) σ (if_neg (by rw [(show kRetire σ (nI i) 0 = 3 from kW_3 (d := 0) hi (by omega) (lit_ne (a := 4) (b := 5) x2 (by omega) (by omega) (by decide)))]; decide))) (vx_cwSW 3 hts gL_acts_L_retire rfl rfl rfl (by decide +kernel) ⟨Nat.le_of_ble_eq_true rfl, Nat.le_of_ble_eq_true rfl⟩) ⟨cx_bl, cx_S hP.left.right hK Az_z hxk hS⟩ rfl rfl hl.1 rfl (lv_room (Nat.le_of_ble_eq_true rfl)) dL_acts_1256 ⟨by show _ ≤ 60; omega, by show _ ≤ 360; omega⟩) hS (fun H locs hPW hS hk1 => ?_)
        have hP := setT hne hTt hP hPW hk1
        refine W.eq (g2 := F0 m 1259 ls [.int (-1000003)]) rfl ?_
        refine lv_iload hx hb dL_acts_1259 (lv_at hl 1 rfl) ?_
        refine lv_icmp_ne (tgt := 1313) hx hb dL_acts_1261 (by decide) (fun c_20 => absurd ((by decide : (-1000003 : Int32) = -1000003)) c_20) (fun c_20 => ?_)
        refine lv_iload hx hb dL_acts_1264 (lv_at hl 1 rfl) ?_
        refine lv_if_lt (tgt := 1309) hx hb dL_acts_1266 (by decide) (fun c_21 => ?_) (fun c_21 => absurd ((by decide : (-1000003 : Int32) < 0)) c_21)
        refine lv_iconst (v := 1) hx hb dL_acts_1309 (by decide) ?_
        refine lv_goto (tgt := 1314) hx hb dL_acts_1310 (by decide) ?_
        refine W.widen (k := 60) (n := 360) (by omega) (by omega) ?_
        have hpo : OKs h (N + 70) fa fm fb σ := hO.le (by omega)
        exact W.zret (v := 1) hx hb hr rfl (fun t ht hW => ⟨⟨_, (), rfl, rfl, ⟨_, _, _, _, by rw [ht]; exact hP, hpo⟩⟩, hS.F ht⟩) hS.2.2 dL_acts_1314
      · have xs : σ 1 i = 5 := x2
        rw [xs] at hl
        have hl : lv_has ls 17 [(0, .ref (ad 0)), (1, .ref (ad2 0)), (2, .ref qa), (3, .ref qm), (4, .ref qb), (5, .int zx), (6, .int zy), (7, .int (nI j4)), (8, .int (nI i)), (9, .int 5)] := hl
        obtain ⟨aO, at9, aw9⟩ := a_wipe hO (by omega) hi xs
        refine lv_istore (lv' := [(10, .int 0), (0, .ref (ad 0)), (1, .ref (ad2 0)), (2, .ref qa), (3, .ref qm), (4, .ref qb), (5, .int zx), (6, .int zy), (7, .int (nI j4)), (8, .int (nI i)), (9, .int 5)]) hx hb dL_acts_1216 hl (by decide) rfl (fun ls hl => ?_)
        refine lv_iload hx hb dL_acts_1218 (lv_at hl 10 rfl) ?_
        refine lv_iconst (v := 5) hx hb dL_acts_1220 (by decide) ?_
        refine lv_icmp_ne (tgt := 1228) hx hb dL_acts_1221 (by decide) (fun c_22 => absurd ((by decide : (5 : Int32) = 5)) c_22) (fun c_22 => ?_)
        refine lv_iconst (v := 0) hx hb dL_acts_1224 (by decide) ?_
        refine lv_goto (tgt := 1230) hx hb dL_acts_1225 (by decide) ?_
        refine lv_istore (lv' := [(11, .int 0), (10, .int 0), (0, .ref (ad 0)), (1, .ref (ad2 0)), (2, .ref qa), (3, .ref qm), (4, .ref qb), (5, .int zx), (6, .int zy), (7, .int (nI j4)), (8, .int (nI i)), (9, .int 5)]) hx hb dL_acts_1230 hl (by decide) rfl (fun ls hl => ?_)
        refine lv_aload_n hx hb dL_acts_1232 rfl (lv_at hl 2 rfl) ?_
        refine cS (W.runV (As := []) (rest := []) ⟨hx, hb, hml, hown, hts⟩ (c_X3_wipes l D cy ad σ) (cwV 0 hts gL_acts_X3_wipes rfl rfl rfl (by decide +kernel) ⟨Nat.le_of_ble_eq_true rfl, Nat.le_of_ble_eq_true rfl⟩) ⟨cw_bl, cw_F hP.left.left hK, cw_at hP.left.left hK⟩ rfl rfl hl.1 rfl (lv_room (Nat.le_of_ble_eq_true rfl)) dL_acts_1233 ⟨by show _ ≤ 60; omega, by show _ ≤ 360; omega⟩) (fun _ _ => ?_)
        refine W.eq (g2 := F0 m 1236 ls [.int (σ 20 7)]) rfl ?_
        refine W.eq (g2 := F0 m 1236 ls [.int (σ 20 7)]) (by rw [show σ 20 7 = σ 20 7 from rfl]) ?_
        refine lv_istore (lv' := [(12, .int (σ 20 7)), (11, .int 0), (10, .int 0), (0, .ref (ad 0)), (1, .ref (ad2 0)), (2, .ref qa), (3, .ref qm), (4, .ref qb), (5, .int zx), (6, .int zy), (7, .int (nI j4)), (8, .int (nI i)), (9, .int 5)]) hx hb dL_acts_1236 hl (by decide) rfl (fun ls hl => ?_)
        refine lv_aload_n hx hb dL_acts_1238 rfl (lv_at hl 3 rfl) ?_
        refine lv_iload hx hb dL_acts_1239 (lv_at hl 11 rfl) ?_
        refine lv_iload hx hb dL_acts_1241 (lv_at hl 2 rfl) ?_
        obtain ⟨hTo, hTt⟩ := noT_D hD
        refine lMi (fun q ⟨j9, h1, h2⟩ => by rw [h2]; exact hz j9 h1) (vx_runSW (As := [.ref (ad 0), .int (nI i), .int 0]) (rest := []) ⟨hx, hb, hml, hown, hts⟩ (c_L_retire l hst D cy ad hj σ sz (nI i) 0 (0) (w123_0 (show kRetire σ (nI i) 0 = 0 from kW_0 (d := 0) hi (by omega) xs)) (gRetire σ (nI i) 0) (if_pos (show kRetire σ (nI i) 0 = 0 from kW_0 (d := 0) hi (by omega) xs))) (vx_cwSW 3 hts gL_acts_L_retire rfl rfl rfl (by decide +kernel) ⟨Nat.le_of_ble_eq_true rfl, Nat.le_of_ble_eq_true rfl⟩) ⟨cx_bl, cx_S hP.left.left hK Az_z hxk hS⟩ rfl rfl hl.1 rfl (lv_room (Nat.le_of_ble_eq_true rfl)) dL_acts_1243 ⟨by show _ ≤ 60; omega, by show _ ≤ 360; omega⟩) hS (fun H locs hPW hS hk1 => ?_)
        have hP := setO hne hTo hP hPW hk1
        refine W.eq (g2 := F0 m 1246 ls [.int 0]) rfl ?_
        refine lv_iload hx hb dL_acts_1246 (lv_at hl 1 rfl) ?_
        refine lv_icmp_ne (tgt := 1313) hx hb dL_acts_1248 (by decide) (fun c_23 => absurd ((by decide : (0 : Int32) = 0)) c_23) (fun c_23 => ?_)
        refine lv_aload_n hx hb dL_acts_1251 rfl (lv_at hl 4 rfl) ?_
        refine lv_iload hx hb dL_acts_1252 (lv_at hl 11 rfl) ?_
        refine lv_iload hx hb dL_acts_1254 (lv_at hl 2 rfl) ?_
        refine lMi (fun q ⟨j9, h1, h2⟩ => by rw [h2]; exact hz2 j9 h1) (vx_runSW (As := [.ref (ad2 0), .int (nI i), .int 0]) (rest := []) ⟨hx, hb, hml, hown, hts⟩ (c_L_retire l hst D cy ad2 hj2 σ sz (nI i) 0 (0) (w123_0 (show kRetire σ (nI i) 0 = 0 from kW_0 (d := 0) hi (by omega) xs)) (gRetire σ (nI i) 0) (if_pos (show kRetire σ (nI i) 0 = 0 from kW_0 (d := 0) hi (by omega) xs))) (vx_cwSW 3 hts gL_acts_L_retire rfl rfl rfl (by decide +kernel) ⟨Nat.le_of_ble_eq_true rfl, Nat.le_of_ble_eq_true rfl⟩) ⟨cx_bl, cx_S hP.left.right hK Az_z hxk hS⟩ rfl rfl hl.1 rfl (lv_room (Nat.le_of_ble_eq_true rfl)) dL_acts_1256 ⟨by show _ ≤ 60; omega, by show _ ≤ 360; omega⟩) hS (fun H locs hPW hS hk1 => ?_)
        have hP := setT hne hTt hP hPW hk1
        refine W.eq (g2 := F0 m 1259 ls [.int 0]) rfl ?_
        refine lv_iload hx hb dL_acts_1259 (lv_at hl 1 rfl) ?_
        refine lv_icmp_ne (tgt := 1313) hx hb dL_acts_1261 (by decide) (fun c_24 => absurd ((by decide : (0 : Int32) = 0)) c_24) (fun c_24 => ?_)
        refine lv_iload hx hb dL_acts_1264 (lv_at hl 1 rfl) ?_
        refine lv_if_lt (tgt := 1309) hx hb dL_acts_1266 (by decide) (fun c_25 => absurd c_25 ((by decide : ¬ (0 : Int32) < 0))) (fun c_25 => ?_)
        refine lv_aload_n hx hb dL_acts_1269 rfl (lv_at hl 3 rfl) ?_
        refine lv_iload hx hb dL_acts_1270 (lv_at hl 11 rfl) ?_
        refine rMi (vx_runSW (As := [.ref (ad 0), .int (nI i)]) (rest := []) ⟨hx, hb, hml, hown, hts⟩ (c_L_stateOf l hst D cy ad (gRetire σ (nI i) 0) sz (nI i) (1) ((wS hi).trans at9)) (vx_cwSW 2 hts gL_acts_L_stateOf rfl rfl rfl (by decide +kernel) ⟨Nat.le_of_ble_eq_true rfl, Nat.le_of_ble_eq_true rfl⟩) ⟨cx_bl, cx_S hP.left.left hK Az_z hxk hS⟩ rfl rfl hl.1 rfl (lv_room (Nat.le_of_ble_eq_true rfl)) dL_acts_1272 ⟨by show _ ≤ 60; omega, by show _ ≤ 360; omega⟩) hS (fun H locs hS hg => ?_)
        have hP := hP.grown hg
        refine W.eq (g2 := F0 m 1275 ls [.int 1]) rfl ?_
        refine lv_iload hx hb dL_acts_1275 (lv_at hl 2 rfl) ?_
        refine lv_if_ne (tgt := 1284) hx hb dL_acts_1277 (by decide) (fun c_26 => absurd ((by decide : (0 : Int32) = 0)) c_26) (fun c_26 => ?_)
        refine lv_iconst (v := 1) hx hb dL_acts_1280 (by decide) ?_
        refine lv_goto (tgt := 1286) hx hb dL_acts_1281 (by decide) ?_
        refine lv_icmp_ne (tgt := 1313) hx hb dL_acts_1286 (by decide) (fun c_27 => absurd ((by decide : (1 : Int32) = 1)) c_27) (fun c_27 => ?_)
        refine lv_aload_n hx hb dL_acts_1289 rfl (lv_at hl 3 rfl) ?_
        refine cS (W.runV (As := []) (rest := []) ⟨hx, hb, hml, hown, hts⟩ (c_X3_wipes l D cy ad (gRetire σ (nI i) 0)) (cwV 0 hts gL_acts_X3_wipes rfl rfl rfl (by decide +kernel) ⟨Nat.le_of_ble_eq_true rfl, Nat.le_of_ble_eq_true rfl⟩) ⟨cw_bl, cw_F hP.left.left hK, cw_at hP.left.left hK⟩ rfl rfl hl.1 rfl (lv_room (Nat.le_of_ble_eq_true rfl)) dL_acts_1290 ⟨by show _ ≤ 60; omega, by show _ ≤ 360; omega⟩) (fun _ _ => ?_)
        refine W.eq (g2 := F0 m 1293 ls [.int ((gRetire σ (nI i) 0) 20 7)]) rfl ?_
        refine W.eq (g2 := F0 m 1293 ls [.int ((σ 20 7) + 1)]) (by rw [aw9]) ?_
        refine lv_iload hx hb dL_acts_1293 (lv_at hl 0 rfl) ?_
        refine lv_iload hx hb dL_acts_1295 (lv_at hl 2 rfl) ?_
        refine lv_if_ne (tgt := 1304) hx hb dL_acts_1297 (by decide) (fun c_28 => absurd ((by decide : (0 : Int32) = 0)) c_28) (fun c_28 => ?_)
        refine lv_iconst (v := 1) hx hb dL_acts_1300 (by decide) ?_
        refine lv_goto (tgt := 1305) hx hb dL_acts_1301 (by decide) ?_
        refine lv_iadd hx hb dL_acts_1305 ?_
        refine lv_icmp_ne (tgt := 1313) hx hb dL_acts_1306 (by decide) (fun c_29 => absurd (rfl) c_29) (fun c_29 => ?_)
        refine lv_iconst (v := 1) hx hb dL_acts_1309 (by decide) ?_
        refine lv_goto (tgt := 1314) hx hb dL_acts_1310 (by decide) ?_
        refine W.widen (k := 60) (n := 360) (by omega) (by omega) ?_
        have hpo : OKs h (N + 70) fa fm fb (gRetire σ (nI i) 0) := aO.le (by omega)
        exact W.zret (v := 1) hx hb hr rfl (fun t ht hW => ⟨⟨_, (), rfl, rfl, ⟨_, _, _, _, by rw [ht]; exact hP, hpo⟩⟩, hS.F ht⟩) hS.2.2 dL_acts_1314
      · have xs : σ 1 i = 6 := x2
        rw [xs] at hl
        have hl : lv_has ls 17 [(0, .ref (ad 0)), (1, .ref (ad2 0)), (2, .ref qa), (3, .ref qm), (4, .ref qb), (5, .int zx), (6, .int zy), (7, .int (nI j4)), (8, .int (nI i)), (9, .int 6)] := hl
        refine lv_istore (lv' := [(10, .int 0), (0, .ref (ad 0)), (1, .ref (ad2 0)), (2, .ref qa), (3, .ref qm), (4, .ref qb), (5, .int zx), (6, .int zy), (7, .int (nI j4)), (8, .int (nI i)), (9, .int 6)]) hx hb dL_acts_1216 hl (by decide) rfl (fun ls hl => ?_)
        refine lv_iload hx hb dL_acts_1218 (lv_at hl 10 rfl) ?_
        refine lv_iconst (v := 5) hx hb dL_acts_1220 (by decide) ?_
        refine lv_icmp_ne (tgt := 1228) hx hb dL_acts_1221 (by decide) (fun c_30 => ?_) (fun c_30 => absurd c_30 ((by decide : ¬ (6 : Int32) = 5)))
        refine lv_ldc (v := (-1000003)) hx hb hown (hts (.constant RL 47 (-1000003)) (by decide +kernel)) dL_acts_1228 ?_
        refine lv_istore (lv' := [(11, .int (-1000003)), (10, .int 0), (0, .ref (ad 0)), (1, .ref (ad2 0)), (2, .ref qa), (3, .ref qm), (4, .ref qb), (5, .int zx), (6, .int zy), (7, .int (nI j4)), (8, .int (nI i)), (9, .int 6)]) hx hb dL_acts_1230 hl (by decide) rfl (fun ls hl => ?_)
        refine lv_aload_n hx hb dL_acts_1232 rfl (lv_at hl 2 rfl) ?_
        refine cS (W.runV (As := []) (rest := []) ⟨hx, hb, hml, hown, hts⟩ (c_X3_wipes l D cy ad σ) (cwV 0 hts gL_acts_X3_wipes rfl rfl rfl (by decide +kernel) ⟨Nat.le_of_ble_eq_true rfl, Nat.le_of_ble_eq_true rfl⟩) ⟨cw_bl, cw_F hP.left.left hK, cw_at hP.left.left hK⟩ rfl rfl hl.1 rfl (lv_room (Nat.le_of_ble_eq_true rfl)) dL_acts_1233 ⟨by show _ ≤ 60; omega, by show _ ≤ 360; omega⟩) (fun _ _ => ?_)
        refine W.eq (g2 := F0 m 1236 ls [.int (σ 20 7)]) rfl ?_
        refine W.eq (g2 := F0 m 1236 ls [.int (σ 20 7)]) (by rw [show σ 20 7 = σ 20 7 from rfl]) ?_
        refine lv_istore (lv' := [(12, .int (σ 20 7)), (11, .int (-1000003)), (10, .int 0), (0, .ref (ad 0)), (1, .ref (ad2 0)), (2, .ref qa), (3, .ref qm), (4, .ref qb), (5, .int zx), (6, .int zy), (7, .int (nI j4)), (8, .int (nI i)), (9, .int 6)]) hx hb dL_acts_1236 hl (by decide) rfl (fun ls hl => ?_)
        refine lv_aload_n hx hb dL_acts_1238 rfl (lv_at hl 3 rfl) ?_
        refine lv_iload hx hb dL_acts_1239 (lv_at hl 11 rfl) ?_
        refine lv_iload hx hb dL_acts_1241 (lv_at hl 2 rfl) ?_
        obtain ⟨hTo, hTt⟩ := noT_D hD
        refine lMi (fun q ⟨j9, h1, h2⟩ => by rw [h2]; exact hz j9 h1) (vx_runSW (As := [.ref (ad 0), .int (nI i), .int 0]) (rest := []) ⟨hx, hb, hml, hown, hts⟩ (c_L_retire l hst D cy ad hj σ sz (nI i) 0 ((-1000003)) (by rw [(show kRetire σ (nI i) 0 = 3 from kW_3 (d := 0) hi (by omega) (lit_ne (a := 6) (b := 5) x2 (by omega) (by omega) (by decide)))]; exact w123_3 _) σ (if_neg (by rw [(show kRetire σ (nI i) 0 = 3 from kW_3 (d := 0) hi (by omega) (lit_ne (a := 6) (b := 5) x2 (by omega) (by omega) (by decide)))]; decide))) (vx_cwSW 3 hts gL_acts_L_retire rfl rfl rfl (by decide +kernel) ⟨Nat.le_of_ble_eq_true rfl, Nat.le_of_ble_eq_true rfl⟩) ⟨cx_bl, cx_S hP.left.left hK Az_z hxk hS⟩ rfl rfl hl.1 rfl (lv_room (Nat.le_of_ble_eq_true rfl)) dL_acts_1243 ⟨by show _ ≤ 60; omega, by show _ ≤ 360; omega⟩) hS (fun H locs hPW hS hk1 => ?_)
        have hP := setO hne hTo hP hPW hk1
        refine W.eq (g2 := F0 m 1246 ls [.int (-1000003)]) rfl ?_
        refine lv_iload hx hb dL_acts_1246 (lv_at hl 1 rfl) ?_
        refine lv_icmp_ne (tgt := 1313) hx hb dL_acts_1248 (by decide) (fun c_31 => absurd ((by decide : (-1000003 : Int32) = -1000003)) c_31) (fun c_31 => ?_)
        refine lv_aload_n hx hb dL_acts_1251 rfl (lv_at hl 4 rfl) ?_
        refine lv_iload hx hb dL_acts_1252 (lv_at hl 11 rfl) ?_
        refine lv_iload hx hb dL_acts_1254 (lv_at hl 2 rfl) ?_
        refine lMi (fun q ⟨j9, h1, h2⟩ => by rw [h2]; exact hz2 j9 h1) (vx_runSW (As := [.ref (ad2 0), .int (nI i), .int 0]) (rest := []) ⟨hx, hb, hml, hown, hts⟩ (c_L_retire l hst D cy ad2 hj2 σ sz (nI i) 0 ((-1000003)) (by rw [(show kRetire σ (nI i) 0 = 3 from kW_3 (d := 0) hi (by omega) (lit_ne (a := 6) (b := 5) x2 (by omega) (by omega) (by decide)))]; exact w123_3 _) σ (if_neg (by rw [(show kRetire σ (nI i) 0 = 3 from kW_3 (d := 0) hi (by omega) (lit_ne (a := 6) (b := 5) x2 (by omega) (by omega) (by decide)))]; decide))) (vx_cwSW 3 hts gL_acts_L_retire rfl rfl rfl (by decide +kernel) ⟨Nat.le_of_ble_eq_true rfl, Nat.le_of_ble_eq_true rfl⟩) ⟨cx_bl, cx_S hP.left.right hK Az_z hxk hS⟩ rfl rfl hl.1 rfl (lv_room (Nat.le_of_ble_eq_true rfl)) dL_acts_1256 ⟨by show _ ≤ 60; omega, by show _ ≤ 360; omega⟩) hS (fun H locs hPW hS hk1 => ?_)
        have hP := setT hne hTt hP hPW hk1
        refine W.eq (g2 := F0 m 1259 ls [.int (-1000003)]) rfl ?_
        refine lv_iload hx hb dL_acts_1259 (lv_at hl 1 rfl) ?_
        refine lv_icmp_ne (tgt := 1313) hx hb dL_acts_1261 (by decide) (fun c_32 => absurd ((by decide : (-1000003 : Int32) = -1000003)) c_32) (fun c_32 => ?_)
        refine lv_iload hx hb dL_acts_1264 (lv_at hl 1 rfl) ?_
        refine lv_if_lt (tgt := 1309) hx hb dL_acts_1266 (by decide) (fun c_33 => ?_) (fun c_33 => absurd ((by decide : (-1000003 : Int32) < 0)) c_33)
        refine lv_iconst (v := 1) hx hb dL_acts_1309 (by decide) ?_
        refine lv_goto (tgt := 1314) hx hb dL_acts_1310 (by decide) ?_
        refine W.widen (k := 60) (n := 360) (by omega) (by omega) ?_
        have hpo : OKs h (N + 70) fa fm fb σ := hO.le (by omega)
        exact W.zret (v := 1) hx hb hr rfl (fun t ht hW => ⟨⟨_, (), rfl, rfl, ⟨_, _, _, _, by rw [ht]; exact hP, hpo⟩⟩, hS.F ht⟩) hS.2.2 dL_acts_1314
      · have xs : σ 1 i = 7 := x2
        rw [xs] at hl
        have hl : lv_has ls 17 [(0, .ref (ad 0)), (1, .ref (ad2 0)), (2, .ref qa), (3, .ref qm), (4, .ref qb), (5, .int zx), (6, .int zy), (7, .int (nI j4)), (8, .int (nI i)), (9, .int 7)] := hl
        refine lv_istore (lv' := [(10, .int 0), (0, .ref (ad 0)), (1, .ref (ad2 0)), (2, .ref qa), (3, .ref qm), (4, .ref qb), (5, .int zx), (6, .int zy), (7, .int (nI j4)), (8, .int (nI i)), (9, .int 7)]) hx hb dL_acts_1216 hl (by decide) rfl (fun ls hl => ?_)
        refine lv_iload hx hb dL_acts_1218 (lv_at hl 10 rfl) ?_
        refine lv_iconst (v := 5) hx hb dL_acts_1220 (by decide) ?_
        refine lv_icmp_ne (tgt := 1228) hx hb dL_acts_1221 (by decide) (fun c_34 => ?_) (fun c_34 => absurd c_34 ((by decide : ¬ (7 : Int32) = 5)))
        refine lv_ldc (v := (-1000003)) hx hb hown (hts (.constant RL 47 (-1000003)) (by decide +kernel)) dL_acts_1228 ?_
        refine lv_istore (lv' := [(11, .int (-1000003)), (10, .int 0), (0, .ref (ad 0)), (1, .ref (ad2 0)), (2, .ref qa), (3, .ref qm), (4, .ref qb), (5, .int zx), (6, .int zy), (7, .int (nI j4)), (8, .int (nI i)), (9, .int 7)]) hx hb dL_acts_1230 hl (by decide) rfl (fun ls hl => ?_)
        refine lv_aload_n hx hb dL_acts_1232 rfl (lv_at hl 2 rfl) ?_
        refine cS (W.runV (As := []) (rest := []) ⟨hx, hb, hml, hown, hts⟩ (c_X3_wipes l D cy ad σ) (cwV 0 hts gL_acts_X3_wipes rfl rfl rfl (by decide +kernel) ⟨Nat.le_of_ble_eq_true rfl, Nat.le_of_ble_eq_true rfl⟩) ⟨cw_bl, cw_F hP.left.left hK, cw_at hP.left.left hK⟩ rfl rfl hl.1 rfl (lv_room (Nat.le_of_ble_eq_true rfl)) dL_acts_1233 ⟨by show _ ≤ 60; omega, by show _ ≤ 360; omega⟩) (fun _ _ => ?_)
        refine W.eq (g2 := F0 m 1236 ls [.int (σ 20 7)]) rfl ?_
        refine W.eq (g2 := F0 m 1236 ls [.int (σ 20 7)]) (by rw [show σ 20 7 = σ 20 7 from rfl]) ?_
        refine lv_istore (lv' := [(12, .int (σ 20 7)), (11, .int (-1000003)), (10, .int 0), (0, .ref (ad 0)), (1, .ref (ad2 0)), (2, .ref qa), (3, .ref qm), (4, .ref qb), (5, .int zx), (6, .int zy), (7, .int (nI j4)), (8, .int (nI i)), (9, .int 7)]) hx hb dL_acts_1236 hl (by decide) rfl (fun ls hl => ?_)
        refine lv_aload_n hx hb dL_acts_1238 rfl (lv_at hl 3 rfl) ?_
        refine lv_iload hx hb dL_acts_1239 (lv_at hl 11 rfl) ?_
        refine lv_iload hx hb dL_acts_1241 (lv_at hl 2 rfl) ?_
        obtain ⟨hTo, hTt⟩ := noT_D hD
        refine lMi (fun q ⟨j9, h1, h2⟩ => by rw [h2]; exact hz j9 h1) (vx_runSW (As := [.ref (ad 0), .int (nI i), .int 0]) (rest := []) ⟨hx, hb, hml, hown, hts⟩ (c_L_retire l hst D cy ad hj σ sz (nI i) 0 ((-1000003)) (by rw [(show kRetire σ (nI i) 0 = 3 from kW_3 (d := 0) hi (by omega) (lit_ne (a := 7) (b := 5) x2 (by omega) (by omega) (by decide)))]; exact w123_3 _) σ (if_neg (by rw [(show kRetire σ (nI i) 0 = 3 from kW_3 (d := 0) hi (by omega) (lit_ne (a := 7) (b := 5) x2 (by omega) (by omega) (by decide)))]; decide))) (vx_cwSW 3 hts gL_acts_L_retire rfl rfl rfl (by decide +kernel) ⟨Nat.le_of_ble_eq_true rfl, Nat.le_of_ble_eq_true rfl⟩) ⟨cx_bl, cx_S hP.left.left hK Az_z hxk hS⟩ rfl rfl hl.1 rfl (lv_room (Nat.le_of_ble_eq_true rfl)) dL_acts_1243 ⟨by show _ ≤ 60; omega, by show _ ≤ 360; omega⟩) hS (fun H locs hPW hS hk1 => ?_)
        have hP := setO hne hTo hP hPW hk1
        refine W.eq (g2 := F0 m 1246 ls [.int (-1000003)]) rfl ?_
        refine lv_iload hx hb dL_acts_1246 (lv_at hl 1 rfl) ?_
        refine lv_icmp_ne (tgt := 1313) hx hb dL_acts_1248 (by decide) (fun c_35 => absurd ((by decide : (-1000003 : Int32) = -1000003)) c_35) (fun c_35 => ?_)
        refine lv_aload_n hx hb dL_acts_1251 rfl (lv_at hl 4 rfl) ?_
        refine lv_iload hx hb dL_acts_1252 (lv_at hl 11 rfl) ?_
        refine lv_iload hx hb dL_acts_1254 (lv_at hl 2 rfl) ?_
        refine lMi (fun q ⟨j9, h1, h2⟩ => by rw [h2]; exact hz2 j9 h1) (vx_runSW (As := [.ref (ad2 0), .int (nI i), .int 0]) (rest := []) ⟨hx, hb, hml, hown, hts⟩ (c_L_retire l hst D cy ad2 hj2 σ sz (nI i) 0 ((-1000003)) (by rw [(show kRetire σ (nI i) 0 = 3 from kW_3 (d := 0) hi (by omega) (lit_ne (a := 7) (b := 5) x2 (by omega) (by omega) (by decide)))]; exact w123_3 _) σ (if_neg (by rw [(show kRetire σ (nI i) 0 = 3 from kW_3 (d := 0) hi (by omega) (lit_ne (a := 7) (b := 5) x2 (by omega) (by omega) (by decide)))]; decide))) (vx_cwSW 3 hts gL_acts_L_retire rfl rfl rfl (by decide +kernel) ⟨Nat.le_of_ble_eq_true rfl, Nat.le_of_ble_eq_true rfl⟩) ⟨cx_bl, cx_S hP.left.right hK Az_z hxk hS⟩ rfl rfl hl.1 rfl (lv_room (Nat.le_of_ble_eq_true rfl)) dL_acts_1256 ⟨by show _ ≤ 60; omega, by show _ ≤ 360; omega⟩) hS (fun H locs hPW hS hk1 => ?_)
        have hP := setT hne hTt hP hPW hk1
        refine W.eq (g2 := F0 m 1259 ls [.int (-1000003)]) rfl ?_
        refine lv_iload hx hb dL_acts_1259 (lv_at hl 1 rfl) ?_
        refine lv_icmp_ne (tgt := 1313) hx hb dL_acts_1261 (by decide) (fun c_36 => absurd ((by decide : (-1000003 : Int32) = -1000003)) c_36) (fun c_36 => ?_)
        refine lv_iload hx hb dL_acts_1264 (lv_at hl 1 rfl) ?_
        refine lv_if_lt (tgt := 1309) hx hb dL_acts_1266 (by decide) (fun c_37 => ?_) (fun c_37 => absurd ((by decide : (-1000003 : Int32) < 0)) c_37)
        refine lv_iconst (v := 1) hx hb dL_acts_1309 (by decide) ?_
        refine lv_goto (tgt := 1314) hx hb dL_acts_1310 (by decide) ?_
        refine W.widen (k := 60) (n := 360) (by omega) (by omega) ?_
        have hpo : OKs h (N + 70) fa fm fb σ := hO.le (by omega)
        exact W.zret (v := 1) hx hb hr rfl (fun t ht hW => ⟨⟨_, (), rfl, rfl, ⟨_, _, _, _, by rw [ht]; exact hP, hpo⟩⟩, hS.F ht⟩) hS.2.2 dL_acts_1314
    · have hI := hO.1
      obtain ⟨s8, r8, n8, x1, x2, x3, x4, x5, x6, x7, x8, x9, x10, x11⟩ := hI.2.1 i hi
      obtain ⟨q8, q1, q2, q3⟩ := hI.2.2.1.2.1
      rcases (show s8 = 0 ∨ s8 = 1 ∨ s8 = 2 ∨ s8 = 3 ∨ s8 = 4 ∨ s8 = 5 ∨ s8 = 6 ∨ s8 = 7 by omega) with rfl | rfl | rfl | rfl | rfl | rfl | rfl | rfl
      · have xs : σ 1 i = 0 := x2
        rw [xs] at hl
        have hl : lv_has ls 17 [(0, .ref (ad 0)), (1, .ref (ad2 0)), (2, .ref qa), (3, .ref qm), (4, .ref qb), (5, .int zx), (6, .int zy), (7, .int (nI j4)), (8, .int (nI i)), (9, .int 0)] := hl
        refine lv_istore (lv' := [(10, .int (nI j1213)), (0, .ref (ad 0)), (1, .ref (ad2 0)), (2, .ref qa), (3, .ref qm), (4, .ref qb), (5, .int zx), (6, .int zy), (7, .int (nI j4)), (8, .int (nI i)), (9, .int 0)]) hx hb dL_acts_1216 hl (by decide) rfl (fun ls hl => ?_)
        refine lv_iload hx hb dL_acts_1218 (lv_at hl 10 rfl) ?_
        refine lv_iconst (v := 5) hx hb dL_acts_1220 (by decide) ?_
        refine lv_icmp_ne (tgt := 1228) hx hb dL_acts_1221 (by decide) (fun c_38 => ?_) (fun c_38 => absurd c_38 ((by decide : ¬ (0 : Int32) = 5)))
        refine lv_ldc (v := (-1000003)) hx hb hown (hts (.constant RL 47 (-1000003)) (by decide +kernel)) dL_acts_1228 ?_
        refine lv_istore (lv' := [(11, .int (-1000003)), (10, .int (nI j1213)), (0, .ref (ad 0)), (1, .ref (ad2 0)), (2, .ref qa), (3, .ref qm), (4, .ref qb), (5, .int zx), (6, .int zy), (7, .int (nI j4)), (8, .int (nI i)), (9, .int 0)]) hx hb dL_acts_1230 hl (by decide) rfl (fun ls hl => ?_)
        refine lv_aload_n hx hb dL_acts_1232 rfl (lv_at hl 2 rfl) ?_
        refine cS (W.runV (As := []) (rest := []) ⟨hx, hb, hml, hown, hts⟩ (c_X3_wipes l D cy ad σ) (cwV 0 hts gL_acts_X3_wipes rfl rfl rfl (by decide +kernel) ⟨Nat.le_of_ble_eq_true rfl, Nat.le_of_ble_eq_true rfl⟩) ⟨cw_bl, cw_F hP.left.left hK, cw_at hP.left.left hK⟩ rfl rfl hl.1 rfl (lv_room (Nat.le_of_ble_eq_true rfl)) dL_acts_1233 ⟨by show _ ≤ 60; omega, by show _ ≤ 360; omega⟩) (fun _ _ => ?_)
        refine W.eq (g2 := F0 m 1236 ls [.int (σ 20 7)]) rfl ?_
        refine W.eq (g2 := F0 m 1236 ls [.int (σ 20 7)]) (by rw [show σ 20 7 = σ 20 7 from rfl]) ?_
        refine lv_istore (lv' := [(12, .int (σ 20 7)), (11, .int (-1000003)), (10, .int (nI j1213)), (0, .ref (ad 0)), (1, .ref (ad2 0)), (2, .ref qa), (3, .ref qm), (4, .ref qb), (5, .int zx), (6, .int zy), (7, .int (nI j4)), (8, .int (nI i)), (9, .int 0)]) hx hb dL_acts_1236 hl (by decide) rfl (fun ls hl => ?_)
        refine lv_aload_n hx hb dL_acts_1238 rfl (lv_at hl 3 rfl) ?_
        refine lv_iload hx hb dL_acts_1239 (lv_at hl 11 rfl) ?_
        refine lv_iload hx hb dL_acts_1241 (lv_at hl 2 rfl) ?_
        obtain ⟨hTo, hTt⟩ := noT_D hD
        refine lMi (fun q ⟨j9, h1, h2⟩ => by rw [h2]; exact hz j9 h1) (vx_runSW (As := [.ref (ad 0), .int (nI i), .int (nI j1213)]) (rest := []) ⟨hx, hb, hml, hown, hts⟩ (c_L_retire l hst D cy ad hj σ sz (nI i) (nI j1213) ((-1000003)) (by rw [(kW_3 (d := j1213) hi (by omega) (lit_ne (a := 0) (b := 5) x2 (by omega) (by omega) (by decide)))]; exact w123_3 _) σ (if_neg (by rw [(kW_3 (d := j1213) hi (by omega) (lit_ne (a := 0) (b := 5) x2 (by omega) (by omega) (by decide)))]; decide))) (vx_cwSW 3 hts gL_acts_L_retire rfl rfl rfl (by decide +kernel) ⟨Nat.le_of_ble_eq_true rfl, Nat.le_of_ble_eq_true rfl⟩) ⟨cx_bl, cx_S hP.left.left hK Az_z hxk hS⟩ rfl rfl hl.1 rfl (lv_room (Nat.le_of_ble_eq_true rfl)) dL_acts_1243 ⟨by show _ ≤ 60; omega, by show _ ≤ 360; omega⟩) hS (fun H locs hPW hS hk1 => ?_)
        have hP := setO hne hTo hP hPW hk1
        refine W.eq (g2 := F0 m 1246 ls [.int (-1000003)]) rfl ?_
        refine lv_iload hx hb dL_acts_1246 (lv_at hl 1 rfl) ?_
        refine lv_icmp_ne (tgt := 1313) hx hb dL_acts_1248 (by decide) (fun c_39 => absurd ((by decide : (-1000003 : Int32) = -1000003)) c_39) (fun c_39 => ?_)
        refine lv_aload_n hx hb dL_acts_1251 rfl (lv_at hl 4 rfl) ?_
        refine lv_iload hx hb dL_acts_1252 (lv_at hl 11 rfl) ?_
        refine lv_iload hx hb dL_acts_1254 (lv_at hl 2 rfl) ?_
        refine lMi (fun q ⟨j9, h1, h2⟩ => by rw [h2]; exact hz2 j9 h1) (vx_runSW (As := [.ref (ad2 0), .int (nI i), .int (nI j1213)]) (rest := []) ⟨hx, hb, hml, hown, hts⟩ (c_L_retire l hst D cy ad2 hj2 σ sz (nI i) (nI j1213) ((-1000003)) (by rw [(kW_3 (d := j1213) hi (by omega) (lit_ne (a := 0) (b := 5) x2 (by omega) (by omega) (by decide)))]; exact w123_3 _) σ (if_neg (by rw [(kW_3 (d := j1213) hi (by omega) (lit_ne (a := 0) (b := 5) x2 (by omega) (by omega) (by decide)))]; decide))) (vx_cwSW 3 hts gL_acts_L_retire rfl rfl rfl (by decide +kernel) ⟨Nat.le_of_ble_eq_true rfl, Nat.le_of_ble_eq_true rfl⟩) ⟨cx_bl, cx_S hP.left.right hK Az_z hxk hS⟩ rfl rfl hl.1 rfl (lv_room (Nat.le_of_ble_eq_true rfl)) dL_acts_1256 ⟨by show _ ≤ 60; omega, by show _ ≤ 360; omega⟩) hS (fun H locs hPW hS hk1 => ?_)
        have hP := setT hne hTt hP hPW hk1
        refine W.eq (g2 := F0 m 1259 ls [.int (-1000003)]) rfl ?_
        refine lv_iload hx hb dL_acts_1259 (lv_at hl 1 rfl) ?_
        refine lv_icmp_ne (tgt := 1313) hx hb dL_acts_1261 (by decide) (fun c_40 => absurd ((by decide : (-1000003 : Int32) = -1000003)) c_40) (fun c_40 => ?_)
        refine lv_iload hx hb dL_acts_1264 (lv_at hl 1 rfl) ?_
        refine lv_if_lt (tgt := 1309) hx hb dL_acts_1266 (by decide) (fun c_41 => ?_) (fun c_41 => absurd ((by decide : (-1000003 : Int32) < 0)) c_41)
        refine lv_iconst (v := 1) hx hb dL_acts_1309 (by decide) ?_
        refine lv_goto (tgt := 1314) hx hb dL_acts_1310 (by decide) ?_
        refine W.widen (k := 60) (n := 360) (by omega) (by omega) ?_
        have hpo : OKs h (N + 70) fa fm fb σ := hO.le (by omega)
        exact W.zret (v := 1) hx hb hr rfl (fun t ht hW => ⟨⟨_, (), rfl, rfl, ⟨_, _, _, _, by rw [ht]; exact hP, hpo⟩⟩, hS.F ht⟩) hS.2.2 dL_acts_1314
      · have xs : σ 1 i = 1 := x2
        rw [xs] at hl
        have hl : lv_has ls 17 [(0, .ref (ad 0)), (1, .ref (ad2 0)), (2, .ref qa), (3, .ref qm), (4, .ref qb), (5, .int zx), (6, .int zy), (7, .int (nI j4)), (8, .int (nI i)), (9, .int 1)] := hl
        refine lv_istore (lv' := [(10, .int (nI j1213)), (0, .ref (ad 0)), (1, .ref (ad2 0)), (2, .ref qa), (3, .ref qm), (4, .ref qb), (5, .int zx), (6, .int zy), (7, .int (nI j4)), (8, .int (nI i)), (9, .int 1)]) hx hb dL_acts_1216 hl (by decide) rfl (fun ls hl => ?_)
        refine lv_iload hx hb dL_acts_1218 (lv_at hl 10 rfl) ?_
        refine lv_iconst (v := 5) hx hb dL_acts_1220 (by decide) ?_
        refine lv_icmp_ne (tgt := 1228) hx hb dL_acts_1221 (by decide) (fun c_42 => ?_) (fun c_42 => absurd c_42 ((by decide : ¬ (1 : Int32) = 5)))
        refine lv_ldc (v := (-1000003)) hx hb hown (hts (.constant RL 47 (-1000003)) (by decide +kernel)) dL_acts_1228 ?_
        refine lv_istore (lv' := [(11, .int (-1000003)), (10, .int (nI j1213)), (0, .ref (ad 0)), (1, .ref (ad2 0)), (2, .ref qa), (3, .ref qm), (4, .ref qb), (5, .int zx), (6, .int zy), (7, .int (nI j4)), (8, .int (nI i)), (9, .int 1)]) hx hb dL_acts_1230 hl (by decide) rfl (fun ls hl => ?_)
        refine lv_aload_n hx hb dL_acts_1232 rfl (lv_at hl 2 rfl) ?_
        refine cS (W.runV (As := []) (rest := []) ⟨hx, hb, hml, hown, hts⟩ (c_X3_wipes l D cy ad σ) (cwV 0 hts gL_acts_X3_wipes rfl rfl rfl (by decide +kernel) ⟨Nat.le_of_ble_eq_true rfl, Nat.le_of_ble_eq_true rfl⟩) ⟨cw_bl, cw_F hP.left.left hK, cw_at hP.left.left hK⟩ rfl rfl hl.1 rfl (lv_room (Nat.le_of_ble_eq_true rfl)) dL_acts_1233 ⟨by show _ ≤ 60; omega, by show _ ≤ 360; omega⟩) (fun _ _ => ?_)
        refine W.eq (g2 := F0 m 1236 ls [.int (σ 20 7)]) rfl ?_
        refine W.eq (g2 := F0 m 1236 ls [.int (σ 20 7)]) (by rw [show σ 20 7 = σ 20 7 from rfl]) ?_
        refine lv_istore (lv' := [(12, .int (σ 20 7)), (11, .int (-1000003)), (10, .int (nI j1213)), (0, .ref (ad 0)), (1, .ref (ad2 0)), (2, .ref qa), (3, .ref qm), (4, .ref qb), (5, .int zx), (6, .int zy), (7, .int (nI j4)), (8, .int (nI i)), (9, .int 1)]) hx hb dL_acts_1236 hl (by decide) rfl (fun ls hl => ?_)
        refine lv_aload_n hx hb dL_acts_1238 rfl (lv_at hl 3 rfl) ?_
        refine lv_iload hx hb dL_acts_1239 (lv_at hl 11 rfl) ?_
        refine lv_iload hx hb dL_acts_1241 (lv_at hl 2 rfl) ?_
        obtain ⟨hTo, hTt⟩ := noT_D hD
        refine lMi (fun q ⟨j9, h1, h2⟩ => by rw [h2]; exact hz j9 h1) (vx_runSW (As := [.ref (ad 0), .int (nI i), .int (nI j1213)]) (rest := []) ⟨hx, hb, hml, hown, hts⟩ (c_L_retire l hst D cy ad hj σ sz (nI i) (nI j1213) ((-1000003)) (by rw [(kW_3 (d := j1213) hi (by omega) (lit_ne (a := 1) (b := 5) x2 (by omega) (by omega) (by decide)))]; exact w123_3 _) σ (if_neg (by rw [(kW_3 (d := j1213) hi (by omega) (lit_ne (a := 1) (b := 5) x2 (by omega) (by omega) (by decide)))]; decide))) (vx_cwSW 3 hts gL_acts_L_retire rfl rfl rfl (by decide +kernel) ⟨Nat.le_of_ble_eq_true rfl, Nat.le_of_ble_eq_true rfl⟩) ⟨cx_bl, cx_S hP.left.left hK Az_z hxk hS⟩ rfl rfl hl.1 rfl (lv_room (Nat.le_of_ble_eq_true rfl)) dL_acts_1243 ⟨by show _ ≤ 60; omega, by show _ ≤ 360; omega⟩) hS (fun H locs hPW hS hk1 => ?_)
        have hP := setO hne hTo hP hPW hk1
        refine W.eq (g2 := F0 m 1246 ls [.int (-1000003)]) rfl ?_
        refine lv_iload hx hb dL_acts_1246 (lv_at hl 1 rfl) ?_
        refine lv_icmp_ne (tgt := 1313) hx hb dL_acts_1248 (by decide) (fun c_43 => absurd ((by decide : (-1000003 : Int32) = -1000003)) c_43) (fun c_43 => ?_)
        refine lv_aload_n hx hb dL_acts_1251 rfl (lv_at hl 4 rfl) ?_
        refine lv_iload hx hb dL_acts_1252 (lv_at hl 11 rfl) ?_
        refine lv_iload hx hb dL_acts_1254 (lv_at hl 2 rfl) ?_
        refine lMi (fun q ⟨j9, h1, h2⟩ => by rw [h2]; exact hz2 j9 h1) (vx_runSW (As := [.ref (ad2 0), .int (nI i), .int (nI j1213)]) (rest := []) ⟨hx, hb, hml, hown, hts⟩ (c_L_retire l hst D cy ad2 hj2 σ sz (nI i) (nI j1213) ((-1000003)) (by rw [(kW_3 (d := j1213) hi (by omega) (lit_ne (a := 1) (b := 5) x2 (by omega) (by omega) (by decide)))]; exact w123_3 _) σ (if_neg (by rw [(kW_3 (d := j1213) hi (by omega) (lit_ne (a := 1) (b := 5) x2 (by omega) (by omega) (by decide)))]; decide))) (vx_cwSW 3 hts gL_acts_L_retire rfl rfl rfl (by decide +kernel) ⟨Nat.le_of_ble_eq_true rfl, Nat.le_of_ble_eq_true rfl⟩) ⟨cx_bl, cx_S hP.left.right hK Az_z hxk hS⟩ rfl rfl hl.1 rfl (lv_room (Nat.le_of_ble_eq_true rfl)) dL_acts_1256 ⟨by show _ ≤ 60; omega, by show _ ≤ 360; omega⟩) hS (fun H locs hPW hS hk1 => ?_)
        have hP := setT hne hTt hP hPW hk1
        refine W.eq (g2 := F0 m 1259 ls [.int (-1000003)]) rfl ?_
        refine lv_iload hx hb dL_acts_1259 (lv_at hl 1 rfl) ?_
        refine lv_icmp_ne (tgt := 1313) hx hb dL_acts_1261 (by decide) (fun c_44 => absurd ((by decide : (-1000003 : Int32) = -1000003)) c_44) (fun c_44 => ?_)
        refine lv_iload hx hb dL_acts_1264 (lv_at hl 1 rfl) ?_
        refine lv_if_lt (tgt := 1309) hx hb dL_acts_1266 (by decide) (fun c_45 => ?_) (fun c_45 => absurd ((by decide : (-1000003 : Int32) < 0)) c_45)
        refine lv_iconst (v := 1) hx hb dL_acts_1309 (by decide) ?_
        refine lv_goto (tgt := 1314) hx hb dL_acts_1310 (by decide) ?_
        refine W.widen (k := 60) (n := 360) (by omega) (by omega) ?_
        have hpo : OKs h (N + 70) fa fm fb σ := hO.le (by omega)
        exact W.zret (v := 1) hx hb hr rfl (fun t ht hW => ⟨⟨_, (), rfl, rfl, ⟨_, _, _, _, by rw [ht]; exact hP, hpo⟩⟩, hS.F ht⟩) hS.2.2 dL_acts_1314
      · have xs : σ 1 i = 2 := x2
        rw [xs] at hl
        have hl : lv_has ls 17 [(0, .ref (ad 0)), (1, .ref (ad2 0)), (2, .ref qa), (3, .ref qm), (4, .ref qb), (5, .int zx), (6, .int zy), (7, .int (nI j4)), (8, .int (nI i)), (9, .int 2)] := hl
        refine lv_istore (lv' := [(10, .int (nI j1213)), (0, .ref (ad 0)), (1, .ref (ad2 0)), (2, .ref qa), (3, .ref qm), (4, .ref qb), (5, .int zx), (6, .int zy), (7, .int (nI j4)), (8, .int (nI i)), (9, .int 2)]) hx hb dL_acts_1216 hl (by decide) rfl (fun ls hl => ?_)
        refine lv_iload hx hb dL_acts_1218 (lv_at hl 10 rfl) ?_
        refine lv_iconst (v := 5) hx hb dL_acts_1220 (by decide) ?_
        refine lv_icmp_ne (tgt := 1228) hx hb dL_acts_1221 (by decide) (fun c_46 => ?_) (fun c_46 => absurd c_46 ((by decide : ¬ (2 : Int32) = 5)))
        refine lv_ldc (v := (-1000003)) hx hb hown (hts (.constant RL 47 (-1000003)) (by decide +kernel)) dL_acts_1228 ?_
        refine lv_istore (lv' := [(11, .int (-1000003)), (10, .int (nI j1213)), (0, .ref (ad 0)), (1, .ref (ad2 0)), (2, .ref qa), (3, .ref qm), (4, .ref qb), (5, .int zx), (6, .int zy), (7, .int (nI j4)), (8, .int (nI i)), (9, .int 2)]) hx hb dL_acts_1230 hl (by decide) rfl (fun ls hl => ?_)
        refine lv_aload_n hx hb dL_acts_1232 rfl (lv_at hl 2 rfl) ?_
        refine cS (W.runV (As := []) (rest := []) ⟨hx, hb, hml, hown, hts⟩ (c_X3_wipes l D cy ad σ) (cwV 0 hts gL_acts_X3_wipes rfl rfl rfl (by decide +kernel) ⟨Nat.le_of_ble_eq_true rfl, Nat.le_of_ble_eq_true rfl⟩) ⟨cw_bl, cw_F hP.left.left hK, cw_at hP.left.left hK⟩ rfl rfl hl.1 rfl (lv_room (Nat.le_of_ble_eq_true rfl)) dL_acts_1233 ⟨by show _ ≤ 60; omega, by show _ ≤ 360; omega⟩) (fun _ _ => ?_)
        refine W.eq (g2 := F0 m 1236 ls [.int (σ 20 7)]) rfl ?_
        refine W.eq (g2 := F0 m 1236 ls [.int (σ 20 7)]) (by rw [show σ 20 7 = σ 20 7 from rfl]) ?_
        refine lv_istore (lv' := [(12, .int (σ 20 7)), (11, .int (-1000003)), (10, .int (nI j1213)), (0, .ref (ad 0)), (1, .ref (ad2 0)), (2, .ref qa), (3, .ref qm), (4, .ref qb), (5, .int zx), (6, .int zy), (7, .int (nI j4)), (8, .int (nI i)), (9, .int 2)]) hx hb dL_acts_1236 hl (by decide) rfl (fun ls hl => ?_)
        refine lv_aload_n hx hb dL_acts_1238 rfl (lv_at hl 3 rfl) ?_
        refine lv_iload hx hb dL_acts_1239 (lv_at hl 11 rfl) ?_
        refine lv_iload hx hb dL_acts_1241 (lv_at hl 2 rfl) ?_
        obtain ⟨hTo, hTt⟩ := noT_D hD
        refine lMi (fun q ⟨j9, h1, h2⟩ => by rw [h2]; exact hz j9 h1) (vx_runSW (As := [.ref (ad 0), .int (nI i), .int (nI j1213)]) (rest := []) ⟨hx, hb, hml, hown, hts⟩ (c_L_retire l hst D cy ad hj σ sz (nI i) (nI j1213) ((-1000003)) (by rw [(kW_3 (d := j1213) hi (by omega) (lit_ne (a := 2) (b := 5) x2 (by omega) (by omega) (by decide)))]; exact w123_3 _) σ (if_neg (by rw [(kW_3 (d := j1213) hi (by omega) (lit_ne (a := 2) (b := 5) x2 (by omega) (by omega) (by decide)))]; decide))) (vx_cwSW 3 hts gL_acts_L_retire rfl rfl rfl (by decide +kernel) ⟨Nat.le_of_ble_eq_true rfl, Nat.le_of_ble_eq_true rfl⟩) ⟨cx_bl, cx_S hP.left.left hK Az_z hxk hS⟩ rfl rfl hl.1 rfl (lv_room (Nat.le_of_ble_eq_true rfl)) dL_acts_1243 ⟨by show _ ≤ 60; omega, by show _ ≤ 360; omega⟩) hS (fun H locs hPW hS hk1 => ?_)
        have hP := setO hne hTo hP hPW hk1
        refine W.eq (g2 := F0 m 1246 ls [.int (-1000003)]) rfl ?_
        refine lv_iload hx hb dL_acts_1246 (lv_at hl 1 rfl) ?_
        refine lv_icmp_ne (tgt := 1313) hx hb dL_acts_1248 (by decide) (fun c_47 => absurd ((by decide : (-1000003 : Int32) = -1000003)) c_47) (fun c_47 => ?_)
        refine lv_aload_n hx hb dL_acts_1251 rfl (lv_at hl 4 rfl) ?_
        refine lv_iload hx hb dL_acts_1252 (lv_at hl 11 rfl) ?_
        refine lv_iload hx hb dL_acts_1254 (lv_at hl 2 rfl) ?_
        refine lMi (fun q ⟨j9, h1, h2⟩ => by rw [h2]; exact hz2 j9 h1) (vx_runSW (As := [.ref (ad2 0), .int (nI i), .int (nI j1213)]) (rest := []) ⟨hx, hb, hml, hown, hts⟩ (c_L_retire l hst D cy ad2 hj2 σ sz (nI i) (nI j1213) ((-1000003)) (by rw [(kW_3 (d := j1213) hi (by omega) (lit_ne (a := 2) (b := 5) x2 (by omega) (by omega) (by decide)))]; exact w123_3 _) σ (if_neg (by rw [(kW_3 (d := j1213) hi (by omega) (lit_ne (a := 2) (b := 5) x2 (by omega) (by omega) (by decide)))]; decide))) (vx_cwSW 3 hts gL_acts_L_retire rfl rfl rfl (by decide +kernel) ⟨Nat.le_of_ble_eq_true rfl, Nat.le_of_ble_eq_true rfl⟩) ⟨cx_bl, cx_S hP.left.right hK Az_z hxk hS⟩ rfl rfl hl.1 rfl (lv_room (Nat.le_of_ble_eq_true rfl)) dL_acts_1256 ⟨by show _ ≤ 60; omega, by show _ ≤ 360; omega⟩) hS (fun H locs hPW hS hk1 => ?_)
        have hP := setT hne hTt hP hPW hk1
        refine W.eq (g2 := F0 m 1259 ls [.int (-1000003)]) rfl ?_
        refine lv_iload hx hb dL_acts_1259 (lv_at hl 1 rfl) ?_
        refine lv_icmp_ne (tgt := 1313) hx hb dL_acts_1261 (by decide) (fun c_48 => absurd ((by decide : (-1000003 : Int32) = -1000003)) c_48) (fun c_48 => ?_)
        refine lv_iload hx hb dL_acts_1264 (lv_at hl 1 rfl) ?_
        refine lv_if_lt (tgt := 1309) hx hb dL_acts_1266 (by decide) (fun c_49 => ?_) (fun c_49 => absurd ((by decide : (-1000003 : Int32) < 0)) c_49)
        refine lv_iconst (v := 1) hx hb dL_acts_1309 (by decide) ?_
        refine lv_goto (tgt := 1314) hx hb dL_acts_1310 (by decide) ?_
        refine W.widen (k := 60) (n := 360) (by omega) (by omega) ?_
        have hpo : OKs h (N + 70) fa fm fb σ := hO.le (by omega)
        exact W.zret (v := 1) hx hb hr rfl (fun t ht hW => ⟨⟨_, (), rfl, rfl, ⟨_, _, _, _, by rw [ht]; exact hP, hpo⟩⟩, hS.F ht⟩) hS.2.2 dL_acts_1314
      · have xs : σ 1 i = 3 := x2
        rw [xs] at hl
        have hl : lv_has ls 17 [(0, .ref (ad 0)), (1, .ref (ad2 0)), (2, .ref qa), (3, .ref qm), (4, .ref qb), (5, .int zx), (6, .int zy), (7, .int (nI j4)), (8, .int (nI i)), (9, .int 3)] := hl
        refine lv_istore (lv' := [(10, .int (nI j1213)), (0, .ref (ad 0)), (1, .ref (ad2 0)), (2, .ref qa), (3, .ref qm), (4, .ref qb), (5, .int zx), (6, .int zy), (7, .int (nI j4)), (8, .int (nI i)), (9, .int 3)]) hx hb dL_acts_1216 hl (by decide) rfl (fun ls hl => ?_)
        refine lv_iload hx hb dL_acts_1218 (lv_at hl 10 rfl) ?_
        refine lv_iconst (v := 5) hx hb dL_acts_1220 (by decide) ?_
        refine lv_icmp_ne (tgt := 1228) hx hb dL_acts_1221 (by decide) (fun c_50 => ?_) (fun c_50 => absurd c_50 ((by decide : ¬ (3 : Int32) = 5)))
        refine lv_ldc (v := (-1000003)) hx hb hown (hts (.constant RL 47 (-1000003)) (by decide +kernel)) dL_acts_1228 ?_
        refine lv_istore (lv' := [(11, .int (-1000003)), (10, .int (nI j1213)), (0, .ref (ad 0)), (1, .ref (ad2 0)), (2, .ref qa), (3, .ref qm), (4, .ref qb), (5, .int zx), (6, .int zy), (7, .int (nI j4)), (8, .int (nI i)), (9, .int 3)]) hx hb dL_acts_1230 hl (by decide) rfl (fun ls hl => ?_)
        refine lv_aload_n hx hb dL_acts_1232 rfl (lv_at hl 2 rfl) ?_
        refine cS (W.runV (As := []) (rest := []) ⟨hx, hb, hml, hown, hts⟩ (c_X3_wipes l D cy ad σ) (cwV 0 hts gL_acts_X3_wipes rfl rfl rfl (by decide +kernel) ⟨Nat.le_of_ble_eq_true rfl, Nat.le_of_ble_eq_true rfl⟩) ⟨cw_bl, cw_F hP.left.left hK, cw_at hP.left.left hK⟩ rfl rfl hl.1 rfl (lv_room (Nat.le_of_ble_eq_true rfl)) dL_acts_1233 ⟨by show _ ≤ 60; omega, by show _ ≤ 360; omega⟩) (fun _ _ => ?_)
        refine W.eq (g2 := F0 m 1236 ls [.int (σ 20 7)]) rfl ?_
        refine W.eq (g2 := F0 m 1236 ls [.int (σ 20 7)]) (by rw [show σ 20 7 = σ 20 7 from rfl]) ?_
        refine lv_istore (lv' := [(12, .int (σ 20 7)), (11, .int (-1000003)), (10, .int (nI j1213)), (0, .ref (ad 0)), (1, .ref (ad2 0)), (2, .ref qa), (3, .ref qm), (4, .ref qb), (5, .int zx), (6, .int zy), (7, .int (nI j4)), (8, .int (nI i)), (9, .int 3)]) hx hb dL_acts_1236 hl (by decide) rfl (fun ls hl => ?_)
        refine lv_aload_n hx hb dL_acts_1238 rfl (lv_at hl 3 rfl) ?_
        refine lv_iload hx hb dL_acts_1239 (lv_at hl 11 rfl) ?_
        refine lv_iload hx hb dL_acts_1241 (lv_at hl 2 rfl) ?_
        obtain ⟨hTo, hTt⟩ := noT_D hD
        refine lMi (fun q ⟨j9, h1, h2⟩ => by rw [h2]; exact hz j9 h1) (vx_runSW (As := [.ref (ad 0), .int (nI i), .int (nI j1213)]) (rest := []) ⟨hx, hb, hml, hown, hts⟩ (c_L_retire l hst D cy ad hj σ sz (nI i) (nI j1213) ((-1000003)) (by rw [(kW_3 (d := j1213) hi (by omega) (lit_ne (a := 3) (b := 5) x2 (by omega) (by omega) (by decide)))]; exact w123_3 _) σ (if_neg (by rw [(kW_3 (d := j1213) hi (by omega) (lit_ne (a := 3) (b := 5) x2 (by omega) (by omega) (by decide)))]; decide))) (vx_cwSW 3 hts gL_acts_L_retire rfl rfl rfl (by decide +kernel) ⟨Nat.le_of_ble_eq_true rfl, Nat.le_of_ble_eq_true rfl⟩) ⟨cx_bl, cx_S hP.left.left hK Az_z hxk hS⟩ rfl rfl hl.1 rfl (lv_room (Nat.le_of_ble_eq_true rfl)) dL_acts_1243 ⟨by show _ ≤ 60; omega, by show _ ≤ 360; omega⟩) hS (fun H locs hPW hS hk1 => ?_)
        have hP := setO hne hTo hP hPW hk1
        refine W.eq (g2 := F0 m 1246 ls [.int (-1000003)]) rfl ?_
        refine lv_iload hx hb dL_acts_1246 (lv_at hl 1 rfl) ?_
        refine lv_icmp_ne (tgt := 1313) hx hb dL_acts_1248 (by decide) (fun c_51 => absurd ((by decide : (-1000003 : Int32) = -1000003)) c_51) (fun c_51 => ?_)
        refine lv_aload_n hx hb dL_acts_1251 rfl (lv_at hl 4 rfl) ?_
        refine lv_iload hx hb dL_acts_1252 (lv_at hl 11 rfl) ?_
        refine lv_iload hx hb dL_acts_1254 (lv_at hl 2 rfl) ?_
        refine lMi (fun q ⟨j9, h1, h2⟩ => by rw [h2]; exact hz2 j9 h1) (vx_runSW (As := [.ref (ad2 0), .int (nI i), .int (nI j1213)]) (rest := []) ⟨hx, hb, hml, hown, hts⟩ (c_L_retire l hst D cy ad2 hj2 σ sz (nI i) (nI j1213) ((-1000003)) (by rw [(kW_3 (d := j1213) hi (by omega) (lit_ne (a := 3) (b := 5) x2 (by omega) (by omega) (by decide)))]; exact w123_3 _) σ (if_neg (by rw [(kW_3 (d := j1213) hi (by omega) (lit_ne (a := 3) (b := 5) x2 (by omega) (by omega) (by decide)))]; decide))) (vx_cwSW 3 hts gL_acts_L_retire rfl rfl rfl (by decide +kernel) ⟨Nat.le_of_ble_eq_true rfl, Nat.le_of_ble_eq_true rfl⟩) ⟨cx_bl, cx_S hP.left.right hK Az_z hxk hS⟩ rfl rfl hl.1 rfl (lv_room (Nat.le_of_ble_eq_true rfl)) dL_acts_1256 ⟨by show _ ≤ 60; omega, by show _ ≤ 360; omega⟩) hS (fun H locs hPW hS hk1 => ?_)
        have hP := setT hne hTt hP hPW hk1
        refine W.eq (g2 := F0 m 1259 ls [.int (-1000003)]) rfl ?_
        refine lv_iload hx hb dL_acts_1259 (lv_at hl 1 rfl) ?_
        refine lv_icmp_ne (tgt := 1313) hx hb dL_acts_1261 (by decide) (fun c_52 => absurd ((by decide : (-1000003 : Int32) = -1000003)) c_52) (fun c_52 => ?_)
        refine lv_iload hx hb dL_acts_1264 (lv_at hl 1 rfl) ?_
        refine lv_if_lt (tgt := 1309) hx hb dL_acts_1266 (by decide) (fun c_53 => ?_) (fun c_53 => absurd ((by decide : (-1000003 : Int32) < 0)) c_53)
        refine lv_iconst (v := 1) hx hb dL_acts_1309 (by decide) ?_
        refine lv_goto (tgt := 1314) hx hb dL_acts_1310 (by decide) ?_
        refine W.widen (k := 60) (n := 360) (by omega) (by omega) ?_
        have hpo : OKs h (N + 70) fa fm fb σ := hO.le (by omega)
        exact W.zret (v := 1) hx hb hr rfl (fun t ht hW => ⟨⟨_, (), rfl, rfl, ⟨_, _, _, _, by rw [ht]; exact hP, hpo⟩⟩, hS.F ht⟩) hS.2.2 dL_acts_1314
      · have xs : σ 1 i = 4 := x2
        rw [xs] at hl
        have hl : lv_has ls 17 [(0, .ref (ad 0)), (1, .ref (ad2 0)), (2, .ref qa), (3, .ref qm), (4, .ref qb), (5, .int zx), (6, .int zy), (7, .int (nI j4)), (8, .int (nI i)), (9, .int 4)] := hl
        refine lv_istore (lv' := [(10, .int (nI j1213)), (0, .ref (ad 0)), (1, .ref (ad2 0)), (2, .ref qa), (3, .ref qm), (4, .ref qb), (5, .int zx), (6, .int zy), (7, .int (nI j4)), (8, .int (nI i)), (9, .int 4)]) hx hb dL_acts_1216 hl (by decide) rfl (fun ls hl => ?_)
        refine lv_iload hx hb dL_acts_1218 (lv_at hl 10 rfl) ?_
        refine lv_iconst (v := 5) hx hb dL_acts_1220 (by decide) ?_
        refine lv_icmp_ne (tgt := 1228) hx hb dL_acts_1221 (by decide) (fun c_54 => ?_) (fun c_54 => absurd c_54 ((by decide : ¬ (4 : Int32) = 5)))
        refine lv_ldc (v := (-1000003)) hx hb hown (hts (.constant RL 47 (-1000003)) (by decide +kernel)) dL_acts_1228 ?_
        refine lv_istore (lv' := [(11, .int (-1000003)), (10, .int (nI j1213)), (0, .ref (ad 0)), (1, .ref (ad2 0)), (2, .ref qa), (3, .ref qm), (4, .ref qb), (5, .int zx), (6, .int zy), (7, .int (nI j4)), (8, .int (nI i)), (9, .int 4)]) hx hb dL_acts_1230 hl (by decide) rfl (fun ls hl => ?_)
        refine lv_aload_n hx hb dL_acts_1232 rfl (lv_at hl 2 rfl) ?_
        refine cS (W.runV (As := []) (rest := []) ⟨hx, hb, hml, hown, hts⟩ (c_X3_wipes l D cy ad σ) (cwV 0 hts gL_acts_X3_wipes rfl rfl rfl (by decide +kernel) ⟨Nat.le_of_ble_eq_true rfl, Nat.le_of_ble_eq_true rfl⟩) ⟨cw_bl, cw_F hP.left.left hK, cw_at hP.left.left hK⟩ rfl rfl hl.1 rfl (lv_room (Nat.le_of_ble_eq_true rfl)) dL_acts_1233 ⟨by show _ ≤ 60; omega, by show _ ≤ 360; omega⟩) (fun _ _ => ?_)
        refine W.eq (g2 := F0 m 1236 ls [.int (σ 20 7)]) rfl ?_
        refine W.eq (g2 := F0 m 1236 ls [.int (σ 20 7)]) (by rw [show σ 20 7 = σ 20 7 from rfl]) ?_
        refine lv_istore (lv' := [(12, .int (σ 20 7)), (11, .int (-1000003)), (10, .int (nI j1213)), (0, .ref (ad 0)), (1, .ref (ad2 0)), (2, .ref qa), (3, .ref qm), (4, .ref qb), (5, .int zx), (6, .int zy), (7, .int (nI j4)), (8, .int (nI i)), (9, .int 4)]) hx hb dL_acts_1236 hl (by decide) rfl (fun ls hl => ?_)
        refine lv_aload_n hx hb dL_acts_1238 rfl (lv_at hl 3 rfl) ?_
        refine lv_iload hx hb dL_acts_1239 (lv_at hl 11 rfl) ?_
        refine lv_iload hx hb dL_acts_1241 (lv_at hl 2 rfl) ?_
        obtain ⟨hTo, hTt⟩ := noT_D hD
        refine lMi (fun q ⟨j9, h1, h2⟩ => by rw [h2]; exact hz j9 h1) (vx_runSW (As := [.ref (ad 0), .int (nI i), .int (nI j1213)]) (rest := []) ⟨hx, hb, hml, hown, hts⟩ (c_L_retire l hst D cy ad hj σ sz (nI i) (nI j1213) ((-1000003)) (by rw [(kW_3 (d := j1213) hi (by omega) (lit_ne (a := 4) (b := 5) x2 (by omega) (by omega) (by decide)))]; exact w123_3 _) σ (if_neg (by rw [(kW_3 (d := j1213) hi (by omega) (lit_ne (a := 4) (b := 5) x2 (by omega) (by omega) (by decide)))]; decide))) (vx_cwSW 3 hts gL_acts_L_retire rfl rfl rfl (by decide +kernel) ⟨Nat.le_of_ble_eq_true rfl, Nat.le_of_ble_eq_true rfl⟩) ⟨cx_bl, cx_S hP.left.left hK Az_z hxk hS⟩ rfl rfl hl.1 rfl (lv_room (Nat.le_of_ble_eq_true rfl)) dL_acts_1243 ⟨by show _ ≤ 60; omega, by show _ ≤ 360; omega⟩) hS (fun H locs hPW hS hk1 => ?_)
        have hP := setO hne hTo hP hPW hk1
        refine W.eq (g2 := F0 m 1246 ls [.int (-1000003)]) rfl ?_
        refine lv_iload hx hb dL_acts_1246 (lv_at hl 1 rfl) ?_
        refine lv_icmp_ne (tgt := 1313) hx hb dL_acts_1248 (by decide) (fun c_55 => absurd ((by decide : (-1000003 : Int32) = -1000003)) c_55) (fun c_55 => ?_)
        refine lv_aload_n hx hb dL_acts_1251 rfl (lv_at hl 4 rfl) ?_
        refine lv_iload hx hb dL_acts_1252 (lv_at hl 11 rfl) ?_
        refine lv_iload hx hb dL_acts_1254 (lv_at hl 2 rfl) ?_
        refine lMi (fun q ⟨j9, h1, h2⟩ => by rw [h2]; exact hz2 j9 h1) (vx_runSW (As := [.ref (ad2 0), .int (nI i), .int (nI j1213)]) (rest := []) ⟨hx, hb, hml, hown, hts⟩ (c_L_retire l hst D cy ad2 hj2 σ sz (nI i) (nI j1213) ((-1000003)) (by rw [(kW_3 (d := j1213) hi (by omega) (lit_ne (a := 4) (b := 5) x2 (by omega) (by omega) (by decide)))]; exact w123_3 _) σ (if_neg (by rw [(kW_3 (d := j1213) hi (by omega) (lit_ne (a := 4) (b := 5) x2 (by omega) (by omega) (by decide)))]; decide))) (vx_cwSW 3 hts gL_acts_L_retire rfl rfl rfl (by decide +kernel) ⟨Nat.le_of_ble_eq_true rfl, Nat.le_of_ble_eq_true rfl⟩) ⟨cx_bl, cx_S hP.left.right hK Az_z hxk hS⟩ rfl rfl hl.1 rfl (lv_room (Nat.le_of_ble_eq_true rfl)) dL_acts_1256 ⟨by show _ ≤ 60; omega, by show _ ≤ 360; omega⟩) hS (fun H locs hPW hS hk1 => ?_)
        have hP := setT hne hTt hP hPW hk1
        refine W.eq (g2 := F0 m 1259 ls [.int (-1000003)]) rfl ?_
        refine lv_iload hx hb dL_acts_1259 (lv_at hl 1 rfl) ?_
        refine lv_icmp_ne (tgt := 1313) hx hb dL_acts_1261 (by decide) (fun c_56 => absurd ((by decide : (-1000003 : Int32) = -1000003)) c_56) (fun c_56 => ?_)
        refine lv_iload hx hb dL_acts_1264 (lv_at hl 1 rfl) ?_
        refine lv_if_lt (tgt := 1309) hx hb dL_acts_1266 (by decide) (fun c_57 => ?_) (fun c_57 => absurd ((by decide : (-1000003 : Int32) < 0)) c_57)
        refine lv_iconst (v := 1) hx hb dL_acts_1309 (by decide) ?_
        refine lv_goto (tgt := 1314) hx hb dL_acts_1310 (by decide) ?_
        refine W.widen (k := 60) (n := 360) (by omega) (by omega) ?_
        have hpo : OKs h (N + 70) fa fm fb σ := hO.le (by omega)
        exact W.zret (v := 1) hx hb hr rfl (fun t ht hW => ⟨⟨_, (), rfl, rfl, ⟨_, _, _, _, by rw [ht]; exact hP, hpo⟩⟩, hS.F ht⟩) hS.2.2 dL_acts_1314
      · have xs : σ 1 i = 5 := x2
        rw [xs] at hl
        have hl : lv_has ls 17 [(0, .ref (ad 0)), (1, .ref (ad2 0)), (2, .ref qa), (3, .ref qm), (4, .ref qb), (5, .int zx), (6, .int zy), (7, .int (nI j4)), (8, .int (nI i)), (9, .int 5)] := hl
        obtain ⟨aO, at9, aw8⟩ := a_drain hO (by omega) hi xs (d := j1213) (Nat.pos_of_ne_zero h0) (Nat.le_of_lt_succ hj1213)
        have aw9 : gRetire σ (nI i) (nI j1213) 20 7 = σ 20 7 + 0 := by rw [Int32.add_zero]; exact aw8
        refine lv_istore (lv' := [(10, .int (nI j1213)), (0, .ref (ad 0)), (1, .ref (ad2 0)), (2, .ref qa), (3, .ref qm), (4, .ref qb), (5, .int zx), (6, .int zy), (7, .int (nI j4)), (8, .int (nI i)), (9, .int 5)]) hx hb dL_acts_1216 hl (by decide) rfl (fun ls hl => ?_)
        refine lv_iload hx hb dL_acts_1218 (lv_at hl 10 rfl) ?_
        refine lv_iconst (v := 5) hx hb dL_acts_1220 (by decide) ?_
        refine lv_icmp_ne (tgt := 1228) hx hb dL_acts_1221 (by decide) (fun c_58 => absurd ((by decide : (5 : Int32) = 5)) c_58) (fun c_58 => ?_)
        refine lv_iconst (v := 0) hx hb dL_acts_1224 (by decide) ?_
        refine lv_goto (tgt := 1230) hx hb dL_acts_1225 (by decide) ?_
        refine lv_istore (lv' := [(11, .int 0), (10, .int (nI j1213)), (0, .ref (ad 0)), (1, .ref (ad2 0)), (2, .ref qa), (3, .ref qm), (4, .ref qb), (5, .int zx), (6, .int zy), (7, .int (nI j4)), (8, .int (nI i)), (9, .int 5)]) hx hb dL_acts_1230 hl (by decide) rfl (fun ls hl => ?_)
        refine lv_aload_n hx hb dL_acts_1232 rfl (lv_at hl 2 rfl) ?_
        refine cS (W.runV (As := []) (rest := []) ⟨hx, hb, hml, hown, hts⟩ (c_X3_wipes l D cy ad σ) (cwV 0 hts gL_acts_X3_wipes rfl rfl rfl (by decide +kernel) ⟨Nat.le_of_ble_eq_true rfl, Nat.le_of_ble_eq_true rfl⟩) ⟨cw_bl, cw_F hP.left.left hK, cw_at hP.left.left hK⟩ rfl rfl hl.1 rfl (lv_room (Nat.le_of_ble_eq_true rfl)) dL_acts_1233 ⟨by show _ ≤ 60; omega, by show _ ≤ 360; omega⟩) (fun _ _ => ?_)
        refine W.eq (g2 := F0 m 1236 ls [.int (σ 20 7)]) rfl ?_
        refine W.eq (g2 := F0 m 1236 ls [.int (σ 20 7)]) (by rw [show σ 20 7 = σ 20 7 from rfl]) ?_
        refine lv_istore (lv' := [(12, .int (σ 20 7)), (11, .int 0), (10, .int (nI j1213)), (0, .ref (ad 0)), (1, .ref (ad2 0)), (2, .ref qa), (3, .ref qm), (4, .ref qb), (5, .int zx), (6, .int zy), (7, .int (nI j4)), (8, .int (nI i)), (9, .int 5)]) hx hb dL_acts_1236 hl (by decide) rfl (fun ls hl => ?_)
        refine lv_aload_n hx hb dL_acts_1238 rfl (lv_at hl 3 rfl) ?_
        refine lv_iload hx hb dL_acts_1239 (lv_at hl 11 rfl) ?_
        refine lv_iload hx hb dL_acts_1241 (lv_at hl 2 rfl) ?_
        obtain ⟨hTo, hTt⟩ := noT_D hD
        refine lMi (fun q ⟨j9, h1, h2⟩ => by rw [h2]; exact hz j9 h1) (vx_runSW (As := [.ref (ad 0), .int (nI i), .int (nI j1213)]) (rest := []) ⟨hx, hb, hml, hown, hts⟩ (c_L_retire l hst D cy ad hj σ sz (nI i) (nI j1213) (0) (w123_0 (kW_0 (d := j1213) hi (by omega) xs)) (gRetire σ (nI i) (nI j1213)) (if_pos (kW_0 (d := j1213) hi (by omega) xs))) (vx_cwSW 3 hts gL_acts_L_retire rfl rfl rfl (by decide +kernel) ⟨Nat.le_of_ble_eq_true rfl, Nat.le_of_ble_eq_true rfl⟩) ⟨cx_bl, cx_S hP.left.left hK Az_z hxk hS⟩ rfl rfl hl.1 rfl (lv_room (Nat.le_of_ble_eq_true rfl)) dL_acts_1243 ⟨by show _ ≤ 60; omega, by show _ ≤ 360; omega⟩) hS (fun H locs hPW hS hk1 => ?_)
        have hP := setO hne hTo hP hPW hk1
        refine W.eq (g2 := F0 m 1246 ls [.int 0]) rfl ?_
        refine lv_iload hx hb dL_acts_1246 (lv_at hl 1 rfl) ?_
        refine lv_icmp_ne (tgt := 1313) hx hb dL_acts_1248 (by decide) (fun c_59 => absurd ((by decide : (0 : Int32) = 0)) c_59) (fun c_59 => ?_)
        refine lv_aload_n hx hb dL_acts_1251 rfl (lv_at hl 4 rfl) ?_
        refine lv_iload hx hb dL_acts_1252 (lv_at hl 11 rfl) ?_
        refine lv_iload hx hb dL_acts_1254 (lv_at hl 2 rfl) ?_
        refine lMi (fun q ⟨j9, h1, h2⟩ => by rw [h2]; exact hz2 j9 h1) (vx_runSW (As := [.ref (ad2 0), .int (nI i), .int (nI j1213)]) (rest := []) ⟨hx, hb, hml, hown, hts⟩ (c_L_retire l hst D cy ad2 hj2 σ sz (nI i) (nI j1213) (0) (w123_0 (kW_0 (d := j1213) hi (by omega) xs)) (gRetire σ (nI i) (nI j1213)) (if_pos (kW_0 (d := j1213) hi (by omega) xs))) (vx_cwSW 3 hts gL_acts_L_retire rfl rfl rfl (by decide +kernel) ⟨Nat.le_of_ble_eq_true rfl, Nat.le_of_ble_eq_true rfl⟩) ⟨cx_bl, cx_S hP.left.right hK Az_z hxk hS⟩ rfl rfl hl.1 rfl (lv_room (Nat.le_of_ble_eq_true rfl)) dL_acts_1256 ⟨by show _ ≤ 60; omega, by show _ ≤ 360; omega⟩) hS (fun H locs hPW hS hk1 => ?_)
        have hP := setT hne hTt hP hPW hk1
        refine W.eq (g2 := F0 m 1259 ls [.int 0]) rfl ?_
        refine lv_iload hx hb dL_acts_1259 (lv_at hl 1 rfl) ?_
        refine lv_icmp_ne (tgt := 1313) hx hb dL_acts_1261 (by decide) (fun c_60 => absurd ((by decide : (0 : Int32) = 0)) c_60) (fun c_60 => ?_)
        refine lv_iload hx hb dL_acts_1264 (lv_at hl 1 rfl) ?_
        refine lv_if_lt (tgt := 1309) hx hb dL_acts_1266 (by decide) (fun c_61 => absurd c_61 ((by decide : ¬ (0 : Int32) < 0))) (fun c_61 => ?_)
        refine lv_aload_n hx hb dL_acts_1269 rfl (lv_at hl 3 rfl) ?_
        refine lv_iload hx hb dL_acts_1270 (lv_at hl 11 rfl) ?_
        refine rMi (vx_runSW (As := [.ref (ad 0), .int (nI i)]) (rest := []) ⟨hx, hb, hml, hown, hts⟩ (c_L_stateOf l hst D cy ad (gRetire σ (nI i) (nI j1213)) sz (nI i) (6) ((wS hi).trans at9)) (vx_cwSW 2 hts gL_acts_L_stateOf rfl rfl rfl (by decide +kernel) ⟨Nat.le_of_ble_eq_true rfl, Nat.le_of_ble_eq_true rfl⟩) ⟨cx_bl, cx_S hP.left.left hK Az_z hxk hS⟩ rfl rfl hl.1 rfl (lv_room (Nat.le_of_ble_eq_true rfl)) dL_acts_1272 ⟨by show _ ≤ 60; omega, by show _ ≤ 360; omega⟩) hS (fun H locs hS hg => ?_)
        have hP := hP.grown hg
        refine W.eq (g2 := F0 m 1275 ls [.int 6]) rfl ?_
        refine lv_iload hx hb dL_acts_1275 (lv_at hl 2 rfl) ?_
        refine lv_if_ne (tgt := 1284) hx hb dL_acts_1277 (by decide) (fun c_62 => ?_) (fun c_62 => absurd c_62 ((fun z9 => absurd ((nI_eq (a := j1213) (b := 0) (by omega) (by omega)).mp z9) (by omega))))
        refine lv_bipush (v := 6) hx hb dL_acts_1284 (by decide) ?_
        refine lv_icmp_ne (tgt := 1313) hx hb dL_acts_1286 (by decide) (fun c_63 => absurd ((by decide : (6 : Int32) = 6)) c_63) (fun c_63 => ?_)
        refine lv_aload_n hx hb dL_acts_1289 rfl (lv_at hl 3 rfl) ?_
        refine cS (W.runV (As := []) (rest := []) ⟨hx, hb, hml, hown, hts⟩ (c_X3_wipes l D cy ad (gRetire σ (nI i) (nI j1213))) (cwV 0 hts gL_acts_X3_wipes rfl rfl rfl (by decide +kernel) ⟨Nat.le_of_ble_eq_true rfl, Nat.le_of_ble_eq_true rfl⟩) ⟨cw_bl, cw_F hP.left.left hK, cw_at hP.left.left hK⟩ rfl rfl hl.1 rfl (lv_room (Nat.le_of_ble_eq_true rfl)) dL_acts_1290 ⟨by show _ ≤ 60; omega, by show _ ≤ 360; omega⟩) (fun _ _ => ?_)
        refine W.eq (g2 := F0 m 1293 ls [.int ((gRetire σ (nI i) (nI j1213)) 20 7)]) rfl ?_
        refine W.eq (g2 := F0 m 1293 ls [.int ((σ 20 7) + 0)]) (by rw [aw9]) ?_
        refine lv_iload hx hb dL_acts_1293 (lv_at hl 0 rfl) ?_
        refine lv_iload hx hb dL_acts_1295 (lv_at hl 2 rfl) ?_
        refine lv_if_ne (tgt := 1304) hx hb dL_acts_1297 (by decide) (fun c_64 => ?_) (fun c_64 => absurd c_64 ((fun z9 => absurd ((nI_eq (a := j1213) (b := 0) (by omega) (by omega)).mp z9) (by omega))))
        refine lv_iconst (v := 0) hx hb dL_acts_1304 (by decide) ?_
        refine lv_iadd hx hb dL_acts_1305 ?_
        refine lv_icmp_ne (tgt := 1313) hx hb dL_acts_1306 (by decide) (fun c_65 => absurd (rfl) c_65) (fun c_65 => ?_)
        refine lv_iconst (v := 1) hx hb dL_acts_1309 (by decide) ?_
        refine lv_goto (tgt := 1314) hx hb dL_acts_1310 (by decide) ?_
        refine W.widen (k := 60) (n := 360) (by omega) (by omega) ?_
        have hpo : OKs h (N + 70) fa fm fb (gRetire σ (nI i) (nI j1213)) := aO.le (by omega)
        exact W.zret (v := 1) hx hb hr rfl (fun t ht hW => ⟨⟨_, (), rfl, rfl, ⟨_, _, _, _, by rw [ht]; exact hP, hpo⟩⟩, hS.F ht⟩) hS.2.2 dL_acts_1314
      · have xs : σ 1 i = 6 := x2
        rw [xs] at hl
        have hl : lv_has ls 17 [(0, .ref (ad 0)), (1, .ref (ad2 0)), (2, .ref qa), (3, .ref qm), (4, .ref qb), (5, .int zx), (6, .int zy), (7, .int (nI j4)), (8, .int (nI i)), (9, .int 6)] := hl
        refine lv_istore (lv' := [(10, .int (nI j1213)), (0, .ref (ad 0)), (1, .ref (ad2 0)), (2, .ref qa), (3, .ref qm), (4, .ref qb), (5, .int zx), (6, .int zy), (7, .int (nI j4)), (8, .int (nI i)), (9, .int 6)]) hx hb dL_acts_1216 hl (by decide) rfl (fun ls hl => ?_)
        refine lv_iload hx hb dL_acts_1218 (lv_at hl 10 rfl) ?_
        refine lv_iconst (v := 5) hx hb dL_acts_1220 (by decide) ?_
        refine lv_icmp_ne (tgt := 1228) hx hb dL_acts_1221 (by decide) (fun c_66 => ?_) (fun c_66 => absurd c_66 ((by decide : ¬ (6 : Int32) = 5)))
        refine lv_ldc (v := (-1000003)) hx hb hown (hts (.constant RL 47 (-1000003)) (by decide +kernel)) dL_acts_1228 ?_
        refine lv_istore (lv' := [(11, .int (-1000003)), (10, .int (nI j1213)), (0, .ref (ad 0)), (1, .ref (ad2 0)), (2, .ref qa), (3, .ref qm), (4, .ref qb), (5, .int zx), (6, .int zy), (7, .int (nI j4)), (8, .int (nI i)), (9, .int 6)]) hx hb dL_acts_1230 hl (by decide) rfl (fun ls hl => ?_)
        refine lv_aload_n hx hb dL_acts_1232 rfl (lv_at hl 2 rfl) ?_
        refine cS (W.runV (As := []) (rest := []) ⟨hx, hb, hml, hown, hts⟩ (c_X3_wipes l D cy ad σ) (cwV 0 hts gL_acts_X3_wipes rfl rfl rfl (by decide +kernel) ⟨Nat.le_of_ble_eq_true rfl, Nat.le_of_ble_eq_true rfl⟩) ⟨cw_bl, cw_F hP.left.left hK, cw_at hP.left.left hK⟩ rfl rfl hl.1 rfl (lv_room (Nat.le_of_ble_eq_true rfl)) dL_acts_1233 ⟨by show _ ≤ 60; omega, by show _ ≤ 360; omega⟩) (fun _ _ => ?_)
        refine W.eq (g2 := F0 m 1236 ls [.int (σ 20 7)]) rfl ?_
        refine W.eq (g2 := F0 m 1236 ls [.int (σ 20 7)]) (by rw [show σ 20 7 = σ 20 7 from rfl]) ?_
        refine lv_istore (lv' := [(12, .int (σ 20 7)), (11, .int (-1000003)), (10, .int (nI j1213)), (0, .ref (ad 0)), (1, .ref (ad2 0)), (2, .ref qa), (3, .ref qm), (4, .ref qb), (5, .int zx), (6, .int zy), (7, .int (nI j4)), (8, .int (nI i)), (9, .int 6)]) hx hb dL_acts_1236 hl (by decide) rfl (fun ls hl => ?_)
        refine lv_aload_n hx hb dL_acts_1238 rfl (lv_at hl 3 rfl) ?_
        refine lv_iload hx hb dL_acts_1239 (lv_at hl 11 rfl) ?_
        refine lv_iload hx hb dL_acts_1241 (lv_at hl 2 rfl) ?_
        obtain ⟨hTo, hTt⟩ := noT_D hD
        refine lMi (fun q ⟨j9, h1, h2⟩ => by rw [h2]; exact hz j9 h1) (vx_runSW (As := [.ref (ad 0), .int (nI i), .int (nI j1213)]) (rest := []) ⟨hx, hb, hml, hown, hts⟩ (c_L_retire l hst D cy ad hj σ sz (nI i) (nI j1213) ((-1000003)) (by rw [(kW_3 (d := j1213) hi (by omega) (lit_ne (a := 6) (b := 5) x2 (by omega) (by omega) (by decide)))]; exact w123_3 _) σ (if_neg (by rw [(kW_3 (d := j1213) hi (by omega) (lit_ne (a := 6) (b := 5) x2 (by omega) (by omega) (by decide)))]; decide))) (vx_cwSW 3 hts gL_acts_L_retire rfl rfl rfl (by decide +kernel) ⟨Nat.le_of_ble_eq_true rfl, Nat.le_of_ble_eq_true rfl⟩) ⟨cx_bl, cx_S hP.left.left hK Az_z hxk hS⟩ rfl rfl hl.1 rfl (lv_room (Nat.le_of_ble_eq_true rfl)) dL_acts_1243 ⟨by show _ ≤ 60; omega, by show _ ≤ 360; omega⟩) hS (fun H locs hPW hS hk1 => ?_)
        have hP := setO hne hTo hP hPW hk1
        refine W.eq (g2 := F0 m 1246 ls [.int (-1000003)]) rfl ?_
        refine lv_iload hx hb dL_acts_1246 (lv_at hl 1 rfl) ?_
        refine lv_icmp_ne (tgt := 1313) hx hb dL_acts_1248 (by decide) (fun c_67 => absurd ((by decide : (-1000003 : Int32) = -1000003)) c_67) (fun c_67 => ?_)
        refine lv_aload_n hx hb dL_acts_1251 rfl (lv_at hl 4 rfl) ?_
        refine lv_iload hx hb dL_acts_1252 (lv_at hl 11 rfl) ?_
        refine lv_iload hx hb dL_acts_1254 (lv_at hl 2 rfl) ?_
        refine lMi (fun q ⟨j9, h1, h2⟩ => by rw [h2]; exact hz2 j9 h1) (vx_runSW (As := [.ref (ad2 0), .int (nI i), .int (nI j1213)]) (rest := []) ⟨hx, hb, hml, hown, hts⟩ (c_L_retire l hst D cy ad2 hj2 σ sz (nI i) (nI j1213) ((-1000003)) (by rw [(kW_3 (d := j1213) hi (by omega) (lit_ne (a := 6) (b := 5) x2 (by omega) (by omega) (by decide)))]; exact w123_3 _) σ (if_neg (by rw [(kW_3 (d := j1213) hi (by omega) (lit_ne (a := 6) (b := 5) x2 (by omega) (by omega) (by decide)))]; decide))) (vx_cwSW 3 hts gL_acts_L_retire rfl rfl rfl (by decide +kernel) ⟨Nat.le_of_ble_eq_true rfl, Nat.le_of_ble_eq_true rfl⟩) ⟨cx_bl, cx_S hP.left.right hK Az_z hxk hS⟩ rfl rfl hl.1 rfl (lv_room (Nat.le_of_ble_eq_true rfl)) dL_acts_1256 ⟨by show _ ≤ 60; omega, by show _ ≤ 360; omega⟩) hS (fun H locs hPW hS hk1 => ?_)
        have hP := setT hne hTt hP hPW hk1
        refine W.eq (g2 := F0 m 1259 ls [.int (-1000003)]) rfl ?_
        refine lv_iload hx hb dL_acts_1259 (lv_at hl 1 rfl) ?_
        refine lv_icmp_ne (tgt := 1313) hx hb dL_acts_1261 (by decide) (fun c_68 => absurd ((by decide : (-1000003 : Int32) = -1000003)) c_68) (fun c_68 => ?_)
        refine lv_iload hx hb dL_acts_1264 (lv_at hl 1 rfl) ?_
        refine lv_if_lt (tgt := 1309) hx hb dL_acts_1266 (by decide) (fun c_69 => ?_) (fun c_69 => absurd ((by decide : (-1000003 : Int32) < 0)) c_69)
        refine lv_iconst (v := 1) hx hb dL_acts_1309 (by decide) ?_
        refine lv_goto (tgt := 1314) hx hb dL_acts_1310 (by decide) ?_
        refine W.widen (k := 60) (n := 360) (by omega) (by omega) ?_
        have hpo : OKs h (N + 70) fa fm fb σ := hO.le (by omega)
        exact W.zret (v := 1) hx hb hr rfl (fun t ht hW => ⟨⟨_, (), rfl, rfl, ⟨_, _, _, _, by rw [ht]; exact hP, hpo⟩⟩, hS.F ht⟩) hS.2.2 dL_acts_1314
      · have xs : σ 1 i = 7 := x2
        rw [xs] at hl
        have hl : lv_has ls 17 [(0, .ref (ad 0)), (1, .ref (ad2 0)), (2, .ref qa), (3, .ref qm), (4, .ref qb), (5, .int zx), (6, .int zy), (7, .int (nI j4)), (8, .int (nI i)), (9, .int 7)] := hl
        refine lv_istore (lv' := [(10, .int (nI j1213)), (0, .ref (ad 0)), (1, .ref (ad2 0)), (2, .ref qa), (3, .ref qm), (4, .ref qb), (5, .int zx), (6, .int zy), (7, .int (nI j4)), (8, .int (nI i)), (9, .int 7)]) hx hb dL_acts_1216 hl (by decide) rfl (fun ls hl => ?_)
        refine lv_iload hx hb dL_acts_1218 (lv_at hl 10 rfl) ?_
        refine lv_iconst (v := 5) hx hb dL_acts_1220 (by decide) ?_
        refine lv_icmp_ne (tgt := 1228) hx hb dL_acts_1221 (by decide) (fun c_70 => ?_) (fun c_70 => absurd c_70 ((by decide : ¬ (7 : Int32) = 5)))
        refine lv_ldc (v := (-1000003)) hx hb hown (hts (.constant RL 47 (-1000003)) (by decide +kernel)) dL_acts_1228 ?_
        refine lv_istore (lv' := [(11, .int (-1000003)), (10, .int (nI j1213)), (0, .ref (ad 0)), (1, .ref (ad2 0)), (2, .ref qa), (3, .ref qm), (4, .ref qb), (5, .int zx), (6, .int zy), (7, .int (nI j4)), (8, .int (nI i)), (9, .int 7)]) hx hb dL_acts_1230 hl (by decide) rfl (fun ls hl => ?_)
        refine lv_aload_n hx hb dL_acts_1232 rfl (lv_at hl 2 rfl) ?_
        refine cS (W.runV (As := []) (rest := []) ⟨hx, hb, hml, hown, hts⟩ (c_X3_wipes l D cy ad σ) (cwV 0 hts gL_acts_X3_wipes rfl rfl rfl (by decide +kernel) ⟨Nat.le_of_ble_eq_true rfl, Nat.le_of_ble_eq_true rfl⟩) ⟨cw_bl, cw_F hP.left.left hK, cw_at hP.left.left hK⟩ rfl rfl hl.1 rfl (lv_room (Nat.le_of_ble_eq_true rfl)) dL_acts_1233 ⟨by show _ ≤ 60; omega, by show _ ≤ 360; omega⟩) (fun _ _ => ?_)
        refine W.eq (g2 := F0 m 1236 ls [.int (σ 20 7)]) rfl ?_
        refine W.eq (g2 := F0 m 1236 ls [.int (σ 20 7)]) (by rw [show σ 20 7 = σ 20 7 from rfl]) ?_
        refine lv_istore (lv' := [(12, .int (σ 20 7)), (11, .int (-1000003)), (10, .int (nI j1213)), (0, .ref (ad 0)), (1, .ref (ad2 0)), (2, .ref qa), (3, .ref qm), (4, .ref qb), (5, .int zx), (6, .int zy), (7, .int (nI j4)), (8, .int (nI i)), (9, .int 7)]) hx hb dL_acts_1236 hl (by decide) rfl (fun ls hl => ?_)
        refine lv_aload_n hx hb dL_acts_1238 rfl (lv_at hl 3 rfl) ?_
        refine lv_iload hx hb dL_acts_1239 (lv_at hl 11 rfl) ?_
        refine lv_iload hx hb dL_acts_1241 (lv_at hl 2 rfl) ?_
        obtain ⟨hTo, hTt⟩ := noT_D hD
        refine lMi (fun q ⟨j9, h1, h2⟩ => by rw [h2]; exact hz j9 h1) (vx_runSW (As := [.ref (ad 0), .int (nI i), .int (nI j1213)]) (rest := []) ⟨hx, hb, hml, hown, hts⟩ (c_L_retire l hst D cy ad hj σ sz (nI i) (nI j1213) ((-1000003)) (by rw [(kW_3 (d := j1213) hi (by omega) (lit_ne (a := 7) (b := 5) x2 (by omega) (by omega) (by decide)))]; exact w123_3 _) σ (if_neg (by rw [(kW_3 (d := j1213) hi (by omega) (lit_ne (a := 7) (b := 5) x2 (by omega) (by omega) (by decide)))]; decide))) (vx_cwSW 3 hts gL_acts_L_retire rfl rfl rfl (by decide +kernel) ⟨Nat.le_of_ble_eq_true rfl, Nat.le_of_ble_eq_true rfl⟩) ⟨cx_bl, cx_S hP.left.left hK Az_z hxk hS⟩ rfl rfl hl.1 rfl (lv_room (Nat.le_of_ble_eq_true rfl)) dL_acts_1243 ⟨by show _ ≤ 60; omega, by show _ ≤ 360; omega⟩) hS (fun H locs hPW hS hk1 => ?_)
        have hP := setO hne hTo hP hPW hk1
        refine W.eq (g2 := F0 m 1246 ls [.int (-1000003)]) rfl ?_
        refine lv_iload hx hb dL_acts_1246 (lv_at hl 1 rfl) ?_
        refine lv_icmp_ne (tgt := 1313) hx hb dL_acts_1248 (by decide) (fun c_71 => absurd ((by decide : (-1000003 : Int32) = -1000003)) c_71) (fun c_71 => ?_)
        refine lv_aload_n hx hb dL_acts_1251 rfl (lv_at hl 4 rfl) ?_
        refine lv_iload hx hb dL_acts_1252 (lv_at hl 11 rfl) ?_
        refine lv_iload hx hb dL_acts_1254 (lv_at hl 2 rfl) ?_
        refine lMi (fun q ⟨j9, h1, h2⟩ => by rw [h2]; exact hz2 j9 h1) (vx_runSW (As := [.ref (ad2 0), .int (nI i), .int (nI j1213)]) (rest := []) ⟨hx, hb, hml, hown, hts⟩ (c_L_retire l hst D cy ad2 hj2 σ sz (nI i) (nI j1213) ((-1000003)) (by rw [(kW_3 (d := j1213) hi (by omega) (lit_ne (a := 7) (b := 5) x2 (by omega) (by omega) (by decide)))]; exact w123_3 _) σ (if_neg (by rw [(kW_3 (d := j1213) hi (by omega) (lit_ne (a := 7) (b := 5) x2 (by omega) (by omega) (by decide)))]; decide))) (vx_cwSW 3 hts gL_acts_L_retire rfl rfl rfl (by decide +kernel) ⟨Nat.le_of_ble_eq_true rfl, Nat.le_of_ble_eq_true rfl⟩) ⟨cx_bl, cx_S hP.left.right hK Az_z hxk hS⟩ rfl rfl hl.1 rfl (lv_room (Nat.le_of_ble_eq_true rfl)) dL_acts_1256 ⟨by show _ ≤ 60; omega, by show _ ≤ 360; omega⟩) hS (fun H locs hPW hS hk1 => ?_)
        have hP := setT hne hTt hP hPW hk1
        refine W.eq (g2 := F0 m 1259 ls [.int (-1000003)]) rfl ?_
        refine lv_iload hx hb dL_acts_1259 (lv_at hl 1 rfl) ?_
        refine lv_icmp_ne (tgt := 1313) hx hb dL_acts_1261 (by decide) (fun c_72 => absurd ((by decide : (-1000003 : Int32) = -1000003)) c_72) (fun c_72 => ?_)
        refine lv_iload hx hb dL_acts_1264 (lv_at hl 1 rfl) ?_
        refine lv_if_lt (tgt := 1309) hx hb dL_acts_1266 (by decide) (fun c_73 => ?_) (fun c_73 => absurd ((by decide : (-1000003 : Int32) < 0)) c_73)
        refine lv_iconst (v := 1) hx hb dL_acts_1309 (by decide) ?_
        refine lv_goto (tgt := 1314) hx hb dL_acts_1310 (by decide) ?_
        refine W.widen (k := 60) (n := 360) (by omega) (by omega) ?_
        have hpo : OKs h (N + 70) fa fm fb σ := hO.le (by omega)
        exact W.zret (v := 1) hx hb hr rfl (fun t ht hW => ⟨⟨_, (), rfl, rfl, ⟨_, _, _, _, by rw [ht]; exact hP, hpo⟩⟩, hS.F ht⟩) hS.2.2 dL_acts_1314
  · refine lv_iconst (v := 0) hx hb dL_acts_1202 (by decide) ?_
    refine lv_goto (tgt := 1216) hx hb dL_acts_1203 (by decide) ?_
    have hI := hO.1
    obtain ⟨s8, r8, n8, x1, x2, x3, x4, x5, x6, x7, x8, x9, x10, x11⟩ := hI.2.1 i hi
    obtain ⟨q8, q1, q2, q3⟩ := hI.2.2.1.2.1
    rcases (show s8 = 0 ∨ s8 = 1 ∨ s8 = 2 ∨ s8 = 3 ∨ s8 = 4 ∨ s8 = 5 ∨ s8 = 6 ∨ s8 = 7 by omega) with rfl | rfl | rfl | rfl | rfl | rfl | rfl | rfl
    · have xs : σ 1 i = 0 := x2
      rw [xs] at hl
      have hl : lv_has ls 17 [(0, .ref (ad 0)), (1, .ref (ad2 0)), (2, .ref qa), (3, .ref qm), (4, .ref qb), (5, .int zx), (6, .int zy), (7, .int (nI j4)), (8, .int (nI i)), (9, .int 0)] := hl
      refine lv_istore (lv' := [(10, .int 0), (0, .ref (ad 0)), (1, .ref (ad2 0)), (2, .ref qa), (3, .ref qm), (4, .ref qb), (5, .int zx), (6, .int zy), (7, .int (nI j4)), (8, .int (nI i)), (9, .int 0)]) hx hb dL_acts_1216 hl (by decide) rfl (fun ls hl => ?_)
      refine lv_iload hx hb dL_acts_1218 (lv_at hl 10 rfl) ?_
      refine lv_iconst (v := 5) hx hb dL_acts_1220 (by decide) ?_
      refine lv_icmp_ne (tgt := 1228) hx hb dL_acts_1221 (by decide) (fun c_74 => ?_) (fun c_74 => absurd c_74 ((by decide : ¬ (0 : Int32) = 5)))
      refine lv_ldc (v := (-1000003)) hx hb hown (hts (.constant RL 47 (-1000003)) (by decide +kernel)) dL_acts_1228 ?_
      refine lv_istore (lv' := [(11, .int (-1000003)), (10, .int 0), (0, .ref (ad 0)), (1, .ref (ad2 0)), (2, .ref qa), (3, .ref qm), (4, .ref qb), (5, .int zx), (6, .int zy), (7, .int (nI j4)), (8, .int (nI i)), (9, .int 0)]) hx hb dL_acts_1230 hl (by decide) rfl (fun ls hl => ?_)
      refine lv_aload_n hx hb dL_acts_1232 rfl (lv_at hl 2 rfl) ?_
      refine cS (W.runV (As := []) (rest := []) ⟨hx, hb, hml, hown, hts⟩ (c_X3_wipes l D cy ad σ) (cwV 0 hts gL_acts_X3_wipes rfl rfl rfl (by decide +kernel) ⟨Nat.le_of_ble_eq_true rfl, Nat.le_of_ble_eq_true rfl⟩) ⟨cw_bl, cw_F hP.left.left hK, cw_at hP.left.left hK⟩ rfl rfl hl.1 rfl (lv_room (Nat.le_of_ble_eq_true rfl)) dL_acts_1233 ⟨by show _ ≤ 60; omega, by show _ ≤ 360; omega⟩) (fun _ _ => ?_)
      refine W.eq (g2 := F0 m 1236 ls [.int (σ 20 7)]) rfl ?_
      refine W.eq (g2 := F0 m 1236 ls [.int (σ 20 7)]) (by rw [show σ 20 7 = σ 20 7 from rfl]) ?_
      refine lv_istore (lv' := [(12, .int (σ 20 7)), (11, .int (-1000003)), (10, .int 0), (0, .ref (ad 0)), (1, .ref (ad2 0)), (2, .ref qa), (3, .ref qm), (4, .ref qb), (5, .int zx), (6, .int zy), (7, .int (nI j4)), (8, .int (nI i)), (9, .int 0)]) hx hb dL_acts_1236 hl (by decide) rfl (fun ls hl => ?_)
      refine lv_aload_n hx hb dL_acts_1238 rfl (lv_at hl 3 rfl) ?_
      refine lv_iload hx hb dL_acts_1239 (lv_at hl 11 rfl) ?_
      refine lv_iload hx hb dL_acts_1241 (lv_at hl 2 rfl) ?_
      obtain ⟨hTo, hTt⟩ := noT_D hD
      refine lMi (fun q ⟨j9, h1, h2⟩ => by rw [h2]; exact hz j9 h1) (vx_runSW (As := [.ref (ad 0), .int (nI i), .int 0]) (rest := []) ⟨hx, hb, hml, hown, hts⟩ (c_L_retire l hst D cy ad hj σ sz (nI i) 0 ((-1000003)) (by rw [(show kRetire σ (nI i) 0 = 3 from kW_3 (d := 0) hi (by omega) (lit_ne (a := 0) (b := 5) x2 (by omega) (by omega) (by decide)))]; exact w123_3 _) σ (if_neg (by rw [(show kRetire σ (nI i) 0 = 3 from kW_3 (d := 0) hi (by omega) (lit_ne (a := 0) (b := 5) x2 (by omega) (by omega) (by decide)))]; decide))) (vx_cwSW 3 hts gL_acts_L_retire rfl rfl rfl (by decide +kernel) ⟨Nat.le_of_ble_eq_true rfl, Nat.le_of_ble_eq_true rfl⟩) ⟨cx_bl, cx_S hP.left.left hK Az_z hxk hS⟩ rfl rfl hl.1 rfl (lv_room (Nat.le_of_ble_eq_true rfl)) dL_acts_1243 ⟨by show _ ≤ 60; omega, by show _ ≤ 360; omega⟩) hS (fun H locs hPW hS hk1 => ?_)
      have hP := setO hne hTo hP hPW hk1
      refine W.eq (g2 := F0 m 1246 ls [.int (-1000003)]) rfl ?_
      refine lv_iload hx hb dL_acts_1246 (lv_at hl 1 rfl) ?_
      refine lv_icmp_ne (tgt := 1313) hx hb dL_acts_1248 (by decide) (fun c_75 => absurd ((by decide : (-1000003 : Int32) = -1000003)) c_75) (fun c_75 => ?_)
      refine lv_aload_n hx hb dL_acts_1251 rfl (lv_at hl 4 rfl) ?_
      refine lv_iload hx hb dL_acts_1252 (lv_at hl 11 rfl) ?_
      refine lv_iload hx hb dL_acts_1254 (lv_at hl 2 rfl) ?_
      refine lMi (fun q ⟨j9, h1, h2⟩ => by rw [h2]; exact hz2 j9 h1) (vx_runSW (As := [.ref (ad2 0), .int (nI i), .int 0]) (rest := []) ⟨hx, hb, hml, hown, hts⟩ (c_L_retire l hst D cy ad2 hj2 σ sz (nI i) 0 ((-1000003)) (by rw [(show kRetire σ (nI i) 0 = 3 from kW_3 (d := 0) hi (by omega) (lit_ne (a := 0) (b := 5) x2 (by omega) (by omega) (by decide)))]; exact w123_3 _) σ (if_neg (by rw [(show kRetire σ (nI i) 0 = 3 from kW_3 (d := 0) hi (by omega) (lit_ne (a := 0) (b := 5) x2 (by omega) (by omega) (by decide)))]; decide))) (vx_cwSW 3 hts gL_acts_L_retire rfl rfl rfl (by decide +kernel) ⟨Nat.le_of_ble_eq_true rfl, Nat.le_of_ble_eq_true rfl⟩) ⟨cx_bl, cx_S hP.left.right hK Az_z hxk hS⟩ rfl rfl hl.1 rfl (lv_room (Nat.le_of_ble_eq_true rfl)) dL_acts_1256 ⟨by show _ ≤ 60; omega, by show _ ≤ 360; omega⟩) hS (fun H locs hPW hS hk1 => ?_)
      have hP := setT hne hTt hP hPW hk1
      refine W.eq (g2 := F0 m 1259 ls [.int (-1000003)]) rfl ?_
      refine lv_iload hx hb dL_acts_1259 (lv_at hl 1 rfl) ?_
      refine lv_icmp_ne (tgt := 1313) hx hb dL_acts_1261 (by decide) (fun c_76 => absurd ((by decide : (-1000003 : Int32) = -1000003)) c_76) (fun c_76 => ?_)
      refine lv_iload hx hb dL_acts_1264 (lv_at hl 1 rfl) ?_
      refine lv_if_lt (tgt := 1309) hx hb dL_acts_1266 (by decide) (fun c_77 => ?_) (fun c_77 => absurd ((by decide : (-1000003 : Int32) < 0)) c_77)
      refine lv_iconst (v := 1) hx hb dL_acts_1309 (by decide) ?_
      refine lv_goto (tgt := 1314) hx hb dL_acts_1310 (by decide) ?_
      refine W.widen (k := 60) (n := 360) (by omega) (by omega) ?_
      have hpo : OKs h (N + 70) fa fm fb σ := hO.le (by omega)
      exact W.zret (v := 1) hx hb hr rfl (fun t ht hW => ⟨⟨_, (), rfl, rfl, ⟨_, _, _, _, by rw [ht]; exact hP, hpo⟩⟩, hS.F ht⟩) hS.2.2 dL_acts_1314
    · have xs : σ 1 i = 1 := x2
      rw [xs] at hl
      have hl : lv_has ls 17 [(0, .ref (ad 0)), (1, .ref (ad2 0)), (2, .ref qa), (3, .ref qm), (4, .ref qb), (5, .int zx), (6, .int zy), (7, .int (nI j4)), (8, .int (nI i)), (9, .int 1)] := hl
      refine lv_istore (lv' := [(10, .int 0), (0, .ref (ad 0)), (1, .ref (ad2 0)), (2, .ref qa), (3, .ref qm), (4, .ref qb), (5, .int zx), (6, .int zy), (7, .int (nI j4)), (8, .int (nI i)), (9, .int 1)]) hx hb dL_acts_1216 hl (by decide) rfl (fun ls hl => ?_)
      refine lv_iload hx hb dL_acts_1218 (lv_at hl 10 rfl) ?_
      refine lv_iconst (v := 5) hx hb dL_acts_1220 (by decide) ?_
      refine lv_icmp_ne (tgt := 1228) hx hb dL_acts_1221 (by decide) (fun c_78 => ?_) (fun c_78 => absurd c_78 ((by decide : ¬ (1 : Int32) = 5)))
      refine lv_ldc (v := (-1000003)) hx hb hown (hts (.constant RL 47 (-1000003)) (by decide +kernel)) dL_acts_1228 ?_
      refine lv_istore (lv' := [(11, .int (-1000003)), (10, .int 0), (0, .ref (ad 0)), (1, .ref (ad2 0)), (2, .ref qa), (3, .ref qm), (4, .ref qb), (5, .int zx), (6, .int zy), (7, .int (nI j4)), (8, .int (nI i)), (9, .int 1)]) hx hb dL_acts_1230 hl (by decide) rfl (fun ls hl => ?_)
      refine lv_aload_n hx hb dL_acts_1232 rfl (lv_at hl 2 rfl) ?_
      refine cS (W.runV (As := []) (rest := []) ⟨hx, hb, hml, hown, hts⟩ (c_X3_wipes l D cy ad σ) (cwV 0 hts gL_acts_X3_wipes rfl rfl rfl (by decide +kernel) ⟨Nat.le_of_ble_eq_true rfl, Nat.le_of_ble_eq_true rfl⟩) ⟨cw_bl, cw_F hP.left.left hK, cw_at hP.left.left hK⟩ rfl rfl hl.1 rfl (lv_room (Nat.le_of_ble_eq_true rfl)) dL_acts_1233 ⟨by show _ ≤ 60; omega, by show _ ≤ 360; omega⟩) (fun _ _ => ?_)
      refine W.eq (g2 := F0 m 1236 ls [.int (σ 20 7)]) rfl ?_
      refine W.eq (g2 := F0 m 1236 ls [.int (σ 20 7)]) (by rw [show σ 20 7 = σ 20 7 from rfl]) ?_
      refine lv_istore (lv' := [(12, .int (σ 20 7)), (11, .int (-1000003)), (10, .int 0), (0, .ref (ad 0)), (1, .ref (ad2 0)), (2, .ref qa), (3, .ref qm), (4, .ref qb), (5, .int zx), (6, .int zy), (7, .int (nI j4)), (8, .int (nI i)), (9, .int 1)]) hx hb dL_acts_1236 hl (by decide) rfl (fun ls hl => ?_)
      refine lv_aload_n hx hb dL_acts_1238 rfl (lv_at hl 3 rfl) ?_
      refine lv_iload hx hb dL_acts_1239 (lv_at hl 11 rfl) ?_
      refine lv_iload hx hb dL_acts_1241 (lv_at hl 2 rfl) ?_
      obtain ⟨hTo, hTt⟩ := noT_D hD
      refine lMi (fun q ⟨j9, h1, h2⟩ => by rw [h2]; exact hz j9 h1) (vx_runSW (As := [.ref (ad 0), .int (nI i), .int 0]) (rest := []) ⟨hx, hb, hml, hown, hts⟩ (c_L_retire l hst D cy ad hj σ sz (nI i) 0 ((-1000003)) (by rw [(show kRetire σ (nI i) 0 = 3 from kW_3 (d := 0) hi (by omega) (lit_ne (a := 1) (b := 5) x2 (by omega) (by omega) (by decide)))]; exact w123_3 _) σ (if_neg (by rw [(show kRetire σ (nI i) 0 = 3 from kW_3 (d := 0) hi (by omega) (lit_ne (a := 1) (b := 5) x2 (by omega) (by omega) (by decide)))]; decide))) (vx_cwSW 3 hts gL_acts_L_retire rfl rfl rfl (by decide +kernel) ⟨Nat.le_of_ble_eq_true rfl, Nat.le_of_ble_eq_true rfl⟩) ⟨cx_bl, cx_S hP.left.left hK Az_z hxk hS⟩ rfl rfl hl.1 rfl (lv_room (Nat.le_of_ble_eq_true rfl)) dL_acts_1243 ⟨by show _ ≤ 60; omega, by show _ ≤ 360; omega⟩) hS (fun H locs hPW hS hk1 => ?_)
      have hP := setO hne hTo hP hPW hk1
      refine W.eq (g2 := F0 m 1246 ls [.int (-1000003)]) rfl ?_
      refine lv_iload hx hb dL_acts_1246 (lv_at hl 1 rfl) ?_
      refine lv_icmp_ne (tgt := 1313) hx hb dL_acts_1248 (by decide) (fun c_79 => absurd ((by decide : (-1000003 : Int32) = -1000003)) c_79) (fun c_79 => ?_)
      refine lv_aload_n hx hb dL_acts_1251 rfl (lv_at hl 4 rfl) ?_
      refine lv_iload hx hb dL_acts_1252 (lv_at hl 11 rfl) ?_
      refine lv_iload hx hb dL_acts_1254 (lv_at hl 2 rfl) ?_
      refine lMi (fun q ⟨j9, h1, h2⟩ => by rw [h2]; exact hz2 j9 h1) (vx_runSW (As := [.ref (ad2 0), .int (nI i), .int 0]) (rest := []) ⟨hx, hb, hml, hown, hts⟩ (c_L_retire l hst D cy ad2 hj2 σ sz (nI i) 0 ((-1000003)) (by rw [(show kRetire σ (nI i) 0 = 3 from kW_3 (d := 0) hi (by omega) (lit_ne (a := 1) (b := 5) x2 (by omega) (by omega) (by decide)))]; exact w123_3 _) σ (if_neg (by rw [(show kRetire σ (nI i) 0 = 3 from kW_3 (d := 0) hi (by omega) (lit_ne (a := 1) (b := 5) x2 (by omega) (by omega) (by decide)))]; decide))) (vx_cwSW 3 hts gL_acts_L_retire rfl rfl rfl (by decide +kernel) ⟨Nat.le_of_ble_eq_true rfl, Nat.le_of_ble_eq_true rfl⟩) ⟨cx_bl, cx_S hP.left.right hK Az_z hxk hS⟩ rfl rfl hl.1 rfl (lv_room (Nat.le_of_ble_eq_true rfl)) dL_acts_1256 ⟨by show _ ≤ 60; omega, by show _ ≤ 360; omega⟩) hS (fun H locs hPW hS hk1 => ?_)
      have hP := setT hne hTt hP hPW hk1
      refine W.eq (g2 := F0 m 1259 ls [.int (-1000003)]) rfl ?_
      refine lv_iload hx hb dL_acts_1259 (lv_at hl 1 rfl) ?_
      refine lv_icmp_ne (tgt := 1313) hx hb dL_acts_1261 (by decide) (fun c_80 => absurd ((by decide : (-1000003 : Int32) = -1000003)) c_80) (fun c_80 => ?_)
      refine lv_iload hx hb dL_acts_1264 (lv_at hl 1 rfl) ?_
      refine lv_if_lt (tgt := 1309) hx hb dL_acts_1266 (by decide) (fun c_81 => ?_) (fun c_81 => absurd ((by decide : (-1000003 : Int32) < 0)) c_81)
      refine lv_iconst (v := 1) hx hb dL_acts_1309 (by decide) ?_
      refine lv_goto (tgt := 1314) hx hb dL_acts_1310 (by decide) ?_
      refine W.widen (k := 60) (n := 360) (by omega) (by omega) ?_
      have hpo : OKs h (N + 70) fa fm fb σ := hO.le (by omega)
      exact W.zret (v := 1) hx hb hr rfl (fun t ht hW => ⟨⟨_, (), rfl, rfl, ⟨_, _, _, _, by rw [ht]; exact hP, hpo⟩⟩, hS.F ht⟩) hS.2.2 dL_acts_1314
    · have xs : σ 1 i = 2 := x2
      rw [xs] at hl
      have hl : lv_has ls 17 [(0, .ref (ad 0)), (1, .ref (ad2 0)), (2, .ref qa), (3, .ref qm), (4, .ref qb), (5, .int zx), (6, .int zy), (7, .int (nI j4)), (8, .int (nI i)), (9, .int 2)] := hl
      refine lv_istore (lv' := [(10, .int 0), (0, .ref (ad 0)), (1, .ref (ad2 0)), (2, .ref qa), (3, .ref qm), (4, .ref qb), (5, .int zx), (6, .int zy), (7, .int (nI j4)), (8, .int (nI i)), (9, .int 2)]) hx hb dL_acts_1216 hl (by decide) rfl (fun ls hl => ?_)
      refine lv_iload hx hb dL_acts_1218 (lv_at hl 10 rfl) ?_
      refine lv_iconst (v := 5) hx hb dL_acts_1220 (by decide) ?_
      refine lv_icmp_ne (tgt := 1228) hx hb dL_acts_1221 (by decide) (fun c_82 => ?_) (fun c_82 => absurd c_82 ((by decide : ¬ (2 : Int32) = 5)))
      refine lv_ldc (v := (-1000003)) hx hb hown (hts (.constant RL 47 (-1000003)) (by decide +kernel)) dL_acts_1228 ?_
      refine lv_istore (lv' := [(11, .int (-1000003)), (10, .int 0), (0, .ref (ad 0)), (1, .ref (ad2 0)), (2, .ref qa), (3, .ref qm), (4, .ref qb), (5, .int zx), (6, .int zy), (7, .int (nI j4)), (8, .int (nI i)), (9, .int 2)]) hx hb dL_acts_1230 hl (by decide) rfl (fun ls hl => ?_)
      refine lv_aload_n hx hb dL_acts_1232 rfl (lv_at hl 2 rfl) ?_
      refine cS (W.runV (As := []) (rest := []) ⟨hx, hb, hml, hown, hts⟩ (c_X3_wipes l D cy ad σ) (cwV 0 hts gL_acts_X3_wipes rfl rfl rfl (by decide +kernel) ⟨Nat.le_of_ble_eq_true rfl, Nat.le_of_ble_eq_true rfl⟩) ⟨cw_bl, cw_F hP.left.left hK, cw_at hP.left.left hK⟩ rfl rfl hl.1 rfl (lv_room (Nat.le_of_ble_eq_true rfl)) dL_acts_1233 ⟨by show _ ≤ 60; omega, by show _ ≤ 360; omega⟩) (fun _ _ => ?_)
      refine W.eq (g2 := F0 m 1236 ls [.int (σ 20 7)]) rfl ?_
      refine W.eq (g2 := F0 m 1236 ls [.int (σ 20 7)]) (by rw [show σ 20 7 = σ 20 7 from rfl]) ?_
      refine lv_istore (lv' := [(12, .int (σ 20 7)), (11, .int (-1000003)), (10, .int 0), (0, .ref (ad 0)), (1, .ref (ad2 0)), (2, .ref qa), (3, .ref qm), (4, .ref qb), (5, .int zx), (6, .int zy), (7, .int (nI j4)), (8, .int (nI i)), (9, .int 2)]) hx hb dL_acts_1236 hl (by decide) rfl (fun ls hl => ?_)
      refine lv_aload_n hx hb dL_acts_1238 rfl (lv_at hl 3 rfl) ?_
      refine lv_iload hx hb dL_acts_1239 (lv_at hl 11 rfl) ?_
      refine lv_iload hx hb dL_acts_1241 (lv_at hl 2 rfl) ?_
      obtain ⟨hTo, hTt⟩ := noT_D hD
      refine lMi (fun q ⟨j9, h1, h2⟩ => by rw [h2]; exact hz j9 h1) (vx_runSW (As := [.ref (ad 0), .int (nI i), .int 0]) (rest := []) ⟨hx, hb, hml, hown, hts⟩ (c_L_retire l hst D cy ad hj σ sz (nI i) 0 ((-1000003)) (by rw [(show kRetire σ (nI i) 0 = 3 from kW_3 (d := 0) hi (by omega) (lit_ne (a := 2) (b := 5) x2 (by omega) (by omega) (by decide)))]; exact w123_3 _) σ (if_neg (by rw [(show kRetire σ (nI i) 0 = 3 from kW_3 (d := 0) hi (by omega) (lit_ne (a := 2) (b := 5) x2 (by omega) (by omega) (by decide)))]; decide))) (vx_cwSW 3 hts gL_acts_L_retire rfl rfl rfl (by decide +kernel) ⟨Nat.le_of_ble_eq_true rfl, Nat.le_of_ble_eq_true rfl⟩) ⟨cx_bl, cx_S hP.left.left hK Az_z hxk hS⟩ rfl rfl hl.1 rfl (lv_room (Nat.le_of_ble_eq_true rfl)) dL_acts_1243 ⟨by show _ ≤ 60; omega, by show _ ≤ 360; omega⟩) hS (fun H locs hPW hS hk1 => ?_)
      have hP := setO hne hTo hP hPW hk1
      refine W.eq (g2 := F0 m 1246 ls [.int (-1000003)]) rfl ?_
      refine lv_iload hx hb dL_acts_1246 (lv_at hl 1 rfl) ?_
      refine lv_icmp_ne (tgt := 1313) hx hb dL_acts_1248 (by decide) (fun c_83 => absurd ((by decide : (-1000003 : Int32) = -1000003)) c_83) (fun c_83 => ?_)
      refine lv_aload_n hx hb dL_acts_1251 rfl (lv_at hl 4 rfl) ?_
      refine lv_iload hx hb dL_acts_1252 (lv_at hl 11 rfl) ?_
      refine lv_iload hx hb dL_acts_1254 (lv_at hl 2 rfl) ?_
      refine lMi (fun q ⟨j9, h1, h2⟩ => by rw [h2]; exact hz2 j9 h1) (vx_runSW (As := [.ref (ad2 0), .int (nI i), .int 0]) (rest := []) ⟨hx, hb, hml, hown, hts⟩ (c_L_retire l hst D cy ad2 hj2 σ sz (nI i) 0 ((-1000003)) (by rw [(show kRetire σ (nI i) 0 = 3 from kW_3 (d := 0) hi (by omega) (lit_ne (a := 2) (b := 5) x2 (by omega) (by omega) (by decide)))]; exact w123_3 _) σ (if_neg (by rw [(show kRetire σ (nI i) 0 = 3 from kW_3 (d := 0) hi (by omega) (lit_ne (a := 2) (b := 5) x2 (by omega) (by omega) (by decide)))]; decide))) (vx_cwSW 3 hts gL_acts_L_retire rfl rfl rfl (by decide +kernel) ⟨Nat.le_of_ble_eq_true rfl, Nat.le_of_ble_eq_true rfl⟩) ⟨cx_bl, cx_S hP.left.right hK Az_z hxk hS⟩ rfl rfl hl.1 rfl (lv_room (Nat.le_of_ble_eq_true rfl)) dL_acts_1256 ⟨by show _ ≤ 60; omega, by show _ ≤ 360; omega⟩) hS (fun H locs hPW hS hk1 => ?_)
      have hP := setT hne hTt hP hPW hk1
      refine W.eq (g2 := F0 m 1259 ls [.int (-1000003)]) rfl ?_
      refine lv_iload hx hb dL_acts_1259 (lv_at hl 1 rfl) ?_
      refine lv_icmp_ne (tgt := 1313) hx hb dL_acts_1261 (by decide) (fun c_84 => absurd ((by decide : (-1000003 : Int32) = -1000003)) c_84) (fun c_84 => ?_)
      refine lv_iload hx hb dL_acts_1264 (lv_at hl 1 rfl) ?_
      refine lv_if_lt (tgt := 1309) hx hb dL_acts_1266 (by decide) (fun c_85 => ?_) (fun c_85 => absurd ((by decide : (-1000003 : Int32) < 0)) c_85)
      refine lv_iconst (v := 1) hx hb dL_acts_1309 (by decide) ?_
      refine lv_goto (tgt := 1314) hx hb dL_acts_1310 (by decide) ?_
      refine W.widen (k := 60) (n := 360) (by omega) (by omega) ?_
      have hpo : OKs h (N + 70) fa fm fb σ := hO.le (by omega)
      exact W.zret (v := 1) hx hb hr rfl (fun t ht hW => ⟨⟨_, (), rfl, rfl, ⟨_, _, _, _, by rw [ht]; exact hP, hpo⟩⟩, hS.F ht⟩) hS.2.2 dL_acts_1314
    · have xs : σ 1 i = 3 := x2
      rw [xs] at hl
      have hl : lv_has ls 17 [(0, .ref (ad 0)), (1, .ref (ad2 0)), (2, .ref qa), (3, .ref qm), (4, .ref qb), (5, .int zx), (6, .int zy), (7, .int (nI j4)), (8, .int (nI i)), (9, .int 3)] := hl
      refine lv_istore (lv' := [(10, .int 0), (0, .ref (ad 0)), (1, .ref (ad2 0)), (2, .ref qa), (3, .ref qm), (4, .ref qb), (5, .int zx), (6, .int zy), (7, .int (nI j4)), (8, .int (nI i)), (9, .int 3)]) hx hb dL_acts_1216 hl (by decide) rfl (fun ls hl => ?_)
      refine lv_iload hx hb dL_acts_1218 (lv_at hl 10 rfl) ?_
      refine lv_iconst (v := 5) hx hb dL_acts_1220 (by decide) ?_
      refine lv_icmp_ne (tgt := 1228) hx hb dL_acts_1221 (by decide) (fun c_86 => ?_) (fun c_86 => absurd c_86 ((by decide : ¬ (3 : Int32) = 5)))
      refine lv_ldc (v := (-1000003)) hx hb hown (hts (.constant RL 47 (-1000003)) (by decide +kernel)) dL_acts_1228 ?_
      refine lv_istore (lv' := [(11, .int (-1000003)), (10, .int 0), (0, .ref (ad 0)), (1, .ref (ad2 0)), (2, .ref qa), (3, .ref qm), (4, .ref qb), (5, .int zx), (6, .int zy), (7, .int (nI j4)), (8, .int (nI i)), (9, .int 3)]) hx hb dL_acts_1230 hl (by decide) rfl (fun ls hl => ?_)
      refine lv_aload_n hx hb dL_acts_1232 rfl (lv_at hl 2 rfl) ?_
      refine cS (W.runV (As := []) (rest := []) ⟨hx, hb, hml, hown, hts⟩ (c_X3_wipes l D cy ad σ) (cwV 0 hts gL_acts_X3_wipes rfl rfl rfl (by decide +kernel) ⟨Nat.le_of_ble_eq_true rfl, Nat.le_of_ble_eq_true rfl⟩) ⟨cw_bl, cw_F hP.left.left hK, cw_at hP.left.left hK⟩ rfl rfl hl.1 rfl (lv_room (Nat.le_of_ble_eq_true rfl)) dL_acts_1233 ⟨by show _ ≤ 60; omega, by show _ ≤ 360; omega⟩) (fun _ _ => ?_)
      refine W.eq (g2 := F0 m 1236 ls [.int (σ 20 7)]) rfl ?_
      refine W.eq (g2 := F0 m 1236 ls [.int (σ 20 7)]) (by rw [show σ 20 7 = σ 20 7 from rfl]) ?_
      refine lv_istore (lv' := [(12, .int (σ 20 7)), (11, .int (-1000003)), (10, .int 0), (0, .ref (ad 0)), (1, .ref (ad2 0)), (2, .ref qa), (3, .ref qm), (4, .ref qb), (5, .int zx), (6, .int zy), (7, .int (nI j4)), (8, .int (nI i)), (9, .int 3)]) hx hb dL_acts_1236 hl (by decide) rfl (fun ls hl => ?_)
      refine lv_aload_n hx hb dL_acts_1238 rfl (lv_at hl 3 rfl) ?_
      refine lv_iload hx hb dL_acts_1239 (lv_at hl 11 rfl) ?_
      refine lv_iload hx hb dL_acts_1241 (lv_at hl 2 rfl) ?_
      obtain ⟨hTo, hTt⟩ := noT_D hD
      refine lMi (fun q ⟨j9, h1, h2⟩ => by rw [h2]; exact hz j9 h1) (vx_runSW (As := [.ref (ad 0), .int (nI i), .int 0]) (rest := []) ⟨hx, hb, hml, hown, hts⟩ (c_L_retire l hst D cy ad hj σ sz (nI i) 0 ((-1000003)) (by rw [(show kRetire σ (nI i) 0 = 3 from kW_3 (d := 0) hi (by omega) (lit_ne (a := 3) (b := 5) x2 (by omega) (by omega) (by decide)))]; exact w123_3 _) σ (if_neg (by rw [(show kRetire σ (nI i) 0 = 3 from kW_3 (d := 0) hi (by omega) (lit_ne (a := 3) (b := 5) x2 (by omega) (by omega) (by decide)))]; decide))) (vx_cwSW 3 hts gL_acts_L_retire rfl rfl rfl (by decide +kernel) ⟨Nat.le_of_ble_eq_true rfl, Nat.le_of_ble_eq_true rfl⟩) ⟨cx_bl, cx_S hP.left.left hK Az_z hxk hS⟩ rfl rfl hl.1 rfl (lv_room (Nat.le_of_ble_eq_true rfl)) dL_acts_1243 ⟨by show _ ≤ 60; omega, by show _ ≤ 360; omega⟩) hS (fun H locs hPW hS hk1 => ?_)
      have hP := setO hne hTo hP hPW hk1
      refine W.eq (g2 := F0 m 1246 ls [.int (-1000003)]) rfl ?_
      refine lv_iload hx hb dL_acts_1246 (lv_at hl 1 rfl) ?_
      refine lv_icmp_ne (tgt := 1313) hx hb dL_acts_1248 (by decide) (fun c_87 => absurd ((by decide : (-1000003 : Int32) = -1000003)) c_87) (fun c_87 => ?_)
      refine lv_aload_n hx hb dL_acts_1251 rfl (lv_at hl 4 rfl) ?_
      refine lv_iload hx hb dL_acts_1252 (lv_at hl 11 rfl) ?_
      refine lv_iload hx hb dL_acts_1254 (lv_at hl 2 rfl) ?_
      refine lMi (fun q ⟨j9, h1, h2⟩ => by rw [h2]; exact hz2 j9 h1) (vx_runSW (As := [.ref (ad2 0), .int (nI i), .int 0]) (rest := []) ⟨hx, hb, hml, hown, hts⟩ (c_L_retire l hst D cy ad2 hj2 σ sz (nI i) 0 ((-1000003)) (by rw [(show kRetire σ (nI i) 0 = 3 from kW_3 (d := 0) hi (by omega) (lit_ne (a := 3) (b := 5) x2 (by omega) (by omega) (by decide)))]; exact w123_3 _) σ (if_neg (by rw [(show kRetire σ (nI i) 0 = 3 from kW_3 (d := 0) hi (by omega) (lit_ne (a := 3) (b := 5) x2 (by omega) (by omega) (by decide)))]; decide))) (vx_cwSW 3 hts gL_acts_L_retire rfl rfl rfl (by decide +kernel) ⟨Nat.le_of_ble_eq_true rfl, Nat.le_of_ble_eq_true rfl⟩) ⟨cx_bl, cx_S hP.left.right hK Az_z hxk hS⟩ rfl rfl hl.1 rfl (lv_room (Nat.le_of_ble_eq_true rfl)) dL_acts_1256 ⟨by show _ ≤ 60; omega, by show _ ≤ 360; omega⟩) hS (fun H locs hPW hS hk1 => ?_)
      have hP := setT hne hTt hP hPW hk1
      refine W.eq (g2 := F0 m 1259 ls [.int (-1000003)]) rfl ?_
      refine lv_iload hx hb dL_acts_1259 (lv_at hl 1 rfl) ?_
      refine lv_icmp_ne (tgt := 1313) hx hb dL_acts_1261 (by decide) (fun c_88 => absurd ((by decide : (-1000003 : Int32) = -1000003)) c_88) (fun c_88 => ?_)
      refine lv_iload hx hb dL_acts_1264 (lv_at hl 1 rfl) ?_
      refine lv_if_lt (tgt := 1309) hx hb dL_acts_1266 (by decide) (fun c_89 => ?_) (fun c_89 => absurd ((by decide : (-1000003 : Int32) < 0)) c_89)
      refine lv_iconst (v := 1) hx hb dL_acts_1309 (by decide) ?_
      refine lv_goto (tgt := 1314) hx hb dL_acts_1310 (by decide) ?_
      refine W.widen (k := 60) (n := 360) (by omega) (by omega) ?_
      have hpo : OKs h (N + 70) fa fm fb σ := hO.le (by omega)
      exact W.zret (v := 1) hx hb hr rfl (fun t ht hW => ⟨⟨_, (), rfl, rfl, ⟨_, _, _, _, by rw [ht]; exact hP, hpo⟩⟩, hS.F ht⟩) hS.2.2 dL_acts_1314
    · have xs : σ 1 i = 4 := x2
      rw [xs] at hl
      have hl : lv_has ls 17 [(0, .ref (ad 0)), (1, .ref (ad2 0)), (2, .ref qa), (3, .ref qm), (4, .ref qb), (5, .int zx), (6, .int zy), (7, .int (nI j4)), (8, .int (nI i)), (9, .int 4)] := hl
      refine lv_istore (lv' := [(10, .int 0), (0, .ref (ad 0)), (1, .ref (ad2 0)), (2, .ref qa), (3, .ref qm), (4, .ref qb), (5, .int zx), (6, .int zy), (7, .int (nI j4)), (8, .int (nI i)), (9, .int 4)]) hx hb dL_acts_1216 hl (by decide) rfl (fun ls hl => ?_)
      refine lv_iload hx hb dL_acts_1218 (lv_at hl 10 rfl) ?_
      refine lv_iconst (v := 5) hx hb dL_acts_1220 (by decide) ?_
      refine lv_icmp_ne (tgt := 1228) hx hb dL_acts_1221 (by decide) (fun c_90 => ?_) (fun c_90 => absurd c_90 ((by decide : ¬ (4 : Int32) = 5)))
      refine lv_ldc (v := (-1000003)) hx hb hown (hts (.constant RL 47 (-1000003)) (by decide +kernel)) dL_acts_1228 ?_
      refine lv_istore (lv' := [(11, .int (-1000003)), (10, .int 0), (0, .ref (ad 0)), (1, .ref (ad2 0)), (2, .ref qa), (3, .ref qm), (4, .ref qb), (5, .int zx), (6, .int zy), (7, .int (nI j4)), (8, .int (nI i)), (9, .int 4)]) hx hb dL_acts_1230 hl (by decide) rfl (fun ls hl => ?_)
      refine lv_aload_n hx hb dL_acts_1232 rfl (lv_at hl 2 rfl) ?_
      refine cS (W.runV (As := []) (rest := []) ⟨hx, hb, hml, hown, hts⟩ (c_X3_wipes l D cy ad σ) (cwV 0 hts gL_acts_X3_wipes rfl rfl rfl (by decide +kernel) ⟨Nat.le_of_ble_eq_true rfl, Nat.le_of_ble_eq_true rfl⟩) ⟨cw_bl, cw_F hP.left.left hK, cw_at hP.left.left hK⟩ rfl rfl hl.1 rfl (lv_room (Nat.le_of_ble_eq_true rfl)) dL_acts_1233 ⟨by show _ ≤ 60; omega, by show _ ≤ 360; omega⟩) (fun _ _ => ?_)
      refine W.eq (g2 := F0 m 1236 ls [.int (σ 20 7)]) rfl ?_
      refine W.eq (g2 := F0 m 1236 ls [.int (σ 20 7)]) (by rw [show σ 20 7 = σ 20 7 from rfl]) ?_
      refine lv_istore (lv' := [(12, .int (σ 20 7)), (11, .int (-1000003)), (10, .int 0), (0, .ref (ad 0)), (1, .ref (ad2 0)), (2, .ref qa), (3, .ref qm), (4, .ref qb), (5, .int zx), (6, .int zy), (7, .int (nI j4)), (8, .int (nI i)), (9, .int 4)]) hx hb dL_acts_1236 hl (by decide) rfl (fun ls hl => ?_)
      refine lv_aload_n hx hb dL_acts_1238 rfl (lv_at hl 3 rfl) ?_
      refine lv_iload hx hb dL_acts_1239 (lv_at hl 11 rfl) ?_
      refine lv_iload hx hb dL_acts_1241 (lv_at hl 2 rfl) ?_
      obtain ⟨hTo, hTt⟩ := noT_D hD
      refine lMi (fun q ⟨j9, h1, h2⟩ => by rw [h2]; exact hz j9 h1) (vx_runSW (As := [.ref (ad 0), .int (nI i), .int 0]) (rest := []) ⟨hx, hb, hml, hown, hts⟩ (c_L_retire l hst D cy ad hj σ sz (nI i) 0 ((-1000003)) (by rw [(show kRetire σ (nI i) 0 = 3 from kW_3 (d := 0) hi (by omega) (lit_ne (a := 4) (b := 5) x2 (by omega) (by omega) (by decide)))]; exact w123_3 _) σ (if_neg (by rw [(show kRetire σ (nI i) 0 = 3 from kW_3 (d := 0) hi (by omega) (lit_ne (a := 4) (b := 5) x2 (by omega) (by omega) (by decide)))]; decide))) (vx_cwSW 3 hts gL_acts_L_retire rfl rfl rfl (by decide +kernel) ⟨Nat.le_of_ble_eq_true rfl, Nat.le_of_ble_eq_true rfl⟩) ⟨cx_bl, cx_S hP.left.left hK Az_z hxk hS⟩ rfl rfl hl.1 rfl (lv_room (Nat.le_of_ble_eq_true rfl)) dL_acts_1243 ⟨by show _ ≤ 60; omega, by show _ ≤ 360; omega⟩) hS (fun H locs hPW hS hk1 => ?_)
      have hP := setO hne hTo hP hPW hk1
      refine W.eq (g2 := F0 m 1246 ls [.int (-1000003)]) rfl ?_
      refine lv_iload hx hb dL_acts_1246 (lv_at hl 1 rfl) ?_
      refine lv_icmp_ne (tgt := 1313) hx hb dL_acts_1248 (by decide) (fun c_91 => absurd ((by decide : (-1000003 : Int32) = -1000003)) c_91) (fun c_91 => ?_)
      refine lv_aload_n hx hb dL_acts_1251 rfl (lv_at hl 4 rfl) ?_
      refine lv_iload hx hb dL_acts_1252 (lv_at hl 11 rfl) ?_
      refine lv_iload hx hb dL_acts_1254 (lv_at hl 2 rfl) ?_
      refine lMi (fun q ⟨j9, h1, h2⟩ => by rw [h2]; exact hz2 j9 h1) (vx_runSW (As := [.ref (ad2 0), .int (nI i), .int 0]) (rest := []) ⟨hx, hb, hml, hown, hts⟩ (c_L_retire l hst D cy ad2 hj2 σ sz (nI i) 0 ((-1000003)) (by rw [(show kRetire σ (nI i) 0 = 3 from kW_3 (d := 0) hi (by omega) (lit_ne (a := 4) (b := 5) x2 (by omega) (by omega) (by decide)))]; exact w123_3 _) σ (if_neg (by rw [(show kRetire σ (nI i) 0 = 3 from kW_3 (d := 0) hi (by omega) (lit_ne (a := 4) (b := 5) x2 (by omega) (by omega) (by decide)))]; decide))) (vx_cwSW 3 hts gL_acts_L_retire rfl rfl rfl (by decide +kernel) ⟨Nat.le_of_ble_eq_true rfl, Nat.le_of_ble_eq_true rfl⟩) ⟨cx_bl, cx_S hP.left.right hK Az_z hxk hS⟩ rfl rfl hl.1 rfl (lv_room (Nat.le_of_ble_eq_true rfl)) dL_acts_1256 ⟨by show _ ≤ 60; omega, by show _ ≤ 360; omega⟩) hS (fun H locs hPW hS hk1 => ?_)
      have hP := setT hne hTt hP hPW hk1
      refine W.eq (g2 := F0 m 1259 ls [.int (-1000003)]) rfl ?_
      refine lv_iload hx hb dL_acts_1259 (lv_at hl 1 rfl) ?_
      refine lv_icmp_ne (tgt := 1313) hx hb dL_acts_1261 (by decide) (fun c_92 => absurd ((by decide : (-1000003 : Int32) = -1000003)) c_92) (fun c_92 => ?_)
      refine lv_iload hx hb dL_acts_1264 (lv_at hl 1 rfl) ?_
      refine lv_if_lt (tgt := 1309) hx hb dL_acts_1266 (by decide) (fun c_93 => ?_) (fun c_93 => absurd ((by decide : (-1000003 : Int32) < 0)) c_93)
      refine lv_iconst (v := 1) hx hb dL_acts_1309 (by decide) ?_
      refine lv_goto (tgt := 1314) hx hb dL_acts_1310 (by decide) ?_
      refine W.widen (k := 60) (n := 360) (by omega) (by omega) ?_
      have hpo : OKs h (N + 70) fa fm fb σ := hO.le (by omega)
      exact W.zret (v := 1) hx hb hr rfl (fun t ht hW => ⟨⟨_, (), rfl, rfl, ⟨_, _, _, _, by rw [ht]; exact hP, hpo⟩⟩, hS.F ht⟩) hS.2.2 dL_acts_1314
    · have xs : σ 1 i = 5 := x2
      rw [xs] at hl
      have hl : lv_has ls 17 [(0, .ref (ad 0)), (1, .ref (ad2 0)), (2, .ref qa), (3, .ref qm), (4, .ref qb), (5, .int zx), (6, .int zy), (7, .int (nI j4)), (8, .int (nI i)), (9, .int 5)] := hl
      obtain ⟨aO, at9, aw9⟩ := a_wipe hO (by omega) hi xs
      refine lv_istore (lv' := [(10, .int 0), (0, .ref (ad 0)), (1, .ref (ad2 0)), (2, .ref qa), (3, .ref qm), (4, .ref qb), (5, .int zx), (6, .int zy), (7, .int (nI j4)), (8, .int (nI i)), (9, .int 5)]) hx hb dL_acts_1216 hl (by decide) rfl (fun ls hl => ?_)
      refine lv_iload hx hb dL_acts_1218 (lv_at hl 10 rfl) ?_
      refine lv_iconst (v := 5) hx hb dL_acts_1220 (by decide) ?_
      refine lv_icmp_ne (tgt := 1228) hx hb dL_acts_1221 (by decide) (fun c_94 => absurd ((by decide : (5 : Int32) = 5)) c_94) (fun c_94 => ?_)
      refine lv_iconst (v := 0) hx hb dL_acts_1224 (by decide) ?_
      refine lv_goto (tgt := 1230) hx hb dL_acts_1225 (by decide) ?_
      refine lv_istore (lv' := [(11, .int 0), (10, .int 0), (0, .ref (ad 0)), (1, .ref (ad2 0)), (2, .ref qa), (3, .ref qm), (4, .ref qb), (5, .int zx), (6, .int zy), (7, .int (nI j4)), (8, .int (nI i)), (9, .int 5)]) hx hb dL_acts_1230 hl (by decide) rfl (fun ls hl => ?_)
      refine lv_aload_n hx hb dL_acts_1232 rfl (lv_at hl 2 rfl) ?_
      refine cS (W.runV (As := []) (rest := []) ⟨hx, hb, hml, hown, hts⟩ (c_X3_wipes l D cy ad σ) (cwV 0 hts gL_acts_X3_wipes rfl rfl rfl (by decide +kernel) ⟨Nat.le_of_ble_eq_true rfl, Nat.le_of_ble_eq_true rfl⟩) ⟨cw_bl, cw_F hP.left.left hK, cw_at hP.left.left hK⟩ rfl rfl hl.1 rfl (lv_room (Nat.le_of_ble_eq_true rfl)) dL_acts_1233 ⟨by show _ ≤ 60; omega, by show _ ≤ 360; omega⟩) (fun _ _ => ?_)
      refine W.eq (g2 := F0 m 1236 ls [.int (σ 20 7)]) rfl ?_
      refine W.eq (g2 := F0 m 1236 ls [.int (σ 20 7)]) (by rw [show σ 20 7 = σ 20 7 from rfl]) ?_
      refine lv_istore (lv' := [(12, .int (σ 20 7)), (11, .int 0), (10, .int 0), (0, .ref (ad 0)), (1, .ref (ad2 0)), (2, .ref qa), (3, .ref qm), (4, .ref qb), (5, .int zx), (6, .int zy), (7, .int (nI j4)), (8, .int (nI i)), (9, .int 5)]) hx hb dL_acts_1236 hl (by decide) rfl (fun ls hl => ?_)
      refine lv_aload_n hx hb dL_acts_1238 rfl (lv_at hl 3 rfl) ?_
      refine lv_iload hx hb dL_acts_1239 (lv_at hl 11 rfl) ?_
      refine lv_iload hx hb dL_acts_1241 (lv_at hl 2 rfl) ?_
      obtain ⟨hTo, hTt⟩ := noT_D hD
      refine lMi (fun q ⟨j9, h1, h2⟩ => by rw [h2]; exact hz j9 h1) (vx_runSW (As := [.ref (ad 0), .int (nI i), .int 0]) (rest := []) ⟨hx, hb, hml, hown, hts⟩ (c_L_retire l hst D cy ad hj σ sz (nI i) 0 (0) (w123_0 (show kRetire σ (nI i) 0 = 0 from kW_0 (d := 0) hi (by omega) xs)) (gRetire σ (nI i) 0) (if_pos (show kRetire σ (nI i) 0 = 0 from kW_0 (d := 0) hi (by omega) xs))) (vx_cwSW 3 hts gL_acts_L_retire rfl rfl rfl (by decide +kernel) ⟨Nat.le_of_ble_eq_true rfl, Nat.le_of_ble_eq_true rfl⟩) ⟨cx_bl, cx_S hP.left.left hK Az_z hxk hS⟩ rfl rfl hl.1 rfl (lv_room (Nat.le_of_ble_eq_true rfl)) dL_acts_1243 ⟨by show _ ≤ 60; omega, by show _ ≤ 360; omega⟩) hS (fun H locs hPW hS hk1 => ?_)
      have hP := setO hne hTo hP hPW hk1
      refine W.eq (g2 := F0 m 1246 ls [.int 0]) rfl ?_
      refine lv_iload hx hb dL_acts_1246 (lv_at hl 1 rfl) ?_
      refine lv_icmp_ne (tgt := 1313) hx hb dL_acts_1248 (by decide) (fun c_95 => absurd ((by decide : (0 : Int32) = 0)) c_95) (fun c_95 => ?_)
      refine lv_aload_n hx hb dL_acts_1251 rfl (lv_at hl 4 rfl) ?_
      refine lv_iload hx hb dL_acts_1252 (lv_at hl 11 rfl) ?_
      refine lv_iload hx hb dL_acts_1254 (lv_at hl 2 rfl) ?_
      refine lMi (fun q ⟨j9, h1, h2⟩ => by rw [h2]; exact hz2 j9 h1) (vx_runSW (As := [.ref (ad2 0), .int (nI i), .int 0]) (rest := []) ⟨hx, hb, hml, hown, hts⟩ (c_L_retire l hst D cy ad2 hj2 σ sz (nI i) 0 (0) (w123_0 (show kRetire σ (nI i) 0 = 0 from kW_0 (d := 0) hi (by omega) xs)) (gRetire σ (nI i) 0) (if_pos (show kRetire σ (nI i) 0 = 0 from kW_0 (d := 0) hi (by omega) xs))) (vx_cwSW 3 hts gL_acts_L_retire rfl rfl rfl (by decide +kernel) ⟨Nat.le_of_ble_eq_true rfl, Nat.le_of_ble_eq_true rfl⟩) ⟨cx_bl, cx_S hP.left.right hK Az_z hxk hS⟩ rfl rfl hl.1 rfl (lv_room (Nat.le_of_ble_eq_true rfl)) dL_acts_1256 ⟨by show _ ≤ 60; omega, by show _ ≤ 360; omega⟩) hS (fun H locs hPW hS hk1 => ?_)
      have hP := setT hne hTt hP hPW hk1
      refine W.eq (g2 := F0 m 1259 ls [.int 0]) rfl ?_
      refine lv_iload hx hb dL_acts_1259 (lv_at hl 1 rfl) ?_
      refine lv_icmp_ne (tgt := 1313) hx hb dL_acts_1261 (by decide) (fun c_96 => absurd ((by decide : (0 : Int32) = 0)) c_96) (fun c_96 => ?_)
      refine lv_iload hx hb dL_acts_1264 (lv_at hl 1 rfl) ?_
      refine lv_if_lt (tgt := 1309) hx hb dL_acts_1266 (by decide) (fun c_97 => absurd c_97 ((by decide : ¬ (0 : Int32) < 0))) (fun c_97 => ?_)
      refine lv_aload_n hx hb dL_acts_1269 rfl (lv_at hl 3 rfl) ?_
      refine lv_iload hx hb dL_acts_1270 (lv_at hl 11 rfl) ?_
      refine rMi (vx_runSW (As := [.ref (ad 0), .int (nI i)]) (rest := []) ⟨hx, hb, hml, hown, hts⟩ (c_L_stateOf l hst D cy ad (gRetire σ (nI i) 0) sz (nI i) (1) ((wS hi).trans at9)) (vx_cwSW 2 hts gL_acts_L_stateOf rfl rfl rfl (by decide +kernel) ⟨Nat.le_of_ble_eq_true rfl, Nat.le_of_ble_eq_true rfl⟩) ⟨cx_bl, cx_S hP.left.left hK Az_z hxk hS⟩ rfl rfl hl.1 rfl (lv_room (Nat.le_of_ble_eq_true rfl)) dL_acts_1272 ⟨by show _ ≤ 60; omega, by show _ ≤ 360; omega⟩) hS (fun H locs hS hg => ?_)
      have hP := hP.grown hg
      refine W.eq (g2 := F0 m 1275 ls [.int 1]) rfl ?_
      refine lv_iload hx hb dL_acts_1275 (lv_at hl 2 rfl) ?_
      refine lv_if_ne (tgt := 1284) hx hb dL_acts_1277 (by decide) (fun c_98 => absurd ((by decide : (0 : Int32) = 0)) c_98) (fun c_98 => ?_)
      refine lv_iconst (v := 1) hx hb dL_acts_1280 (by decide) ?_
      refine lv_goto (tgt := 1286) hx hb dL_acts_1281 (by decide) ?_
      refine lv_icmp_ne (tgt := 1313) hx hb dL_acts_1286 (by decide) (fun c_99 => absurd ((by decide : (1 : Int32) = 1)) c_99) (fun c_99 => ?_)
      refine lv_aload_n hx hb dL_acts_1289 rfl (lv_at hl 3 rfl) ?_
      refine cS (W.runV (As := []) (rest := []) ⟨hx, hb, hml, hown, hts⟩ (c_X3_wipes l D cy ad (gRetire σ (nI i) 0)) (cwV 0 hts gL_acts_X3_wipes rfl rfl rfl (by decide +kernel) ⟨Nat.le_of_ble_eq_true rfl, Nat.le_of_ble_eq_true rfl⟩) ⟨cw_bl, cw_F hP.left.left hK, cw_at hP.left.left hK⟩ rfl rfl hl.1 rfl (lv_room (Nat.le_of_ble_eq_true rfl)) dL_acts_1290 ⟨by show _ ≤ 60; omega, by show _ ≤ 360; omega⟩) (fun _ _ => ?_)
      refine W.eq (g2 := F0 m 1293 ls [.int ((gRetire σ (nI i) 0) 20 7)]) rfl ?_
      refine W.eq (g2 := F0 m 1293 ls [.int ((σ 20 7) + 1)]) (by rw [aw9]) ?_
      refine lv_iload hx hb dL_acts_1293 (lv_at hl 0 rfl) ?_
      refine lv_iload hx hb dL_acts_1295 (lv_at hl 2 rfl) ?_
      refine lv_if_ne (tgt := 1304) hx hb dL_acts_1297 (by decide) (fun c_100 => absurd ((by decide : (0 : Int32) = 0)) c_100) (fun c_100 => ?_)
      refine lv_iconst (v := 1) hx hb dL_acts_1300 (by decide) ?_
      refine lv_goto (tgt := 1305) hx hb dL_acts_1301 (by decide) ?_
      refine lv_iadd hx hb dL_acts_1305 ?_
      refine lv_icmp_ne (tgt := 1313) hx hb dL_acts_1306 (by decide) (fun c_101 => absurd (rfl) c_101) (fun c_101 => ?_)
      refine lv_iconst (v := 1) hx hb dL_acts_1309 (by decide) ?_
      refine lv_goto (tgt := 1314) hx hb dL_acts_1310 (by decide) ?_
      refine W.widen (k := 60) (n := 360) (by omega) (by omega) ?_
      have hpo : OKs h (N + 70) fa fm fb (gRetire σ (nI i) 0) := aO.le (by omega)
      exact W.zret (v := 1) hx hb hr rfl (fun t ht hW => ⟨⟨_, (), rfl, rfl, ⟨_, _, _, _, by rw [ht]; exact hP, hpo⟩⟩, hS.F ht⟩) hS.2.2 dL_acts_1314
    · have xs : σ 1 i = 6 := x2
      rw [xs] at hl
      have hl : lv_has ls 17 [(0, .ref (ad 0)), (1, .ref (ad2 0)), (2, .ref qa), (3, .ref qm), (4, .ref qb), (5, .int zx), (6, .int zy), (7, .int (nI j4)), (8, .int (nI i)), (9, .int 6)] := hl
      refine lv_istore (lv' := [(10, .int 0), (0, .ref (ad 0)), (1, .ref (ad2 0)), (2, .ref qa), (3, .ref qm), (4, .ref qb), (5, .int zx), (6, .int zy), (7, .int (nI j4)), (8, .int (nI i)), (9, .int 6)]) hx hb dL_acts_1216 hl (by decide) rfl (fun ls hl => ?_)
      refine lv_iload hx hb dL_acts_1218 (lv_at hl 10 rfl) ?_
      refine lv_iconst (v := 5) hx hb dL_acts_1220 (by decide) ?_
      refine lv_icmp_ne (tgt := 1228) hx hb dL_acts_1221 (by decide) (fun c_102 => ?_) (fun c_102 => absurd c_102 ((by decide : ¬ (6 : Int32) = 5)))
      refine lv_ldc (v := (-1000003)) hx hb hown (hts (.constant RL 47 (-1000003)) (by decide +kernel)) dL_acts_1228 ?_
      refine lv_istore (lv' := [(11, .int (-1000003)), (10, .int 0), (0, .ref (ad 0)), (1, .ref (ad2 0)), (2, .ref qa), (3, .ref qm), (4, .ref qb), (5, .int zx), (6, .int zy), (7, .int (nI j4)), (8, .int (nI i)), (9, .int 6)]) hx hb dL_acts_1230 hl (by decide) rfl (fun ls hl => ?_)
      refine lv_aload_n hx hb dL_acts_1232 rfl (lv_at hl 2 rfl) ?_
      refine cS (W.runV (As := []) (rest := []) ⟨hx, hb, hml, hown, hts⟩ (c_X3_wipes l D cy ad σ) (cwV 0 hts gL_acts_X3_wipes rfl rfl rfl (by decide +kernel) ⟨Nat.le_of_ble_eq_true rfl, Nat.le_of_ble_eq_true rfl⟩) ⟨cw_bl, cw_F hP.left.left hK, cw_at hP.left.left hK⟩ rfl rfl hl.1 rfl (lv_room (Nat.le_of_ble_eq_true rfl)) dL_acts_1233 ⟨by show _ ≤ 60; omega, by show _ ≤ 360; omega⟩) (fun _ _ => ?_)
      refine W.eq (g2 := F0 m 1236 ls [.int (σ 20 7)]) rfl ?_
      refine W.eq (g2 := F0 m 1236 ls [.int (σ 20 7)]) (by rw [show σ 20 7 = σ 20 7 from rfl]) ?_
      refine lv_istore (lv' := [(12, .int (σ 20 7)), (11, .int (-1000003)), (10, .int 0), (0, .ref (ad 0)), (1, .ref (ad2 0)), (2, .ref qa), (3, .ref qm), (4, .ref qb), (5, .int zx), (6, .int zy), (7, .int (nI j4)), (8, .int (nI i)), (9, .int 6)]) hx hb dL_acts_1236 hl (by decide) rfl (fun ls hl => ?_)
      refine lv_aload_n hx hb dL_acts_1238 rfl (lv_at hl 3 rfl) ?_
      refine lv_iload hx hb dL_acts_1239 (lv_at hl 11 rfl) ?_
      refine lv_iload hx hb dL_acts_1241 (lv_at hl 2 rfl) ?_
      obtain ⟨hTo, hTt⟩ := noT_D hD
      refine lMi (fun q ⟨j9, h1, h2⟩ => by rw [h2]; exact hz j9 h1) (vx_runSW (As := [.ref (ad 0), .int (nI i), .int 0]) (rest := []) ⟨hx, hb, hml, hown, hts⟩ (c_L_retire l hst D cy ad hj σ sz (nI i) 0 ((-1000003)) (by rw [(show kRetire σ (nI i) 0 = 3 from kW_3 (d := 0) hi (by omega) (lit_ne (a := 6) (b := 5) x2 (by omega) (by omega) (by decide)))]; exact w123_3 _) σ (if_neg (by rw [(show kRetire σ (nI i) 0 = 3 from kW_3 (d := 0) hi (by omega) (lit_ne (a := 6) (b := 5) x2 (by omega) (by omega) (by decide)))]; decide))) (vx_cwSW 3 hts gL_acts_L_retire rfl rfl rfl (by decide +kernel) ⟨Nat.le_of_ble_eq_true rfl, Nat.le_of_ble_eq_true rfl⟩) ⟨cx_bl, cx_S hP.left.left hK Az_z hxk hS⟩ rfl rfl hl.1 rfl (lv_room (Nat.le_of_ble_eq_true rfl)) dL_acts_1243 ⟨by show _ ≤ 60; omega, by show _ ≤ 360; omega⟩) hS (fun H locs hPW hS hk1 => ?_)
      have hP := setO hne hTo hP hPW hk1
      refine W.eq (g2 := F0 m 1246 ls [.int (-1000003)]) rfl ?_
      refine lv_iload hx hb dL_acts_1246 (lv_at hl 1 rfl) ?_
      refine lv_icmp_ne (tgt := 1313) hx hb dL_acts_1248 (by decide) (fun c_103 => absurd ((by decide : (-1000003 : Int32) = -1000003)) c_103) (fun c_103 => ?_)
      refine lv_aload_n hx hb dL_acts_1251 rfl (lv_at hl 4 rfl) ?_
      refine lv_iload hx hb dL_acts_1252 (lv_at hl 11 rfl) ?_
      refine lv_iload hx hb dL_acts_1254 (lv_at hl 2 rfl) ?_
      refine lMi (fun q ⟨j9, h1, h2⟩ => by rw [h2]; exact hz2 j9 h1) (vx_runSW (As := [.ref (ad2 0), .int (nI i), .int 0]) (rest := []) ⟨hx, hb, hml, hown, hts⟩ (c_L_retire l hst D cy ad2 hj2 σ sz (nI i) 0 ((-1000003)) (by rw [(show kRetire σ (nI i) 0 = 3 from kW_3 (d := 0) hi (by omega) (lit_ne (a := 6) (b := 5) x2 (by omega) (by omega) (by decide)))]; exact w123_3 _) σ (if_neg (by rw [(show kRetire σ (nI i) 0 = 3 from kW_3 (d := 0) hi (by omega) (lit_ne (a := 6) (b := 5) x2 (by omega) (by omega) (by decide)))]; decide))) (vx_cwSW 3 hts gL_acts_L_retire rfl rfl rfl (by decide +kernel) ⟨Nat.le_of_ble_eq_true rfl, Nat.le_of_ble_eq_true rfl⟩) ⟨cx_bl, cx_S hP.left.right hK Az_z hxk hS⟩ rfl rfl hl.1 rfl (lv_room (Nat.le_of_ble_eq_true rfl)) dL_acts_1256 ⟨by show _ ≤ 60; omega, by show _ ≤ 360; omega⟩) hS (fun H locs hPW hS hk1 => ?_)
      have hP := setT hne hTt hP hPW hk1
      refine W.eq (g2 := F0 m 1259 ls [.int (-1000003)]) rfl ?_
      refine lv_iload hx hb dL_acts_1259 (lv_at hl 1 rfl) ?_
      refine lv_icmp_ne (tgt := 1313) hx hb dL_acts_1261 (by decide) (fun c_104 => absurd ((by decide : (-1000003 : Int32) = -1000003)) c_104) (fun c_104 => ?_)
      refine lv_iload hx hb dL_acts_1264 (lv_at hl 1 rfl) ?_
      refine lv_if_lt (tgt := 1309) hx hb dL_acts_1266 (by decide) (fun c_105 => ?_) (fun c_105 => absurd ((by decide : (-1000003 : Int32) < 0)) c_105)
      refine lv_iconst (v := 1) hx hb dL_acts_1309 (by decide) ?_
      refine lv_goto (tgt := 1314) hx hb dL_acts_1310 (by decide) ?_
      refine W.widen (k := 60) (n := 360) (by omega) (by omega) ?_
      have hpo : OKs h (N + 70) fa fm fb σ := hO.le (by omega)
      exact W.zret (v := 1) hx hb hr rfl (fun t ht hW => ⟨⟨_, (), rfl, rfl, ⟨_, _, _, _, by rw [ht]; exact hP, hpo⟩⟩, hS.F ht⟩) hS.2.2 dL_acts_1314
    · have xs : σ 1 i = 7 := x2
      rw [xs] at hl
      have hl : lv_has ls 17 [(0, .ref (ad 0)), (1, .ref (ad2 0)), (2, .ref qa), (3, .ref qm), (4, .ref qb), (5, .int zx), (6, .int zy), (7, .int (nI j4)), (8, .int (nI i)), (9, .int 7)] := hl
      refine lv_istore (lv' := [(10, .int 0), (0, .ref (ad 0)), (1, .ref (ad2 0)), (2, .ref qa), (3, .ref qm), (4, .ref qb), (5, .int zx), (6, .int zy), (7, .int (nI j4)), (8, .int (nI i)), (9, .int 7)]) hx hb dL_acts_1216 hl (by decide) rfl (fun ls hl => ?_)
      refine lv_iload hx hb dL_acts_1218 (lv_at hl 10 rfl) ?_
      refine lv_iconst (v := 5) hx hb dL_acts_1220 (by decide) ?_
      refine lv_icmp_ne (tgt := 1228) hx hb dL_acts_1221 (by decide) (fun c_106 => ?_) (fun c_106 => absurd c_106 ((by decide : ¬ (7 : Int32) = 5)))
      refine lv_ldc (v := (-1000003)) hx hb hown (hts (.constant RL 47 (-1000003)) (by decide +kernel)) dL_acts_1228 ?_
      refine lv_istore (lv' := [(11, .int (-1000003)), (10, .int 0), (0, .ref (ad 0)), (1, .ref (ad2 0)), (2, .ref qa), (3, .ref qm), (4, .ref qb), (5, .int zx), (6, .int zy), (7, .int (nI j4)), (8, .int (nI i)), (9, .int 7)]) hx hb dL_acts_1230 hl (by decide) rfl (fun ls hl => ?_)
      refine lv_aload_n hx hb dL_acts_1232 rfl (lv_at hl 2 rfl) ?_
      refine cS (W.runV (As := []) (rest := []) ⟨hx, hb, hml, hown, hts⟩ (c_X3_wipes l D cy ad σ) (cwV 0 hts gL_acts_X3_wipes rfl rfl rfl (by decide +kernel) ⟨Nat.le_of_ble_eq_true rfl, Nat.le_of_ble_eq_true rfl⟩) ⟨cw_bl, cw_F hP.left.left hK, cw_at hP.left.left hK⟩ rfl rfl hl.1 rfl (lv_room (Nat.le_of_ble_eq_true rfl)) dL_acts_1233 ⟨by show _ ≤ 60; omega, by show _ ≤ 360; omega⟩) (fun _ _ => ?_)
      refine W.eq (g2 := F0 m 1236 ls [.int (σ 20 7)]) rfl ?_
      refine W.eq (g2 := F0 m 1236 ls [.int (σ 20 7)]) (by rw [show σ 20 7 = σ 20 7 from rfl]) ?_
      refine lv_istore (lv' := [(12, .int (σ 20 7)), (11, .int (-1000003)), (10, .int 0), (0, .ref (ad 0)), (1, .ref (ad2 0)), (2, .ref qa), (3, .ref qm), (4, .ref qb), (5, .int zx), (6, .int zy), (7, .int (nI j4)), (8, .int (nI i)), (9, .int 7)]) hx hb dL_acts_1236 hl (by decide) rfl (fun ls hl => ?_)
      refine lv_aload_n hx hb dL_acts_1238 rfl (lv_at hl 3 rfl) ?_
      refine lv_iload hx hb dL_acts_1239 (lv_at hl 11 rfl) ?_
      refine lv_iload hx hb dL_acts_1241 (lv_at hl 2 rfl) ?_
      obtain ⟨hTo, hTt⟩ := noT_D hD
      refine lMi (fun q ⟨j9, h1, h2⟩ => by rw [h2]; exact hz j9 h1) (vx_runSW (As := [.ref (ad 0), .int (nI i), .int 0]) (rest := []) ⟨hx, hb, hml, hown, hts⟩ (c_L_retire l hst D cy ad hj σ sz (nI i) 0 ((-1000003)) (by rw [(show kRetire σ (nI i) 0 = 3 from kW_3 (d := 0) hi (by omega) (lit_ne (a := 7) (b := 5) x2 (by omega) (by omega) (by decide)))]; exact w123_3 _) σ (if_neg (by rw [(show kRetire σ (nI i) 0 = 3 from kW_3 (d := 0) hi (by omega) (lit_ne (a := 7) (b := 5) x2 (by omega) (by omega) (by decide)))]; decide))) (vx_cwSW 3 hts gL_acts_L_retire rfl rfl rfl (by decide +kernel) ⟨Nat.le_of_ble_eq_true rfl, Nat.le_of_ble_eq_true rfl⟩) ⟨cx_bl, cx_S hP.left.left hK Az_z hxk hS⟩ rfl rfl hl.1 rfl (lv_room (Nat.le_of_ble_eq_true rfl)) dL_acts_1243 ⟨by show _ ≤ 60; omega, by show _ ≤ 360; omega⟩) hS (fun H locs hPW hS hk1 => ?_)
      have hP := setO hne hTo hP hPW hk1
      refine W.eq (g2 := F0 m 1246 ls [.int (-1000003)]) rfl ?_
      refine lv_iload hx hb dL_acts_1246 (lv_at hl 1 rfl) ?_
      refine lv_icmp_ne (tgt := 1313) hx hb dL_acts_1248 (by decide) (fun c_107 => absurd ((by decide : (-1000003 : Int32) = -1000003)) c_107) (fun c_107 => ?_)
      refine lv_aload_n hx hb dL_acts_1251 rfl (lv_at hl 4 rfl) ?_
      refine lv_iload hx hb dL_acts_1252 (lv_at hl 11 rfl) ?_
      refine lv_iload hx hb dL_acts_1254 (lv_at hl 2 rfl) ?_
      refine lMi (fun q ⟨j9, h1, h2⟩ => by rw [h2]; exact hz2 j9 h1) (vx_runSW (As := [.ref (ad2 0), .int (nI i), .int 0]) (rest := []) ⟨hx, hb, hml, hown, hts⟩ (c_L_retire l hst D cy ad2 hj2 σ sz (nI i) 0 ((-1000003)) (by rw [(show kRetire σ (nI i) 0 = 3 from kW_3 (d := 0) hi (by omega) (lit_ne (a := 7) (b := 5) x2 (by omega) (by omega) (by decide)))]; exact w123_3 _) σ (if_neg (by rw [(show kRetire σ (nI i) 0 = 3 from kW_3 (d := 0) hi (by omega) (lit_ne (a := 7) (b := 5) x2 (by omega) (by omega) (by decide)))]; decide))) (vx_cwSW 3 hts gL_acts_L_retire rfl rfl rfl (by decide +kernel) ⟨Nat.le_of_ble_eq_true rfl, Nat.le_of_ble_eq_true rfl⟩) ⟨cx_bl, cx_S hP.left.right hK Az_z hxk hS⟩ rfl rfl hl.1 rfl (lv_room (Nat.le_of_ble_eq_true rfl)) dL_acts_1256 ⟨by show _ ≤ 60; omega, by show _ ≤ 360; omega⟩) hS (fun H locs hPW hS hk1 => ?_)
      have hP := setT hne hTt hP hPW hk1
      refine W.eq (g2 := F0 m 1259 ls [.int (-1000003)]) rfl ?_
      refine lv_iload hx hb dL_acts_1259 (lv_at hl 1 rfl) ?_
      refine lv_icmp_ne (tgt := 1313) hx hb dL_acts_1261 (by decide) (fun c_108 => absurd ((by decide : (-1000003 : Int32) = -1000003)) c_108) (fun c_108 => ?_)
      refine lv_iload hx hb dL_acts_1264 (lv_at hl 1 rfl) ?_
      refine lv_if_lt (tgt := 1309) hx hb dL_acts_1266 (by decide) (fun c_109 => ?_) (fun c_109 => absurd ((by decide : (-1000003 : Int32) < 0)) c_109)
      refine lv_iconst (v := 1) hx hb dL_acts_1309 (by decide) ?_
      refine lv_goto (tgt := 1314) hx hb dL_acts_1310 (by decide) ?_
      refine W.widen (k := 60) (n := 360) (by omega) (by omega) ?_
      have hpo : OKs h (N + 70) fa fm fb σ := hO.le (by omega)
      exact W.zret (v := 1) hx hb hr rfl (fun t ht hW => ⟨⟨_, (), rfl, rfl, ⟨_, _, _, _, by rw [ht]; exact hP, hpo⟩⟩, hS.F ht⟩) hS.2.2 dL_acts_1314
