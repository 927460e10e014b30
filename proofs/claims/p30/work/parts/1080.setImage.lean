set_option maxHeartbeats 2000000 in
set_option maxRecDepth 100000 in
theorem ab_setImage {p : Program} {l : Launch} {e : Env} {s : State} {m : MethodId} {args : Array Value} {below : List Frame} {meth : Method} {c : Code} {D : va_G} {cy : Nat → ClassId} {ad ad2 : Nat → Nat} {σ : Mem} {sz qa qm qb : Nat} {fa fm fb : Nat → Int32} {h N i : Nat} {zx zy : Int32} {j4 : Nat} {H : Heap} {locs : List Loc} {cells slots : Nat} {ls : Array Slot} (hst : l.stackTraces = false) (hj : inj31 ad) (hj2 : inj31 ad2) (hne : apart ad ad2) (hz : ∀ i, i < 31 → sz ≤ ad i) (hz2 : ∀ i, i < 31 → sz ≤ ad2 i) (C : ACtx p s m args meth c D cy sz) (hN9 : N + 30000 < 2000000000) (hO : OKs h N fa fm fb σ) (hi : i < 16) (hP : va_P D vwCl (X2 cy ad ad2 σ σ ++ [aW cy qa 64 fa, aW cy qm 48 fm, aW cy qb 6 fb]) H) (hD : va_D (Az sz) (X2 cy ad ad2 σ σ ++ [aW cy qa 64 fa, aW cy qm 48 fm, aW cy qb 6 fb])) (hS : va_S (Az sz) s.heap H locs) (hz9 : sz ≤ s.heap.size) (hc9 : cells ≤ 1) (hs9 : slots ≤ 6) (hl : lv_has ls 17 [(0, .ref (ad 0)), (1, .ref (ad2 0)), (2, .ref qa), (3, .ref qm), (4, .ref qb), (5, .int zx), (6, .int zy), (7, .int (nI j4)), (8, .int (nI i)), (9, .int (σ 1 i))]) : W p l e (headSpec wsL_acts ({ frames := 10, cells := 60, slots := 360, locals := 172 })).room s m args below meth c H locs cells slots (MQ below (QI 1 (fun H => ∃ (σ' : Mem) (fa' fm' fb' : Nat → Int32), va_P D vwCl (X2 cy ad ad2 σ' σ' ++ [aW cy qa 64 fa', aW cy qm 48 fm', aW cy qb 6 fb']) H ∧ OKs h (N + 70) fa' fm' fb' σ') (Az sz)) args s 60 360 (Az sz)) (F0 m 49 ls []) := by
  obtain ⟨hx, hb, hr, hts, hown, hlocks, hml, hK, hxk⟩ := C
  refine W.widen (k := 1) (n := 6) hc9 hs9 ?_
  have hA : ∀ q : Nat, s.heap.size ≤ q → Az sz q := fun q hq => Nat.le_trans hz9 hq
  refine lv_iload hx hb dL_acts_49 (lv_at hl 6 rfl) ?_
  refine lv_bipush (v := 8) hx hb dL_acts_51 (by decide) ?_
  refine cS (W.runS (As := [.int zy, .int 8]) (rest := []) ⟨hx, hb, hml, hown, hts⟩ (c_L_low l zy 8 (by decide) (by decide)) (va_cwS 2 hts gL_acts_L_low rfl rfl rfl (by decide +kernel) ⟨Nat.le_of_ble_eq_true rfl, Nat.le_of_ble_eq_true rfl⟩) ⟨fun a U g mk h => h, fun U _ _ => ⟨rfl, trivial⟩⟩ rfl rfl hl.1 rfl (lv_room (Nat.le_of_ble_eq_true rfl)) dL_acts_53 ⟨by show _ ≤ 60; omega, by show _ ≤ 360; omega⟩) (fun j53 hj53 => ?_)
  refine W.eq (g2 := F0 m 56 ls [.int (nI j53)]) rfl ?_
  refine lv_istore (lv' := [(10, .int (nI j53)), (0, .ref (ad 0)), (1, .ref (ad2 0)), (2, .ref qa), (3, .ref qm), (4, .ref qb), (5, .int zx), (6, .int zy), (7, .int (nI j4)), (8, .int (nI i)), (9, .int (σ 1 i))]) hx hb dL_acts_56 hl (by decide) rfl (fun ls hl => ?_)
  refine lv_iconst (v := 5) hx hb dL_acts_58 (by decide) ?_
  refine nwI hx hb (hts (.arrayClass .int) (by decide +kernel)) hK hP hD hS hA 5 (by decide) (by decide) (by decide) (by show _ ≤ 60; omega) (by show _ ≤ 360; omega) dL_acts_59 (fun qv H hP hD hS => ?_)
  have hP : va_P D vwCl (X2 cy ad ad2 σ σ ++ [aW cy qa 64 fa, aW cy qm 48 fm, aW cy qb 6 fb, aW cy qv 5 (fun _ => 0)]) H := by rw [List.append_assoc] at hP; exact hP
  have hD : va_D (Az sz) (X2 cy ad ad2 σ σ ++ [aW cy qa 64 fa, aW cy qm 48 fm, aW cy qb 6 fb, aW cy qv 5 (fun _ => 0)]) := by rw [List.append_assoc] at hD; exact hD
  refine lv_astore (lv' := [(11, .ref qv), (10, .int (nI j53)), (0, .ref (ad 0)), (1, .ref (ad2 0)), (2, .ref qa), (3, .ref qm), (4, .ref qb), (5, .int zx), (6, .int zy), (7, .int (nI j4)), (8, .int (nI i)), (9, .int (σ 1 i))]) hx hb dL_acts_61 hl (by decide) rfl (fun ls hl => ?_)
  refine lv_aload hx hb dL_acts_63 (lv_at hl 0 rfl) ?_
  refine lv_iconst (v := 0) hx hb dL_acts_65 (by decide) ?_
  refine lv_iload hx hb dL_acts_66 (lv_at hl 8 rfl) ?_
  refine lv_iconst (v := 3) hx hb dL_acts_68 (by decide) ?_
  refine lv_ishr hx hb dL_acts_69 ?_
  refine lv_bipush (v := 10) hx hb dL_acts_70 (by decide) ?_
  refine cS (W.runS (As := [.int (zy >>> (3 &&& 31)), .int 10]) (rest := [.int 0, .ref qv]) ⟨hx, hb, hml, hown, hts⟩ (c_L_low l (zy >>> (3 &&& 31)) 10 (by decide) (by decide)) (va_cwS 2 hts gL_acts_L_low rfl rfl rfl (by decide +kernel) ⟨Nat.le_of_ble_eq_true rfl, Nat.le_of_ble_eq_true rfl⟩) ⟨fun a U g mk h => h, fun U _ _ => ⟨rfl, trivial⟩⟩ rfl rfl hl.1 rfl (lv_room (Nat.le_of_ble_eq_true rfl)) dL_acts_72 ⟨by show _ ≤ 60; omega, by show _ ≤ 360; omega⟩) (fun j72 hj72 => ?_)
  refine W.eq (g2 := F0 m 75 ls [.int (nI j72), .int 0, .ref qv]) rfl ?_
  refine W.eq (g2 := F0 m 75 ls [.int (nI j72), .int (nI 0), .ref qv]) rfl ?_
  refine rs5 (j := 3) hx hb hK hP hD hS rfl (show 0 < 5 by omega) (by decide) dL_acts_75 (fun H locs hP hD hS => ?_)
  have hP : va_P D vwCl (X2 cy ad ad2 σ σ ++ [aW cy qa 64 fa, aW cy qm 48 fm, aW cy qb 6 fb, aW cy qv 5 (upd (fun _ => 0) 0 (nI j72))]) H := hP
  have hD : va_D (Az sz) (X2 cy ad ad2 σ σ ++ [aW cy qa 64 fa, aW cy qm 48 fm, aW cy qb 6 fb, aW cy qv 5 (upd (fun _ => 0) 0 (nI j72))]) := hD
  refine lv_aload hx hb dL_acts_76 (lv_at hl 0 rfl) ?_
  refine lv_iconst (v := 1) hx hb dL_acts_78 (by decide) ?_
  refine lv_iload hx hb dL_acts_79 (lv_at hl 8 rfl) ?_
  refine lv_bipush (v := 7) hx hb dL_acts_81 (by decide) ?_
  refine lv_ishr hx hb dL_acts_83 ?_
  refine lv_bipush (v := 60) hx hb dL_acts_84 (by decide) ?_
  refine cS (W.runS (As := [.int (zy >>> (7 &&& 31)), .int 60]) (rest := [.int 1, .ref qv]) ⟨hx, hb, hml, hown, hts⟩ (c_L_low l (zy >>> (7 &&& 31)) 60 (by decide) (by decide)) (va_cwS 2 hts gL_acts_L_low rfl rfl rfl (by decide +kernel) ⟨Nat.le_of_ble_eq_true rfl, Nat.le_of_ble_eq_true rfl⟩) ⟨fun a U g mk h => h, fun U _ _ => ⟨rfl, trivial⟩⟩ rfl rfl hl.1 rfl (lv_room (Nat.le_of_ble_eq_true rfl)) dL_acts_86 ⟨by show _ ≤ 60; omega, by show _ ≤ 360; omega⟩) (fun j86 hj86 => ?_)
  refine W.eq (g2 := F0 m 89 ls [.int (nI j86), .int 1, .ref qv]) rfl ?_
  refine W.eq (g2 := F0 m 89 ls [.int (nI j86), .int (nI 1), .ref qv]) rfl ?_
  refine rs5 (j := 3) hx hb hK hP hD hS rfl (show 1 < 5 by omega) (by decide) dL_acts_89 (fun H locs hP hD hS => ?_)
  have hP : va_P D vwCl (X2 cy ad ad2 σ σ ++ [aW cy qa 64 fa, aW cy qm 48 fm, aW cy qb 6 fb, aW cy qv 5 (upd (upd (fun _ => 0) 0 (nI j72)) 1 (nI j86))]) H := hP
  have hD : va_D (Az sz) (X2 cy ad ad2 σ σ ++ [aW cy qa 64 fa, aW cy qm 48 fm, aW cy qb 6 fb, aW cy qv 5 (upd (upd (fun _ => 0) 0 (nI j72)) 1 (nI j86))]) := hD
  refine lv_aload hx hb dL_acts_90 (lv_at hl 0 rfl) ?_
  refine lv_iconst (v := 2) hx hb dL_acts_92 (by decide) ?_
  refine lv_bipush (v := 15) hx hb dL_acts_93 (by decide) ?_
  refine lv_iconst (v := 1) hx hb dL_acts_95 (by decide) ?_
  refine lv_iload hx hb dL_acts_96 (lv_at hl 8 rfl) ?_
  refine lv_bipush (v := 13) hx hb dL_acts_98 (by decide) ?_
  refine lv_ishr hx hb dL_acts_100 ?_
  refine lv_bipush (v := 6) hx hb dL_acts_101 (by decide) ?_
  refine cS (W.runS (As := [.int (zy >>> (13 &&& 31)), .int 6]) (rest := [.int 1, .int 15, .int 2, .ref qv]) ⟨hx, hb, hml, hown, hts⟩ (c_L_low l (zy >>> (13 &&& 31)) 6 (by decide) (by decide)) (va_cwS 2 hts gL_acts_L_low rfl rfl rfl (by decide +kernel) ⟨Nat.le_of_ble_eq_true rfl, Nat.le_of_ble_eq_true rfl⟩) ⟨fun a U g mk h => h, fun U _ _ => ⟨rfl, trivial⟩⟩ rfl rfl hl.1 rfl (lv_room (Nat.le_of_ble_eq_true rfl)) dL_acts_103 ⟨by show _ ≤ 60; omega, by show _ ≤ 360; omega⟩) (fun j103 hj103 => ?_)
  refine W.eq (g2 := F0 m 106 ls [.int (nI j103), .int 1, .int 15, .int 2, .ref qv]) rfl ?_
  refine lv_ishl hx hb dL_acts_106 ?_
  refine lv_iconst (v := (-1)) hx hb dL_acts_107 (by decide) ?_
  refine lv_ixor hx hb dL_acts_108 ?_
  refine lv_iand hx hb dL_acts_109 ?_
  obtain ⟨t2, ht2, e2⟩ := an15 hj103
  refine W.eq (congrArg (fun z9 => F0 m 110 ls [.int z9, .int 2, .ref qv]) e2) ?_
  refine W.eq (g2 := F0 m 110 ls [.int (nI t2), .int (nI 2), .ref qv]) rfl ?_
  refine rs5 (j := 3) hx hb hK hP hD hS rfl (show 2 < 5 by omega) (by decide) dL_acts_110 (fun H locs hP hD hS => ?_)
  have hP : va_P D vwCl (X2 cy ad ad2 σ σ ++ [aW cy qa 64 fa, aW cy qm 48 fm, aW cy qb 6 fb, aW cy qv 5 (upd (upd (upd (fun _ => 0) 0 (nI j72)) 1 (nI j86)) 2 (nI t2))]) H := hP
  have hD : va_D (Az sz) (X2 cy ad ad2 σ σ ++ [aW cy qa 64 fa, aW cy qm 48 fm, aW cy qb 6 fb, aW cy qv 5 (upd (upd (upd (fun _ => 0) 0 (nI j72)) 1 (nI j86)) 2 (nI t2))]) := hD
  refine lv_aload hx hb dL_acts_111 (lv_at hl 0 rfl) ?_
  refine lv_iconst (v := 3) hx hb dL_acts_113 (by decide) ?_
  refine lv_iload hx hb dL_acts_114 (lv_at hl 8 rfl) ?_
  refine lv_bipush (v := 16) hx hb dL_acts_116 (by decide) ?_
  refine lv_ishr hx hb dL_acts_118 ?_
  refine lv_iconst (v := 3) hx hb dL_acts_119 (by decide) ?_
  refine cS (W.runS (As := [.int (zy >>> (16 &&& 31)), .int 3]) (rest := [.int 3, .ref qv]) ⟨hx, hb, hml, hown, hts⟩ (c_L_low l (zy >>> (16 &&& 31)) 3 (by decide) (by decide)) (va_cwS 2 hts gL_acts_L_low rfl rfl rfl (by decide +kernel) ⟨Nat.le_of_ble_eq_true rfl, Nat.le_of_ble_eq_true rfl⟩) ⟨fun a U g mk h => h, fun U _ _ => ⟨rfl, trivial⟩⟩ rfl rfl hl.1 rfl (lv_room (Nat.le_of_ble_eq_true rfl)) dL_acts_120 ⟨by show _ ≤ 60; omega, by show _ ≤ 360; omega⟩) (fun j120 hj120 => ?_)
  refine W.eq (g2 := F0 m 123 ls [.int (nI j120), .int 3, .ref qv]) rfl ?_
  refine w_all (fun v9 : Nat => v9 < 4) (fun v9 => F0 m 139 ls [.int (nI v9), .int 3, .ref qv]) (fun v3 hv3 => ?_) (fun J139 => ?_)
  · refine W.eq (g2 := F0 m 139 ls [.int (nI v3), .int (nI 3), .ref qv]) rfl ?_
    refine rs5 (j := 3) hx hb hK hP hD hS rfl (show 3 < 5 by omega) (by decide) dL_acts_139 (fun H locs hP hD hS => ?_)
    have hP : va_P D vwCl (X2 cy ad ad2 σ σ ++ [aW cy qa 64 fa, aW cy qm 48 fm, aW cy qb 6 fb, aW cy qv 5 (upd (upd (upd (upd (fun _ => 0) 0 (nI j72)) 1 (nI j86)) 2 (nI t2)) 3 (nI v3))]) H := hP
    have hD : va_D (Az sz) (X2 cy ad ad2 σ σ ++ [aW cy qa 64 fa, aW cy qm 48 fm, aW cy qb 6 fb, aW cy qv 5 (upd (upd (upd (upd (fun _ => 0) 0 (nI j72)) 1 (nI j86)) 2 (nI t2)) 3 (nI v3))]) := hD
    refine lv_aload hx hb dL_acts_140 (lv_at hl 0 rfl) ?_
    refine lv_iconst (v := 4) hx hb dL_acts_142 (by decide) ?_
    refine lv_iload hx hb dL_acts_143 (lv_at hl 8 rfl) ?_
    refine lv_bipush (v := 20) hx hb dL_acts_145 (by decide) ?_
    refine lv_ishr hx hb dL_acts_147 ?_
    refine lv_iconst (v := 3) hx hb dL_acts_148 (by decide) ?_
    refine cS (W.runS (As := [.int (zy >>> (20 &&& 31)), .int 3]) (rest := [.int 4, .ref qv]) ⟨hx, hb, hml, hown, hts⟩ (c_L_low l (zy >>> (20 &&& 31)) 3 (by decide) (by decide)) (va_cwS 2 hts gL_acts_L_low rfl rfl rfl (by decide +kernel) ⟨Nat.le_of_ble_eq_true rfl, Nat.le_of_ble_eq_true rfl⟩) ⟨fun a U g mk h => h, fun U _ _ => ⟨rfl, trivial⟩⟩ rfl rfl hl.1 rfl (lv_room (Nat.le_of_ble_eq_true rfl)) dL_acts_149 ⟨by show _ ≤ 60; omega, by show _ ≤ 360; omega⟩) (fun j149 hj149 => ?_)
    refine W.eq (g2 := F0 m 152 ls [.int (nI j149), .int 4, .ref qv]) rfl ?_
    refine w_all (fun v9 : Nat => v9 < 16) (fun v9 => F0 m 170 ls [.int (nI v9), .int 4, .ref qv]) (fun v4 hv4 => ?_) (fun J170 => ?_)
    · refine W.eq (g2 := F0 m 170 ls [.int (nI v4), .int (nI 4), .ref qv]) rfl ?_
      refine rs5 (j := 3) hx hb hK hP hD hS rfl (show 4 < 5 by omega) (by decide) dL_acts_170 (fun H locs hP hD hS => ?_)
      have hP : va_P D vwCl (X2 cy ad ad2 σ σ ++ [aW cy qa 64 fa, aW cy qm 48 fm, aW cy qb 6 fb, aW cy qv 5 (upd (upd (upd (upd (upd (fun _ => 0) 0 (nI j72)) 1 (nI j86)) 2 (nI t2)) 3 (nI v3)) 4 (nI v4))]) H := hP
      have hD : va_D (Az sz) (X2 cy ad ad2 σ σ ++ [aW cy qa 64 fa, aW cy qm 48 fm, aW cy qb 6 fb, aW cy qv 5 (upd (upd (upd (upd (upd (fun _ => 0) 0 (nI j72)) 1 (nI j86)) 2 (nI t2)) 3 (nI v3)) 4 (nI v4))]) := hD
      refine lv_aload_n hx hb dL_acts_171 rfl (lv_at hl 5 rfl) ?_
      refine lv_bipush (v := 6) hx hb dL_acts_172 (by decide) ?_
      refine lv_iload hx hb dL_acts_174 (lv_at hl 1 rfl) ?_
      refine lv_imul hx hb dL_acts_176 ?_
      refine W.eq (congrArg (fun z9 => F0 m 177 ls [.int z9, .ref qm]) (pk_mul 6 j53)) ?_
      refine lv_iconst (v := 5) hx hb dL_acts_177 (by decide) ?_
      refine lv_iadd hx hb dL_acts_178 ?_
      refine W.eq (congrArg (fun z9 => F0 m 179 ls [.int z9, .ref qm]) (nI_add (6 * j53) 5)) ?_
      refine lv_aload_n hx hb dL_acts_179 rfl (lv_at hl 5 rfl) ?_
      refine lv_bipush (v := 6) hx hb dL_acts_180 (by decide) ?_
      refine lv_iload hx hb dL_acts_182 (lv_at hl 1 rfl) ?_
      refine lv_imul hx hb dL_acts_184 ?_
      refine W.eq (congrArg (fun z9 => F0 m 185 ls [.int z9, .ref qm, .int (nI (6 * j53 + 5)), .ref qm]) (pk_mul 6 j53)) ?_
      refine raW (x := fm (6 * j53)) hx hb hK (hP.right.one (k := 1) rfl) (show 6 * j53 < 48 by omega) (by decide) rfl dL_acts_185 ?_
      refine w_have (g2 := F0 m 202 ls [.int (if fm (6 * j53) < 0 then 2 else fm (6 * j53 + 5)), .int (nI (6 * j53 + 5)), .ref qm]) ?_ (fun J202 => ?_)
      · refine rs5 (j := 1) hx hb hK hP hD hS rfl (show 6 * j53 + 5 < 48 by omega) (by decide) dL_acts_202 (fun H locs hP hD hS => ?_)
        have hP : va_P D vwCl (X2 cy ad ad2 σ σ ++ [aW cy qa 64 fa, aW cy qm 48 (upd fm (6 * j53 + 5) (if fm (6 * j53) < 0 then 2 else fm (6 * j53 + 5))), aW cy qb 6 fb, aW cy qv 5 (upd (upd (upd (upd (upd (fun _ => 0) 0 (nI j72)) 1 (nI j86)) 2 (nI t2)) 3 (nI v3)) 4 (nI v4))]) H := hP
        have hD : va_D (Az sz) (X2 cy ad ad2 σ σ ++ [aW cy qa 64 fa, aW cy qm 48 (upd fm (6 * j53 + 5) (if fm (6 * j53) < 0 then 2 else fm (6 * j53 + 5))), aW cy qb 6 fb, aW cy qv 5 (upd (upd (upd (upd (upd (fun _ => 0) 0 (nI j72)) 1 (nI j86)) 2 (nI t2)) 3 (nI v3)) 4 (nI v4))]) := hD
        refine lv_iconst (v := 0) hx hb dL_acts_203 (by decide) ?_
        refine lv_istore (lv' := [(12, .int 0), (11, .ref qv), (10, .int (nI j53)), (0, .ref (ad 0)), (1, .ref (ad2 0)), (2, .ref qa), (3, .ref qm), (4, .ref qb), (5, .int zx), (6, .int zy), (7, .int (nI j4)), (8, .int (nI i)), (9, .int (σ 1 i))]) hx hb dL_acts_204 hl (by decide) rfl (fun ls hl => ?_)
        refine lv_iload hx hb dL_acts_206 (lv_at hl 0 rfl) ?_
        refine lv_iconst (v := 5) hx hb dL_acts_208 (by decide) ?_
        refine lv_icmp_ge (tgt := 233) hx hb dL_acts_209 (by decide) (fun c_1 => absurd c_1 ((by decide : ¬ (5 : Int32) ≤ 0))) (fun c_1 => ?_)
        refine lv_aload_n hx hb dL_acts_212 rfl (lv_at hl 6 rfl) ?_
        refine lv_bipush (v := 6) hx hb dL_acts_213 (by decide) ?_
        refine lv_iload hx hb dL_acts_215 (lv_at hl 2 rfl) ?_
        refine lv_imul hx hb dL_acts_217 ?_
        refine W.eq (congrArg (fun z9 => F0 m 218 ls [.int z9, .ref qm]) (pk_mul 6 j53)) ?_
        refine lv_iload hx hb dL_acts_218 (lv_at hl 0 rfl) ?_
        refine lv_iadd hx hb dL_acts_220 ?_
        refine W.eq (congrArg (fun z9 => F0 m 221 ls [.int z9, .ref qm]) (nI_add (6 * j53) 0)) ?_
        refine lv_aload hx hb dL_acts_221 (lv_at hl 1 rfl) ?_
        refine lv_iload hx hb dL_acts_223 (lv_at hl 0 rfl) ?_
        refine W.eq (g2 := F0 m 225 ls [.int (nI 0), .ref qv, .int (nI (6 * j53)), .ref qm]) rfl ?_
        refine raW (x := nI j72) hx hb hK (hP.right.one (k := 3) rfl) (show 0 < 5 by omega) (by decide) (by rw [upd_o (by omega), upd_o (by omega), upd_o (by omega), upd_o (by omega), upd_s]) dL_acts_225 ?_
        refine rs5 (j := 1) hx hb hK hP hD hS rfl (show 6 * j53 < 48 by omega) (by decide) dL_acts_226 (fun H locs hP hD hS => ?_)
        have hP : va_P D vwCl (X2 cy ad ad2 σ σ ++ [aW cy qa 64 fa, aW cy qm 48 (upd (upd fm (6 * j53 + 5) (if fm (6 * j53) < 0 then 2 else fm (6 * j53 + 5))) (6 * j53) (nI j72)), aW cy qb 6 fb, aW cy qv 5 (upd (upd (upd (upd (upd (fun _ => 0) 0 (nI j72)) 1 (nI j86)) 2 (nI t2)) 3 (nI v3)) 4 (nI v4))]) H := hP
        have hD : va_D (Az sz) (X2 cy ad ad2 σ σ ++ [aW cy qa 64 fa, aW cy qm 48 (upd (upd fm (6 * j53 + 5) (if fm (6 * j53) < 0 then 2 else fm (6 * j53 + 5))) (6 * j53) (nI j72)), aW cy qb 6 fb, aW cy qv 5 (upd (upd (upd (upd (upd (fun _ => 0) 0 (nI j72)) 1 (nI j86)) 2 (nI t2)) 3 (nI v3)) 4 (nI v4))]) := hD
        refine lv_iinc (v := nI 1) (lv' := [(12, .int (nI 1)), (11, .ref qv), (10, .int (nI j53)), (0, .ref (ad 0)), (1, .ref (ad2 0)), (2, .ref qa), (3, .ref qm), (4, .ref qb), (5, .int zx), (6, .int zy), (7, .int (nI j4)), (8, .int (nI i)), (9, .int (σ 1 i))]) hx hb dL_acts_227 hl (k := 0) rfl (nI_1 0) (by decide) rfl (fun ls hl => ?_)
        refine lv_goto (tgt := 206) hx hb dL_acts_230 (by decide) ?_
        refine lv_iload hx hb dL_acts_206 (lv_at hl 0 rfl) ?_
        refine lv_iconst (v := 5) hx hb dL_acts_208 (by decide) ?_
        refine lv_icmp_ge (tgt := 233) hx hb dL_acts_209 (by decide) (fun c_2 => absurd c_2 ((fun z9 => absurd ((nI_leI (a := 5) (b := 1) (by omega) (by omega)).mp z9) (by omega)))) (fun c_2 => ?_)
        refine lv_aload_n hx hb dL_acts_212 rfl (lv_at hl 6 rfl) ?_
        refine lv_bipush (v := 6) hx hb dL_acts_213 (by decide) ?_
        refine lv_iload hx hb dL_acts_215 (lv_at hl 2 rfl) ?_
        refine lv_imul hx hb dL_acts_217 ?_
        refine W.eq (congrArg (fun z9 => F0 m 218 ls [.int z9, .ref qm]) (pk_mul 6 j53)) ?_
        refine lv_iload hx hb dL_acts_218 (lv_at hl 0 rfl) ?_
        refine lv_iadd hx hb dL_acts_220 ?_
        refine W.eq (congrArg (fun z9 => F0 m 221 ls [.int z9, .ref qm]) (nI_add (6 * j53) 1)) ?_
        refine lv_aload hx hb dL_acts_221 (lv_at hl 1 rfl) ?_
        refine lv_iload hx hb dL_acts_223 (lv_at hl 0 rfl) ?_
        refine raW (x := nI j86) hx hb hK (hP.right.one (k := 3) rfl) (show 1 < 5 by omega) (by decide) (by rw [upd_o (by omega), upd_o (by omega), upd_o (by omega), upd_s]) dL_acts_225 ?_
        refine rs5 (j := 1) hx hb hK hP hD hS rfl (show 6 * j53 + 1 < 48 by omega) (by decide) dL_acts_226 (fun H locs hP hD hS => ?_)
        have hP : va_P D vwCl (X2 cy ad ad2 σ σ ++ [aW cy qa 64 fa, aW cy qm 48 (upd (upd (upd fm (6 * j53 + 5) (if fm (6 * j53) < 0 then 2 else fm (6 * j53 + 5))) (6 * j53) (nI j72)) (6 * j53 + 1) (nI j86)), aW cy qb 6 fb, aW cy qv 5 (upd (upd (upd (upd (upd (fun _ => 0) 0 (nI j72)) 1 (nI j86)) 2 (nI t2)) 3 (nI v3)) 4 (nI v4))]) H := hP
        have hD : va_D (Az sz) (X2 cy ad ad2 σ σ ++ [aW cy qa 64 fa, aW cy qm 48 (upd (upd (upd fm (6 * j53 + 5) (if fm (6 * j53) < 0 then 2 else fm (6 * j53 + 5))) (6 * j53) (nI j72)) (6 * j53 + 1) (nI j86)), aW cy qb 6 fb, aW cy qv 5 (upd (upd (upd (upd (upd (fun _ => 0) 0 (nI j72)) 1 (nI j86)) 2 (nI t2)) 3 (nI v3)) 4 (nI v4))]) := hD
        refine lv_iinc (v := nI 2) (lv' := [(12, .int (nI 2)), (11, .ref qv), (10, .int (nI j53)), (0, .ref (ad 0)), (1, .ref (ad2 0)), (2, .ref qa), (3, .ref qm), (4, .ref qb), (5, .int zx), (6, .int zy), (7, .int (nI j4)), (8, .int (nI i)), (9, .int (σ 1 i))]) hx hb dL_acts_227 hl (k := 0) rfl (nI_1 1) (by decide) rfl (fun ls hl => ?_)
        refine lv_goto (tgt := 206) hx hb dL_acts_230 (by decide) ?_
        refine lv_iload hx hb dL_acts_206 (lv_at hl 0 rfl) ?_
        refine lv_iconst (v := 5) hx hb dL_acts_208 (by decide) ?_
        refine lv_icmp_ge (tgt := 233) hx hb dL_acts_209 (by decide) (fun c_3 => absurd c_3 ((fun z9 => absurd ((nI_leI (a := 5) (b := 2) (by omega) (by omega)).mp z9) (by omega)))) (fun c_3 => ?_)
        refine lv_aload_n hx hb dL_acts_212 rfl (lv_at hl 6 rfl) ?_
        refine lv_bipush (v := 6) hx hb dL_acts_213 (by decide) ?_
        refine lv_iload hx hb dL_acts_215 (lv_at hl 2 rfl) ?_
        refine lv_imul hx hb dL_acts_217 ?_
        refine W.eq (congrArg (fun z9 => F0 m 218 ls [.int z9, .ref qm]) (pk_mul 6 j53)) ?_
        refine lv_iload hx hb dL_acts_218 (lv_at hl 0 rfl) ?_
        refine lv_iadd hx hb dL_acts_220 ?_
        refine W.eq (congrArg (fun z9 => F0 m 221 ls [.int z9, .ref qm]) (nI_add (6 * j53) 2)) ?_
        refine lv_aload hx hb dL_acts_221 (lv_at hl 1 rfl) ?_
        refine lv_iload hx hb dL_acts_223 (lv_at hl 0 rfl) ?_
        refine raW (x := nI t2) hx hb hK (hP.right.one (k := 3) rfl) (show 2 < 5 by omega) (by decide) (by rw [upd_o (by omega), upd_o (by omega), upd_s]) dL_acts_225 ?_
        refine rs5 (j := 1) hx hb hK hP hD hS rfl (show 6 * j53 + 2 < 48 by omega) (by decide) dL_acts_226 (fun H locs hP hD hS => ?_)
        have hP : va_P D vwCl (X2 cy ad ad2 σ σ ++ [aW cy qa 64 fa, aW cy qm 48 (upd (upd (upd (upd fm (6 * j53 + 5) (if fm (6 * j53) < 0 then 2 else fm (6 * j53 + 5))) (6 * j53) (nI j72)) (6 * j53 + 1) (nI j86)) (6 * j53 + 2) (nI t2)), aW cy qb 6 fb, aW cy qv 5 (upd (upd (upd (upd (upd (fun _ => 0) 0 (nI j72)) 1 (nI j86)) 2 (nI t2)) 3 (nI v3)) 4 (nI v4))]) H := hP
        have hD : va_D (Az sz) (X2 cy ad ad2 σ σ ++ [aW cy qa 64 fa, aW cy qm 48 (upd (upd (upd (upd fm (6 * j53 + 5) (if fm (6 * j53) < 0 then 2 else fm (6 * j53 + 5))) (6 * j53) (nI j72)) (6 * j53 + 1) (nI j86)) (6 * j53 + 2) (nI t2)), aW cy qb 6 fb, aW cy qv 5 (upd (upd (upd (upd (upd (fun _ => 0) 0 (nI j72)) 1 (nI j86)) 2 (nI t2)) 3 (nI v3)) 4 (nI v4))]) := hD
        refine lv_iinc (v := nI 3) (lv' := [(12, .int (nI 3)), (11, .ref qv), (10, .int (nI j53)), (0, .ref (ad 0)), (1, .ref (ad2 0)), (2, .ref qa), (3, .ref qm), (4, .ref qb), (5, .int zx), (6, .int zy), (7, .int (nI j4)), (8, .int (nI i)), (9, .int (σ 1 i))]) hx hb dL_acts_227 hl (k := 0) rfl (nI_1 2) (by decide) rfl (fun ls hl => ?_)
        refine lv_goto (tgt := 206) hx hb dL_acts_230 (by decide) ?_
        refine lv_iload hx hb dL_acts_206 (lv_at hl 0 rfl) ?_
        refine lv_iconst (v := 5) hx hb dL_acts_208 (by decide) ?_
        refine lv_icmp_ge (tgt := 233) hx hb dL_acts_209 (by decide) (fun c_4 => absurd c_4 ((fun z9 => absurd ((nI_leI (a := 5) (b := 3) (by omega) (by omega)).mp z9) (by omega)))) (fun c_4 => ?_)
        refine lv_aload_n hx hb dL_acts_212 rfl (lv_at hl 6 rfl) ?_
        refine lv_bipush (v := 6) hx hb dL_acts_213 (by decide) ?_
        refine lv_iload hx hb dL_acts_215 (lv_at hl 2 rfl) ?_
        refine lv_imul hx hb dL_acts_217 ?_
        refine W.eq (congrArg (fun z9 => F0 m 218 ls [.int z9, .ref qm]) (pk_mul 6 j53)) ?_
        refine lv_iload hx hb dL_acts_218 (lv_at hl 0 rfl) ?_
        refine lv_iadd hx hb dL_acts_220 ?_
        refine W.eq (congrArg (fun z9 => F0 m 221 ls [.int z9, .ref qm]) (nI_add (6 * j53) 3)) ?_
        refine lv_aload hx hb dL_acts_221 (lv_at hl 1 rfl) ?_
        refine lv_iload hx hb dL_acts_223 (lv_at hl 0 rfl) ?_
        refine raW (x := nI v3) hx hb hK (hP.right.one (k := 3) rfl) (show 3 < 5 by omega) (by decide) (by rw [upd_o (by omega), upd_s]) dL_acts_225 ?_
        refine rs5 (j := 1) hx hb hK hP hD hS rfl (show 6 * j53 + 3 < 48 by omega) (by decide) dL_acts_226 (fun H locs hP hD hS => ?_)
        have hP : va_P D vwCl (X2 cy ad ad2 σ σ ++ [aW cy qa 64 fa, aW cy qm 48 (upd (upd (upd (upd (upd fm (6 * j53 + 5) (if fm (6 * j53) < 0 then 2 else fm (6 * j53 + 5))) (6 * j53) (nI j72)) (6 * j53 + 1) (nI j86)) (6 * j53 + 2) (nI t2)) (6 * j53 + 3) (nI v3)), aW cy qb 6 fb, aW cy qv 5 (upd (upd (upd (upd (upd (fun _ => 0) 0 (nI j72)) 1 (nI j86)) 2 (nI t2)) 3 (nI v3)) 4 (nI v4))]) H := hP
        have hD : va_D (Az sz) (X2 cy ad ad2 σ σ ++ [aW cy qa 64 fa, aW cy qm 48 (upd (upd (upd (upd (upd fm (6 * j53 + 5) (if fm (6 * j53) < 0 then 2 else fm (6 * j53 + 5))) (6 * j53) (nI j72)) (6 * j53 + 1) (nI j86)) (6 * j53 + 2) (nI t2)) (6 * j53 + 3) (nI v3)), aW cy qb 6 fb, aW cy qv 5 (upd (upd (upd (upd (upd (fun _ => 0) 0 (nI j72)) 1 (nI j86)) 2 (nI t2)) 3 (nI v3)) 4 (nI v4))]) := hD
        refine lv_iinc (v := nI 4) (lv' := [(12, .int (nI 4)), (11, .ref qv), (10, .int (nI j53)), (0, .ref (ad 0)), (1, .ref (ad2 0)), (2, .ref qa), (3, .ref qm), (4, .ref qb), (5, .int zx), (6, .int zy), (7, .int (nI j4)), (8, .int (nI i)), (9, .int (σ 1 i))]) hx hb dL_acts_227 hl (k := 0) rfl (nI_1 3) (by decide) rfl (fun ls hl => ?_)
        refine lv_goto (tgt := 206) hx hb dL_acts_230 (by decide) ?_
        refine lv_iload hx hb dL_acts_206 (lv_at hl 0 rfl) ?_
        refine lv_iconst (v := 5) hx hb dL_acts_208 (by decide) ?_
        refine lv_icmp_ge (tgt := 233) hx hb dL_acts_209 (by decide) (fun c_5 => absurd c_5 ((fun z9 => absurd ((nI_leI (a := 5) (b := 4) (by omega) (by omega)).mp z9) (by omega)))) (fun c_5 => ?_)
        refine lv_aload_n hx hb dL_acts_212 rfl (lv_at hl 6 rfl) ?_
        refine lv_bipush (v := 6) hx hb dL_acts_213 (by decide) ?_
        refine lv_iload hx hb dL_acts_215 (lv_at hl 2 rfl) ?_
        refine lv_imul hx hb dL_acts_217 ?_
        refine W.eq (congrArg (fun z9 => F0 m 218 ls [.int z9, .ref qm]) (pk_mul 6 j53)) ?_
        refine lv_iload hx hb dL_acts_218 (lv_at hl 0 rfl) ?_
        refine lv_iadd hx hb dL_acts_220 ?_
        refine W.eq (congrArg (fun z9 => F0 m 221 ls [.int z9, .ref qm]) (nI_add (6 * j53) 4)) ?_
        refine lv_aload hx hb dL_acts_221 (lv_at hl 1 rfl) ?_
        refine lv_iload hx hb dL_acts_223 (lv_at hl 0 rfl) ?_
        refine raW (x := nI v4) hx hb hK (hP.right.one (k := 3) rfl) (show 4 < 5 by omega) (by decide) (by rw [upd_s]) dL_acts_225 ?_
        refine rs5 (j := 1) hx hb hK hP hD hS rfl (show 6 * j53 + 4 < 48 by omega) (by decide) dL_acts_226 (fun H locs hP hD hS => ?_)
        have hP : va_P D vwCl (X2 cy ad ad2 σ σ ++ [aW cy qa 64 fa, aW cy qm 48 (upd (upd (upd (upd (upd (upd fm (6 * j53 + 5) (if fm (6 * j53) < 0 then 2 else fm (6 * j53 + 5))) (6 * j53) (nI j72)) (6 * j53 + 1) (nI j86)) (6 * j53 + 2) (nI t2)) (6 * j53 + 3) (nI v3)) (6 * j53 + 4) (nI v4)), aW cy qb 6 fb, aW cy qv 5 (upd (upd (upd (upd (upd (fun _ => 0) 0 (nI j72)) 1 (nI j86)) 2 (nI t2)) 3 (nI v3)) 4 (nI v4))]) H := hP
        have hD : va_D (Az sz) (X2 cy ad ad2 σ σ ++ [aW cy qa 64 fa, aW cy qm 48 (upd (upd (upd (upd (upd (upd fm (6 * j53 + 5) (if fm (6 * j53) < 0 then 2 else fm (6 * j53 + 5))) (6 * j53) (nI j72)) (6 * j53 + 1) (nI j86)) (6 * j53 + 2) (nI t2)) (6 * j53 + 3) (nI v3)) (6 * j53 + 4) (nI v4)), aW cy qb 6 fb, aW cy qv 5 (upd (upd (upd (upd (upd (fun _ => 0) 0 (nI j72)) 1 (nI j86)) 2 (nI t2)) 3 (nI v3)) 4 (nI v4))]) := hD
        refine lv_iinc (v := nI 5) (lv' := [(12, .int (nI 5)), (11, .ref qv), (10, .int (nI j53)), (0, .ref (ad 0)), (1, .ref (ad2 0)), (2, .ref qa), (3, .ref qm), (4, .ref qb), (5, .int zx), (6, .int zy), (7, .int (nI j4)), (8, .int (nI i)), (9, .int (σ 1 i))]) hx hb dL_acts_227 hl (k := 0) rfl (nI_1 4) (by decide) rfl (fun ls hl => ?_)
        refine lv_goto (tgt := 206) hx hb dL_acts_230 (by decide) ?_
        refine lv_iload hx hb dL_acts_206 (lv_at hl 0 rfl) ?_
        refine lv_iconst (v := 5) hx hb dL_acts_208 (by decide) ?_
        refine lv_icmp_ge (tgt := 233) hx hb dL_acts_209 (by decide) (fun c_6 => ?_) (fun c_6 => absurd (((nI_leI (a := 5) (b := 5) (by omega) (by omega)).mpr (by omega))) c_6)
        have hP : va_P D vwCl (X2 cy ad ad2 σ σ ++ [aW cy qa 64 fa, aW cy qm 48 (up6 fm j53 (if fm (6 * j53) < 0 then 2 else fm (6 * j53 + 5)) (nI j72) (nI j86) (nI t2) (nI v3) (nI v4)), aW cy qb 6 fb, aW cy qv 5 (upd (upd (upd (upd (upd (fun _ => 0) 0 (nI j72)) 1 (nI j86)) 2 (nI t2)) 3 (nI v3)) 4 (nI v4))]) H := hP
        have hD : va_D (Az sz) (X2 cy ad ad2 σ σ ++ [aW cy qa 64 fa, aW cy qm 48 (up6 fm j53 (if fm (6 * j53) < 0 then 2 else fm (6 * j53 + 5)) (nI j72) (nI j86) (nI t2) (nI v3) (nI v4)), aW cy qb 6 fb, aW cy qv 5 (upd (upd (upd (upd (upd (fun _ => 0) 0 (nI j72)) 1 (nI j86)) 2 (nI t2)) 3 (nI v3)) 4 (nI v4))]) := hD
        obtain ⟨g0, g1, g2, g3, g4, g5⟩ := up6_at fm j53 (if fm (6 * j53) < 0 then 2 else fm (6 * j53 + 5)) (nI j72) (nI j86) (nI t2) (nI v3) (nI v4)
        refine lv_aload_n hx hb dL_acts_233 rfl (lv_at hl 3 rfl) ?_
        refine lv_iload hx hb dL_acts_234 (lv_at hl 2 rfl) ?_
        refine lv_aload hx hb dL_acts_236 (lv_at hl 1 rfl) ?_
        refine lv_iconst (v := 0) hx hb dL_acts_238 (by decide) ?_
        refine W.eq (g2 := F0 m 239 ls [.int (nI 0), .ref qv, .int (nI j53), .ref (ad 0)]) rfl ?_
        refine raW (x := nI j72) hx hb hK (hP.right.one (k := 3) rfl) (show 0 < 5 by omega) (by decide) (by rw [upd_o (by omega), upd_o (by omega), upd_o (by omega), upd_o (by omega), upd_s]) dL_acts_239 ?_
        refine lv_aload hx hb dL_acts_240 (lv_at hl 1 rfl) ?_
        refine lv_iconst (v := 1) hx hb dL_acts_242 (by decide) ?_
        refine W.eq (g2 := F0 m 243 ls [.int (nI 1), .ref qv, .int (nI j72), .int (nI j53), .ref (ad 0)]) rfl ?_
        refine raW (x := nI j86) hx hb hK (hP.right.one (k := 3) rfl) (show 1 < 5 by omega) (by decide) (by rw [upd_o (by omega), upd_o (by omega), upd_o (by omega), upd_s]) dL_acts_243 ?_
        refine lv_aload hx hb dL_acts_244 (lv_at hl 1 rfl) ?_
        refine lv_iconst (v := 2) hx hb dL_acts_246 (by decide) ?_
        refine W.eq (g2 := F0 m 247 ls [.int (nI 2), .ref qv, .int (nI j86), .int (nI j72), .int (nI j53), .ref (ad 0)]) rfl ?_
        refine raW (x := nI t2) hx hb hK (hP.right.one (k := 3) rfl) (show 2 < 5 by omega) (by decide) (by rw [upd_o (by omega), upd_o (by omega), upd_s]) dL_acts_247 ?_
        refine lv_aload hx hb dL_acts_248 (lv_at hl 1 rfl) ?_
        refine lv_iconst (v := 3) hx hb dL_acts_250 (by decide) ?_
        refine W.eq (g2 := F0 m 251 ls [.int (nI 3), .ref qv, .int (nI t2), .int (nI j86), .int (nI j72), .int (nI j53), .ref (ad 0)]) rfl ?_
        refine raW (x := nI v3) hx hb hK (hP.right.one (k := 3) rfl) (show 3 < 5 by omega) (by decide) (by rw [upd_o (by omega), upd_s]) dL_acts_251 ?_
        refine lv_aload hx hb dL_acts_252 (lv_at hl 1 rfl) ?_
        refine lv_iconst (v := 4) hx hb dL_acts_254 (by decide) ?_
        refine W.eq (g2 := F0 m 255 ls [.int (nI 4), .ref qv, .int (nI v3), .int (nI t2), .int (nI j86), .int (nI j72), .int (nI j53), .ref (ad 0)]) rfl ?_
        refine raW (x := nI v4) hx hb hK (hP.right.one (k := 3) rfl) (show 4 < 5 by omega) (by decide) (by rw [upd_s]) dL_acts_255 ?_
        obtain ⟨hTo, hTt⟩ := noT_D hD
        refine lMi (fun q ⟨j9, h1, h2⟩ => by rw [h2]; exact hz j9 h1) (vx_runSW (As := [.ref (ad 0), .int (nI j53), .int (nI j72), .int (nI j86), .int (nI t2), .int (nI v3), .int (nI v4)]) (rest := []) ⟨hx, hb, hml, hown, hts⟩ (c_L_setImage l hst D cy ad hj σ sz (nI j53) (nI j72) (nI j86) (nI t2) (nI v3) (nI v4) (0) (w12_0 (kI_0 hj53 (by omega) (by omega) (by omega) (by omega) (by omega))) (gSetImage σ (nI j53) (nI j72) (nI j86) (nI t2) (nI v3) (nI v4)) (if_pos (kI_0 hj53 (by omega) (by omega) (by omega) (by omega) (by omega)))) (vx_cwSW 7 hts gL_acts_L_setImage rfl rfl rfl (by decide +kernel) ⟨Nat.le_of_ble_eq_true rfl, Nat.le_of_ble_eq_true rfl⟩) ⟨cx_bl, cx_S hP.left.left hK Az_z hxk hS⟩ rfl rfl hl.1 rfl (lv_room (Nat.le_of_ble_eq_true rfl)) dL_acts_256 ⟨by show _ ≤ 60; omega, by show _ ≤ 360; omega⟩) hS (fun H locs hPW hS hk1 => ?_)
        have hP := setO hne hTo hP hPW hk1
        refine W.eq (g2 := F0 m 259 ls [.int 0]) rfl ?_
        refine lv_if_ne (tgt := 295) hx hb dL_acts_259 (by decide) (fun c_7 => absurd ((by decide : (0 : Int32) = 0)) c_7) (fun c_7 => ?_)
        refine lv_aload_n hx hb dL_acts_262 rfl (lv_at hl 4 rfl) ?_
        refine lv_iload hx hb dL_acts_263 (lv_at hl 2 rfl) ?_
        refine lv_aload hx hb dL_acts_265 (lv_at hl 1 rfl) ?_
        refine lv_iconst (v := 0) hx hb dL_acts_267 (by decide) ?_
        refine W.eq (g2 := F0 m 268 ls [.int (nI 0), .ref qv, .int (nI j53), .ref (ad2 0)]) rfl ?_
        refine raW (x := nI j72) hx hb hK (hP.right.one (k := 3) rfl) (show 0 < 5 by omega) (by decide) (by rw [upd_o (by omega), upd_o (by omega), upd_o (by omega), upd_o (by omega), upd_s]) dL_acts_268 ?_
        refine lv_aload hx hb dL_acts_269 (lv_at hl 1 rfl) ?_
        refine lv_iconst (v := 1) hx hb dL_acts_271 (by decide) ?_
        refine W.eq (g2 := F0 m 272 ls [.int (nI 1), .ref qv, .int (nI j72), .int (nI j53), .ref (ad2 0)]) rfl ?_
        refine raW (x := nI j86) hx hb hK (hP.right.one (k := 3) rfl) (show 1 < 5 by omega) (by decide) (by rw [upd_o (by omega), upd_o (by omega), upd_o (by omega), upd_s]) dL_acts_272 ?_
        refine lv_aload hx hb dL_acts_273 (lv_at hl 1 rfl) ?_
        refine lv_iconst (v := 2) hx hb dL_acts_275 (by decide) ?_
        refine W.eq (g2 := F0 m 276 ls [.int (nI 2), .ref qv, .int (nI j86), .int (nI j72), .int (nI j53), .ref (ad2 0)]) rfl ?_
        refine raW (x := nI t2) hx hb hK (hP.right.one (k := 3) rfl) (show 2 < 5 by omega) (by decide) (by rw [upd_o (by omega), upd_o (by omega), upd_s]) dL_acts_276 ?_
        refine lv_aload hx hb dL_acts_277 (lv_at hl 1 rfl) ?_
        refine lv_iconst (v := 3) hx hb dL_acts_279 (by decide) ?_
        refine W.eq (g2 := F0 m 280 ls [.int (nI 3), .ref qv, .int (nI t2), .int (nI j86), .int (nI j72), .int (nI j53), .ref (ad2 0)]) rfl ?_
        refine raW (x := nI v3) hx hb hK (hP.right.one (k := 3) rfl) (show 3 < 5 by omega) (by decide) (by rw [upd_o (by omega), upd_s]) dL_acts_280 ?_
        refine lv_aload hx hb dL_acts_281 (lv_at hl 1 rfl) ?_
        refine lv_iconst (v := 4) hx hb dL_acts_283 (by decide) ?_
        refine W.eq (g2 := F0 m 284 ls [.int (nI 4), .ref qv, .int (nI v3), .int (nI t2), .int (nI j86), .int (nI j72), .int (nI j53), .ref (ad2 0)]) rfl ?_
        refine raW (x := nI v4) hx hb hK (hP.right.one (k := 3) rfl) (show 4 < 5 by omega) (by decide) (by rw [upd_s]) dL_acts_284 ?_
        refine lMi (fun q ⟨j9, h1, h2⟩ => by rw [h2]; exact hz2 j9 h1) (vx_runSW (As := [.ref (ad2 0), .int (nI j53), .int (nI j72), .int (nI j86), .int (nI t2), .int (nI v3), .int (nI v4)]) (rest := []) ⟨hx, hb, hml, hown, hts⟩ (c_L_setImage l hst D cy ad2 hj2 σ sz (nI j53) (nI j72) (nI j86) (nI t2) (nI v3) (nI v4) (0) (w12_0 (kI_0 hj53 (by omega) (by omega) (by omega) (by omega) (by omega))) (gSetImage σ (nI j53) (nI j72) (nI j86) (nI t2) (nI v3) (nI v4)) (if_pos (kI_0 hj53 (by omega) (by omega) (by omega) (by omega) (by omega)))) (vx_cwSW 7 hts gL_acts_L_setImage rfl rfl rfl (by decide +kernel) ⟨Nat.le_of_ble_eq_true rfl, Nat.le_of_ble_eq_true rfl⟩) ⟨cx_bl, cx_S hP.left.right hK Az_z hxk hS⟩ rfl rfl hl.1 rfl (lv_room (Nat.le_of_ble_eq_true rfl)) dL_acts_285 ⟨by show _ ≤ 60; omega, by show _ ≤ 360; omega⟩) hS (fun H locs hPW hS hk1 => ?_)
        have hP := setT hne hTt hP hPW hk1
        refine W.eq (g2 := F0 m 288 ls [.int 0]) rfl ?_
        refine lv_if_ne (tgt := 295) hx hb dL_acts_288 (by decide) (fun c_8 => absurd ((by decide : (0 : Int32) = 0)) c_8) (fun c_8 => ?_)
        refine lv_iconst (v := 1) hx hb dL_acts_291 (by decide) ?_
        refine lv_goto (tgt := 296) hx hb dL_acts_292 (by decide) ?_
        refine W.widen (k := 60) (n := 360) (by omega) (by omega) ?_
        have hP : va_P D vwCl (X2 cy ad ad2 (gSetImage σ (nI j53) (nI j72) (nI j86) (nI t2) (nI v3) (nI v4)) (gSetImage σ (nI j53) (nI j72) (nI j86) (nI t2) (nI v3) (nI v4)) ++ [aW cy qa 64 fa, aW cy qm 48 (up6 fm j53 (if fm (6 * j53) < 0 then 2 else fm (6 * j53 + 5)) (nI j72) (nI j86) (nI t2) (nI v3) (nI v4)), aW cy qb 6 fb]) H := (show va_P D vwCl ((X2 cy ad ad2 (gSetImage σ (nI j53) (nI j72) (nI j86) (nI t2) (nI v3) (nI v4)) (gSetImage σ (nI j53) (nI j72) (nI j86) (nI t2) (nI v3) (nI v4)) ++ [aW cy qa 64 fa, aW cy qm 48 (up6 fm j53 (if fm (6 * j53) < 0 then 2 else fm (6 * j53 + 5)) (nI j72) (nI j86) (nI t2) (nI v3) (nI v4)), aW cy qb 6 fb]) ++ [aW cy qv 5 (upd (upd (upd (upd (upd (fun _ => 0) 0 (nI j72)) 1 (nI j86)) 2 (nI t2)) 3 (nI v3)) 4 (nI v4))]) H by rw [List.append_assoc]; exact hP).left
        have hpo : OKs h (N + 70) fa (up6 fm j53 (if fm (6 * j53) < 0 then 2 else fm (6 * j53 + 5)) (nI j72) (nI j86) (nI t2) (nI v3) (nI v4)) fb (gSetImage σ (nI j53) (nI j72) (nI j86) (nI t2) (nI v3) (nI v4)) := (a_setImage hO (by omega) hj53 (nI_pos (by omega)) (up6_no fm j53 (if fm (6 * j53) < 0 then 2 else fm (6 * j53 + 5)) (nI j72) (nI j86) (nI t2) (nI v3) (nI v4)) g0 g1 g2 g3 g4 g5).le (Nat.le_add_right _ 6)
        exact W.zret (v := 1) hx hb hr rfl (fun t ht hW => ⟨⟨_, (), rfl, rfl, ⟨_, _, _, _, by rw [ht]; exact hP, hpo⟩⟩, hS.F ht⟩) hS.2.2 dL_acts_296
      · refine lv_if_ge (tgt := 193) hx hb dL_acts_186 (by decide) (fun c_9 => ?_) (fun c_9 => ?_)
        · have d_9 := Int32.not_lt.mpr c_9
          refine lv_aload_n hx hb dL_acts_193 rfl (lv_at hl 5 rfl) ?_
          refine lv_bipush (v := 6) hx hb dL_acts_194 (by decide) ?_
          refine lv_iload hx hb dL_acts_196 (lv_at hl 1 rfl) ?_
          refine lv_imul hx hb dL_acts_198 ?_
          refine W.eq (congrArg (fun z9 => F0 m 199 ls [.int z9, .ref qm, .int (nI (6 * j53 + 5)), .ref qm]) (pk_mul 6 j53)) ?_
          refine lv_iconst (v := 5) hx hb dL_acts_199 (by decide) ?_
          refine lv_iadd hx hb dL_acts_200 ?_
          refine W.eq (congrArg (fun z9 => F0 m 201 ls [.int z9, .ref qm, .int (nI (6 * j53 + 5)), .ref qm]) (nI_add (6 * j53) 5)) ?_
          refine raW (x := fm (6 * j53 + 5)) hx hb hK (hP.right.one (k := 1) rfl) (show 6 * j53 + 5 < 48 by omega) (by decide) rfl dL_acts_201 ?_
          exact W.eq (congrArg (fun z9 => F0 m 202 ls [.int z9, .int (nI (6 * j53 + 5)), .ref qm]) (if_neg d_9).symm) J202
        · have d_9 := Int32.not_le.mp c_9
          refine lv_iconst (v := 2) hx hb dL_acts_189 (by decide) ?_
          refine lv_goto (tgt := 202) hx hb dL_acts_190 (by decide) ?_
          exact W.eq (congrArg (fun z9 => F0 m 202 ls [.int z9, .int (nI (6 * j53 + 5)), .ref qm]) (if_pos d_9).symm) J202
    · refine lv_if_ne (tgt := 169) hx hb dL_acts_152 (by decide) (fun c_10 => ?_) (fun c_10 => ?_)
      · refine lv_iconst (v := 0) hx hb dL_acts_169 (by decide) ?_
        exact J170 0 (by omega)
      · refine lv_iconst (v := 1) hx hb dL_acts_155 (by decide) ?_
        refine lv_iload hx hb dL_acts_156 (lv_at hl 8 rfl) ?_
        refine lv_bipush (v := 22) hx hb dL_acts_158 (by decide) ?_
        refine lv_ishr hx hb dL_acts_160 ?_
        refine lv_iconst (v := 4) hx hb dL_acts_161 (by decide) ?_
        refine cS (W.runS (As := [.int (zy >>> (22 &&& 31)), .int 4]) (rest := [.int 1, .int 4, .ref qv]) ⟨hx, hb, hml, hown, hts⟩ (c_L_low l (zy >>> (22 &&& 31)) 4 (by decide) (by decide)) (va_cwS 2 hts gL_acts_L_low rfl rfl rfl (by decide +kernel) ⟨Nat.le_of_ble_eq_true rfl, Nat.le_of_ble_eq_true rfl⟩) ⟨fun a U g mk h => h, fun U _ _ => ⟨rfl, trivial⟩⟩ rfl rfl hl.1 rfl (lv_room (Nat.le_of_ble_eq_true rfl)) dL_acts_162 ⟨by show _ ≤ 60; omega, by show _ ≤ 360; omega⟩) (fun j162 hj162 => ?_)
        refine W.eq (g2 := F0 m 165 ls [.int (nI j162), .int 1, .int 4, .ref qv]) rfl ?_
        refine lv_ishl hx hb dL_acts_165 ?_
        refine lv_goto (tgt := 170) hx hb dL_acts_166 (by decide) ?_
        obtain ⟨t9, ht9, e9⟩ := sh1 hj162
        exact W.eq (congrArg (fun z9 => F0 m 170 ls [.int z9, .int 4, .ref qv]) e9) (J170 t9 ht9)
  · refine lv_if_ne (tgt := 138) hx hb dL_acts_123 (by decide) (fun c_11 => ?_) (fun c_11 => ?_)
    · refine lv_iconst (v := 0) hx hb dL_acts_138 (by decide) ?_
      exact J139 0 (by omega)
    · refine lv_iload hx hb dL_acts_126 (lv_at hl 8 rfl) ?_
      refine lv_bipush (v := 18) hx hb dL_acts_128 (by decide) ?_
      refine lv_ishr hx hb dL_acts_130 ?_
      refine lv_iconst (v := 4) hx hb dL_acts_131 (by decide) ?_
      refine cS (W.runS (As := [.int (zy >>> (18 &&& 31)), .int 4]) (rest := [.int 3, .ref qv]) ⟨hx, hb, hml, hown, hts⟩ (c_L_low l (zy >>> (18 &&& 31)) 4 (by decide) (by decide)) (va_cwS 2 hts gL_acts_L_low rfl rfl rfl (by decide +kernel) ⟨Nat.le_of_ble_eq_true rfl, Nat.le_of_ble_eq_true rfl⟩) ⟨fun a U g mk h => h, fun U _ _ => ⟨rfl, trivial⟩⟩ rfl rfl hl.1 rfl (lv_room (Nat.le_of_ble_eq_true rfl)) dL_acts_132 ⟨by show _ ≤ 60; omega, by show _ ≤ 360; omega⟩) (fun j132 hj132 => ?_)
      refine W.eq (g2 := F0 m 135 ls [.int (nI j132), .int 3, .ref qv]) rfl ?_
      refine lv_goto (tgt := 139) hx hb dL_acts_135 (by decide) ?_
      exact J139 j132 (by omega)
