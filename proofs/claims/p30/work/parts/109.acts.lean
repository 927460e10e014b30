set_option maxHeartbeats 4000000 in
set_option maxRecDepth 100000 in
/-- acts -/
theorem c_L_acts (l : Launch) (hst : l.stackTraces = false) (D : va_G) (cy : Nat → ClassId) (ad : Nat → Nat) (σ : Mem) (sz : Nat) (ad2 : Nat → Nat) (hj : inj31 ad) (hj2 : inj31 ad2) (hne : apart ad ad2) (hz : ∀ i, i < 31 → sz ≤ ad i) (hz2 : ∀ i, i < 31 → sz ≤ ad2 i) (qa qm qb : Nat) (fa fm fb : Nat → Int32) (h N : Nat) (zx zy : Int32) (hN9 : N + 30000 < 2000000000) (hO : OKs h N fa fm fb σ) (hD : va_D (Az sz) (X2 cy ad ad2 σ σ ++ [aW cy qa 64 fa, aW cy qm 48 fm, aW cy qb 6 fb])) : Met l yL_acts wsL_acts ({ frames := 10, cells := 60, slots := 360, locals := 172 }) (va_Pc [.ref (ad 0), .ref (ad2 0), .ref qa, .ref qm, .ref qb, .int zx, .int zy] (lX D cy sz (X2 cy ad ad2 σ σ ++ [aW cy qa 64 fa, aW cy qm 48 fm, aW cy qb 6 fb]))) (QI 1 (fun H => ∃ (σ' : Mem) (fa' fm' fb' : Nat → Int32), va_P D vwCl (X2 cy ad ad2 σ' σ' ++ [aW cy qa 64 fa', aW cy qm 48 fm', aW cy qb 6 fb']) H ∧ OKs h (N + 70) fa' fm' fb' σ') (Az sz)) 60 360 (Az sz) := by
  refine Met.ofW (cc := cL_acts) (maxL := 17) (ret := (some .boolean)) (by decide) rfl ?_
  intro p e s m args below meth c s₁ B hml hv
  obtain ⟨rfl, ⟨hP, hK⟩, hxk⟩ := hv
  have hx := B.exec
  have hb := B.bytes
  have hr := B.returns
  have hts := atoms_spec (ws := wsL_acts) B.pre
  have hown : s.vm.findClass RL = some m.cls := findClass_of_methodNamed B.named
  have hlocks := B.notSynchronized
  have hS : va_S (Az sz) s.heap s.heap [] := va_S.rf
  have hl := lv_entry ([.ref (ad 0), .ref (ad2 0), .ref qa, .ref qm, .ref qb, .int zx, .int zy]) (n := 17) (Nat.le_of_ble_eq_true rfl)
  rw [lg_entry_eq]
  generalize (lg_sl ([.ref (ad 0), .ref (ad2 0), .ref qa, .ref qm, .ref qb, .int zx, .int zy]) ++ List.replicate (17 - (lg_sl ([.ref (ad 0), .ref (ad2 0), .ref qa, .ref qm, .ref qb, .int zx, .int zy])).length) Slot.unset).toArray = ls at hl ⊢
  have hl : lv_has ls 17 [(0, .ref (ad 0)), (1, .ref (ad2 0)), (2, .ref qa), (3, .ref qm), (4, .ref qb), (5, .int zx), (6, .int zy)] := hl
  have hz9 : sz ≤ s.heap.size := Nat.le_trans (hz 0 (by decide)) (Nat.le_of_lt ((hP.left.left 0 _ (wC_at (by decide))).lt))
  refine lv_iload hx hb dL_acts_0 (lv_at hl 5 rfl) ?_
  refine lv_bipush (v := 24) hx hb dL_acts_2 (by decide) ?_
  refine cS (W.runS (As := [.int zx, .int 24]) (rest := []) ⟨hx, hb, hml, hown, hts⟩ (c_L_low l zx 24 (by decide) (by decide)) (va_cwS 2 hts gL_acts_L_low rfl rfl rfl (by decide +kernel) ⟨Nat.le_of_ble_eq_true rfl, Nat.le_of_ble_eq_true rfl⟩) ⟨fun a U g mk h => h, fun U _ _ => ⟨rfl, trivial⟩⟩ rfl rfl hl.1 rfl (lv_room (Nat.le_of_ble_eq_true rfl)) dL_acts_4 ⟨by show _ ≤ 60; omega, by show _ ≤ 360; omega⟩) (fun j4 hj4 => ?_)
  refine W.eq (g2 := F0 m 7 ls [.int (nI j4)]) rfl ?_
  refine lv_istore (lv' := [(7, .int (nI j4)), (0, .ref (ad 0)), (1, .ref (ad2 0)), (2, .ref qa), (3, .ref qm), (4, .ref qb), (5, .int zx), (6, .int zy)]) hx hb dL_acts_7 hl (by decide) rfl (fun ls hl => ?_)
  refine lv_iload hx hb dL_acts_9 (lv_at hl 7 rfl) ?_
  refine lv_iload hx hb dL_acts_11 (lv_at hl 7 rfl) ?_
  refine lv_bipush (v := 20) hx hb dL_acts_13 (by decide) ?_
  refine lv_ishr hx hb dL_acts_15 ?_
  refine lv_iconst (v := 4) hx hb dL_acts_16 (by decide) ?_
  refine cS (W.runS (As := [.int (zy >>> (20 &&& 31)), .int 4]) (rest := [.int zy]) ⟨hx, hb, hml, hown, hts⟩ (c_L_low l (zy >>> (20 &&& 31)) 4 (by decide) (by decide)) (va_cwS 2 hts gL_acts_L_low rfl rfl rfl (by decide +kernel) ⟨Nat.le_of_ble_eq_true rfl, Nat.le_of_ble_eq_true rfl⟩) ⟨fun a U g mk h => h, fun U _ _ => ⟨rfl, trivial⟩⟩ rfl rfl hl.1 rfl (lv_room (Nat.le_of_ble_eq_true rfl)) dL_acts_17 ⟨by show _ ≤ 60; omega, by show _ ≤ 360; omega⟩) (fun j17 hj17 => ?_)
  refine W.eq (g2 := F0 m 20 ls [.int (nI j17), .int zy]) rfl ?_
  refine w_all (fun v9 : Nat => v9 < 16) (fun v9 => F0 m 33 ls [.int (nI v9)]) (fun i hi => ?_) (fun J33 => ?_)
  · refine lv_istore (lv' := [(8, .int (nI i)), (7, .int (nI j4)), (0, .ref (ad 0)), (1, .ref (ad2 0)), (2, .ref qa), (3, .ref qm), (4, .ref qb), (5, .int zx), (6, .int zy)]) hx hb dL_acts_33 hl (by decide) rfl (fun ls hl => ?_)
    refine lv_aload_n hx hb dL_acts_35 rfl (lv_at hl 2 rfl) ?_
    refine lv_iload hx hb dL_acts_36 (lv_at hl 0 rfl) ?_
    refine rMi (vx_runSW (As := [.ref (ad 0), .int (nI i)]) (rest := []) ⟨hx, hb, hml, hown, hts⟩ (c_L_stateOf l hst D cy ad σ sz (nI i) (σ 1 i) (wS hi)) (vx_cwSW 2 hts gL_acts_L_stateOf rfl rfl rfl (by decide +kernel) ⟨Nat.le_of_ble_eq_true rfl, Nat.le_of_ble_eq_true rfl⟩) ⟨cx_bl, cx_S hP.left.left hK Az_z hxk hS⟩ rfl rfl hl.1 rfl (lv_room (Nat.le_of_ble_eq_true rfl)) dL_acts_38 ⟨by show _ ≤ 60; omega, by show _ ≤ 360; omega⟩) hS (fun H locs hS hg => ?_)
    have hP := hP.grown hg
    refine W.eq (g2 := F0 m 41 ls [.int (σ 1 i)]) rfl ?_
    refine lv_istore (lv' := [(9, .int (σ 1 i)), (8, .int (nI i)), (7, .int (nI j4)), (0, .ref (ad 0)), (1, .ref (ad2 0)), (2, .ref qa), (3, .ref qm), (4, .ref qb), (5, .int zx), (6, .int zy)]) hx hb dL_acts_41 hl (by decide) rfl (fun ls hl => ?_)
    refine lv_iload hx hb dL_acts_43 (lv_at hl 2 rfl) ?_
    refine lv_iconst (v := 3) hx hb dL_acts_45 (by decide) ?_
    refine lv_icmp_ge (tgt := 297) hx hb dL_acts_46 (by decide) (fun c_1 => ?_) (fun c_1 => ?_)
    · have d_1 := Int32.not_lt.mpr c_1
      refine lv_iload hx hb dL_acts_297 (lv_at hl 2 rfl) ?_
      refine lv_iconst (v := 3) hx hb dL_acts_299 (by decide) ?_
      refine lv_icmp_ne (tgt := 472) hx hb dL_acts_300 (by decide) (fun c_2 => ?_) (fun c_2 => ?_)
      · refine lv_iload hx hb dL_acts_472 (lv_at hl 2 rfl) ?_
        refine lv_iconst (v := 4) hx hb dL_acts_474 (by decide) ?_
        refine lv_icmp_ne (tgt := 544) hx hb dL_acts_475 (by decide) (fun c_3 => ?_) (fun c_3 => ?_)
        · refine lv_iload hx hb dL_acts_544 (lv_at hl 2 rfl) ?_
          refine lv_iconst (v := 5) hx hb dL_acts_546 (by decide) ?_
          refine lv_icmp_ne (tgt := 614) hx hb dL_acts_547 (by decide) (fun c_4 => ?_) (fun c_4 => ?_)
          · refine lv_iload hx hb dL_acts_614 (lv_at hl 2 rfl) ?_
            refine lv_bipush (v := 11) hx hb dL_acts_616 (by decide) ?_
            refine lv_icmp_ge (tgt := 878) hx hb dL_acts_618 (by decide) (fun c_5 => ?_) (fun c_5 => ?_)
            · have d_5 := Int32.not_lt.mpr c_5
              refine lv_iload hx hb dL_acts_878 (lv_at hl 2 rfl) ?_
              refine lv_bipush (v := 16) hx hb dL_acts_880 (by decide) ?_
              refine lv_icmp_ge (tgt := 977) hx hb dL_acts_882 (by decide) (fun c_6 => ?_) (fun c_6 => ?_)
              · have d_6 := Int32.not_lt.mpr c_6
                refine lv_iload hx hb dL_acts_977 (lv_at hl 2 rfl) ?_
                refine lv_bipush (v := 16) hx hb dL_acts_979 (by decide) ?_
                refine lv_icmp_ne (tgt := 1047) hx hb dL_acts_981 (by decide) (fun c_7 => ?_) (fun c_7 => ?_)
                · refine lv_iload hx hb dL_acts_1047 (lv_at hl 2 rfl) ?_
                  refine lv_bipush (v := 21) hx hb dL_acts_1049 (by decide) ?_
                  refine lv_icmp_ge (tgt := 1184) hx hb dL_acts_1051 (by decide) (fun c_8 => ?_) (fun c_8 => ?_)
                  · have d_8 := Int32.not_lt.mpr c_8
                    refine lv_iload hx hb dL_acts_1184 (lv_at hl 2 rfl) ?_
                    refine lv_bipush (v := 21) hx hb dL_acts_1186 (by decide) ?_
                    refine lv_icmp_ne (tgt := 1315) hx hb dL_acts_1188 (by decide) (fun c_9 => ?_) (fun c_9 => ?_)
                    · exact ab_keep hst hj hj2 hne hz hz2 ⟨hx, hb, hr, hts, hown, hlocks, hml, hK, hxk⟩ hN9 hO hi hP hD hS hz9 (by omega) (by omega) (lv_sub hl [3, 4, 5, 6, 7, 8, 9, 2, 1, 0] rfl)
                    · exact ab_retire hst hj hj2 hne hz hz2 ⟨hx, hb, hr, hts, hown, hlocks, hml, hK, hxk⟩ hN9 hO hi hP hD hS hz9 (by omega) (by omega) (lv_sub hl [3, 4, 5, 6, 7, 8, 9, 2, 1, 0] rfl)
                  · have d_8 := Int32.not_le.mp c_8
                    exact ab_finish hst hj hj2 hne hz hz2 ⟨hx, hb, hr, hts, hown, hlocks, hml, hK, hxk⟩ hN9 hO hi hP hD hS hz9 (by omega) (by omega) (lv_sub hl [3, 4, 5, 6, 7, 8, 9, 2, 1, 0] rfl)
                · exact ab_cancel hst hj hj2 hne hz hz2 ⟨hx, hb, hr, hts, hown, hlocks, hml, hK, hxk⟩ hN9 hO hi hP hD hS hz9 (by omega) (by omega) (lv_sub hl [3, 4, 5, 6, 7, 8, 9, 2, 1, 0] rfl)
              · have d_6 := Int32.not_le.mp c_6
                exact ab_order hst hj hj2 hne hz hz2 ⟨hx, hb, hr, hts, hown, hlocks, hml, hK, hxk⟩ hN9 hO hi hP hD hS hz9 (by omega) (by omega) (lv_sub hl [3, 4, 5, 6, 7, 8, 9, 2, 1, 0] rfl)
            · have d_5 := Int32.not_le.mp c_5
              exact ab_report hst hj hj2 hne hz hz2 ⟨hx, hb, hr, hts, hown, hlocks, hml, hK, hxk⟩ hN9 hO hi hP hD hS hz9 (by omega) (by omega) (lv_sub hl [3, 4, 5, 6, 7, 8, 9, 2, 1, 0] rfl)
          · exact ab_retries hst hj hj2 hne hz hz2 ⟨hx, hb, hr, hts, hown, hlocks, hml, hK, hxk⟩ hN9 hO hi hP hD hS hz9 (by omega) (by omega) (lv_sub hl [3, 4, 5, 6, 7, 8, 9, 2, 1, 0] rfl)
        · exact ab_batch hst hj hj2 hne hz hz2 ⟨hx, hb, hr, hts, hown, hlocks, hml, hK, hxk⟩ hN9 hO hi hP hD hS hz9 (by omega) (by omega) (lv_sub hl [3, 4, 5, 6, 7, 8, 9, 2, 1, 0] rfl)
      · exact ab_image hst hj hj2 hne hz hz2 ⟨hx, hb, hr, hts, hown, hlocks, hml, hK, hxk⟩ hN9 hO hi hP hD hS hz9 (by omega) (by omega) (lv_sub hl [3, 4, 5, 6, 7, 8, 9, 2, 1, 0] rfl)
    · have d_1 := Int32.not_le.mp c_1
      exact ab_setImage hst hj hj2 hne hz hz2 ⟨hx, hb, hr, hts, hown, hlocks, hml, hK, hxk⟩ hN9 hO hi hP hD hS hz9 (by omega) (by omega) (lv_sub hl [3, 4, 5, 6, 7, 8, 9, 2, 1, 0] rfl)
  · refine lv_if_ne (tgt := 28) hx hb dL_acts_20 (by decide) (fun c_10 => ?_) (fun c_10 => ?_)
    · refine lv_bipush (v := 6) hx hb dL_acts_28 (by decide) ?_
      refine cS (W.runS (As := [.int zy, .int 6]) (rest := []) ⟨hx, hb, hml, hown, hts⟩ (c_L_low l zy 6 (by decide) (by decide)) (va_cwS 2 hts gL_acts_L_low rfl rfl rfl (by decide +kernel) ⟨Nat.le_of_ble_eq_true rfl, Nat.le_of_ble_eq_true rfl⟩) ⟨fun a U g mk h => h, fun U _ _ => ⟨rfl, trivial⟩⟩ rfl rfl hl.1 rfl (lv_room (Nat.le_of_ble_eq_true rfl)) dL_acts_30 ⟨by show _ ≤ 60; omega, by show _ ≤ 360; omega⟩) (fun j30 hj30 => ?_)
      refine W.eq (g2 := F0 m 33 ls [.int (nI j30)]) rfl ?_
      exact J33 j30 (by omega)
    · refine lv_bipush (v := 16) hx hb dL_acts_23 (by decide) ?_
      refine lv_goto (tgt := 30) hx hb dL_acts_25 (by decide) ?_
      refine cS (W.runS (As := [.int zy, .int 16]) (rest := []) ⟨hx, hb, hml, hown, hts⟩ (c_L_low l zy 16 (by decide) (by decide)) (va_cwS 2 hts gL_acts_L_low rfl rfl rfl (by decide +kernel) ⟨Nat.le_of_ble_eq_true rfl, Nat.le_of_ble_eq_true rfl⟩) ⟨fun a U g mk h => h, fun U _ _ => ⟨rfl, trivial⟩⟩ rfl rfl hl.1 rfl (lv_room (Nat.le_of_ble_eq_true rfl)) dL_acts_30 ⟨by show _ ≤ 60; omega, by show _ ≤ 360; omega⟩) (fun j30 hj30 => ?_)
      refine W.eq (g2 := F0 m 33 ls [.int (nI j30)]) rfl ?_
      exact J33 j30 (by omega)
