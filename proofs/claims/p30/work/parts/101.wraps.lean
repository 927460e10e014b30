set_option maxHeartbeats 4000000 in
set_option maxRecDepth 100000 in
theorem c_L_setImage (l : Launch) (hst : l.stackTraces = false) (D : va_G) (cy : Nat → ClassId) (ad : Nat → Nat) (hj : inj31 ad) (σ : Mem) (sz : Nat) (za zb zc zd ze zf : Int32) (x : Int32) (hx9 : w12 (kSetImage za zb zc zd ze zf) (0) = x) (σ' : Mem) (hs9 : (if kSetImage za zb zc zd ze zf = 0 then gSetImage σ za zb zc zd ze zf else σ) = σ') : Met l yL_setImage wsL_setImage ({ frames := 8, cells := 6, slots := 36, locals := 141 }) (va_Pc [.ref (ad 0), .int za, .int zb, .int zc, .int zd, .int ze, .int zf] (cx D cy ad σ sz)) (QI x (fun H => va_P D vwCl (wC cy ad σ') H) (AC ad)) 6 36 (AC ad) := by
  refine metWH (cc := cL_setImage) (maxL := 8) (ret := (some .int)) (hh := [(0, 14, 15, 16), (0, 14, 20, 19)]) (by decide) rfl ?_
  intro p e s m args below meth c s₁ B hml hv
  obtain ⟨rfl, ⟨hP, hK⟩, hxk⟩ := hv
  have hx := B.exec
  have hb := B.bytes
  have hr := B.returns
  have hts := atoms_spec (ws := wsL_setImage) B.pre
  have hown : s.vm.findClass RL = some m.cls := findClass_of_methodNamed B.named
  have hT := vx_table (x := yL_setImage) B (hts (.codeWith yL_setImage cL_setImage 8 (some .int) [(0, 14, 15, 16), (0, 14, 20, 19)]) List.mem_cons_self)
  have hS : va_S (AC ad) s.heap s.heap [] := va_S.rf
  have hl := lv_entry ([.ref (ad 0), .int za, .int zb, .int zc, .int zd, .int ze, .int zf]) (n := 8) (Nat.le_of_ble_eq_true rfl)
  rw [lg_entry_eq]
  generalize (lg_sl ([.ref (ad 0), .int za, .int zb, .int zc, .int zd, .int ze, .int zf]) ++ List.replicate (8 - (lg_sl ([.ref (ad 0), .int za, .int zb, .int zc, .int zd, .int ze, .int zf])).length) Slot.unset).toArray = ls at hl ⊢
  have hl : lv_has ls 8 [(0, .ref (ad 0)), (1, .int za), (2, .int zb), (3, .int zc), (4, .int zd), (5, .int ze), (6, .int zf)] := hl
  refine lv_aload_n hx hb dL_setImage_0 rfl (lv_at hl 0 rfl) ?_
  refine lv_iload_n hx hb dL_setImage_1 rfl (lv_at hl 1 rfl) ?_
  refine lv_iload_n hx hb dL_setImage_2 rfl (lv_at hl 2 rfl) ?_
  refine lv_iload_n hx hb dL_setImage_3 rfl (lv_at hl 3 rfl) ?_
  refine lv_iload hx hb dL_setImage_4 (lv_at hl 4 rfl) ?_
  refine lv_iload hx hb dL_setImage_6 (lv_at hl 5 rfl) ?_
  refine lv_iload hx hb dL_setImage_8 (lv_at hl 6 rfl) ?_
  refine xMvA (fun _ h => h) (vx_runV (As := [.int za, .int zb, .int zc, .int zd, .int ze, .int zf]) (rest := []) ⟨hx, hb, hml, hown, hts⟩ (c_X3_setImage l hst D cy ad hj σ sz za zb zc zd ze zf) (cwV 6 hts gL_setImage_X3_setImage rfl rfl rfl (by decide +kernel) ⟨Nat.le_of_ble_eq_true rfl, Nat.le_of_ble_eq_true rfl⟩) ⟨cx_bl, cw_F hP hK, cx_at hP hK hxk⟩ rfl rfl hl.1 rfl (lv_room (Nat.le_of_ble_eq_true rfl)) dL_setImage_10 ⟨Nat.le_of_ble_eq_true rfl, Nat.le_of_ble_eq_true rfl⟩) hS (fun E ce q9 H locs hE hS hz hk h3 h4 h5 => ?_) (fun H locs hP hS hz hk => ?_)
  · have hP := hP.grown hk
    rcases (show ex12 _ _ from hE) with ⟨rfl, hk0⟩ | ⟨rfl, hk0⟩
    · refine vx_catch (name := "java/lang/IndexOutOfBoundsException") hown [] ⟨0, 14, 15, 16⟩ [⟨0, 14, 20, 19⟩] (hT.trans rfl) (fun _ h => nomatch h) rfl (by decide) (hts (.classLink RL 16 "java/lang/IndexOutOfBoundsException") (by decide +kernel)) (va_Nw.use rfl (hxk.2.2.1 (.castable "java/lang/IndexOutOfBoundsException" "java/lang/IndexOutOfBoundsException") (by decide +kernel))) h3 h4 h5 ?_
      refine lv_astore (lv' := [(7, .ref q9), (0, .ref (ad 0)), (1, .int za), (2, .int zb), (3, .int zc), (4, .int zd), (5, .int ze), (6, .int zf)]) hx hb dL_setImage_15 hl (by decide) rfl (fun ls hl => ?_)
      refine lv_ldc (v := (-1000001)) hx hb hown (hts (.constant RL 18 (-1000001)) (by decide +kernel)) dL_setImage_17 ?_
      have hn0 : ¬ kSetImage za zb zc zd ze zf = 0 := by rw [hk0]; decide
      have e9 : (-1000001) = x := by rw [← hx9, hk0]; unfold w12; rw [if_neg (by decide), if_pos rfl]
      have hP : va_P D vwCl (wC cy ad σ') H := by rw [← hs9, if_neg hn0]; exact hP
      exact W.iret (v := (-1000001)) hx hb hr (fun t ht hW => ⟨⟨_, (), rfl, e9, by rw [← ht] at hP; exact hP⟩, hS.F ht⟩) hS.2.2 dL_setImage_19
    · refine vx_catch (name := "java/lang/IllegalArgumentException") hown [⟨0, 14, 15, 16⟩] ⟨0, 14, 20, 19⟩ [] (hT.trans rfl) (fun z hz9 => by rw [List.mem_singleton.mp hz9]; exact Or.inr ⟨by decide, "java/lang/IndexOutOfBoundsException", hts (.classLink RL 16 "java/lang/IndexOutOfBoundsException") (by decide +kernel), hxk.2.2.2.1 ("java/lang/IllegalArgumentException", "java/lang/IndexOutOfBoundsException") (by decide +kernel)⟩) rfl (by decide) (hts (.classLink RL 19 "java/lang/IllegalArgumentException") (by decide +kernel)) (va_Nw.use rfl (hxk.2.2.1 (.castable "java/lang/IllegalArgumentException" "java/lang/IllegalArgumentException") (by decide +kernel))) h3 h4 h5 ?_
      refine lv_astore (lv' := [(7, .ref q9), (0, .ref (ad 0)), (1, .int za), (2, .int zb), (3, .int zc), (4, .int zd), (5, .int ze), (6, .int zf)]) hx hb dL_setImage_20 hl (by decide) rfl (fun ls hl => ?_)
      refine lv_ldc (v := (-1000002)) hx hb hown (hts (.constant RL 21 (-1000002)) (by decide +kernel)) dL_setImage_22 ?_
      have hn0 : ¬ kSetImage za zb zc zd ze zf = 0 := by rw [hk0]; decide
      have e9 : (-1000002) = x := by rw [← hx9, hk0]; unfold w12; rw [if_neg (by decide), if_neg (by decide)]
      have hP : va_P D vwCl (wC cy ad σ') H := by rw [← hs9, if_neg hn0]; exact hP
      exact W.iret (v := (-1000002)) hx hb hr (fun t ht hW => ⟨⟨_, (), rfl, e9, by rw [← ht] at hP; exact hP⟩, hS.F ht⟩) hS.2.2 dL_setImage_24
  · obtain ⟨hk0, hP⟩ := hP
    have hP : va_P D vwCl (wC cy ad σ') H := by rw [← hs9, if_pos hk0]; exact hP
    refine W.eq (g2 := F0 m 13 ls []) rfl ?_
    refine lv_iconst (v := 0) hx hb dL_setImage_13 (by decide) ?_
    have e9 : 0 = x := by rw [← hx9, hk0]; unfold w12; rw [if_pos rfl]
    exact W.iret (v := 0) hx hb hr (fun t ht hW => ⟨⟨_, (), rfl, e9, by rw [← ht] at hP; exact hP⟩, hS.F ht⟩) hS.2.2 dL_setImage_14
set_option maxHeartbeats 4000000 in
set_option maxRecDepth 100000 in
theorem c_L_setTime (l : Launch) (hst : l.stackTraces = false) (D : va_G) (cy : Nat → ClassId) (ad : Nat → Nat) (hj : inj31 ad) (σ : Mem) (sz : Nat) (za zb : Int32) (x : Int32) (hx9 : w12 (kSetTime σ za zb) (rSetTime σ za) = x) (σ' : Mem) (hs9 : (if kSetTime σ za zb = 0 then gSetTime σ za zb else σ) = σ') : Met l yL_setTime wsL_setTime ({ frames := 9, cells := 3, slots := 18, locals := 149 }) (va_Pc [.ref (ad 0), .int za, .int zb] (cx D cy ad σ sz)) (QI x (fun H => va_P D vwCl (wC cy ad σ') H) (AC ad)) 3 18 (AC ad) := by
  refine metWH (cc := cL_setTime) (maxL := 4) (ret := (some .int)) (hh := [(0, 6, 7, 16), (0, 6, 11, 19)]) (by decide) rfl ?_
  intro p e s m args below meth c s₁ B hml hv
  obtain ⟨rfl, ⟨hP, hK⟩, hxk⟩ := hv
  have hx := B.exec
  have hb := B.bytes
  have hr := B.returns
  have hts := atoms_spec (ws := wsL_setTime) B.pre
  have hown : s.vm.findClass RL = some m.cls := findClass_of_methodNamed B.named
  have hT := vx_table (x := yL_setTime) B (hts (.codeWith yL_setTime cL_setTime 4 (some .int) [(0, 6, 7, 16), (0, 6, 11, 19)]) List.mem_cons_self)
  have hS : va_S (AC ad) s.heap s.heap [] := va_S.rf
  have hl := lv_entry ([.ref (ad 0), .int za, .int zb]) (n := 4) (Nat.le_of_ble_eq_true rfl)
  rw [lg_entry_eq]
  generalize (lg_sl ([.ref (ad 0), .int za, .int zb]) ++ List.replicate (4 - (lg_sl ([.ref (ad 0), .int za, .int zb])).length) Slot.unset).toArray = ls at hl ⊢
  have hl : lv_has ls 4 [(0, .ref (ad 0)), (1, .int za), (2, .int zb)] := hl
  refine lv_aload_n hx hb dL_setTime_0 rfl (lv_at hl 0 rfl) ?_
  refine lv_iload_n hx hb dL_setTime_1 rfl (lv_at hl 1 rfl) ?_
  refine lv_iload_n hx hb dL_setTime_2 rfl (lv_at hl 2 rfl) ?_
  refine xMiA (fun _ h => h) (vx_runV (As := [.int za, .int zb]) (rest := []) ⟨hx, hb, hml, hown, hts⟩ (c_X3_setTime l hst D cy ad hj σ sz za zb) (cwV 2 hts gL_setTime_X3_setTime rfl rfl rfl (by decide +kernel) ⟨Nat.le_of_ble_eq_true rfl, Nat.le_of_ble_eq_true rfl⟩) ⟨cx_bl, cw_F hP hK, cx_at hP hK hxk⟩ rfl rfl hl.1 rfl (lv_room (Nat.le_of_ble_eq_true rfl)) dL_setTime_3 ⟨Nat.le_of_ble_eq_true rfl, Nat.le_of_ble_eq_true rfl⟩) hS (fun E ce q9 H locs hE hS hz hk h3 h4 h5 => ?_) (fun H locs hP hS hz hk => ?_)
  · have hP := hP.grown hk
    rcases (show ex12 _ _ from hE) with ⟨rfl, hk0⟩ | ⟨rfl, hk0⟩
    · refine vx_catch (name := "java/lang/IndexOutOfBoundsException") hown [] ⟨0, 6, 7, 16⟩ [⟨0, 6, 11, 19⟩] (hT.trans rfl) (fun _ h => nomatch h) rfl (by decide) (hts (.classLink RL 16 "java/lang/IndexOutOfBoundsException") (by decide +kernel)) (va_Nw.use rfl (hxk.2.2.1 (.castable "java/lang/IndexOutOfBoundsException" "java/lang/IndexOutOfBoundsException") (by decide +kernel))) h3 h4 h5 ?_
      refine lv_astore_n (lv' := [(3, .ref q9), (0, .ref (ad 0)), (1, .int za), (2, .int zb)]) hx hb dL_setTime_7 rfl hl (by decide) rfl (fun ls hl => ?_)
      refine lv_ldc (v := (-1000001)) hx hb hown (hts (.constant RL 18 (-1000001)) (by decide +kernel)) dL_setTime_8 ?_
      have hn0 : ¬ kSetTime σ za zb = 0 := by rw [hk0]; decide
      have e9 : (-1000001) = x := by rw [← hx9, hk0]; unfold w12; rw [if_neg (by decide), if_pos rfl]
      have hP : va_P D vwCl (wC cy ad σ') H := by rw [← hs9, if_neg hn0]; exact hP
      exact W.iret (v := (-1000001)) hx hb hr (fun t ht hW => ⟨⟨_, (), rfl, e9, by rw [← ht] at hP; exact hP⟩, hS.F ht⟩) hS.2.2 dL_setTime_10
    · refine vx_catch (name := "java/lang/IllegalArgumentException") hown [⟨0, 6, 7, 16⟩] ⟨0, 6, 11, 19⟩ [] (hT.trans rfl) (fun z hz9 => by rw [List.mem_singleton.mp hz9]; exact Or.inr ⟨by decide, "java/lang/IndexOutOfBoundsException", hts (.classLink RL 16 "java/lang/IndexOutOfBoundsException") (by decide +kernel), hxk.2.2.2.1 ("java/lang/IllegalArgumentException", "java/lang/IndexOutOfBoundsException") (by decide +kernel)⟩) rfl (by decide) (hts (.classLink RL 19 "java/lang/IllegalArgumentException") (by decide +kernel)) (va_Nw.use rfl (hxk.2.2.1 (.castable "java/lang/IllegalArgumentException" "java/lang/IllegalArgumentException") (by decide +kernel))) h3 h4 h5 ?_
      refine lv_astore_n (lv' := [(3, .ref q9), (0, .ref (ad 0)), (1, .int za), (2, .int zb)]) hx hb dL_setTime_11 rfl hl (by decide) rfl (fun ls hl => ?_)
      refine lv_ldc (v := (-1000002)) hx hb hown (hts (.constant RL 21 (-1000002)) (by decide +kernel)) dL_setTime_12 ?_
      have hn0 : ¬ kSetTime σ za zb = 0 := by rw [hk0]; decide
      have e9 : (-1000002) = x := by rw [← hx9, hk0]; unfold w12; rw [if_neg (by decide), if_neg (by decide)]
      have hP : va_P D vwCl (wC cy ad σ') H := by rw [← hs9, if_neg hn0]; exact hP
      exact W.iret (v := (-1000002)) hx hb hr (fun t ht hW => ⟨⟨_, (), rfl, e9, by rw [← ht] at hP; exact hP⟩, hS.F ht⟩) hS.2.2 dL_setTime_14
  · obtain ⟨hk0, hP⟩ := hP
    have hP : va_P D vwCl (wC cy ad σ') H := by rw [← hs9, if_pos hk0]; exact hP
    refine W.eq (g2 := F0 m 6 ls [.int (rSetTime σ za)]) rfl ?_
    have e9 : rSetTime σ za = x := by rw [← hx9, hk0]; unfold w12; rw [if_pos rfl]
    exact W.iret (v := rSetTime σ za) hx hb hr (fun t ht hW => ⟨⟨_, (), rfl, e9, by rw [← ht] at hP; exact hP⟩, hS.F ht⟩) hS.2.2 dL_setTime_6
set_option maxHeartbeats 4000000 in
set_option maxRecDepth 100000 in
theorem c_L_dropImage (l : Launch) (hst : l.stackTraces = false) (D : va_G) (cy : Nat → ClassId) (ad : Nat → Nat) (hj : inj31 ad) (σ : Mem) (sz : Nat) (za : Int32) (x : Int32) (hx9 : w1 (kDropImage σ za) (0) = x) (σ' : Mem) (hs9 : (if kDropImage σ za = 0 then gDropImage σ za else σ) = σ') : Met l yL_dropImage wsL_dropImage ({ frames := 9, cells := 2, slots := 12, locals := 147 }) (va_Pc [.ref (ad 0), .int za] (cx D cy ad σ sz)) (QI x (fun H => va_P D vwCl (wC cy ad σ') H) (AC ad)) 2 12 (AC ad) := by
  refine metWH (cc := cL_dropImage) (maxL := 3) (ret := (some .int)) (hh := [(0, 6, 7, 16)]) (by decide) rfl ?_
  intro p e s m args below meth c s₁ B hml hv
  obtain ⟨rfl, ⟨hP, hK⟩, hxk⟩ := hv
  have hx := B.exec
  have hb := B.bytes
  have hr := B.returns
  have hts := atoms_spec (ws := wsL_dropImage) B.pre
  have hown : s.vm.findClass RL = some m.cls := findClass_of_methodNamed B.named
  have hT := vx_table (x := yL_dropImage) B (hts (.codeWith yL_dropImage cL_dropImage 3 (some .int) [(0, 6, 7, 16)]) List.mem_cons_self)
  have hS : va_S (AC ad) s.heap s.heap [] := va_S.rf
  have hl := lv_entry ([.ref (ad 0), .int za]) (n := 3) (Nat.le_of_ble_eq_true rfl)
  rw [lg_entry_eq]
  generalize (lg_sl ([.ref (ad 0), .int za]) ++ List.replicate (3 - (lg_sl ([.ref (ad 0), .int za])).length) Slot.unset).toArray = ls at hl ⊢
  have hl : lv_has ls 3 [(0, .ref (ad 0)), (1, .int za)] := hl
  refine lv_aload_n hx hb dL_dropImage_0 rfl (lv_at hl 0 rfl) ?_
  refine lv_iload_n hx hb dL_dropImage_1 rfl (lv_at hl 1 rfl) ?_
  refine xMvA (fun _ h => h) (vx_runV (As := [.int za]) (rest := []) ⟨hx, hb, hml, hown, hts⟩ (c_X3_dropImage l hst D cy ad hj σ sz za) (cwV 1 hts gL_dropImage_X3_dropImage rfl rfl rfl (by decide +kernel) ⟨Nat.le_of_ble_eq_true rfl, Nat.le_of_ble_eq_true rfl⟩) ⟨cx_bl, cw_F hP hK, cx_at hP hK hxk⟩ rfl rfl hl.1 rfl (lv_room (Nat.le_of_ble_eq_true rfl)) dL_dropImage_2 ⟨Nat.le_of_ble_eq_true rfl, Nat.le_of_ble_eq_true rfl⟩) hS (fun E ce q9 H locs hE hS hz hk h3 h4 h5 => ?_) (fun H locs hP hS hz hk => ?_)
  · have hP := hP.grown hk
    obtain ⟨rfl, hk0⟩ := hE
    refine vx_catch (name := "java/lang/IndexOutOfBoundsException") hown [] ⟨0, 6, 7, 16⟩ [] (hT.trans rfl) (fun _ h => nomatch h) rfl (by decide) (hts (.classLink RL 16 "java/lang/IndexOutOfBoundsException") (by decide +kernel)) (va_Nw.use rfl (hxk.2.2.1 (.castable "java/lang/IndexOutOfBoundsException" "java/lang/IndexOutOfBoundsException") (by decide +kernel))) h3 h4 h5 ?_
    refine lv_astore_n (lv' := [(2, .ref q9), (0, .ref (ad 0)), (1, .int za)]) hx hb dL_dropImage_7 rfl hl (by decide) rfl (fun ls hl => ?_)
    refine lv_ldc (v := (-1000001)) hx hb hown (hts (.constant RL 18 (-1000001)) (by decide +kernel)) dL_dropImage_8 ?_
    have hn0 : ¬ kDropImage σ za = 0 := by rw [hk0]; decide
    have e9 : (-1000001) = x := by rw [← hx9, hk0]; unfold w1; rw [if_neg (by decide)]
    have hP : va_P D vwCl (wC cy ad σ') H := by rw [← hs9, if_neg hn0]; exact hP
    exact W.iret (v := (-1000001)) hx hb hr (fun t ht hW => ⟨⟨_, (), rfl, e9, by rw [← ht] at hP; exact hP⟩, hS.F ht⟩) hS.2.2 dL_dropImage_10
  · obtain ⟨hk0, hP⟩ := hP
    have hP : va_P D vwCl (wC cy ad σ') H := by rw [← hs9, if_pos hk0]; exact hP
    refine W.eq (g2 := F0 m 5 ls []) rfl ?_
    refine lv_iconst (v := 0) hx hb dL_dropImage_5 (by decide) ?_
    have e9 : 0 = x := by rw [← hx9, hk0]; unfold w1; rw [if_pos rfl]
    exact W.iret (v := 0) hx hb hr (fun t ht hW => ⟨⟨_, (), rfl, e9, by rw [← ht] at hP; exact hP⟩, hS.F ht⟩) hS.2.2 dL_dropImage_6
set_option maxHeartbeats 4000000 in
set_option maxRecDepth 100000 in
theorem c_L_setBatch (l : Launch) (hst : l.stackTraces = false) (D : va_G) (cy : Nat → ClassId) (ad : Nat → Nat) (hj : inj31 ad) (σ : Mem) (sz : Nat) (za zb : Int32) (x : Int32) (hx9 : w12 (kSetBatch za zb) (rSetBatch σ za) = x) (σ' : Mem) (hs9 : (if kSetBatch za zb = 0 then gSetBatch σ za zb else σ) = σ') : Met l yL_setBatch wsL_setBatch ({ frames := 8, cells := 1, slots := 6, locals := 137 }) (va_Pc [.ref (ad 0), .int za, .int zb] (cx D cy ad σ sz)) (QI x (fun H => va_P D vwCl (wC cy ad σ') H) (AC ad)) 1 6 (AC ad) := by
  refine metWH (cc := cL_setBatch) (maxL := 4) (ret := (some .int)) (hh := [(0, 6, 7, 16), (0, 6, 11, 19)]) (by decide) rfl ?_
  intro p e s m args below meth c s₁ B hml hv
  obtain ⟨rfl, ⟨hP, hK⟩, hxk⟩ := hv
  have hx := B.exec
  have hb := B.bytes
  have hr := B.returns
  have hts := atoms_spec (ws := wsL_setBatch) B.pre
  have hown : s.vm.findClass RL = some m.cls := findClass_of_methodNamed B.named
  have hT := vx_table (x := yL_setBatch) B (hts (.codeWith yL_setBatch cL_setBatch 4 (some .int) [(0, 6, 7, 16), (0, 6, 11, 19)]) List.mem_cons_self)
  have hS : va_S (AC ad) s.heap s.heap [] := va_S.rf
  have hl := lv_entry ([.ref (ad 0), .int za, .int zb]) (n := 4) (Nat.le_of_ble_eq_true rfl)
  rw [lg_entry_eq]
  generalize (lg_sl ([.ref (ad 0), .int za, .int zb]) ++ List.replicate (4 - (lg_sl ([.ref (ad 0), .int za, .int zb])).length) Slot.unset).toArray = ls at hl ⊢
  have hl : lv_has ls 4 [(0, .ref (ad 0)), (1, .int za), (2, .int zb)] := hl
  refine lv_aload_n hx hb dL_setBatch_0 rfl (lv_at hl 0 rfl) ?_
  refine lv_iload_n hx hb dL_setBatch_1 rfl (lv_at hl 1 rfl) ?_
  refine lv_iload_n hx hb dL_setBatch_2 rfl (lv_at hl 2 rfl) ?_
  refine xMiA (fun _ h => h) (vx_runV (As := [.int za, .int zb]) (rest := []) ⟨hx, hb, hml, hown, hts⟩ (c_X3_setBatch l hst D cy ad hj σ sz za zb) (cwV 2 hts gL_setBatch_X3_setBatch rfl rfl rfl (by decide +kernel) ⟨Nat.le_of_ble_eq_true rfl, Nat.le_of_ble_eq_true rfl⟩) ⟨cx_bl, cw_F hP hK, cx_at hP hK hxk⟩ rfl rfl hl.1 rfl (lv_room (Nat.le_of_ble_eq_true rfl)) dL_setBatch_3 ⟨Nat.le_of_ble_eq_true rfl, Nat.le_of_ble_eq_true rfl⟩) hS (fun E ce q9 H locs hE hS hz hk h3 h4 h5 => ?_) (fun H locs hP hS hz hk => ?_)
  · have hP := hP.grown hk
    rcases (show ex12 _ _ from hE) with ⟨rfl, hk0⟩ | ⟨rfl, hk0⟩
    · refine vx_catch (name := "java/lang/IndexOutOfBoundsException") hown [] ⟨0, 6, 7, 16⟩ [⟨0, 6, 11, 19⟩] (hT.trans rfl) (fun _ h => nomatch h) rfl (by decide) (hts (.classLink RL 16 "java/lang/IndexOutOfBoundsException") (by decide +kernel)) (va_Nw.use rfl (hxk.2.2.1 (.castable "java/lang/IndexOutOfBoundsException" "java/lang/IndexOutOfBoundsException") (by decide +kernel))) h3 h4 h5 ?_
      refine lv_astore_n (lv' := [(3, .ref q9), (0, .ref (ad 0)), (1, .int za), (2, .int zb)]) hx hb dL_setBatch_7 rfl hl (by decide) rfl (fun ls hl => ?_)
      refine lv_ldc (v := (-1000001)) hx hb hown (hts (.constant RL 18 (-1000001)) (by decide +kernel)) dL_setBatch_8 ?_
      have hn0 : ¬ kSetBatch za zb = 0 := by rw [hk0]; decide
      have e9 : (-1000001) = x := by rw [← hx9, hk0]; unfold w12; rw [if_neg (by decide), if_pos rfl]
      have hP : va_P D vwCl (wC cy ad σ') H := by rw [← hs9, if_neg hn0]; exact hP
      exact W.iret (v := (-1000001)) hx hb hr (fun t ht hW => ⟨⟨_, (), rfl, e9, by rw [← ht] at hP; exact hP⟩, hS.F ht⟩) hS.2.2 dL_setBatch_10
    · refine vx_catch (name := "java/lang/IllegalArgumentException") hown [⟨0, 6, 7, 16⟩] ⟨0, 6, 11, 19⟩ [] (hT.trans rfl) (fun z hz9 => by rw [List.mem_singleton.mp hz9]; exact Or.inr ⟨by decide, "java/lang/IndexOutOfBoundsException", hts (.classLink RL 16 "java/lang/IndexOutOfBoundsException") (by decide +kernel), hxk.2.2.2.1 ("java/lang/IllegalArgumentException", "java/lang/IndexOutOfBoundsException") (by decide +kernel)⟩) rfl (by decide) (hts (.classLink RL 19 "java/lang/IllegalArgumentException") (by decide +kernel)) (va_Nw.use rfl (hxk.2.2.1 (.castable "java/lang/IllegalArgumentException" "java/lang/IllegalArgumentException") (by decide +kernel))) h3 h4 h5 ?_
      refine lv_astore_n (lv' := [(3, .ref q9), (0, .ref (ad 0)), (1, .int za), (2, .int zb)]) hx hb dL_setBatch_11 rfl hl (by decide) rfl (fun ls hl => ?_)
      refine lv_ldc (v := (-1000002)) hx hb hown (hts (.constant RL 21 (-1000002)) (by decide +kernel)) dL_setBatch_12 ?_
      have hn0 : ¬ kSetBatch za zb = 0 := by rw [hk0]; decide
      have e9 : (-1000002) = x := by rw [← hx9, hk0]; unfold w12; rw [if_neg (by decide), if_neg (by decide)]
      have hP : va_P D vwCl (wC cy ad σ') H := by rw [← hs9, if_neg hn0]; exact hP
      exact W.iret (v := (-1000002)) hx hb hr (fun t ht hW => ⟨⟨_, (), rfl, e9, by rw [← ht] at hP; exact hP⟩, hS.F ht⟩) hS.2.2 dL_setBatch_14
  · obtain ⟨hk0, hP⟩ := hP
    have hP : va_P D vwCl (wC cy ad σ') H := by rw [← hs9, if_pos hk0]; exact hP
    refine W.eq (g2 := F0 m 6 ls [.int (rSetBatch σ za)]) rfl ?_
    have e9 : rSetBatch σ za = x := by rw [← hx9, hk0]; unfold w12; rw [if_pos rfl]
    exact W.iret (v := rSetBatch σ za) hx hb hr (fun t ht hW => ⟨⟨_, (), rfl, e9, by rw [← ht] at hP; exact hP⟩, hS.F ht⟩) hS.2.2 dL_setBatch_6
set_option maxHeartbeats 4000000 in
set_option maxRecDepth 100000 in
theorem c_L_setRetries (l : Launch) (hst : l.stackTraces = false) (D : va_G) (cy : Nat → ClassId) (ad : Nat → Nat) (hj : inj31 ad) (σ : Mem) (sz : Nat) (za zb : Int32) (x : Int32) (hx9 : w2 (kSetRetries za zb) (0) = x) (σ' : Mem) (hs9 : (if kSetRetries za zb = 0 then gSetRetries σ za zb else σ) = σ') : Met l yL_setRetries wsL_setRetries ({ frames := 8, cells := 2, slots := 12, locals := 136 }) (va_Pc [.ref (ad 0), .int za, .int zb] (cx D cy ad σ sz)) (QI x (fun H => va_P D vwCl (wC cy ad σ') H) (AC ad)) 2 12 (AC ad) := by
  refine metWH (cc := cL_setRetries) (maxL := 4) (ret := (some .int)) (hh := [(0, 7, 8, 19)]) (by decide) rfl ?_
  intro p e s m args below meth c s₁ B hml hv
  obtain ⟨rfl, ⟨hP, hK⟩, hxk⟩ := hv
  have hx := B.exec
  have hb := B.bytes
  have hr := B.returns
  have hts := atoms_spec (ws := wsL_setRetries) B.pre
  have hown : s.vm.findClass RL = some m.cls := findClass_of_methodNamed B.named
  have hT := vx_table (x := yL_setRetries) B (hts (.codeWith yL_setRetries cL_setRetries 4 (some .int) [(0, 7, 8, 19)]) List.mem_cons_self)
  have hS : va_S (AC ad) s.heap s.heap [] := va_S.rf
  have hl := lv_entry ([.ref (ad 0), .int za, .int zb]) (n := 4) (Nat.le_of_ble_eq_true rfl)
  rw [lg_entry_eq]
  generalize (lg_sl ([.ref (ad 0), .int za, .int zb]) ++ List.replicate (4 - (lg_sl ([.ref (ad 0), .int za, .int zb])).length) Slot.unset).toArray = ls at hl ⊢
  have hl : lv_has ls 4 [(0, .ref (ad 0)), (1, .int za), (2, .int zb)] := hl
  refine lv_aload_n hx hb dL_setRetries_0 rfl (lv_at hl 0 rfl) ?_
  refine lv_iload_n hx hb dL_setRetries_1 rfl (lv_at hl 1 rfl) ?_
  refine lv_iload_n hx hb dL_setRetries_2 rfl (lv_at hl 2 rfl) ?_
  refine xMvA (fun _ h => h) (vx_runV (As := [.int za, .int zb]) (rest := []) ⟨hx, hb, hml, hown, hts⟩ (c_X3_setRetries l hst D cy ad hj σ sz za zb) (cwV 2 hts gL_setRetries_X3_setRetries rfl rfl rfl (by decide +kernel) ⟨Nat.le_of_ble_eq_true rfl, Nat.le_of_ble_eq_true rfl⟩) ⟨cx_bl, cw_F hP hK, cx_at hP hK hxk⟩ rfl rfl hl.1 rfl (lv_room (Nat.le_of_ble_eq_true rfl)) dL_setRetries_3 ⟨Nat.le_of_ble_eq_true rfl, Nat.le_of_ble_eq_true rfl⟩) hS (fun E ce q9 H locs hE hS hz hk h3 h4 h5 => ?_) (fun H locs hP hS hz hk => ?_)
  · have hP := hP.grown hk
    obtain ⟨rfl, hk0⟩ := hE
    refine vx_catch (name := "java/lang/IllegalArgumentException") hown [] ⟨0, 7, 8, 19⟩ [] (hT.trans rfl) (fun _ h => nomatch h) rfl (by decide) (hts (.classLink RL 19 "java/lang/IllegalArgumentException") (by decide +kernel)) (va_Nw.use rfl (hxk.2.2.1 (.castable "java/lang/IllegalArgumentException" "java/lang/IllegalArgumentException") (by decide +kernel))) h3 h4 h5 ?_
    refine lv_astore_n (lv' := [(3, .ref q9), (0, .ref (ad 0)), (1, .int za), (2, .int zb)]) hx hb dL_setRetries_8 rfl hl (by decide) rfl (fun ls hl => ?_)
    refine lv_ldc (v := (-1000002)) hx hb hown (hts (.constant RL 21 (-1000002)) (by decide +kernel)) dL_setRetries_9 ?_
    have hn0 : ¬ kSetRetries za zb = 0 := by rw [hk0]; decide
    have e9 : (-1000002) = x := by rw [← hx9, hk0]; unfold w2; rw [if_neg (by decide)]
    have hP : va_P D vwCl (wC cy ad σ') H := by rw [← hs9, if_neg hn0]; exact hP
    exact W.iret (v := (-1000002)) hx hb hr (fun t ht hW => ⟨⟨_, (), rfl, e9, by rw [← ht] at hP; exact hP⟩, hS.F ht⟩) hS.2.2 dL_setRetries_11
  · obtain ⟨hk0, hP⟩ := hP
    have hP : va_P D vwCl (wC cy ad σ') H := by rw [← hs9, if_pos hk0]; exact hP
    refine W.eq (g2 := F0 m 6 ls []) rfl ?_
    refine lv_iconst (v := 0) hx hb dL_setRetries_6 (by decide) ?_
    have e9 : 0 = x := by rw [← hx9, hk0]; unfold w2; rw [if_pos rfl]
    exact W.iret (v := 0) hx hb hr (fun t ht hW => ⟨⟨_, (), rfl, e9, by rw [← ht] at hP; exact hP⟩, hS.F ht⟩) hS.2.2 dL_setRetries_7
set_option maxHeartbeats 4000000 in
set_option maxRecDepth 100000 in
theorem c_L_report (l : Launch) (hst : l.stackTraces = false) (D : va_G) (cy : Nat → ClassId) (ad : Nat → Nat) (hj : inj31 ad) (σ : Mem) (sz : Nat) (za zb zc zd ze : Int32) (x : Int32) (hx9 : w12 (kReport za zb zc zd ze) (rReport σ za zb zc zd ze) = x) (σ' : Mem) (hs9 : (if kReport za zb zc zd ze = 0 then gReport σ za zb zc zd ze else σ) = σ') : Met l yL_report wsL_report ({ frames := 8, cells := 5, slots := 30, locals := 141 }) (va_Pc [.ref (ad 0), .int za, .int zb, .int zc, .int zd, .int ze] (cx D cy ad σ sz)) (QI x (fun H => va_P D vwCl (wC cy ad σ') H) (AC ad)) 5 30 (AC ad) := by
  refine metWH (cc := cL_report) (maxL := 7) (ret := (some .int)) (hh := [(0, 11, 12, 16), (0, 11, 17, 19)]) (by decide) rfl ?_
  intro p e s m args below meth c s₁ B hml hv
  obtain ⟨rfl, ⟨hP, hK⟩, hxk⟩ := hv
  have hx := B.exec
  have hb := B.bytes
  have hr := B.returns
  have hts := atoms_spec (ws := wsL_report) B.pre
  have hown : s.vm.findClass RL = some m.cls := findClass_of_methodNamed B.named
  have hT := vx_table (x := yL_report) B (hts (.codeWith yL_report cL_report 7 (some .int) [(0, 11, 12, 16), (0, 11, 17, 19)]) List.mem_cons_self)
  have hS : va_S (AC ad) s.heap s.heap [] := va_S.rf
  have hl := lv_entry ([.ref (ad 0), .int za, .int zb, .int zc, .int zd, .int ze]) (n := 7) (Nat.le_of_ble_eq_true rfl)
  rw [lg_entry_eq]
  generalize (lg_sl ([.ref (ad 0), .int za, .int zb, .int zc, .int zd, .int ze]) ++ List.replicate (7 - (lg_sl ([.ref (ad 0), .int za, .int zb, .int zc, .int zd, .int ze])).length) Slot.unset).toArray = ls at hl ⊢
  have hl : lv_has ls 7 [(0, .ref (ad 0)), (1, .int za), (2, .int zb), (3, .int zc), (4, .int zd), (5, .int ze)] := hl
  refine lv_aload_n hx hb dL_report_0 rfl (lv_at hl 0 rfl) ?_
  refine lv_iload_n hx hb dL_report_1 rfl (lv_at hl 1 rfl) ?_
  refine lv_iload_n hx hb dL_report_2 rfl (lv_at hl 2 rfl) ?_
  refine lv_iload_n hx hb dL_report_3 rfl (lv_at hl 3 rfl) ?_
  refine lv_iload hx hb dL_report_4 (lv_at hl 4 rfl) ?_
  refine lv_iload hx hb dL_report_6 (lv_at hl 5 rfl) ?_
  refine xMiA (fun _ h => h) (vx_runV (As := [.int za, .int zb, .int zc, .int zd, .int ze]) (rest := []) ⟨hx, hb, hml, hown, hts⟩ (c_X3_report l hst D cy ad hj σ sz za zb zc zd ze) (cwV 5 hts gL_report_X3_report rfl rfl rfl (by decide +kernel) ⟨Nat.le_of_ble_eq_true rfl, Nat.le_of_ble_eq_true rfl⟩) ⟨cx_bl, cw_F hP hK, cx_at hP hK hxk⟩ rfl rfl hl.1 rfl (lv_room (Nat.le_of_ble_eq_true rfl)) dL_report_8 ⟨Nat.le_of_ble_eq_true rfl, Nat.le_of_ble_eq_true rfl⟩) hS (fun E ce q9 H locs hE hS hz hk h3 h4 h5 => ?_) (fun H locs hP hS hz hk => ?_)
  · have hP := hP.grown hk
    rcases (show ex12 _ _ from hE) with ⟨rfl, hk0⟩ | ⟨rfl, hk0⟩
    · refine vx_catch (name := "java/lang/IndexOutOfBoundsException") hown [] ⟨0, 11, 12, 16⟩ [⟨0, 11, 17, 19⟩] (hT.trans rfl) (fun _ h => nomatch h) rfl (by decide) (hts (.classLink RL 16 "java/lang/IndexOutOfBoundsException") (by decide +kernel)) (va_Nw.use rfl (hxk.2.2.1 (.castable "java/lang/IndexOutOfBoundsException" "java/lang/IndexOutOfBoundsException") (by decide +kernel))) h3 h4 h5 ?_
      refine lv_astore (lv' := [(6, .ref q9), (0, .ref (ad 0)), (1, .int za), (2, .int zb), (3, .int zc), (4, .int zd), (5, .int ze)]) hx hb dL_report_12 hl (by decide) rfl (fun ls hl => ?_)
      refine lv_ldc (v := (-1000001)) hx hb hown (hts (.constant RL 18 (-1000001)) (by decide +kernel)) dL_report_14 ?_
      have hn0 : ¬ kReport za zb zc zd ze = 0 := by rw [hk0]; decide
      have e9 : (-1000001) = x := by rw [← hx9, hk0]; unfold w12; rw [if_neg (by decide), if_pos rfl]
      have hP : va_P D vwCl (wC cy ad σ') H := by rw [← hs9, if_neg hn0]; exact hP
      exact W.iret (v := (-1000001)) hx hb hr (fun t ht hW => ⟨⟨_, (), rfl, e9, by rw [← ht] at hP; exact hP⟩, hS.F ht⟩) hS.2.2 dL_report_16
    · refine vx_catch (name := "java/lang/IllegalArgumentException") hown [⟨0, 11, 12, 16⟩] ⟨0, 11, 17, 19⟩ [] (hT.trans rfl) (fun z hz9 => by rw [List.mem_singleton.mp hz9]; exact Or.inr ⟨by decide, "java/lang/IndexOutOfBoundsException", hts (.classLink RL 16 "java/lang/IndexOutOfBoundsException") (by decide +kernel), hxk.2.2.2.1 ("java/lang/IllegalArgumentException", "java/lang/IndexOutOfBoundsException") (by decide +kernel)⟩) rfl (by decide) (hts (.classLink RL 19 "java/lang/IllegalArgumentException") (by decide +kernel)) (va_Nw.use rfl (hxk.2.2.1 (.castable "java/lang/IllegalArgumentException" "java/lang/IllegalArgumentException") (by decide +kernel))) h3 h4 h5 ?_
      refine lv_astore (lv' := [(6, .ref q9), (0, .ref (ad 0)), (1, .int za), (2, .int zb), (3, .int zc), (4, .int zd), (5, .int ze)]) hx hb dL_report_17 hl (by decide) rfl (fun ls hl => ?_)
      refine lv_ldc (v := (-1000002)) hx hb hown (hts (.constant RL 21 (-1000002)) (by decide +kernel)) dL_report_19 ?_
      have hn0 : ¬ kReport za zb zc zd ze = 0 := by rw [hk0]; decide
      have e9 : (-1000002) = x := by rw [← hx9, hk0]; unfold w12; rw [if_neg (by decide), if_neg (by decide)]
      have hP : va_P D vwCl (wC cy ad σ') H := by rw [← hs9, if_neg hn0]; exact hP
      exact W.iret (v := (-1000002)) hx hb hr (fun t ht hW => ⟨⟨_, (), rfl, e9, by rw [← ht] at hP; exact hP⟩, hS.F ht⟩) hS.2.2 dL_report_21
  · obtain ⟨hk0, hP⟩ := hP
    have hP : va_P D vwCl (wC cy ad σ') H := by rw [← hs9, if_pos hk0]; exact hP
    refine W.eq (g2 := F0 m 11 ls [.int (rReport σ za zb zc zd ze)]) rfl ?_
    have e9 : rReport σ za zb zc zd ze = x := by rw [← hx9, hk0]; unfold w12; rw [if_pos rfl]
    exact W.iret (v := rReport σ za zb zc zd ze) hx hb hr (fun t ht hW => ⟨⟨_, (), rfl, e9, by rw [← ht] at hP; exact hP⟩, hS.F ht⟩) hS.2.2 dL_report_11
set_option maxHeartbeats 4000000 in
set_option maxRecDepth 100000 in
theorem c_L_order (l : Launch) (hst : l.stackTraces = false) (D : va_G) (cy : Nat → ClassId) (ad : Nat → Nat) (hj : inj31 ad) (σ : Mem) (sz : Nat) (za : Int32) (x : Int32) (hx9 : w13 (kOrder σ za) (rOrder σ za) = x) (σ' : Mem) (hs9 : (if kOrder σ za = 0 then gOrder σ za else σ) = σ') : Met l yL_order wsL_order ({ frames := 8, cells := 2, slots := 12, locals := 136 }) (va_Pc [.ref (ad 0), .int za] (cx D cy ad σ sz)) (QI x (fun H => va_P D vwCl (wC cy ad σ') H) (AC ad)) 2 12 (AC ad) := by
  refine metWH (cc := cL_order) (maxL := 3) (ret := (some .int)) (hh := [(0, 5, 6, 16), (0, 5, 10, 45)]) (by decide) rfl ?_
  intro p e s m args below meth c s₁ B hml hv
  obtain ⟨rfl, ⟨hP, hK⟩, hxk⟩ := hv
  have hx := B.exec
  have hb := B.bytes
  have hr := B.returns
  have hts := atoms_spec (ws := wsL_order) B.pre
  have hown : s.vm.findClass RL = some m.cls := findClass_of_methodNamed B.named
  have hT := vx_table (x := yL_order) B (hts (.codeWith yL_order cL_order 3 (some .int) [(0, 5, 6, 16), (0, 5, 10, 45)]) List.mem_cons_self)
  have hS : va_S (AC ad) s.heap s.heap [] := va_S.rf
  have hl := lv_entry ([.ref (ad 0), .int za]) (n := 3) (Nat.le_of_ble_eq_true rfl)
  rw [lg_entry_eq]
  generalize (lg_sl ([.ref (ad 0), .int za]) ++ List.replicate (3 - (lg_sl ([.ref (ad 0), .int za])).length) Slot.unset).toArray = ls at hl ⊢
  have hl : lv_has ls 3 [(0, .ref (ad 0)), (1, .int za)] := hl
  refine lv_aload_n hx hb dL_order_0 rfl (lv_at hl 0 rfl) ?_
  refine lv_iload_n hx hb dL_order_1 rfl (lv_at hl 1 rfl) ?_
  refine xMiA (fun _ h => h) (vx_runV (As := [.int za]) (rest := []) ⟨hx, hb, hml, hown, hts⟩ (c_X3_order l hst D cy ad hj σ sz za) (cwV 1 hts gL_order_X3_order rfl rfl rfl (by decide +kernel) ⟨Nat.le_of_ble_eq_true rfl, Nat.le_of_ble_eq_true rfl⟩) ⟨cx_bl, cw_F hP hK, cx_at hP hK hxk⟩ rfl rfl hl.1 rfl (lv_room (Nat.le_of_ble_eq_true rfl)) dL_order_2 ⟨Nat.le_of_ble_eq_true rfl, Nat.le_of_ble_eq_true rfl⟩) hS (fun E ce q9 H locs hE hS hz hk h3 h4 h5 => ?_) (fun H locs hP hS hz hk => ?_)
  · have hP := hP.grown hk
    rcases (show ex13 _ _ from hE) with ⟨rfl, hk0⟩ | ⟨rfl, hk0⟩
    · refine vx_catch (name := "java/lang/IndexOutOfBoundsException") hown [] ⟨0, 5, 6, 16⟩ [⟨0, 5, 10, 45⟩] (hT.trans rfl) (fun _ h => nomatch h) rfl (by decide) (hts (.classLink RL 16 "java/lang/IndexOutOfBoundsException") (by decide +kernel)) (va_Nw.use rfl (hxk.2.2.1 (.castable "java/lang/IndexOutOfBoundsException" "java/lang/IndexOutOfBoundsException") (by decide +kernel))) h3 h4 h5 ?_
      refine lv_astore_n (lv' := [(2, .ref q9), (0, .ref (ad 0)), (1, .int za)]) hx hb dL_order_6 rfl hl (by decide) rfl (fun ls hl => ?_)
      refine lv_ldc (v := (-1000001)) hx hb hown (hts (.constant RL 18 (-1000001)) (by decide +kernel)) dL_order_7 ?_
      have hn0 : ¬ kOrder σ za = 0 := by rw [hk0]; decide
      have e9 : (-1000001) = x := by rw [← hx9, hk0]; unfold w13; rw [if_neg (by decide), if_pos rfl]
      have hP : va_P D vwCl (wC cy ad σ') H := by rw [← hs9, if_neg hn0]; exact hP
      exact W.iret (v := (-1000001)) hx hb hr (fun t ht hW => ⟨⟨_, (), rfl, e9, by rw [← ht] at hP; exact hP⟩, hS.F ht⟩) hS.2.2 dL_order_9
    · refine vx_catch (name := "java/lang/IllegalStateException") hown [⟨0, 5, 6, 16⟩] ⟨0, 5, 10, 45⟩ [] (hT.trans rfl) (fun z hz9 => by rw [List.mem_singleton.mp hz9]; exact Or.inr ⟨by decide, "java/lang/IndexOutOfBoundsException", hts (.classLink RL 16 "java/lang/IndexOutOfBoundsException") (by decide +kernel), hxk.2.2.2.1 ("java/lang/IllegalStateException", "java/lang/IndexOutOfBoundsException") (by decide +kernel)⟩) rfl (by decide) (hts (.classLink RL 45 "java/lang/IllegalStateException") (by decide +kernel)) (va_Nw.use rfl (hxk.2.2.1 (.castable "java/lang/IllegalStateException" "java/lang/IllegalStateException") (by decide +kernel))) h3 h4 h5 ?_
      refine lv_astore_n (lv' := [(2, .ref q9), (0, .ref (ad 0)), (1, .int za)]) hx hb dL_order_10 rfl hl (by decide) rfl (fun ls hl => ?_)
      refine lv_ldc (v := (-1000003)) hx hb hown (hts (.constant RL 47 (-1000003)) (by decide +kernel)) dL_order_11 ?_
      have hn0 : ¬ kOrder σ za = 0 := by rw [hk0]; decide
      have e9 : (-1000003) = x := by rw [← hx9, hk0]; unfold w13; rw [if_neg (by decide), if_neg (by decide)]
      have hP : va_P D vwCl (wC cy ad σ') H := by rw [← hs9, if_neg hn0]; exact hP
      exact W.iret (v := (-1000003)) hx hb hr (fun t ht hW => ⟨⟨_, (), rfl, e9, by rw [← ht] at hP; exact hP⟩, hS.F ht⟩) hS.2.2 dL_order_13
  · obtain ⟨hk0, hP⟩ := hP
    have hP : va_P D vwCl (wC cy ad σ') H := by rw [← hs9, if_pos hk0]; exact hP
    refine W.eq (g2 := F0 m 5 ls [.int (rOrder σ za)]) rfl ?_
    have e9 : rOrder σ za = x := by rw [← hx9, hk0]; unfold w13; rw [if_pos rfl]
    exact W.iret (v := rOrder σ za) hx hb hr (fun t ht hW => ⟨⟨_, (), rfl, e9, by rw [← ht] at hP; exact hP⟩, hS.F ht⟩) hS.2.2 dL_order_5
set_option maxHeartbeats 4000000 in
set_option maxRecDepth 100000 in
theorem c_L_cancel (l : Launch) (hst : l.stackTraces = false) (D : va_G) (cy : Nat → ClassId) (ad : Nat → Nat) (hj : inj31 ad) (σ : Mem) (sz : Nat) (za : Int32) (x : Int32) (hx9 : w13 (kCancel σ za) (0) = x) (σ' : Mem) (hs9 : (if kCancel σ za = 0 then gCancel σ za else σ) = σ') : Met l yL_cancel wsL_cancel ({ frames := 8, cells := 2, slots := 12, locals := 136 }) (va_Pc [.ref (ad 0), .int za] (cx D cy ad σ sz)) (QI x (fun H => va_P D vwCl (wC cy ad σ') H) (AC ad)) 2 12 (AC ad) := by
  refine metWH (cc := cL_cancel) (maxL := 3) (ret := (some .int)) (hh := [(0, 6, 7, 16), (0, 6, 11, 45)]) (by decide) rfl ?_
  intro p e s m args below meth c s₁ B hml hv
  obtain ⟨rfl, ⟨hP, hK⟩, hxk⟩ := hv
  have hx := B.exec
  have hb := B.bytes
  have hr := B.returns
  have hts := atoms_spec (ws := wsL_cancel) B.pre
  have hown : s.vm.findClass RL = some m.cls := findClass_of_methodNamed B.named
  have hT := vx_table (x := yL_cancel) B (hts (.codeWith yL_cancel cL_cancel 3 (some .int) [(0, 6, 7, 16), (0, 6, 11, 45)]) List.mem_cons_self)
  have hS : va_S (AC ad) s.heap s.heap [] := va_S.rf
  have hl := lv_entry ([.ref (ad 0), .int za]) (n := 3) (Nat.le_of_ble_eq_true rfl)
  rw [lg_entry_eq]
  generalize (lg_sl ([.ref (ad 0), .int za]) ++ List.replicate (3 - (lg_sl ([.ref (ad 0), .int za])).length) Slot.unset).toArray = ls at hl ⊢
  have hl : lv_has ls 3 [(0, .ref (ad 0)), (1, .int za)] := hl
  refine lv_aload_n hx hb dL_cancel_0 rfl (lv_at hl 0 rfl) ?_
  refine lv_iload_n hx hb dL_cancel_1 rfl (lv_at hl 1 rfl) ?_
  refine xMvA (fun _ h => h) (vx_runV (As := [.int za]) (rest := []) ⟨hx, hb, hml, hown, hts⟩ (c_X3_cancel l hst D cy ad hj σ sz za) (cwV 1 hts gL_cancel_X3_cancel rfl rfl rfl (by decide +kernel) ⟨Nat.le_of_ble_eq_true rfl, Nat.le_of_ble_eq_true rfl⟩) ⟨cx_bl, cw_F hP hK, cx_at hP hK hxk⟩ rfl rfl hl.1 rfl (lv_room (Nat.le_of_ble_eq_true rfl)) dL_cancel_2 ⟨Nat.le_of_ble_eq_true rfl, Nat.le_of_ble_eq_true rfl⟩) hS (fun E ce q9 H locs hE hS hz hk h3 h4 h5 => ?_) (fun H locs hP hS hz hk => ?_)
  · have hP := hP.grown hk
    rcases (show ex13 _ _ from hE) with ⟨rfl, hk0⟩ | ⟨rfl, hk0⟩
    · refine vx_catch (name := "java/lang/IndexOutOfBoundsException") hown [] ⟨0, 6, 7, 16⟩ [⟨0, 6, 11, 45⟩] (hT.trans rfl) (fun _ h => nomatch h) rfl (by decide) (hts (.classLink RL 16 "java/lang/IndexOutOfBoundsException") (by decide +kernel)) (va_Nw.use rfl (hxk.2.2.1 (.castable "java/lang/IndexOutOfBoundsException" "java/lang/IndexOutOfBoundsException") (by decide +kernel))) h3 h4 h5 ?_
      refine lv_astore_n (lv' := [(2, .ref q9), (0, .ref (ad 0)), (1, .int za)]) hx hb dL_cancel_7 rfl hl (by decide) rfl (fun ls hl => ?_)
      refine lv_ldc (v := (-1000001)) hx hb hown (hts (.constant RL 18 (-1000001)) (by decide +kernel)) dL_cancel_8 ?_
      have hn0 : ¬ kCancel σ za = 0 := by rw [hk0]; decide
      have e9 : (-1000001) = x := by rw [← hx9, hk0]; unfold w13; rw [if_neg (by decide), if_pos rfl]
      have hP : va_P D vwCl (wC cy ad σ') H := by rw [← hs9, if_neg hn0]; exact hP
      exact W.iret (v := (-1000001)) hx hb hr (fun t ht hW => ⟨⟨_, (), rfl, e9, by rw [← ht] at hP; exact hP⟩, hS.F ht⟩) hS.2.2 dL_cancel_10
    · refine vx_catch (name := "java/lang/IllegalStateException") hown [⟨0, 6, 7, 16⟩] ⟨0, 6, 11, 45⟩ [] (hT.trans rfl) (fun z hz9 => by rw [List.mem_singleton.mp hz9]; exact Or.inr ⟨by decide, "java/lang/IndexOutOfBoundsException", hts (.classLink RL 16 "java/lang/IndexOutOfBoundsException") (by decide +kernel), hxk.2.2.2.1 ("java/lang/IllegalStateException", "java/lang/IndexOutOfBoundsException") (by decide +kernel)⟩) rfl (by decide) (hts (.classLink RL 45 "java/lang/IllegalStateException") (by decide +kernel)) (va_Nw.use rfl (hxk.2.2.1 (.castable "java/lang/IllegalStateException" "java/lang/IllegalStateException") (by decide +kernel))) h3 h4 h5 ?_
      refine lv_astore_n (lv' := [(2, .ref q9), (0, .ref (ad 0)), (1, .int za)]) hx hb dL_cancel_11 rfl hl (by decide) rfl (fun ls hl => ?_)
      refine lv_ldc (v := (-1000003)) hx hb hown (hts (.constant RL 47 (-1000003)) (by decide +kernel)) dL_cancel_12 ?_
      have hn0 : ¬ kCancel σ za = 0 := by rw [hk0]; decide
      have e9 : (-1000003) = x := by rw [← hx9, hk0]; unfold w13; rw [if_neg (by decide), if_neg (by decide)]
      have hP : va_P D vwCl (wC cy ad σ') H := by rw [← hs9, if_neg hn0]; exact hP
      exact W.iret (v := (-1000003)) hx hb hr (fun t ht hW => ⟨⟨_, (), rfl, e9, by rw [← ht] at hP; exact hP⟩, hS.F ht⟩) hS.2.2 dL_cancel_14
  · obtain ⟨hk0, hP⟩ := hP
    have hP : va_P D vwCl (wC cy ad σ') H := by rw [← hs9, if_pos hk0]; exact hP
    refine W.eq (g2 := F0 m 5 ls []) rfl ?_
    refine lv_iconst (v := 0) hx hb dL_cancel_5 (by decide) ?_
    have e9 : 0 = x := by rw [← hx9, hk0]; unfold w13; rw [if_pos rfl]
    exact W.iret (v := 0) hx hb hr (fun t ht hW => ⟨⟨_, (), rfl, e9, by rw [← ht] at hP; exact hP⟩, hS.F ht⟩) hS.2.2 dL_cancel_6
set_option maxHeartbeats 4000000 in
set_option maxRecDepth 100000 in
theorem c_L_finish (l : Launch) (hst : l.stackTraces = false) (D : va_G) (cy : Nat → ClassId) (ad : Nat → Nat) (hj : inj31 ad) (σ : Mem) (sz : Nat) (za : Int32) (gd : Bool) (x : Int32) (hx9 : w13 (kFinish σ za) (rFinish σ za gd) = x) (σ' : Mem) (hs9 : (if kFinish σ za = 0 then gFinish σ za gd else σ) = σ') : Met l yL_finish wsL_finish ({ frames := 8, cells := 2, slots := 12, locals := 137 }) (va_Pc [.ref (ad 0), .int za, .int (b2i gd)] (cx D cy ad σ sz)) (QI x (fun H => va_P D vwCl (wC cy ad σ') H) (AC ad)) 2 12 (AC ad) := by
  refine metWH (cc := cL_finish) (maxL := 4) (ret := (some .int)) (hh := [(0, 6, 7, 16), (0, 6, 11, 45)]) (by decide) rfl ?_
  intro p e s m args below meth c s₁ B hml hv
  obtain ⟨rfl, ⟨hP, hK⟩, hxk⟩ := hv
  have hx := B.exec
  have hb := B.bytes
  have hr := B.returns
  have hts := atoms_spec (ws := wsL_finish) B.pre
  have hown : s.vm.findClass RL = some m.cls := findClass_of_methodNamed B.named
  have hT := vx_table (x := yL_finish) B (hts (.codeWith yL_finish cL_finish 4 (some .int) [(0, 6, 7, 16), (0, 6, 11, 45)]) List.mem_cons_self)
  have hS : va_S (AC ad) s.heap s.heap [] := va_S.rf
  have hl := lv_entry ([.ref (ad 0), .int za, .int (b2i gd)]) (n := 4) (Nat.le_of_ble_eq_true rfl)
  rw [lg_entry_eq]
  generalize (lg_sl ([.ref (ad 0), .int za, .int (b2i gd)]) ++ List.replicate (4 - (lg_sl ([.ref (ad 0), .int za, .int (b2i gd)])).length) Slot.unset).toArray = ls at hl ⊢
  have hl : lv_has ls 4 [(0, .ref (ad 0)), (1, .int za), (2, .int (b2i gd))] := hl
  refine lv_aload_n hx hb dL_finish_0 rfl (lv_at hl 0 rfl) ?_
  refine lv_iload_n hx hb dL_finish_1 rfl (lv_at hl 1 rfl) ?_
  refine lv_iload_n hx hb dL_finish_2 rfl (lv_at hl 2 rfl) ?_
  refine xMiA (fun _ h => h) (vx_runV (As := [.int za, .int (b2i gd)]) (rest := []) ⟨hx, hb, hml, hown, hts⟩ (c_X3_finish l hst D cy ad hj σ sz za gd) (cwV 2 hts gL_finish_X3_finish rfl rfl rfl (by decide +kernel) ⟨Nat.le_of_ble_eq_true rfl, Nat.le_of_ble_eq_true rfl⟩) ⟨cx_bl, cw_F hP hK, cx_at hP hK hxk⟩ rfl rfl hl.1 rfl (lv_room (Nat.le_of_ble_eq_true rfl)) dL_finish_3 ⟨Nat.le_of_ble_eq_true rfl, Nat.le_of_ble_eq_true rfl⟩) hS (fun E ce q9 H locs hE hS hz hk h3 h4 h5 => ?_) (fun H locs hP hS hz hk => ?_)
  · have hP := hP.grown hk
    rcases (show ex13 _ _ from hE) with ⟨rfl, hk0⟩ | ⟨rfl, hk0⟩
    · refine vx_catch (name := "java/lang/IndexOutOfBoundsException") hown [] ⟨0, 6, 7, 16⟩ [⟨0, 6, 11, 45⟩] (hT.trans rfl) (fun _ h => nomatch h) rfl (by decide) (hts (.classLink RL 16 "java/lang/IndexOutOfBoundsException") (by decide +kernel)) (va_Nw.use rfl (hxk.2.2.1 (.castable "java/lang/IndexOutOfBoundsException" "java/lang/IndexOutOfBoundsException") (by decide +kernel))) h3 h4 h5 ?_
      refine lv_astore_n (lv' := [(3, .ref q9), (0, .ref (ad 0)), (1, .int za), (2, .int (b2i gd))]) hx hb dL_finish_7 rfl hl (by decide) rfl (fun ls hl => ?_)
      refine lv_ldc (v := (-1000001)) hx hb hown (hts (.constant RL 18 (-1000001)) (by decide +kernel)) dL_finish_8 ?_
      have hn0 : ¬ kFinish σ za = 0 := by rw [hk0]; decide
      have e9 : (-1000001) = x := by rw [← hx9, hk0]; unfold w13; rw [if_neg (by decide), if_pos rfl]
      have hP : va_P D vwCl (wC cy ad σ') H := by rw [← hs9, if_neg hn0]; exact hP
      exact W.iret (v := (-1000001)) hx hb hr (fun t ht hW => ⟨⟨_, (), rfl, e9, by rw [← ht] at hP; exact hP⟩, hS.F ht⟩) hS.2.2 dL_finish_10
    · refine vx_catch (name := "java/lang/IllegalStateException") hown [⟨0, 6, 7, 16⟩] ⟨0, 6, 11, 45⟩ [] (hT.trans rfl) (fun z hz9 => by rw [List.mem_singleton.mp hz9]; exact Or.inr ⟨by decide, "java/lang/IndexOutOfBoundsException", hts (.classLink RL 16 "java/lang/IndexOutOfBoundsException") (by decide +kernel), hxk.2.2.2.1 ("java/lang/IllegalStateException", "java/lang/IndexOutOfBoundsException") (by decide +kernel)⟩) rfl (by decide) (hts (.classLink RL 45 "java/lang/IllegalStateException") (by decide +kernel)) (va_Nw.use rfl (hxk.2.2.1 (.castable "java/lang/IllegalStateException" "java/lang/IllegalStateException") (by decide +kernel))) h3 h4 h5 ?_
      refine lv_astore_n (lv' := [(3, .ref q9), (0, .ref (ad 0)), (1, .int za), (2, .int (b2i gd))]) hx hb dL_finish_11 rfl hl (by decide) rfl (fun ls hl => ?_)
      refine lv_ldc (v := (-1000003)) hx hb hown (hts (.constant RL 47 (-1000003)) (by decide +kernel)) dL_finish_12 ?_
      have hn0 : ¬ kFinish σ za = 0 := by rw [hk0]; decide
      have e9 : (-1000003) = x := by rw [← hx9, hk0]; unfold w13; rw [if_neg (by decide), if_neg (by decide)]
      have hP : va_P D vwCl (wC cy ad σ') H := by rw [← hs9, if_neg hn0]; exact hP
      exact W.iret (v := (-1000003)) hx hb hr (fun t ht hW => ⟨⟨_, (), rfl, e9, by rw [← ht] at hP; exact hP⟩, hS.F ht⟩) hS.2.2 dL_finish_14
  · obtain ⟨hk0, hP⟩ := hP
    have hP : va_P D vwCl (wC cy ad σ') H := by rw [← hs9, if_pos hk0]; exact hP
    refine W.eq (g2 := F0 m 6 ls [.int (rFinish σ za gd)]) rfl ?_
    have e9 : rFinish σ za gd = x := by rw [← hx9, hk0]; unfold w13; rw [if_pos rfl]
    exact W.iret (v := rFinish σ za gd) hx hb hr (fun t ht hW => ⟨⟨_, (), rfl, e9, by rw [← ht] at hP; exact hP⟩, hS.F ht⟩) hS.2.2 dL_finish_6
set_option maxHeartbeats 4000000 in
set_option maxRecDepth 100000 in
theorem c_L_retire (l : Launch) (hst : l.stackTraces = false) (D : va_G) (cy : Nat → ClassId) (ad : Nat → Nat) (hj : inj31 ad) (σ : Mem) (sz : Nat) (za zb : Int32) (x : Int32) (hx9 : w123 (kRetire σ za zb) (0) = x) (σ' : Mem) (hs9 : (if kRetire σ za zb = 0 then gRetire σ za zb else σ) = σ') : Met l yL_retire wsL_retire ({ frames := 8, cells := 3, slots := 18, locals := 137 }) (va_Pc [.ref (ad 0), .int za, .int zb] (cx D cy ad σ sz)) (QI x (fun H => va_P D vwCl (wC cy ad σ') H) (AC ad)) 3 18 (AC ad) := by
  refine metWH (cc := cL_retire) (maxL := 4) (ret := (some .int)) (hh := [(0, 7, 8, 16), (0, 7, 12, 19), (0, 7, 16, 45)]) (by decide) rfl ?_
  intro p e s m args below meth c s₁ B hml hv
  obtain ⟨rfl, ⟨hP, hK⟩, hxk⟩ := hv
  have hx := B.exec
  have hb := B.bytes
  have hr := B.returns
  have hts := atoms_spec (ws := wsL_retire) B.pre
  have hown : s.vm.findClass RL = some m.cls := findClass_of_methodNamed B.named
  have hT := vx_table (x := yL_retire) B (hts (.codeWith yL_retire cL_retire 4 (some .int) [(0, 7, 8, 16), (0, 7, 12, 19), (0, 7, 16, 45)]) List.mem_cons_self)
  have hS : va_S (AC ad) s.heap s.heap [] := va_S.rf
  have hl := lv_entry ([.ref (ad 0), .int za, .int zb]) (n := 4) (Nat.le_of_ble_eq_true rfl)
  rw [lg_entry_eq]
  generalize (lg_sl ([.ref (ad 0), .int za, .int zb]) ++ List.replicate (4 - (lg_sl ([.ref (ad 0), .int za, .int zb])).length) Slot.unset).toArray = ls at hl ⊢
  have hl : lv_has ls 4 [(0, .ref (ad 0)), (1, .int za), (2, .int zb)] := hl
  refine lv_aload_n hx hb dL_retire_0 rfl (lv_at hl 0 rfl) ?_
  refine lv_iload_n hx hb dL_retire_1 rfl (lv_at hl 1 rfl) ?_
  refine lv_iload_n hx hb dL_retire_2 rfl (lv_at hl 2 rfl) ?_
  refine xMvA (fun _ h => h) (vx_runV (As := [.int za, .int zb]) (rest := []) ⟨hx, hb, hml, hown, hts⟩ (c_X3_retire l hst D cy ad hj σ sz za zb) (cwV 2 hts gL_retire_X3_retire rfl rfl rfl (by decide +kernel) ⟨Nat.le_of_ble_eq_true rfl, Nat.le_of_ble_eq_true rfl⟩) ⟨cx_bl, cw_F hP hK, cx_at hP hK hxk⟩ rfl rfl hl.1 rfl (lv_room (Nat.le_of_ble_eq_true rfl)) dL_retire_3 ⟨Nat.le_of_ble_eq_true rfl, Nat.le_of_ble_eq_true rfl⟩) hS (fun E ce q9 H locs hE hS hz hk h3 h4 h5 => ?_) (fun H locs hP hS hz hk => ?_)
  · have hP := hP.grown hk
    rcases (show ex123 _ _ from hE) with ⟨rfl, hk0⟩ | ⟨rfl, hk0⟩ | ⟨rfl, hk0⟩
    · refine vx_catch (name := "java/lang/IndexOutOfBoundsException") hown [] ⟨0, 7, 8, 16⟩ [⟨0, 7, 12, 19⟩, ⟨0, 7, 16, 45⟩] (hT.trans rfl) (fun _ h => nomatch h) rfl (by decide) (hts (.classLink RL 16 "java/lang/IndexOutOfBoundsException") (by decide +kernel)) (va_Nw.use rfl (hxk.2.2.1 (.castable "java/lang/IndexOutOfBoundsException" "java/lang/IndexOutOfBoundsException") (by decide +kernel))) h3 h4 h5 ?_
      refine lv_astore_n (lv' := [(3, .ref q9), (0, .ref (ad 0)), (1, .int za), (2, .int zb)]) hx hb dL_retire_8 rfl hl (by decide) rfl (fun ls hl => ?_)
      refine lv_ldc (v := (-1000001)) hx hb hown (hts (.constant RL 18 (-1000001)) (by decide +kernel)) dL_retire_9 ?_
      have hn0 : ¬ kRetire σ za zb = 0 := by rw [hk0]; decide
      have e9 : (-1000001) = x := by rw [← hx9, hk0]; unfold w123; rw [if_neg (by decide), if_pos rfl]
      have hP : va_P D vwCl (wC cy ad σ') H := by rw [← hs9, if_neg hn0]; exact hP
      exact W.iret (v := (-1000001)) hx hb hr (fun t ht hW => ⟨⟨_, (), rfl, e9, by rw [← ht] at hP; exact hP⟩, hS.F ht⟩) hS.2.2 dL_retire_11
    · refine vx_catch (name := "java/lang/IllegalArgumentException") hown [⟨0, 7, 8, 16⟩] ⟨0, 7, 12, 19⟩ [⟨0, 7, 16, 45⟩] (hT.trans rfl) (fun z hz9 => by rw [List.mem_singleton.mp hz9]; exact Or.inr ⟨by decide, "java/lang/IndexOutOfBoundsException", hts (.classLink RL 16 "java/lang/IndexOutOfBoundsException") (by decide +kernel), hxk.2.2.2.1 ("java/lang/IllegalArgumentException", "java/lang/IndexOutOfBoundsException") (by decide +kernel)⟩) rfl (by decide) (hts (.classLink RL 19 "java/lang/IllegalArgumentException") (by decide +kernel)) (va_Nw.use rfl (hxk.2.2.1 (.castable "java/lang/IllegalArgumentException" "java/lang/IllegalArgumentException") (by decide +kernel))) h3 h4 h5 ?_
      refine lv_astore_n (lv' := [(3, .ref q9), (0, .ref (ad 0)), (1, .int za), (2, .int zb)]) hx hb dL_retire_12 rfl hl (by decide) rfl (fun ls hl => ?_)
      refine lv_ldc (v := (-1000002)) hx hb hown (hts (.constant RL 21 (-1000002)) (by decide +kernel)) dL_retire_13 ?_
      have hn0 : ¬ kRetire σ za zb = 0 := by rw [hk0]; decide
      have e9 : (-1000002) = x := by rw [← hx9, hk0]; unfold w123; rw [if_neg (by decide), if_neg (by decide), if_pos rfl]
      have hP : va_P D vwCl (wC cy ad σ') H := by rw [← hs9, if_neg hn0]; exact hP
      exact W.iret (v := (-1000002)) hx hb hr (fun t ht hW => ⟨⟨_, (), rfl, e9, by rw [← ht] at hP; exact hP⟩, hS.F ht⟩) hS.2.2 dL_retire_15
    · refine vx_catch (name := "java/lang/IllegalStateException") hown [⟨0, 7, 8, 16⟩, ⟨0, 7, 12, 19⟩] ⟨0, 7, 16, 45⟩ [] (hT.trans rfl) (fun z hz9 => by rcases List.mem_cons.mp hz9 with rfl | hz9; exact Or.inr ⟨by decide, "java/lang/IndexOutOfBoundsException", hts (.classLink RL 16 "java/lang/IndexOutOfBoundsException") (by decide +kernel), hxk.2.2.2.1 ("java/lang/IllegalStateException", "java/lang/IndexOutOfBoundsException") (by decide +kernel)⟩; rw [List.mem_singleton.mp hz9]; exact Or.inr ⟨by decide, "java/lang/IllegalArgumentException", hts (.classLink RL 19 "java/lang/IllegalArgumentException") (by decide +kernel), hxk.2.2.2.1 ("java/lang/IllegalStateException", "java/lang/IllegalArgumentException") (by decide +kernel)⟩) rfl (by decide) (hts (.classLink RL 45 "java/lang/IllegalStateException") (by decide +kernel)) (va_Nw.use rfl (hxk.2.2.1 (.castable "java/lang/IllegalStateException" "java/lang/IllegalStateException") (by decide +kernel))) h3 h4 h5 ?_
      refine lv_astore_n (lv' := [(3, .ref q9), (0, .ref (ad 0)), (1, .int za), (2, .int zb)]) hx hb dL_retire_16 rfl hl (by decide) rfl (fun ls hl => ?_)
      refine lv_ldc (v := (-1000003)) hx hb hown (hts (.constant RL 47 (-1000003)) (by decide +kernel)) dL_retire_17 ?_
      have hn0 : ¬ kRetire σ za zb = 0 := by rw [hk0]; decide
      have e9 : (-1000003) = x := by rw [← hx9, hk0]; unfold w123; rw [if_neg (by decide), if_neg (by decide), if_neg (by decide)]
      have hP : va_P D vwCl (wC cy ad σ') H := by rw [← hs9, if_neg hn0]; exact hP
      exact W.iret (v := (-1000003)) hx hb hr (fun t ht hW => ⟨⟨_, (), rfl, e9, by rw [← ht] at hP; exact hP⟩, hS.F ht⟩) hS.2.2 dL_retire_19
  · obtain ⟨hk0, hP⟩ := hP
    have hP : va_P D vwCl (wC cy ad σ') H := by rw [← hs9, if_pos hk0]; exact hP
    refine W.eq (g2 := F0 m 6 ls []) rfl ?_
    refine lv_iconst (v := 0) hx hb dL_retire_6 (by decide) ?_
    have e9 : 0 = x := by rw [← hx9, hk0]; unfold w123; rw [if_pos rfl]
    exact W.iret (v := 0) hx hb hr (fun t ht hW => ⟨⟨_, (), rfl, e9, by rw [← ht] at hP; exact hP⟩, hS.F ht⟩) hS.2.2 dL_retire_7
set_option maxHeartbeats 4000000 in
set_option maxRecDepth 100000 in
theorem c_L_keep (l : Launch) (hst : l.stackTraces = false) (D : va_G) (cy : Nat → ClassId) (ad : Nat → Nat) (hj : inj31 ad) (σ : Mem) (sz : Nat) (za : Int32) (x : Int32) (hx9 : w13 (kKeep σ za) (0) = x) (σ' : Mem) (hs9 : (if kKeep σ za = 0 then gKeep σ za else σ) = σ') : Met l yL_keep wsL_keep ({ frames := 8, cells := 2, slots := 12, locals := 136 }) (va_Pc [.ref (ad 0), .int za] (cx D cy ad σ sz)) (QI x (fun H => va_P D vwCl (wC cy ad σ') H) (AC ad)) 2 12 (AC ad) := by
  refine metWH (cc := cL_keep) (maxL := 3) (ret := (some .int)) (hh := [(0, 6, 7, 16), (0, 6, 11, 45)]) (by decide) rfl ?_
  intro p e s m args below meth c s₁ B hml hv
  obtain ⟨rfl, ⟨hP, hK⟩, hxk⟩ := hv
  have hx := B.exec
  have hb := B.bytes
  have hr := B.returns
  have hts := atoms_spec (ws := wsL_keep) B.pre
  have hown : s.vm.findClass RL = some m.cls := findClass_of_methodNamed B.named
  have hT := vx_table (x := yL_keep) B (hts (.codeWith yL_keep cL_keep 3 (some .int) [(0, 6, 7, 16), (0, 6, 11, 45)]) List.mem_cons_self)
  have hS : va_S (AC ad) s.heap s.heap [] := va_S.rf
  have hl := lv_entry ([.ref (ad 0), .int za]) (n := 3) (Nat.le_of_ble_eq_true rfl)
  rw [lg_entry_eq]
  generalize (lg_sl ([.ref (ad 0), .int za]) ++ List.replicate (3 - (lg_sl ([.ref (ad 0), .int za])).length) Slot.unset).toArray = ls at hl ⊢
  have hl : lv_has ls 3 [(0, .ref (ad 0)), (1, .int za)] := hl
  refine lv_aload_n hx hb dL_keep_0 rfl (lv_at hl 0 rfl) ?_
  refine lv_iload_n hx hb dL_keep_1 rfl (lv_at hl 1 rfl) ?_
  refine xMvA (fun _ h => h) (vx_runV (As := [.int za]) (rest := []) ⟨hx, hb, hml, hown, hts⟩ (c_X3_keep l hst D cy ad hj σ sz za) (cwV 1 hts gL_keep_X3_keep rfl rfl rfl (by decide +kernel) ⟨Nat.le_of_ble_eq_true rfl, Nat.le_of_ble_eq_true rfl⟩) ⟨cx_bl, cw_F hP hK, cx_at hP hK hxk⟩ rfl rfl hl.1 rfl (lv_room (Nat.le_of_ble_eq_true rfl)) dL_keep_2 ⟨Nat.le_of_ble_eq_true rfl, Nat.le_of_ble_eq_true rfl⟩) hS (fun E ce q9 H locs hE hS hz hk h3 h4 h5 => ?_) (fun H locs hP hS hz hk => ?_)
  · have hP := hP.grown hk
    rcases (show ex13 _ _ from hE) with ⟨rfl, hk0⟩ | ⟨rfl, hk0⟩
    · refine vx_catch (name := "java/lang/IndexOutOfBoundsException") hown [] ⟨0, 6, 7, 16⟩ [⟨0, 6, 11, 45⟩] (hT.trans rfl) (fun _ h => nomatch h) rfl (by decide) (hts (.classLink RL 16 "java/lang/IndexOutOfBoundsException") (by decide +kernel)) (va_Nw.use rfl (hxk.2.2.1 (.castable "java/lang/IndexOutOfBoundsException" "java/lang/IndexOutOfBoundsException") (by decide +kernel))) h3 h4 h5 ?_
      refine lv_astore_n (lv' := [(2, .ref q9), (0, .ref (ad 0)), (1, .int za)]) hx hb dL_keep_7 rfl hl (by decide) rfl (fun ls hl => ?_)
      refine lv_ldc (v := (-1000001)) hx hb hown (hts (.constant RL 18 (-1000001)) (by decide +kernel)) dL_keep_8 ?_
      have hn0 : ¬ kKeep σ za = 0 := by rw [hk0]; decide
      have e9 : (-1000001) = x := by rw [← hx9, hk0]; unfold w13; rw [if_neg (by decide), if_pos rfl]
      have hP : va_P D vwCl (wC cy ad σ') H := by rw [← hs9, if_neg hn0]; exact hP
      exact W.iret (v := (-1000001)) hx hb hr (fun t ht hW => ⟨⟨_, (), rfl, e9, by rw [← ht] at hP; exact hP⟩, hS.F ht⟩) hS.2.2 dL_keep_10
    · refine vx_catch (name := "java/lang/IllegalStateException") hown [⟨0, 6, 7, 16⟩] ⟨0, 6, 11, 45⟩ [] (hT.trans rfl) (fun z hz9 => by rw [List.mem_singleton.mp hz9]; exact Or.inr ⟨by decide, "java/lang/IndexOutOfBoundsException", hts (.classLink RL 16 "java/lang/IndexOutOfBoundsException") (by decide +kernel), hxk.2.2.2.1 ("java/lang/IllegalStateException", "java/lang/IndexOutOfBoundsException") (by decide +kernel)⟩) rfl (by decide) (hts (.classLink RL 45 "java/lang/IllegalStateException") (by decide +kernel)) (va_Nw.use rfl (hxk.2.2.1 (.castable "java/lang/IllegalStateException" "java/lang/IllegalStateException") (by decide +kernel))) h3 h4 h5 ?_
      refine lv_astore_n (lv' := [(2, .ref q9), (0, .ref (ad 0)), (1, .int za)]) hx hb dL_keep_11 rfl hl (by decide) rfl (fun ls hl => ?_)
      refine lv_ldc (v := (-1000003)) hx hb hown (hts (.constant RL 47 (-1000003)) (by decide +kernel)) dL_keep_12 ?_
      have hn0 : ¬ kKeep σ za = 0 := by rw [hk0]; decide
      have e9 : (-1000003) = x := by rw [← hx9, hk0]; unfold w13; rw [if_neg (by decide), if_neg (by decide)]
      have hP : va_P D vwCl (wC cy ad σ') H := by rw [← hs9, if_neg hn0]; exact hP
      exact W.iret (v := (-1000003)) hx hb hr (fun t ht hW => ⟨⟨_, (), rfl, e9, by rw [← ht] at hP; exact hP⟩, hS.F ht⟩) hS.2.2 dL_keep_14
  · obtain ⟨hk0, hP⟩ := hP
    have hP : va_P D vwCl (wC cy ad σ') H := by rw [← hs9, if_pos hk0]; exact hP
    refine W.eq (g2 := F0 m 5 ls []) rfl ?_
    refine lv_iconst (v := 0) hx hb dL_keep_5 (by decide) ?_
    have e9 : 0 = x := by rw [← hx9, hk0]; unfold w13; rw [if_pos rfl]
    exact W.iret (v := 0) hx hb hr (fun t ht hW => ⟨⟨_, (), rfl, e9, by rw [← ht] at hP; exact hP⟩, hS.F ht⟩) hS.2.2 dL_keep_6
set_option maxHeartbeats 4000000 in
set_option maxRecDepth 100000 in
theorem c_L_release (l : Launch) (hst : l.stackTraces = false) (D : va_G) (cy : Nat → ClassId) (ad : Nat → Nat) (hj : inj31 ad) (σ : Mem) (sz : Nat) (za : Int32) (x : Int32) (hx9 : w13 (kRelease σ za) (0) = x) (σ' : Mem) (hs9 : (if kRelease σ za = 0 then gRelease σ za else σ) = σ') : Met l yL_release wsL_release ({ frames := 8, cells := 2, slots := 12, locals := 136 }) (va_Pc [.ref (ad 0), .int za] (cx D cy ad σ sz)) (QI x (fun H => va_P D vwCl (wC cy ad σ') H) (AC ad)) 2 12 (AC ad) := by
  refine metWH (cc := cL_release) (maxL := 3) (ret := (some .int)) (hh := [(0, 6, 7, 16), (0, 6, 11, 45)]) (by decide) rfl ?_
  intro p e s m args below meth c s₁ B hml hv
  obtain ⟨rfl, ⟨hP, hK⟩, hxk⟩ := hv
  have hx := B.exec
  have hb := B.bytes
  have hr := B.returns
  have hts := atoms_spec (ws := wsL_release) B.pre
  have hown : s.vm.findClass RL = some m.cls := findClass_of_methodNamed B.named
  have hT := vx_table (x := yL_release) B (hts (.codeWith yL_release cL_release 3 (some .int) [(0, 6, 7, 16), (0, 6, 11, 45)]) List.mem_cons_self)
  have hS : va_S (AC ad) s.heap s.heap [] := va_S.rf
  have hl := lv_entry ([.ref (ad 0), .int za]) (n := 3) (Nat.le_of_ble_eq_true rfl)
  rw [lg_entry_eq]
  generalize (lg_sl ([.ref (ad 0), .int za]) ++ List.replicate (3 - (lg_sl ([.ref (ad 0), .int za])).length) Slot.unset).toArray = ls at hl ⊢
  have hl : lv_has ls 3 [(0, .ref (ad 0)), (1, .int za)] := hl
  refine lv_aload_n hx hb dL_release_0 rfl (lv_at hl 0 rfl) ?_
  refine lv_iload_n hx hb dL_release_1 rfl (lv_at hl 1 rfl) ?_
  refine xMvA (fun _ h => h) (vx_runV (As := [.int za]) (rest := []) ⟨hx, hb, hml, hown, hts⟩ (c_X3_release l hst D cy ad hj σ sz za) (cwV 1 hts gL_release_X3_release rfl rfl rfl (by decide +kernel) ⟨Nat.le_of_ble_eq_true rfl, Nat.le_of_ble_eq_true rfl⟩) ⟨cx_bl, cw_F hP hK, cx_at hP hK hxk⟩ rfl rfl hl.1 rfl (lv_room (Nat.le_of_ble_eq_true rfl)) dL_release_2 ⟨Nat.le_of_ble_eq_true rfl, Nat.le_of_ble_eq_true rfl⟩) hS (fun E ce q9 H locs hE hS hz hk h3 h4 h5 => ?_) (fun H locs hP hS hz hk => ?_)
  · have hP := hP.grown hk
    rcases (show ex13 _ _ from hE) with ⟨rfl, hk0⟩ | ⟨rfl, hk0⟩
    · refine vx_catch (name := "java/lang/IndexOutOfBoundsException") hown [] ⟨0, 6, 7, 16⟩ [⟨0, 6, 11, 45⟩] (hT.trans rfl) (fun _ h => nomatch h) rfl (by decide) (hts (.classLink RL 16 "java/lang/IndexOutOfBoundsException") (by decide +kernel)) (va_Nw.use rfl (hxk.2.2.1 (.castable "java/lang/IndexOutOfBoundsException" "java/lang/IndexOutOfBoundsException") (by decide +kernel))) h3 h4 h5 ?_
      refine lv_astore_n (lv' := [(2, .ref q9), (0, .ref (ad 0)), (1, .int za)]) hx hb dL_release_7 rfl hl (by decide) rfl (fun ls hl => ?_)
      refine lv_ldc (v := (-1000001)) hx hb hown (hts (.constant RL 18 (-1000001)) (by decide +kernel)) dL_release_8 ?_
      have hn0 : ¬ kRelease σ za = 0 := by rw [hk0]; decide
      have e9 : (-1000001) = x := by rw [← hx9, hk0]; unfold w13; rw [if_neg (by decide), if_pos rfl]
      have hP : va_P D vwCl (wC cy ad σ') H := by rw [← hs9, if_neg hn0]; exact hP
      exact W.iret (v := (-1000001)) hx hb hr (fun t ht hW => ⟨⟨_, (), rfl, e9, by rw [← ht] at hP; exact hP⟩, hS.F ht⟩) hS.2.2 dL_release_10
    · refine vx_catch (name := "java/lang/IllegalStateException") hown [⟨0, 6, 7, 16⟩] ⟨0, 6, 11, 45⟩ [] (hT.trans rfl) (fun z hz9 => by rw [List.mem_singleton.mp hz9]; exact Or.inr ⟨by decide, "java/lang/IndexOutOfBoundsException", hts (.classLink RL 16 "java/lang/IndexOutOfBoundsException") (by decide +kernel), hxk.2.2.2.1 ("java/lang/IllegalStateException", "java/lang/IndexOutOfBoundsException") (by decide +kernel)⟩) rfl (by decide) (hts (.classLink RL 45 "java/lang/IllegalStateException") (by decide +kernel)) (va_Nw.use rfl (hxk.2.2.1 (.castable "java/lang/IllegalStateException" "java/lang/IllegalStateException") (by decide +kernel))) h3 h4 h5 ?_
      refine lv_astore_n (lv' := [(2, .ref q9), (0, .ref (ad 0)), (1, .int za)]) hx hb dL_release_11 rfl hl (by decide) rfl (fun ls hl => ?_)
      refine lv_ldc (v := (-1000003)) hx hb hown (hts (.constant RL 47 (-1000003)) (by decide +kernel)) dL_release_12 ?_
      have hn0 : ¬ kRelease σ za = 0 := by rw [hk0]; decide
      have e9 : (-1000003) = x := by rw [← hx9, hk0]; unfold w13; rw [if_neg (by decide), if_neg (by decide)]
      have hP : va_P D vwCl (wC cy ad σ') H := by rw [← hs9, if_neg hn0]; exact hP
      exact W.iret (v := (-1000003)) hx hb hr (fun t ht hW => ⟨⟨_, (), rfl, e9, by rw [← ht] at hP; exact hP⟩, hS.F ht⟩) hS.2.2 dL_release_14
  · obtain ⟨hk0, hP⟩ := hP
    have hP : va_P D vwCl (wC cy ad σ') H := by rw [← hs9, if_pos hk0]; exact hP
    refine W.eq (g2 := F0 m 5 ls []) rfl ?_
    refine lv_iconst (v := 0) hx hb dL_release_5 (by decide) ?_
    have e9 : 0 = x := by rw [← hx9, hk0]; unfold w13; rw [if_pos rfl]
    exact W.iret (v := 0) hx hb hr (fun t ht hW => ⟨⟨_, (), rfl, e9, by rw [← ht] at hP; exact hP⟩, hS.F ht⟩) hS.2.2 dL_release_6
set_option maxHeartbeats 4000000 in
set_option maxRecDepth 100000 in
theorem c_L_advance (l : Launch) (hst : l.stackTraces = false) (D : va_G) (cy : Nat → ClassId) (ad : Nat → Nat) (hj : inj31 ad) (σ : Mem) (sz : Nat) (za : Int32) (x : Int32) (hx9 : w2 (kAdvance za) (rAdvance σ za) = x) (σ' : Mem) (hs9 : (if kAdvance za = 0 then gAdvance σ za else σ) = σ') : Met l yL_advance wsL_advance ({ frames := 8, cells := 1, slots := 6, locals := 157 }) (va_Pc [.ref (ad 0), .int za] (cx D cy ad σ sz)) (QI x (fun H => va_P D vwCl (wC cy ad σ') H) (AC ad)) 1 6 (AC ad) := by
  refine metWH (cc := cL_advance) (maxL := 3) (ret := (some .int)) (hh := [(0, 5, 6, 19)]) (by decide) rfl ?_
  intro p e s m args below meth c s₁ B hml hv
  obtain ⟨rfl, ⟨hP, hK⟩, hxk⟩ := hv
  have hx := B.exec
  have hb := B.bytes
  have hr := B.returns
  have hts := atoms_spec (ws := wsL_advance) B.pre
  have hown : s.vm.findClass RL = some m.cls := findClass_of_methodNamed B.named
  have hT := vx_table (x := yL_advance) B (hts (.codeWith yL_advance cL_advance 3 (some .int) [(0, 5, 6, 19)]) List.mem_cons_self)
  have hS : va_S (AC ad) s.heap s.heap [] := va_S.rf
  have hl := lv_entry ([.ref (ad 0), .int za]) (n := 3) (Nat.le_of_ble_eq_true rfl)
  rw [lg_entry_eq]
  generalize (lg_sl ([.ref (ad 0), .int za]) ++ List.replicate (3 - (lg_sl ([.ref (ad 0), .int za])).length) Slot.unset).toArray = ls at hl ⊢
  have hl : lv_has ls 3 [(0, .ref (ad 0)), (1, .int za)] := hl
  refine lv_aload_n hx hb dL_advance_0 rfl (lv_at hl 0 rfl) ?_
  refine lv_iload_n hx hb dL_advance_1 rfl (lv_at hl 1 rfl) ?_
  refine xMiA (fun _ h => h) (vx_runV (As := [.int za]) (rest := []) ⟨hx, hb, hml, hown, hts⟩ (c_X3_advance l hst D cy ad hj σ sz za) (cwV 1 hts gL_advance_X3_advance rfl rfl rfl (by decide +kernel) ⟨Nat.le_of_ble_eq_true rfl, Nat.le_of_ble_eq_true rfl⟩) ⟨cx_bl, cw_F hP hK, cx_at hP hK hxk⟩ rfl rfl hl.1 rfl (lv_room (Nat.le_of_ble_eq_true rfl)) dL_advance_2 ⟨Nat.le_of_ble_eq_true rfl, Nat.le_of_ble_eq_true rfl⟩) hS (fun E ce q9 H locs hE hS hz hk h3 h4 h5 => ?_) (fun H locs hP hS hz hk => ?_)
  · have hP := hP.grown hk
    obtain ⟨rfl, hk0⟩ := hE
    refine vx_catch (name := "java/lang/IllegalArgumentException") hown [] ⟨0, 5, 6, 19⟩ [] (hT.trans rfl) (fun _ h => nomatch h) rfl (by decide) (hts (.classLink RL 19 "java/lang/IllegalArgumentException") (by decide +kernel)) (va_Nw.use rfl (hxk.2.2.1 (.castable "java/lang/IllegalArgumentException" "java/lang/IllegalArgumentException") (by decide +kernel))) h3 h4 h5 ?_
    refine lv_astore_n (lv' := [(2, .ref q9), (0, .ref (ad 0)), (1, .int za)]) hx hb dL_advance_6 rfl hl (by decide) rfl (fun ls hl => ?_)
    refine lv_ldc (v := (-1000002)) hx hb hown (hts (.constant RL 21 (-1000002)) (by decide +kernel)) dL_advance_7 ?_
    have hn0 : ¬ kAdvance za = 0 := by rw [hk0]; decide
    have e9 : (-1000002) = x := by rw [← hx9, hk0]; unfold w2; rw [if_neg (by decide)]
    have hP : va_P D vwCl (wC cy ad σ') H := by rw [← hs9, if_neg hn0]; exact hP
    exact W.iret (v := (-1000002)) hx hb hr (fun t ht hW => ⟨⟨_, (), rfl, e9, by rw [← ht] at hP; exact hP⟩, hS.F ht⟩) hS.2.2 dL_advance_9
  · obtain ⟨hk0, hP⟩ := hP
    have hP : va_P D vwCl (wC cy ad σ') H := by rw [← hs9, if_pos hk0]; exact hP
    refine W.eq (g2 := F0 m 5 ls [.int (rAdvance σ za)]) rfl ?_
    have e9 : rAdvance σ za = x := by rw [← hx9, hk0]; unfold w2; rw [if_pos rfl]
    exact W.iret (v := rAdvance σ za) hx hb hr (fun t ht hW => ⟨⟨_, (), rfl, e9, by rw [← ht] at hP; exact hP⟩, hS.F ht⟩) hS.2.2 dL_advance_5
set_option maxHeartbeats 4000000 in
set_option maxRecDepth 100000 in
theorem c_L_stateOf (l : Launch) (hst : l.stackTraces = false) (D : va_G) (cy : Nat → ClassId) (ad : Nat → Nat) (σ : Mem) (sz : Nat) (za : Int32) (x : Int32) (hx9 : w1 (kM za) (rStateOf σ za) = x) : Met l yL_stateOf wsL_stateOf ({ frames := 8, cells := 1, slots := 6, locals := 124 }) (va_Pc [.ref (ad 0), .int za] (cx D cy ad σ sz)) (QI x (fun _ => True) NoA) 1 6 NoA := by
  refine metWH (cc := cL_stateOf) (maxL := 3) (ret := (some .int)) (hh := [(0, 5, 6, 16)]) (by decide) rfl ?_
  intro p e s m args below meth c s₁ B hml hv
  obtain ⟨rfl, ⟨hP, hK⟩, hxk⟩ := hv
  have hx := B.exec
  have hb := B.bytes
  have hr := B.returns
  have hts := atoms_spec (ws := wsL_stateOf) B.pre
  have hown : s.vm.findClass RL = some m.cls := findClass_of_methodNamed B.named
  have hT := vx_table (x := yL_stateOf) B (hts (.codeWith yL_stateOf cL_stateOf 3 (some .int) [(0, 5, 6, 16)]) List.mem_cons_self)
  have hS : va_S NoA s.heap s.heap [] := va_S.rf
  have hl := lv_entry ([.ref (ad 0), .int za]) (n := 3) (Nat.le_of_ble_eq_true rfl)
  rw [lg_entry_eq]
  generalize (lg_sl ([.ref (ad 0), .int za]) ++ List.replicate (3 - (lg_sl ([.ref (ad 0), .int za])).length) Slot.unset).toArray = ls at hl ⊢
  have hl : lv_has ls 3 [(0, .ref (ad 0)), (1, .int za)] := hl
  refine lv_aload_n hx hb dL_stateOf_0 rfl (lv_at hl 0 rfl) ?_
  refine lv_iload_n hx hb dL_stateOf_1 rfl (lv_at hl 1 rfl) ?_
  refine xS (vx_runV (As := [.int za]) (rest := []) ⟨hx, hb, hml, hown, hts⟩ (c_X3_stateOf l hst D cy ad σ sz za) (cwV 1 hts gL_stateOf_X3_stateOf rfl rfl rfl (by decide +kernel) ⟨Nat.le_of_ble_eq_true rfl, Nat.le_of_ble_eq_true rfl⟩) ⟨cx_bl, cw_F hP hK, cx_at hP hK hxk⟩ rfl rfl hl.1 rfl (lv_room (Nat.le_of_ble_eq_true rfl)) dL_stateOf_2 ⟨Nat.le_of_ble_eq_true rfl, Nat.le_of_ble_eq_true rfl⟩) (fun E ce q9 H hE hz hk h3 h4 h5 => ?_) (fun u hk0 => ?_)
  · have hS : va_S NoA s.heap H [] := va_S.grown hz hk
    have hP := hP.grown hk
    obtain ⟨rfl, hk0⟩ := hE
    refine vx_catch (name := "java/lang/IndexOutOfBoundsException") hown [] ⟨0, 5, 6, 16⟩ [] (hT.trans rfl) (fun _ h => nomatch h) rfl (by decide) (hts (.classLink RL 16 "java/lang/IndexOutOfBoundsException") (by decide +kernel)) (va_Nw.use rfl (hxk.2.2.1 (.castable "java/lang/IndexOutOfBoundsException" "java/lang/IndexOutOfBoundsException") (by decide +kernel))) h3 h4 h5 ?_
    refine lv_astore_n (lv' := [(2, .ref q9), (0, .ref (ad 0)), (1, .int za)]) hx hb dL_stateOf_6 rfl hl (by decide) rfl (fun ls hl => ?_)
    refine lv_ldc (v := (-1000001)) hx hb hown (hts (.constant RL 18 (-1000001)) (by decide +kernel)) dL_stateOf_7 ?_
    have hn0 : ¬ kM za = 0 := by rw [hk0]; decide
    have e9 : (-1000001) = x := by rw [← hx9, hk0]; unfold w1; rw [if_neg (by decide)]
    exact W.iret (v := (-1000001)) hx hb hr (fun t ht hW => ⟨⟨_, (), rfl, e9, trivial⟩, hS.F ht⟩) hS.2.2 dL_stateOf_9
  · refine W.eq (g2 := F0 m 5 ls [.int (rStateOf σ za)]) rfl ?_
    refine W.widen (k := 1) (n := 6) (Nat.le_of_ble_eq_true rfl) (Nat.le_of_ble_eq_true rfl) ?_
    have e9 : rStateOf σ za = x := by rw [← hx9, hk0]; unfold w1; rw [if_pos rfl]
    exact W.iret (v := rStateOf σ za) hx hb hr (fun t ht hW => ⟨⟨_, (), rfl, e9, trivial⟩, hS.F ht⟩) hS.2.2 dL_stateOf_5
set_option maxHeartbeats 4000000 in
set_option maxRecDepth 100000 in
theorem c_L_reason (l : Launch) (hst : l.stackTraces = false) (D : va_G) (cy : Nat → ClassId) (ad : Nat → Nat) (σ : Mem) (sz : Nat) (za : Int32) (x : Int32) (hx9 : w1 (kM za) (rReason σ za) = x) : Met l yL_reason wsL_reason ({ frames := 8, cells := 1, slots := 6, locals := 126 }) (va_Pc [.ref (ad 0), .int za] (cx D cy ad σ sz)) (QI x (fun _ => True) NoA) 1 6 NoA := by
  refine metWH (cc := cL_reason) (maxL := 3) (ret := (some .int)) (hh := [(0, 5, 6, 16)]) (by decide) rfl ?_
  intro p e s m args below meth c s₁ B hml hv
  obtain ⟨rfl, ⟨hP, hK⟩, hxk⟩ := hv
  have hx := B.exec
  have hb := B.bytes
  have hr := B.returns
  have hts := atoms_spec (ws := wsL_reason) B.pre
  have hown : s.vm.findClass RL = some m.cls := findClass_of_methodNamed B.named
  have hT := vx_table (x := yL_reason) B (hts (.codeWith yL_reason cL_reason 3 (some .int) [(0, 5, 6, 16)]) List.mem_cons_self)
  have hS : va_S NoA s.heap s.heap [] := va_S.rf
  have hl := lv_entry ([.ref (ad 0), .int za]) (n := 3) (Nat.le_of_ble_eq_true rfl)
  rw [lg_entry_eq]
  generalize (lg_sl ([.ref (ad 0), .int za]) ++ List.replicate (3 - (lg_sl ([.ref (ad 0), .int za])).length) Slot.unset).toArray = ls at hl ⊢
  have hl : lv_has ls 3 [(0, .ref (ad 0)), (1, .int za)] := hl
  refine lv_aload_n hx hb dL_reason_0 rfl (lv_at hl 0 rfl) ?_
  refine lv_iload_n hx hb dL_reason_1 rfl (lv_at hl 1 rfl) ?_
  refine xS (vx_runV (As := [.int za]) (rest := []) ⟨hx, hb, hml, hown, hts⟩ (c_X3_reason l hst D cy ad σ sz za) (cwV 1 hts gL_reason_X3_reason rfl rfl rfl (by decide +kernel) ⟨Nat.le_of_ble_eq_true rfl, Nat.le_of_ble_eq_true rfl⟩) ⟨cx_bl, cw_F hP hK, cx_at hP hK hxk⟩ rfl rfl hl.1 rfl (lv_room (Nat.le_of_ble_eq_true rfl)) dL_reason_2 ⟨Nat.le_of_ble_eq_true rfl, Nat.le_of_ble_eq_true rfl⟩) (fun E ce q9 H hE hz hk h3 h4 h5 => ?_) (fun u hk0 => ?_)
  · have hS : va_S NoA s.heap H [] := va_S.grown hz hk
    have hP := hP.grown hk
    obtain ⟨rfl, hk0⟩ := hE
    refine vx_catch (name := "java/lang/IndexOutOfBoundsException") hown [] ⟨0, 5, 6, 16⟩ [] (hT.trans rfl) (fun _ h => nomatch h) rfl (by decide) (hts (.classLink RL 16 "java/lang/IndexOutOfBoundsException") (by decide +kernel)) (va_Nw.use rfl (hxk.2.2.1 (.castable "java/lang/IndexOutOfBoundsException" "java/lang/IndexOutOfBoundsException") (by decide +kernel))) h3 h4 h5 ?_
    refine lv_astore_n (lv' := [(2, .ref q9), (0, .ref (ad 0)), (1, .int za)]) hx hb dL_reason_6 rfl hl (by decide) rfl (fun ls hl => ?_)
    refine lv_ldc (v := (-1000001)) hx hb hown (hts (.constant RL 18 (-1000001)) (by decide +kernel)) dL_reason_7 ?_
    have hn0 : ¬ kM za = 0 := by rw [hk0]; decide
    have e9 : (-1000001) = x := by rw [← hx9, hk0]; unfold w1; rw [if_neg (by decide)]
    exact W.iret (v := (-1000001)) hx hb hr (fun t ht hW => ⟨⟨_, (), rfl, e9, trivial⟩, hS.F ht⟩) hS.2.2 dL_reason_9
  · refine W.eq (g2 := F0 m 5 ls [.int (rReason σ za)]) rfl ?_
    refine W.widen (k := 1) (n := 6) (Nat.le_of_ble_eq_true rfl) (Nat.le_of_ble_eq_true rfl) ?_
    have e9 : rReason σ za = x := by rw [← hx9, hk0]; unfold w1; rw [if_pos rfl]
    exact W.iret (v := rReason σ za) hx hb hr (fun t ht hW => ⟨⟨_, (), rfl, e9, trivial⟩, hS.F ht⟩) hS.2.2 dL_reason_5
set_option maxHeartbeats 4000000 in
set_option maxRecDepth 100000 in
theorem c_L_matchOf (l : Launch) (hst : l.stackTraces = false) (D : va_G) (cy : Nat → ClassId) (ad : Nat → Nat) (σ : Mem) (sz : Nat) (za : Int32) (x : Int32) (hx9 : w1 (kM za) (rMatchOf σ za) = x) : Met l yL_matchOf wsL_matchOf ({ frames := 8, cells := 1, slots := 6, locals := 125 }) (va_Pc [.ref (ad 0), .int za] (cx D cy ad σ sz)) (QI x (fun _ => True) NoA) 1 6 NoA := by
  refine metWH (cc := cL_matchOf) (maxL := 3) (ret := (some .int)) (hh := [(0, 5, 6, 16)]) (by decide) rfl ?_
  intro p e s m args below meth c s₁ B hml hv
  obtain ⟨rfl, ⟨hP, hK⟩, hxk⟩ := hv
  have hx := B.exec
  have hb := B.bytes
  have hr := B.returns
  have hts := atoms_spec (ws := wsL_matchOf) B.pre
  have hown : s.vm.findClass RL = some m.cls := findClass_of_methodNamed B.named
  have hT := vx_table (x := yL_matchOf) B (hts (.codeWith yL_matchOf cL_matchOf 3 (some .int) [(0, 5, 6, 16)]) List.mem_cons_self)
  have hS : va_S NoA s.heap s.heap [] := va_S.rf
  have hl := lv_entry ([.ref (ad 0), .int za]) (n := 3) (Nat.le_of_ble_eq_true rfl)
  rw [lg_entry_eq]
  generalize (lg_sl ([.ref (ad 0), .int za]) ++ List.replicate (3 - (lg_sl ([.ref (ad 0), .int za])).length) Slot.unset).toArray = ls at hl ⊢
  have hl : lv_has ls 3 [(0, .ref (ad 0)), (1, .int za)] := hl
  refine lv_aload_n hx hb dL_matchOf_0 rfl (lv_at hl 0 rfl) ?_
  refine lv_iload_n hx hb dL_matchOf_1 rfl (lv_at hl 1 rfl) ?_
  refine xS (vx_runV (As := [.int za]) (rest := []) ⟨hx, hb, hml, hown, hts⟩ (c_X3_matchOf l hst D cy ad σ sz za) (cwV 1 hts gL_matchOf_X3_matchOf rfl rfl rfl (by decide +kernel) ⟨Nat.le_of_ble_eq_true rfl, Nat.le_of_ble_eq_true rfl⟩) ⟨cx_bl, cw_F hP hK, cx_at hP hK hxk⟩ rfl rfl hl.1 rfl (lv_room (Nat.le_of_ble_eq_true rfl)) dL_matchOf_2 ⟨Nat.le_of_ble_eq_true rfl, Nat.le_of_ble_eq_true rfl⟩) (fun E ce q9 H hE hz hk h3 h4 h5 => ?_) (fun u hk0 => ?_)
  · have hS : va_S NoA s.heap H [] := va_S.grown hz hk
    have hP := hP.grown hk
    obtain ⟨rfl, hk0⟩ := hE
    refine vx_catch (name := "java/lang/IndexOutOfBoundsException") hown [] ⟨0, 5, 6, 16⟩ [] (hT.trans rfl) (fun _ h => nomatch h) rfl (by decide) (hts (.classLink RL 16 "java/lang/IndexOutOfBoundsException") (by decide +kernel)) (va_Nw.use rfl (hxk.2.2.1 (.castable "java/lang/IndexOutOfBoundsException" "java/lang/IndexOutOfBoundsException") (by decide +kernel))) h3 h4 h5 ?_
    refine lv_astore_n (lv' := [(2, .ref q9), (0, .ref (ad 0)), (1, .int za)]) hx hb dL_matchOf_6 rfl hl (by decide) rfl (fun ls hl => ?_)
    refine lv_ldc (v := (-1000001)) hx hb hown (hts (.constant RL 18 (-1000001)) (by decide +kernel)) dL_matchOf_7 ?_
    have hn0 : ¬ kM za = 0 := by rw [hk0]; decide
    have e9 : (-1000001) = x := by rw [← hx9, hk0]; unfold w1; rw [if_neg (by decide)]
    exact W.iret (v := (-1000001)) hx hb hr (fun t ht hW => ⟨⟨_, (), rfl, e9, trivial⟩, hS.F ht⟩) hS.2.2 dL_matchOf_9
  · refine W.eq (g2 := F0 m 5 ls [.int (rMatchOf σ za)]) rfl ?_
    refine W.widen (k := 1) (n := 6) (Nat.le_of_ble_eq_true rfl) (Nat.le_of_ble_eq_true rfl) ?_
    have e9 : rMatchOf σ za = x := by rw [← hx9, hk0]; unfold w1; rw [if_pos rfl]
    exact W.iret (v := rMatchOf σ za) hx hb hr (fun t ht hW => ⟨⟨_, (), rfl, e9, trivial⟩, hS.F ht⟩) hS.2.2 dL_matchOf_5
set_option maxHeartbeats 4000000 in
set_option maxRecDepth 100000 in
theorem c_L_imageOf (l : Launch) (hst : l.stackTraces = false) (D : va_G) (cy : Nat → ClassId) (ad : Nat → Nat) (σ : Mem) (sz : Nat) (za : Int32) (x : Int32) (hx9 : w1 (kM za) (rImageOf σ za) = x) : Met l yL_imageOf wsL_imageOf ({ frames := 8, cells := 1, slots := 6, locals := 125 }) (va_Pc [.ref (ad 0), .int za] (cx D cy ad σ sz)) (QI x (fun _ => True) NoA) 1 6 NoA := by
  refine metWH (cc := cL_imageOf) (maxL := 3) (ret := (some .int)) (hh := [(0, 5, 6, 16)]) (by decide) rfl ?_
  intro p e s m args below meth c s₁ B hml hv
  obtain ⟨rfl, ⟨hP, hK⟩, hxk⟩ := hv
  have hx := B.exec
  have hb := B.bytes
  have hr := B.returns
  have hts := atoms_spec (ws := wsL_imageOf) B.pre
  have hown : s.vm.findClass RL = some m.cls := findClass_of_methodNamed B.named
  have hT := vx_table (x := yL_imageOf) B (hts (.codeWith yL_imageOf cL_imageOf 3 (some .int) [(0, 5, 6, 16)]) List.mem_cons_self)
  have hS : va_S NoA s.heap s.heap [] := va_S.rf
  have hl := lv_entry ([.ref (ad 0), .int za]) (n := 3) (Nat.le_of_ble_eq_true rfl)
  rw [lg_entry_eq]
  generalize (lg_sl ([.ref (ad 0), .int za]) ++ List.replicate (3 - (lg_sl ([.ref (ad 0), .int za])).length) Slot.unset).toArray = ls at hl ⊢
  have hl : lv_has ls 3 [(0, .ref (ad 0)), (1, .int za)] := hl
  refine lv_aload_n hx hb dL_imageOf_0 rfl (lv_at hl 0 rfl) ?_
  refine lv_iload_n hx hb dL_imageOf_1 rfl (lv_at hl 1 rfl) ?_
  refine xS (vx_runV (As := [.int za]) (rest := []) ⟨hx, hb, hml, hown, hts⟩ (c_X3_imageOf l hst D cy ad σ sz za) (cwV 1 hts gL_imageOf_X3_imageOf rfl rfl rfl (by decide +kernel) ⟨Nat.le_of_ble_eq_true rfl, Nat.le_of_ble_eq_true rfl⟩) ⟨cx_bl, cw_F hP hK, cx_at hP hK hxk⟩ rfl rfl hl.1 rfl (lv_room (Nat.le_of_ble_eq_true rfl)) dL_imageOf_2 ⟨Nat.le_of_ble_eq_true rfl, Nat.le_of_ble_eq_true rfl⟩) (fun E ce q9 H hE hz hk h3 h4 h5 => ?_) (fun u hk0 => ?_)
  · have hS : va_S NoA s.heap H [] := va_S.grown hz hk
    have hP := hP.grown hk
    obtain ⟨rfl, hk0⟩ := hE
    refine vx_catch (name := "java/lang/IndexOutOfBoundsException") hown [] ⟨0, 5, 6, 16⟩ [] (hT.trans rfl) (fun _ h => nomatch h) rfl (by decide) (hts (.classLink RL 16 "java/lang/IndexOutOfBoundsException") (by decide +kernel)) (va_Nw.use rfl (hxk.2.2.1 (.castable "java/lang/IndexOutOfBoundsException" "java/lang/IndexOutOfBoundsException") (by decide +kernel))) h3 h4 h5 ?_
    refine lv_astore_n (lv' := [(2, .ref q9), (0, .ref (ad 0)), (1, .int za)]) hx hb dL_imageOf_6 rfl hl (by decide) rfl (fun ls hl => ?_)
    refine lv_ldc (v := (-1000001)) hx hb hown (hts (.constant RL 18 (-1000001)) (by decide +kernel)) dL_imageOf_7 ?_
    have hn0 : ¬ kM za = 0 := by rw [hk0]; decide
    have e9 : (-1000001) = x := by rw [← hx9, hk0]; unfold w1; rw [if_neg (by decide)]
    exact W.iret (v := (-1000001)) hx hb hr (fun t ht hW => ⟨⟨_, (), rfl, e9, trivial⟩, hS.F ht⟩) hS.2.2 dL_imageOf_9
  · refine W.eq (g2 := F0 m 5 ls [.int (rImageOf σ za)]) rfl ?_
    refine W.widen (k := 1) (n := 6) (Nat.le_of_ble_eq_true rfl) (Nat.le_of_ble_eq_true rfl) ?_
    have e9 : rImageOf σ za = x := by rw [← hx9, hk0]; unfold w1; rw [if_pos rfl]
    exact W.iret (v := rImageOf σ za) hx hb hr (fun t ht hW => ⟨⟨_, (), rfl, e9, trivial⟩, hS.F ht⟩) hS.2.2 dL_imageOf_5
set_option maxHeartbeats 4000000 in
set_option maxRecDepth 100000 in
theorem c_L_endOf (l : Launch) (hst : l.stackTraces = false) (D : va_G) (cy : Nat → ClassId) (ad : Nat → Nat) (σ : Mem) (sz : Nat) (za : Int32) (x : Int32) (hx9 : w1 (kM za) (rEndOf σ za) = x) : Met l yL_endOf wsL_endOf ({ frames := 8, cells := 1, slots := 6, locals := 125 }) (va_Pc [.ref (ad 0), .int za] (cx D cy ad σ sz)) (QI x (fun _ => True) NoA) 1 6 NoA := by
  refine metWH (cc := cL_endOf) (maxL := 3) (ret := (some .int)) (hh := [(0, 5, 6, 16)]) (by decide) rfl ?_
  intro p e s m args below meth c s₁ B hml hv
  obtain ⟨rfl, ⟨hP, hK⟩, hxk⟩ := hv
  have hx := B.exec
  have hb := B.bytes
  have hr := B.returns
  have hts := atoms_spec (ws := wsL_endOf) B.pre
  have hown : s.vm.findClass RL = some m.cls := findClass_of_methodNamed B.named
  have hT := vx_table (x := yL_endOf) B (hts (.codeWith yL_endOf cL_endOf 3 (some .int) [(0, 5, 6, 16)]) List.mem_cons_self)
  have hS : va_S NoA s.heap s.heap [] := va_S.rf
  have hl := lv_entry ([.ref (ad 0), .int za]) (n := 3) (Nat.le_of_ble_eq_true rfl)
  rw [lg_entry_eq]
  generalize (lg_sl ([.ref (ad 0), .int za]) ++ List.replicate (3 - (lg_sl ([.ref (ad 0), .int za])).length) Slot.unset).toArray = ls at hl ⊢
  have hl : lv_has ls 3 [(0, .ref (ad 0)), (1, .int za)] := hl
  refine lv_aload_n hx hb dL_endOf_0 rfl (lv_at hl 0 rfl) ?_
  refine lv_iload_n hx hb dL_endOf_1 rfl (lv_at hl 1 rfl) ?_
  refine xS (vx_runV (As := [.int za]) (rest := []) ⟨hx, hb, hml, hown, hts⟩ (c_X3_endOf l hst D cy ad σ sz za) (cwV 1 hts gL_endOf_X3_endOf rfl rfl rfl (by decide +kernel) ⟨Nat.le_of_ble_eq_true rfl, Nat.le_of_ble_eq_true rfl⟩) ⟨cx_bl, cw_F hP hK, cx_at hP hK hxk⟩ rfl rfl hl.1 rfl (lv_room (Nat.le_of_ble_eq_true rfl)) dL_endOf_2 ⟨Nat.le_of_ble_eq_true rfl, Nat.le_of_ble_eq_true rfl⟩) (fun E ce q9 H hE hz hk h3 h4 h5 => ?_) (fun u hk0 => ?_)
  · have hS : va_S NoA s.heap H [] := va_S.grown hz hk
    have hP := hP.grown hk
    obtain ⟨rfl, hk0⟩ := hE
    refine vx_catch (name := "java/lang/IndexOutOfBoundsException") hown [] ⟨0, 5, 6, 16⟩ [] (hT.trans rfl) (fun _ h => nomatch h) rfl (by decide) (hts (.classLink RL 16 "java/lang/IndexOutOfBoundsException") (by decide +kernel)) (va_Nw.use rfl (hxk.2.2.1 (.castable "java/lang/IndexOutOfBoundsException" "java/lang/IndexOutOfBoundsException") (by decide +kernel))) h3 h4 h5 ?_
    refine lv_astore_n (lv' := [(2, .ref q9), (0, .ref (ad 0)), (1, .int za)]) hx hb dL_endOf_6 rfl hl (by decide) rfl (fun ls hl => ?_)
    refine lv_ldc (v := (-1000001)) hx hb hown (hts (.constant RL 18 (-1000001)) (by decide +kernel)) dL_endOf_7 ?_
    have hn0 : ¬ kM za = 0 := by rw [hk0]; decide
    have e9 : (-1000001) = x := by rw [← hx9, hk0]; unfold w1; rw [if_neg (by decide)]
    exact W.iret (v := (-1000001)) hx hb hr (fun t ht hW => ⟨⟨_, (), rfl, e9, trivial⟩, hS.F ht⟩) hS.2.2 dL_endOf_9
  · refine W.eq (g2 := F0 m 5 ls [.int (rEndOf σ za)]) rfl ?_
    refine W.widen (k := 1) (n := 6) (Nat.le_of_ble_eq_true rfl) (Nat.le_of_ble_eq_true rfl) ?_
    have e9 : rEndOf σ za = x := by rw [← hx9, hk0]; unfold w1; rw [if_pos rfl]
    exact W.iret (v := rEndOf σ za) hx hb hr (fun t ht hW => ⟨⟨_, (), rfl, e9, trivial⟩, hS.F ht⟩) hS.2.2 dL_endOf_5
set_option maxHeartbeats 4000000 in
set_option maxRecDepth 100000 in
theorem c_L_failuresOf (l : Launch) (hst : l.stackTraces = false) (D : va_G) (cy : Nat → ClassId) (ad : Nat → Nat) (σ : Mem) (sz : Nat) (za : Int32) (x : Int32) (hx9 : w1 (kM za) (rFailuresOf σ za) = x) : Met l yL_failuresOf wsL_failuresOf ({ frames := 8, cells := 1, slots := 6, locals := 124 }) (va_Pc [.ref (ad 0), .int za] (cx D cy ad σ sz)) (QI x (fun _ => True) NoA) 1 6 NoA := by
  refine metWH (cc := cL_failuresOf) (maxL := 3) (ret := (some .int)) (hh := [(0, 5, 6, 16)]) (by decide) rfl ?_
  intro p e s m args below meth c s₁ B hml hv
  obtain ⟨rfl, ⟨hP, hK⟩, hxk⟩ := hv
  have hx := B.exec
  have hb := B.bytes
  have hr := B.returns
  have hts := atoms_spec (ws := wsL_failuresOf) B.pre
  have hown : s.vm.findClass RL = some m.cls := findClass_of_methodNamed B.named
  have hT := vx_table (x := yL_failuresOf) B (hts (.codeWith yL_failuresOf cL_failuresOf 3 (some .int) [(0, 5, 6, 16)]) List.mem_cons_self)
  have hS : va_S NoA s.heap s.heap [] := va_S.rf
  have hl := lv_entry ([.ref (ad 0), .int za]) (n := 3) (Nat.le_of_ble_eq_true rfl)
  rw [lg_entry_eq]
  generalize (lg_sl ([.ref (ad 0), .int za]) ++ List.replicate (3 - (lg_sl ([.ref (ad 0), .int za])).length) Slot.unset).toArray = ls at hl ⊢
  have hl : lv_has ls 3 [(0, .ref (ad 0)), (1, .int za)] := hl
  refine lv_aload_n hx hb dL_failuresOf_0 rfl (lv_at hl 0 rfl) ?_
  refine lv_iload_n hx hb dL_failuresOf_1 rfl (lv_at hl 1 rfl) ?_
  refine xS (vx_runV (As := [.int za]) (rest := []) ⟨hx, hb, hml, hown, hts⟩ (c_X3_failuresOf l hst D cy ad σ sz za) (cwV 1 hts gL_failuresOf_X3_failuresOf rfl rfl rfl (by decide +kernel) ⟨Nat.le_of_ble_eq_true rfl, Nat.le_of_ble_eq_true rfl⟩) ⟨cx_bl, cw_F hP hK, cx_at hP hK hxk⟩ rfl rfl hl.1 rfl (lv_room (Nat.le_of_ble_eq_true rfl)) dL_failuresOf_2 ⟨Nat.le_of_ble_eq_true rfl, Nat.le_of_ble_eq_true rfl⟩) (fun E ce q9 H hE hz hk h3 h4 h5 => ?_) (fun u hk0 => ?_)
  · have hS : va_S NoA s.heap H [] := va_S.grown hz hk
    have hP := hP.grown hk
    obtain ⟨rfl, hk0⟩ := hE
    refine vx_catch (name := "java/lang/IndexOutOfBoundsException") hown [] ⟨0, 5, 6, 16⟩ [] (hT.trans rfl) (fun _ h => nomatch h) rfl (by decide) (hts (.classLink RL 16 "java/lang/IndexOutOfBoundsException") (by decide +kernel)) (va_Nw.use rfl (hxk.2.2.1 (.castable "java/lang/IndexOutOfBoundsException" "java/lang/IndexOutOfBoundsException") (by decide +kernel))) h3 h4 h5 ?_
    refine lv_astore_n (lv' := [(2, .ref q9), (0, .ref (ad 0)), (1, .int za)]) hx hb dL_failuresOf_6 rfl hl (by decide) rfl (fun ls hl => ?_)
    refine lv_ldc (v := (-1000001)) hx hb hown (hts (.constant RL 18 (-1000001)) (by decide +kernel)) dL_failuresOf_7 ?_
    have hn0 : ¬ kM za = 0 := by rw [hk0]; decide
    have e9 : (-1000001) = x := by rw [← hx9, hk0]; unfold w1; rw [if_neg (by decide)]
    exact W.iret (v := (-1000001)) hx hb hr (fun t ht hW => ⟨⟨_, (), rfl, e9, trivial⟩, hS.F ht⟩) hS.2.2 dL_failuresOf_9
  · refine W.eq (g2 := F0 m 5 ls [.int (rFailuresOf σ za)]) rfl ?_
    refine W.widen (k := 1) (n := 6) (Nat.le_of_ble_eq_true rfl) (Nat.le_of_ble_eq_true rfl) ?_
    have e9 : rFailuresOf σ za = x := by rw [← hx9, hk0]; unfold w1; rw [if_pos rfl]
    exact W.iret (v := rFailuresOf σ za) hx hb hr (fun t ht hW => ⟨⟨_, (), rfl, e9, trivial⟩, hS.F ht⟩) hS.2.2 dL_failuresOf_5
set_option maxHeartbeats 4000000 in
set_option maxRecDepth 100000 in
theorem c_L_installing (l : Launch) (hst : l.stackTraces = false) (D : va_G) (cy : Nat → ClassId) (ad : Nat → Nat) (σ : Mem) (sz : Nat) (za : Int32) (x : Int32) (hx9 : w1 (kR za) (rInstalling σ za) = x) : Met l yL_installing wsL_installing ({ frames := 7, cells := 1, slots := 6, locals := 103 }) (va_Pc [.ref (ad 0), .int za] (cx D cy ad σ sz)) (QI x (fun _ => True) NoA) 1 6 NoA := by
  refine metWH (cc := cL_installing) (maxL := 3) (ret := (some .int)) (hh := [(0, 5, 6, 16)]) (by decide) rfl ?_
  intro p e s m args below meth c s₁ B hml hv
  obtain ⟨rfl, ⟨hP, hK⟩, hxk⟩ := hv
  have hx := B.exec
  have hb := B.bytes
  have hr := B.returns
  have hts := atoms_spec (ws := wsL_installing) B.pre
  have hown : s.vm.findClass RL = some m.cls := findClass_of_methodNamed B.named
  have hT := vx_table (x := yL_installing) B (hts (.codeWith yL_installing cL_installing 3 (some .int) [(0, 5, 6, 16)]) List.mem_cons_self)
  have hS : va_S NoA s.heap s.heap [] := va_S.rf
  have hl := lv_entry ([.ref (ad 0), .int za]) (n := 3) (Nat.le_of_ble_eq_true rfl)
  rw [lg_entry_eq]
  generalize (lg_sl ([.ref (ad 0), .int za]) ++ List.replicate (3 - (lg_sl ([.ref (ad 0), .int za])).length) Slot.unset).toArray = ls at hl ⊢
  have hl : lv_has ls 3 [(0, .ref (ad 0)), (1, .int za)] := hl
  refine lv_aload_n hx hb dL_installing_0 rfl (lv_at hl 0 rfl) ?_
  refine lv_iload_n hx hb dL_installing_1 rfl (lv_at hl 1 rfl) ?_
  refine xS (vx_runV (As := [.int za]) (rest := []) ⟨hx, hb, hml, hown, hts⟩ (c_X3_installing l hst D cy ad σ sz za) (cwV 1 hts gL_installing_X3_installing rfl rfl rfl (by decide +kernel) ⟨Nat.le_of_ble_eq_true rfl, Nat.le_of_ble_eq_true rfl⟩) ⟨cx_bl, cw_F hP hK, cx_at hP hK hxk⟩ rfl rfl hl.1 rfl (lv_room (Nat.le_of_ble_eq_true rfl)) dL_installing_2 ⟨Nat.le_of_ble_eq_true rfl, Nat.le_of_ble_eq_true rfl⟩) (fun E ce q9 H hE hz hk h3 h4 h5 => ?_) (fun u hk0 => ?_)
  · have hS : va_S NoA s.heap H [] := va_S.grown hz hk
    have hP := hP.grown hk
    obtain ⟨rfl, hk0⟩ := hE
    refine vx_catch (name := "java/lang/IndexOutOfBoundsException") hown [] ⟨0, 5, 6, 16⟩ [] (hT.trans rfl) (fun _ h => nomatch h) rfl (by decide) (hts (.classLink RL 16 "java/lang/IndexOutOfBoundsException") (by decide +kernel)) (va_Nw.use rfl (hxk.2.2.1 (.castable "java/lang/IndexOutOfBoundsException" "java/lang/IndexOutOfBoundsException") (by decide +kernel))) h3 h4 h5 ?_
    refine lv_astore_n (lv' := [(2, .ref q9), (0, .ref (ad 0)), (1, .int za)]) hx hb dL_installing_6 rfl hl (by decide) rfl (fun ls hl => ?_)
    refine lv_ldc (v := (-1000001)) hx hb hown (hts (.constant RL 18 (-1000001)) (by decide +kernel)) dL_installing_7 ?_
    have hn0 : ¬ kR za = 0 := by rw [hk0]; decide
    have e9 : (-1000001) = x := by rw [← hx9, hk0]; unfold w1; rw [if_neg (by decide)]
    exact W.iret (v := (-1000001)) hx hb hr (fun t ht hW => ⟨⟨_, (), rfl, e9, trivial⟩, hS.F ht⟩) hS.2.2 dL_installing_9
  · refine W.eq (g2 := F0 m 5 ls [.int (rInstalling σ za)]) rfl ?_
    refine W.widen (k := 1) (n := 6) (Nat.le_of_ble_eq_true rfl) (Nat.le_of_ble_eq_true rfl) ?_
    have e9 : rInstalling σ za = x := by rw [← hx9, hk0]; unfold w1; rw [if_pos rfl]
    exact W.iret (v := rInstalling σ za) hx hb hr (fun t ht hW => ⟨⟨_, (), rfl, e9, trivial⟩, hS.F ht⟩) hS.2.2 dL_installing_5
set_option maxHeartbeats 4000000 in
set_option maxRecDepth 100000 in
theorem c_L_queueAt (l : Launch) (hst : l.stackTraces = false) (D : va_G) (cy : Nat → ClassId) (ad : Nat → Nat) (σ : Mem) (sz : Nat) (za zb : Int32) (x : Int32) (hx9 : w1 (kQueueAt za zb) (rQueueAt σ za zb) = x) : Met l yL_queueAt wsL_queueAt ({ frames := 7, cells := 1, slots := 6, locals := 105 }) (va_Pc [.ref (ad 0), .int za, .int zb] (cx D cy ad σ sz)) (QI x (fun _ => True) NoA) 1 6 NoA := by
  refine metWH (cc := cL_queueAt) (maxL := 4) (ret := (some .int)) (hh := [(0, 6, 7, 16)]) (by decide) rfl ?_
  intro p e s m args below meth c s₁ B hml hv
  obtain ⟨rfl, ⟨hP, hK⟩, hxk⟩ := hv
  have hx := B.exec
  have hb := B.bytes
  have hr := B.returns
  have hts := atoms_spec (ws := wsL_queueAt) B.pre
  have hown : s.vm.findClass RL = some m.cls := findClass_of_methodNamed B.named
  have hT := vx_table (x := yL_queueAt) B (hts (.codeWith yL_queueAt cL_queueAt 4 (some .int) [(0, 6, 7, 16)]) List.mem_cons_self)
  have hS : va_S NoA s.heap s.heap [] := va_S.rf
  have hl := lv_entry ([.ref (ad 0), .int za, .int zb]) (n := 4) (Nat.le_of_ble_eq_true rfl)
  rw [lg_entry_eq]
  generalize (lg_sl ([.ref (ad 0), .int za, .int zb]) ++ List.replicate (4 - (lg_sl ([.ref (ad 0), .int za, .int zb])).length) Slot.unset).toArray = ls at hl ⊢
  have hl : lv_has ls 4 [(0, .ref (ad 0)), (1, .int za), (2, .int zb)] := hl
  refine lv_aload_n hx hb dL_queueAt_0 rfl (lv_at hl 0 rfl) ?_
  refine lv_iload_n hx hb dL_queueAt_1 rfl (lv_at hl 1 rfl) ?_
  refine lv_iload_n hx hb dL_queueAt_2 rfl (lv_at hl 2 rfl) ?_
  refine xS (vx_runV (As := [.int za, .int zb]) (rest := []) ⟨hx, hb, hml, hown, hts⟩ (c_X3_queueAt l hst D cy ad σ sz za zb) (cwV 2 hts gL_queueAt_X3_queueAt rfl rfl rfl (by decide +kernel) ⟨Nat.le_of_ble_eq_true rfl, Nat.le_of_ble_eq_true rfl⟩) ⟨cx_bl, cw_F hP hK, cx_at hP hK hxk⟩ rfl rfl hl.1 rfl (lv_room (Nat.le_of_ble_eq_true rfl)) dL_queueAt_3 ⟨Nat.le_of_ble_eq_true rfl, Nat.le_of_ble_eq_true rfl⟩) (fun E ce q9 H hE hz hk h3 h4 h5 => ?_) (fun u hk0 => ?_)
  · have hS : va_S NoA s.heap H [] := va_S.grown hz hk
    have hP := hP.grown hk
    obtain ⟨rfl, hk0⟩ := hE
    refine vx_catch (name := "java/lang/IndexOutOfBoundsException") hown [] ⟨0, 6, 7, 16⟩ [] (hT.trans rfl) (fun _ h => nomatch h) rfl (by decide) (hts (.classLink RL 16 "java/lang/IndexOutOfBoundsException") (by decide +kernel)) (va_Nw.use rfl (hxk.2.2.1 (.castable "java/lang/IndexOutOfBoundsException" "java/lang/IndexOutOfBoundsException") (by decide +kernel))) h3 h4 h5 ?_
    refine lv_astore_n (lv' := [(3, .ref q9), (0, .ref (ad 0)), (1, .int za), (2, .int zb)]) hx hb dL_queueAt_7 rfl hl (by decide) rfl (fun ls hl => ?_)
    refine lv_ldc (v := (-1000001)) hx hb hown (hts (.constant RL 18 (-1000001)) (by decide +kernel)) dL_queueAt_8 ?_
    have hn0 : ¬ kQueueAt za zb = 0 := by rw [hk0]; decide
    have e9 : (-1000001) = x := by rw [← hx9, hk0]; unfold w1; rw [if_neg (by decide)]
    exact W.iret (v := (-1000001)) hx hb hr (fun t ht hW => ⟨⟨_, (), rfl, e9, trivial⟩, hS.F ht⟩) hS.2.2 dL_queueAt_10
  · refine W.eq (g2 := F0 m 6 ls [.int (rQueueAt σ za zb)]) rfl ?_
    refine W.widen (k := 1) (n := 6) (Nat.le_of_ble_eq_true rfl) (Nat.le_of_ble_eq_true rfl) ?_
    have e9 : rQueueAt σ za zb = x := by rw [← hx9, hk0]; unfold w1; rw [if_pos rfl]
    exact W.iret (v := rQueueAt σ za zb) hx hb hr (fun t ht hW => ⟨⟨_, (), rfl, e9, trivial⟩, hS.F ht⟩) hS.2.2 dL_queueAt_6
set_option maxHeartbeats 4000000 in
set_option maxRecDepth 100000 in
theorem c_L_machineAt (l : Launch) (hst : l.stackTraces = false) (D : va_G) (cy : Nat → ClassId) (ad : Nat → Nat) (σ : Mem) (sz : Nat) (za : Int32) (x : Int32) (hx9 : w1 (kMachineAt σ za) (rMachineAt σ za) = x) : Met l yL_machineAt wsL_machineAt ({ frames := 7, cells := 1, slots := 6, locals := 103 }) (va_Pc [.ref (ad 0), .int za] (cx D cy ad σ sz)) (QI x (fun _ => True) NoA) 1 6 NoA := by
  refine metWH (cc := cL_machineAt) (maxL := 3) (ret := (some .int)) (hh := [(0, 5, 6, 16)]) (by decide) rfl ?_
  intro p e s m args below meth c s₁ B hml hv
  obtain ⟨rfl, ⟨hP, hK⟩, hxk⟩ := hv
  have hx := B.exec
  have hb := B.bytes
  have hr := B.returns
  have hts := atoms_spec (ws := wsL_machineAt) B.pre
  have hown : s.vm.findClass RL = some m.cls := findClass_of_methodNamed B.named
  have hT := vx_table (x := yL_machineAt) B (hts (.codeWith yL_machineAt cL_machineAt 3 (some .int) [(0, 5, 6, 16)]) List.mem_cons_self)
  have hS : va_S NoA s.heap s.heap [] := va_S.rf
  have hl := lv_entry ([.ref (ad 0), .int za]) (n := 3) (Nat.le_of_ble_eq_true rfl)
  rw [lg_entry_eq]
  generalize (lg_sl ([.ref (ad 0), .int za]) ++ List.replicate (3 - (lg_sl ([.ref (ad 0), .int za])).length) Slot.unset).toArray = ls at hl ⊢
  have hl : lv_has ls 3 [(0, .ref (ad 0)), (1, .int za)] := hl
  refine lv_aload_n hx hb dL_machineAt_0 rfl (lv_at hl 0 rfl) ?_
  refine lv_iload_n hx hb dL_machineAt_1 rfl (lv_at hl 1 rfl) ?_
  refine xS (vx_runV (As := [.int za]) (rest := []) ⟨hx, hb, hml, hown, hts⟩ (c_X3_machineAt l hst D cy ad σ sz za) (cwV 1 hts gL_machineAt_X3_machineAt rfl rfl rfl (by decide +kernel) ⟨Nat.le_of_ble_eq_true rfl, Nat.le_of_ble_eq_true rfl⟩) ⟨cx_bl, cw_F hP hK, cx_at hP hK hxk⟩ rfl rfl hl.1 rfl (lv_room (Nat.le_of_ble_eq_true rfl)) dL_machineAt_2 ⟨Nat.le_of_ble_eq_true rfl, Nat.le_of_ble_eq_true rfl⟩) (fun E ce q9 H hE hz hk h3 h4 h5 => ?_) (fun u hk0 => ?_)
  · have hS : va_S NoA s.heap H [] := va_S.grown hz hk
    have hP := hP.grown hk
    obtain ⟨rfl, hk0⟩ := hE
    refine vx_catch (name := "java/lang/IndexOutOfBoundsException") hown [] ⟨0, 5, 6, 16⟩ [] (hT.trans rfl) (fun _ h => nomatch h) rfl (by decide) (hts (.classLink RL 16 "java/lang/IndexOutOfBoundsException") (by decide +kernel)) (va_Nw.use rfl (hxk.2.2.1 (.castable "java/lang/IndexOutOfBoundsException" "java/lang/IndexOutOfBoundsException") (by decide +kernel))) h3 h4 h5 ?_
    refine lv_astore_n (lv' := [(2, .ref q9), (0, .ref (ad 0)), (1, .int za)]) hx hb dL_machineAt_6 rfl hl (by decide) rfl (fun ls hl => ?_)
    refine lv_ldc (v := (-1000001)) hx hb hown (hts (.constant RL 18 (-1000001)) (by decide +kernel)) dL_machineAt_7 ?_
    have hn0 : ¬ kMachineAt σ za = 0 := by rw [hk0]; decide
    have e9 : (-1000001) = x := by rw [← hx9, hk0]; unfold w1; rw [if_neg (by decide)]
    exact W.iret (v := (-1000001)) hx hb hr (fun t ht hW => ⟨⟨_, (), rfl, e9, trivial⟩, hS.F ht⟩) hS.2.2 dL_machineAt_9
  · refine W.eq (g2 := F0 m 5 ls [.int (rMachineAt σ za)]) rfl ?_
    refine W.widen (k := 1) (n := 6) (Nat.le_of_ble_eq_true rfl) (Nat.le_of_ble_eq_true rfl) ?_
    have e9 : rMachineAt σ za = x := by rw [← hx9, hk0]; unfold w1; rw [if_pos rfl]
    exact W.iret (v := rMachineAt σ za) hx hb hr (fun t ht hW => ⟨⟨_, (), rfl, e9, trivial⟩, hS.F ht⟩) hS.2.2 dL_machineAt_5
set_option maxHeartbeats 4000000 in
set_option maxRecDepth 100000 in
theorem c_L_stateBefore (l : Launch) (hst : l.stackTraces = false) (D : va_G) (cy : Nat → ClassId) (ad : Nat → Nat) (σ : Mem) (sz : Nat) (za zb : Int32) (x : Int32) (hx9 : w12 (kStateBefore σ za zb) (rStateBefore σ za zb) = x) : Met l yL_stateBefore wsL_stateBefore ({ frames := 8, cells := 2, slots := 12, locals := 130 }) (va_Pc [.ref (ad 0), .int za, .int zb] (cx D cy ad σ sz)) (QI x (fun _ => True) NoA) 2 12 NoA := by
  refine metWH (cc := cL_stateBefore) (maxL := 4) (ret := (some .int)) (hh := [(0, 6, 7, 16), (0, 6, 11, 19)]) (by decide) rfl ?_
  intro p e s m args below meth c s₁ B hml hv
  obtain ⟨rfl, ⟨hP, hK⟩, hxk⟩ := hv
  have hx := B.exec
  have hb := B.bytes
  have hr := B.returns
  have hts := atoms_spec (ws := wsL_stateBefore) B.pre
  have hown : s.vm.findClass RL = some m.cls := findClass_of_methodNamed B.named
  have hT := vx_table (x := yL_stateBefore) B (hts (.codeWith yL_stateBefore cL_stateBefore 4 (some .int) [(0, 6, 7, 16), (0, 6, 11, 19)]) List.mem_cons_self)
  have hS : va_S NoA s.heap s.heap [] := va_S.rf
  have hl := lv_entry ([.ref (ad 0), .int za, .int zb]) (n := 4) (Nat.le_of_ble_eq_true rfl)
  rw [lg_entry_eq]
  generalize (lg_sl ([.ref (ad 0), .int za, .int zb]) ++ List.replicate (4 - (lg_sl ([.ref (ad 0), .int za, .int zb])).length) Slot.unset).toArray = ls at hl ⊢
  have hl : lv_has ls 4 [(0, .ref (ad 0)), (1, .int za), (2, .int zb)] := hl
  refine lv_aload_n hx hb dL_stateBefore_0 rfl (lv_at hl 0 rfl) ?_
  refine lv_iload_n hx hb dL_stateBefore_1 rfl (lv_at hl 1 rfl) ?_
  refine lv_iload_n hx hb dL_stateBefore_2 rfl (lv_at hl 2 rfl) ?_
  refine xS (vx_runV (As := [.int za, .int zb]) (rest := []) ⟨hx, hb, hml, hown, hts⟩ (c_X3_stateBefore l hst D cy ad σ sz za zb) (cwV 2 hts gL_stateBefore_X3_stateBefore rfl rfl rfl (by decide +kernel) ⟨Nat.le_of_ble_eq_true rfl, Nat.le_of_ble_eq_true rfl⟩) ⟨cx_bl, cw_F hP hK, cx_at hP hK hxk⟩ rfl rfl hl.1 rfl (lv_room (Nat.le_of_ble_eq_true rfl)) dL_stateBefore_3 ⟨Nat.le_of_ble_eq_true rfl, Nat.le_of_ble_eq_true rfl⟩) (fun E ce q9 H hE hz hk h3 h4 h5 => ?_) (fun u hk0 => ?_)
  · have hS : va_S NoA s.heap H [] := va_S.grown hz hk
    have hP := hP.grown hk
    rcases (show ex12 _ _ from hE) with ⟨rfl, hk0⟩ | ⟨rfl, hk0⟩
    · refine vx_catch (name := "java/lang/IndexOutOfBoundsException") hown [] ⟨0, 6, 7, 16⟩ [⟨0, 6, 11, 19⟩] (hT.trans rfl) (fun _ h => nomatch h) rfl (by decide) (hts (.classLink RL 16 "java/lang/IndexOutOfBoundsException") (by decide +kernel)) (va_Nw.use rfl (hxk.2.2.1 (.castable "java/lang/IndexOutOfBoundsException" "java/lang/IndexOutOfBoundsException") (by decide +kernel))) h3 h4 h5 ?_
      refine lv_astore_n (lv' := [(3, .ref q9), (0, .ref (ad 0)), (1, .int za), (2, .int zb)]) hx hb dL_stateBefore_7 rfl hl (by decide) rfl (fun ls hl => ?_)
      refine lv_ldc (v := (-1000001)) hx hb hown (hts (.constant RL 18 (-1000001)) (by decide +kernel)) dL_stateBefore_8 ?_
      have hn0 : ¬ kStateBefore σ za zb = 0 := by rw [hk0]; decide
      have e9 : (-1000001) = x := by rw [← hx9, hk0]; unfold w12; rw [if_neg (by decide), if_pos rfl]
      exact W.iret (v := (-1000001)) hx hb hr (fun t ht hW => ⟨⟨_, (), rfl, e9, trivial⟩, hS.F ht⟩) hS.2.2 dL_stateBefore_10
    · refine vx_catch (name := "java/lang/IllegalArgumentException") hown [⟨0, 6, 7, 16⟩] ⟨0, 6, 11, 19⟩ [] (hT.trans rfl) (fun z hz9 => by rw [List.mem_singleton.mp hz9]; exact Or.inr ⟨by decide, "java/lang/IndexOutOfBoundsException", hts (.classLink RL 16 "java/lang/IndexOutOfBoundsException") (by decide +kernel), hxk.2.2.2.1 ("java/lang/IllegalArgumentException", "java/lang/IndexOutOfBoundsException") (by decide +kernel)⟩) rfl (by decide) (hts (.classLink RL 19 "java/lang/IllegalArgumentException") (by decide +kernel)) (va_Nw.use rfl (hxk.2.2.1 (.castable "java/lang/IllegalArgumentException" "java/lang/IllegalArgumentException") (by decide +kernel))) h3 h4 h5 ?_
      refine lv_astore_n (lv' := [(3, .ref q9), (0, .ref (ad 0)), (1, .int za), (2, .int zb)]) hx hb dL_stateBefore_11 rfl hl (by decide) rfl (fun ls hl => ?_)
      refine lv_ldc (v := (-1000002)) hx hb hown (hts (.constant RL 21 (-1000002)) (by decide +kernel)) dL_stateBefore_12 ?_
      have hn0 : ¬ kStateBefore σ za zb = 0 := by rw [hk0]; decide
      have e9 : (-1000002) = x := by rw [← hx9, hk0]; unfold w12; rw [if_neg (by decide), if_neg (by decide)]
      exact W.iret (v := (-1000002)) hx hb hr (fun t ht hW => ⟨⟨_, (), rfl, e9, trivial⟩, hS.F ht⟩) hS.2.2 dL_stateBefore_14
  · refine W.eq (g2 := F0 m 6 ls [.int (rStateBefore σ za zb)]) rfl ?_
    refine W.widen (k := 2) (n := 12) (Nat.le_of_ble_eq_true rfl) (Nat.le_of_ble_eq_true rfl) ?_
    have e9 : rStateBefore σ za zb = x := by rw [← hx9, hk0]; unfold w12; rw [if_pos rfl]
    exact W.iret (v := rStateBefore σ za zb) hx hb hr (fun t ht hW => ⟨⟨_, (), rfl, e9, trivial⟩, hS.F ht⟩) hS.2.2 dL_stateBefore_6
