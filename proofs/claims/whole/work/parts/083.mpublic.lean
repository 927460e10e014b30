set_option maxHeartbeats 4000000 in
set_option maxRecDepth 100000 in
/-- isImage -/
theorem c_X4_isImage (l : Launch) (D : va_G) (cy : Nat → ClassId) (bd : Nat → Nat) (τ : Mem) (za : Int32) : Met l yX4_isImage wsX4_isImage ({ frames := 1, cells := 0, slots := 0, locals := 22 }) (va_Pc [.ref (bd 0), .int za] (mw D cy bd τ)) (SI (b2i (bIm τ za))) 0 0 NoA := by
  refine Met.ofW (cc := cX4_isImage) (maxL := 2) (ret := (some .boolean)) (by decide) rfl ?_
  intro p e s m args below meth c s₁ B hml hv
  obtain ⟨rfl, hP, hK⟩ := hv
  have hx := B.exec
  have hb := B.bytes
  have hr := B.returns
  have hts := atoms_spec (ws := wsX4_isImage) B.pre
  have hown : s.vm.findClass RX4 = some m.cls := findClass_of_methodNamed B.named
  have hlocks := B.notSynchronized
  have hf4 := fun (w : Cond) (h : w ∈ wsX40) => hts w ((by decide +kernel : ∀ w ∈ wsX40, w ∈ wsX4_isImage) w h)
  have hl := lv_entry ([.ref (bd 0), .int za]) (n := 2) (Nat.le_of_ble_eq_true rfl)
  rw [lg_entry_eq]
  generalize (lg_sl ([.ref (bd 0), .int za]) ++ List.replicate (2 - (lg_sl ([.ref (bd 0), .int za])).length) Slot.unset).toArray = ls at hl ⊢
  have hl : lv_has ls 2 [(0, .ref (bd 0)), (1, .int za)] := hl
  refine lv_iload_n hx hb dX4_isImage_0 rfl (lv_at hl 1 rfl) ?_
  refine lv_iconst (v := 0) hx hb dX4_isImage_1 (by decide) ?_
  refine lv_bipush (v := 7) hx hb dX4_isImage_2 (by decide) ?_
  refine cS (W.runS (As := [.int za, .int 0, .int 7]) (rest := []) ⟨hx, hb, hml, hown, hts⟩ (c_X4_in l za 0 7) (va_cwS 3 hts gX4_isImage_X4_in rfl rfl rfl (by decide +kernel) ⟨Nat.le_of_ble_eq_true rfl, Nat.le_of_ble_eq_true rfl⟩) ⟨fun a U g mk h => h, fun U _ _ => ⟨rfl, trivial⟩⟩ rfl rfl hl.1 rfl (lv_room (Nat.le_of_ble_eq_true rfl)) dX4_isImage_4 ⟨Nat.le_of_ble_eq_true rfl, Nat.le_of_ble_eq_true rfl⟩) (fun _ _ => ?_)
  refine W.eq (g2 := F0 m 7 ls [.int (b2i (inB za 0 7))]) rfl ?_
  refine lv_if_eq (tgt := 23) hx hb dX4_isImage_7 (by decide) (fun c_1 => ?_) (fun c_1 => ?_)
  · replace c_1 := b2i_0.mp c_1
    refine lv_iconst (v := 0) hx hb dX4_isImage_23 (by decide) ?_
    have e9 : b2i (bIm τ za) = 0 := by simp [b2i, bIm, c_1]
    exact W.zret (v := 0) hx hb hr rfl (fun t ht hW => ⟨(), by rw [e9], trivial, ht⟩) (fun q h => nomatch h) dX4_isImage_24
  · replace c_1 := b2i_n0.mp c_1
    obtain ⟨i, hi, rfl⟩ := of_7 c_1
    have hl : lv_has ls 2 [(0, .ref (bd 0)), (1, .int (nI i))] := hl
    refine lv_aload_n hx hb dX4_isImage_10 rfl (lv_at hl 0 rfl) ?_
    refine rgO14 hx hb hf4 hown hK hP (hts (.fieldLink RX4 44 "MachineFoundryModel" "isSet" "[Z") (by decide +kernel)) dX4_isImage_11 ?_
    refine lv_iload_n hx hb dX4_isImage_14 rfl (lv_at hl 1 rfl) ?_
    refine raO14 hx hb hK hP hi (rfl) dX4_isImage_15 ?_
    refine lv_if_eq (tgt := 23) hx hb dX4_isImage_16 (by decide) (fun c_2 => ?_) (fun c_2 => ?_)
    · refine lv_iconst (v := 0) hx hb dX4_isImage_23 (by decide) ?_
      have e9 : b2i (bIm τ (nI i)) = 0 := by simp [b2i, bIm, c_1, c_2, inB_7 hi, ix_nI (show i < 2147483648 by omega)]
      exact W.zret (v := 0) hx hb hr rfl (fun t ht hW => ⟨(), by rw [e9], trivial, ht⟩) (fun q h => nomatch h) dX4_isImage_24
    · refine lv_iconst (v := 1) hx hb dX4_isImage_19 (by decide) ?_
      refine lv_goto (tgt := 24) hx hb dX4_isImage_20 (by decide) ?_
      have e9 : b2i (bIm τ (nI i)) = 1 := by simp [b2i, bIm, c_1, c_2, inB_7 hi, ix_nI (show i < 2147483648 by omega)]
      exact W.zret (v := 1) hx hb hr rfl (fun t ht hW => ⟨(), by rw [e9], trivial, ht⟩) (fun q h => nomatch h) dX4_isImage_24
set_option maxHeartbeats 4000000 in
set_option maxRecDepth 100000 in
/-- setImage -/
theorem c_X4_setImage (l : Launch) (D : va_G) (cy : Nat → ClassId) (bd : Nat → Nat) (hj : injM bd) (τ : Mem) (za zb zc zd ze zf : Int32) (hw : WB τ 30000) (hF : FI τ) : Met l yX4_setImage wsX4_setImage ({ frames := 3, cells := 0, slots := 0, locals := 69 }) (va_Pc [.ref (bd 0), .int za, .int zb, .int zc, .int zd, .int ze, .int zf] (mw D cy bd τ)) (QV (va_P D vwCl (wM cy bd (hSetImage τ za zb zc zd ze zf))) (AM bd)) 0 0 (AM bd) := by
  refine Met.ofW (cc := cX4_setImage) (maxL := 8) (ret := none) (by decide) rfl ?_
  intro p e s m args below meth c s₁ B hml hv
  obtain ⟨rfl, hP, hK⟩ := hv
  have hx := B.exec
  have hb := B.bytes
  have hr := B.returns
  have hts := atoms_spec (ws := wsX4_setImage) B.pre
  have hown : s.vm.findClass RX4 = some m.cls := findClass_of_methodNamed B.named
  have hlocks := B.notSynchronized
  have hf4 := fun (w : Cond) (h : w ∈ wsX40) => hts w ((by decide +kernel : ∀ w ∈ wsX40, w ∈ wsX4_setImage) w h)
  have hD := wM_D (cy := cy) hj
  have hS : va_S (AM bd) s.heap s.heap [] := va_S.rf
  have hl := lv_entry ([.ref (bd 0), .int za, .int zb, .int zc, .int zd, .int ze, .int zf]) (n := 8) (Nat.le_of_ble_eq_true rfl)
  rw [lg_entry_eq]
  generalize (lg_sl ([.ref (bd 0), .int za, .int zb, .int zc, .int zd, .int ze, .int zf]) ++ List.replicate (8 - (lg_sl ([.ref (bd 0), .int za, .int zb, .int zc, .int zd, .int ze, .int zf])).length) Slot.unset).toArray = ls at hl ⊢
  have hl : lv_has ls 8 [(0, .ref (bd 0)), (1, .int za), (2, .int zb), (3, .int zc), (4, .int zd), (5, .int ze), (6, .int zf)] := hl
  refine lv_iload_n hx hb dX4_setImage_0 rfl (lv_at hl 2 rfl) ?_
  refine lv_iconst (v := 0) hx hb dX4_setImage_1 (by decide) ?_
  refine lv_bipush (v := 9) hx hb dX4_setImage_2 (by decide) ?_
  refine cS (W.runS (As := [.int zb, .int 0, .int 9]) (rest := []) ⟨hx, hb, hml, hown, hts⟩ (c_X4_in l zb 0 9) (va_cwS 3 hts gX4_setImage_X4_in rfl rfl rfl (by decide +kernel) ⟨Nat.le_of_ble_eq_true rfl, Nat.le_of_ble_eq_true rfl⟩) ⟨fun a U g mk h => h, fun U _ _ => ⟨rfl, trivial⟩⟩ rfl rfl hl.1 rfl (lv_room (Nat.le_of_ble_eq_true rfl)) dX4_setImage_4 ⟨Nat.le_of_ble_eq_true rfl, Nat.le_of_ble_eq_true rfl⟩) (fun _ _ => ?_)
  refine W.eq (g2 := F0 m 7 ls [.int (b2i (inB zb 0 9))]) rfl ?_
  refine lv_if_eq (tgt := 57) hx hb dX4_setImage_7 (by decide) (fun c_1 => ?_) (fun c_1 => ?_)
  · replace c_1 := b2i_0.mp c_1
    refine lv_iconst (v := 0) hx hb dX4_setImage_57 (by decide) ?_
    refine lv_istore (lv' := [(7, .int 0), (0, .ref (bd 0)), (1, .int za), (2, .int zb), (3, .int zc), (4, .int zd), (5, .int ze), (6, .int zf)]) hx hb dX4_setImage_58 hl (by decide) rfl (fun ls hl => ?_)
    refine lv_aload_n hx hb dX4_setImage_60 rfl (lv_at hl 1 rfl) ?_
    refine lv_iload_n hx hb dX4_setImage_61 rfl (lv_at hl 2 rfl) ?_
    refine lv_iconst (v := 0) hx hb dX4_setImage_62 (by decide) ?_
    refine lv_bipush (v := 7) hx hb dX4_setImage_63 (by decide) ?_
    refine cS (W.runS (As := [.int za, .int 0, .int 7]) (rest := [.ref (bd 0)]) ⟨hx, hb, hml, hown, hts⟩ (c_X4_in l za 0 7) (va_cwS 3 hts gX4_setImage_X4_in rfl rfl rfl (by decide +kernel) ⟨Nat.le_of_ble_eq_true rfl, Nat.le_of_ble_eq_true rfl⟩) ⟨fun a U g mk h => h, fun U _ _ => ⟨rfl, trivial⟩⟩ rfl rfl hl.1 rfl (lv_room (Nat.le_of_ble_eq_true rfl)) dX4_setImage_65 ⟨Nat.le_of_ble_eq_true rfl, Nat.le_of_ble_eq_true rfl⟩) (fun _ _ => ?_)
    refine W.eq (g2 := F0 m 68 ls [.int (b2i (inB za 0 7)), .ref (bd 0)]) rfl ?_
    refine lv_iload hx hb dX4_setImage_68 (lv_at hl 0 rfl) ?_
    refine lv_iconst (v := 1) hx hb dX4_setImage_70 (by decide) ?_
    refine W.eq (g2 := F0 m 71 ls [.int (b2i true), .int (b2i false), .int (b2i (inB za 0 7)), .ref (bd 0)]) rfl ?_
    refine cMi (va_runV (As := [.int (b2i (inB za 0 7)), .int (b2i false), .int (b2i true)]) (rest := []) ⟨hx, hb, hml, hown, hts⟩ (c_X4_goes l D cy bd hj τ (inB za 0 7) false true) (cwV 3 hts gX4_setImage_X4_goes rfl rfl rfl (by decide +kernel) ⟨Nat.le_of_ble_eq_true rfl, Nat.le_of_ble_eq_true rfl⟩) ⟨mw_bl, (mw_O hP hK), (mw_at hP hK)⟩ rfl rfl hl.1 rfl (lv_room (Nat.le_of_ble_eq_true rfl)) dX4_setImage_71 ⟨Nat.le_of_ble_eq_true rfl, Nat.le_of_ble_eq_true rfl⟩) hS (fun H locs hP hS => ?_)
    refine W.eq (g2 := F0 m 74 ls [.int (b2i ((inB za 0 7) && false && true))]) rfl ?_
    have hw2 : WB (tGo τ (inB za 0 7) false true) 30000 := WB.go hw
    have hF3 : FI (tGo τ (inB za 0 7) false true) := FI.go hF
    refine lv_if_ne (tgt := 78) hx hb dX4_setImage_74 (by decide) (fun c_4 => absurd ((by simp [b2i, c_1] : (b2i ((inB za 0 7) && false && true)) = 0)) c_4) (fun c_4 => ?_)
    have e8 : hSetImage τ za zb zc zd ze zf = tGo τ (inB za 0 7) false true := by simp [hSetImage, bSetImage, tSetIm, tGo_r, tGo_0, up2_r, c_1, c_4]
    rw [← e8] at hP
    exact W.vret hx hb hr (fun t ht hW => ⟨⟨(), rfl, trivial, by rw [← ht] at hP; exact hP⟩, hS.F ht⟩) hS.2.2 dX4_setImage_77
  · replace c_1 := b2i_n0.mp c_1
    refine lv_iload_n hx hb dX4_setImage_10 rfl (lv_at hl 3 rfl) ?_
    refine lv_iconst (v := 0) hx hb dX4_setImage_11 (by decide) ?_
    refine lv_bipush (v := 99) hx hb dX4_setImage_12 (by decide) ?_
    refine cS (W.runS (As := [.int zc, .int 0, .int 99]) (rest := []) ⟨hx, hb, hml, hown, hts⟩ (c_X4_in l zc 0 99) (va_cwS 3 hts gX4_setImage_X4_in rfl rfl rfl (by decide +kernel) ⟨Nat.le_of_ble_eq_true rfl, Nat.le_of_ble_eq_true rfl⟩) ⟨fun a U g mk h => h, fun U _ _ => ⟨rfl, trivial⟩⟩ rfl rfl hl.1 rfl (lv_room (Nat.le_of_ble_eq_true rfl)) dX4_setImage_14 ⟨Nat.le_of_ble_eq_true rfl, Nat.le_of_ble_eq_true rfl⟩) (fun _ _ => ?_)
    refine W.eq (g2 := F0 m 17 ls [.int (b2i (inB zc 0 99))]) rfl ?_
    refine lv_if_eq (tgt := 57) hx hb dX4_setImage_17 (by decide) (fun c_5 => ?_) (fun c_5 => ?_)
    · replace c_5 := b2i_0.mp c_5
      refine lv_iconst (v := 0) hx hb dX4_setImage_57 (by decide) ?_
      refine lv_istore (lv' := [(7, .int 0), (0, .ref (bd 0)), (1, .int za), (2, .int zb), (3, .int zc), (4, .int zd), (5, .int ze), (6, .int zf)]) hx hb dX4_setImage_58 hl (by decide) rfl (fun ls hl => ?_)
      refine lv_aload_n hx hb dX4_setImage_60 rfl (lv_at hl 1 rfl) ?_
      refine lv_iload_n hx hb dX4_setImage_61 rfl (lv_at hl 2 rfl) ?_
      refine lv_iconst (v := 0) hx hb dX4_setImage_62 (by decide) ?_
      refine lv_bipush (v := 7) hx hb dX4_setImage_63 (by decide) ?_
      refine cS (W.runS (As := [.int za, .int 0, .int 7]) (rest := [.ref (bd 0)]) ⟨hx, hb, hml, hown, hts⟩ (c_X4_in l za 0 7) (va_cwS 3 hts gX4_setImage_X4_in rfl rfl rfl (by decide +kernel) ⟨Nat.le_of_ble_eq_true rfl, Nat.le_of_ble_eq_true rfl⟩) ⟨fun a U g mk h => h, fun U _ _ => ⟨rfl, trivial⟩⟩ rfl rfl hl.1 rfl (lv_room (Nat.le_of_ble_eq_true rfl)) dX4_setImage_65 ⟨Nat.le_of_ble_eq_true rfl, Nat.le_of_ble_eq_true rfl⟩) (fun _ _ => ?_)
      refine W.eq (g2 := F0 m 68 ls [.int (b2i (inB za 0 7)), .ref (bd 0)]) rfl ?_
      refine lv_iload hx hb dX4_setImage_68 (lv_at hl 0 rfl) ?_
      refine lv_iconst (v := 1) hx hb dX4_setImage_70 (by decide) ?_
      refine W.eq (g2 := F0 m 71 ls [.int (b2i true), .int (b2i false), .int (b2i (inB za 0 7)), .ref (bd 0)]) rfl ?_
      refine cMi (va_runV (As := [.int (b2i (inB za 0 7)), .int (b2i false), .int (b2i true)]) (rest := []) ⟨hx, hb, hml, hown, hts⟩ (c_X4_goes l D cy bd hj τ (inB za 0 7) false true) (cwV 3 hts gX4_setImage_X4_goes rfl rfl rfl (by decide +kernel) ⟨Nat.le_of_ble_eq_true rfl, Nat.le_of_ble_eq_true rfl⟩) ⟨mw_bl, (mw_O hP hK), (mw_at hP hK)⟩ rfl rfl hl.1 rfl (lv_room (Nat.le_of_ble_eq_true rfl)) dX4_setImage_71 ⟨Nat.le_of_ble_eq_true rfl, Nat.le_of_ble_eq_true rfl⟩) hS (fun H locs hP hS => ?_)
      refine W.eq (g2 := F0 m 74 ls [.int (b2i ((inB za 0 7) && false && true))]) rfl ?_
      have hw6 : WB (tGo τ (inB za 0 7) false true) 30000 := WB.go hw
      have hF7 : FI (tGo τ (inB za 0 7) false true) := FI.go hF
      refine lv_if_ne (tgt := 78) hx hb dX4_setImage_74 (by decide) (fun c_8 => absurd ((by simp [b2i, c_1, c_5] : (b2i ((inB za 0 7) && false && true)) = 0)) c_8) (fun c_8 => ?_)
      have e8 : hSetImage τ za zb zc zd ze zf = tGo τ (inB za 0 7) false true := by simp [hSetImage, bSetImage, tSetIm, tGo_r, tGo_0, up2_r, c_1, c_5, c_8]
      rw [← e8] at hP
      exact W.vret hx hb hr (fun t ht hW => ⟨⟨(), rfl, trivial, by rw [← ht] at hP; exact hP⟩, hS.F ht⟩) hS.2.2 dX4_setImage_77
    · replace c_5 := b2i_n0.mp c_5
      refine lv_iload hx hb dX4_setImage_20 (lv_at hl 4 rfl) ?_
      refine lv_iconst (v := 0) hx hb dX4_setImage_22 (by decide) ?_
      refine lv_bipush (v := 15) hx hb dX4_setImage_23 (by decide) ?_
      refine cS (W.runS (As := [.int zd, .int 0, .int 15]) (rest := []) ⟨hx, hb, hml, hown, hts⟩ (c_X4_in l zd 0 15) (va_cwS 3 hts gX4_setImage_X4_in rfl rfl rfl (by decide +kernel) ⟨Nat.le_of_ble_eq_true rfl, Nat.le_of_ble_eq_true rfl⟩) ⟨fun a U g mk h => h, fun U _ _ => ⟨rfl, trivial⟩⟩ rfl rfl hl.1 rfl (lv_room (Nat.le_of_ble_eq_true rfl)) dX4_setImage_25 ⟨Nat.le_of_ble_eq_true rfl, Nat.le_of_ble_eq_true rfl⟩) (fun _ _ => ?_)
      refine W.eq (g2 := F0 m 28 ls [.int (b2i (inB zd 0 15))]) rfl ?_
      refine lv_if_eq (tgt := 57) hx hb dX4_setImage_28 (by decide) (fun c_9 => ?_) (fun c_9 => ?_)
      · replace c_9 := b2i_0.mp c_9
        refine lv_iconst (v := 0) hx hb dX4_setImage_57 (by decide) ?_
        refine lv_istore (lv' := [(7, .int 0), (0, .ref (bd 0)), (1, .int za), (2, .int zb), (3, .int zc), (4, .int zd), (5, .int ze), (6, .int zf)]) hx hb dX4_setImage_58 hl (by decide) rfl (fun ls hl => ?_)
        refine lv_aload_n hx hb dX4_setImage_60 rfl (lv_at hl 1 rfl) ?_
        refine lv_iload_n hx hb dX4_setImage_61 rfl (lv_at hl 2 rfl) ?_
        refine lv_iconst (v := 0) hx hb dX4_setImage_62 (by decide) ?_
        refine lv_bipush (v := 7) hx hb dX4_setImage_63 (by decide) ?_
        refine cS (W.runS (As := [.int za, .int 0, .int 7]) (rest := [.ref (bd 0)]) ⟨hx, hb, hml, hown, hts⟩ (c_X4_in l za 0 7) (va_cwS 3 hts gX4_setImage_X4_in rfl rfl rfl (by decide +kernel) ⟨Nat.le_of_ble_eq_true rfl, Nat.le_of_ble_eq_true rfl⟩) ⟨fun a U g mk h => h, fun U _ _ => ⟨rfl, trivial⟩⟩ rfl rfl hl.1 rfl (lv_room (Nat.le_of_ble_eq_true rfl)) dX4_setImage_65 ⟨Nat.le_of_ble_eq_true rfl, Nat.le_of_ble_eq_true rfl⟩) (fun _ _ => ?_)
        refine W.eq (g2 := F0 m 68 ls [.int (b2i (inB za 0 7)), .ref (bd 0)]) rfl ?_
        refine lv_iload hx hb dX4_setImage_68 (lv_at hl 0 rfl) ?_
        refine lv_iconst (v := 1) hx hb dX4_setImage_70 (by decide) ?_
        refine W.eq (g2 := F0 m 71 ls [.int (b2i true), .int (b2i false), .int (b2i (inB za 0 7)), .ref (bd 0)]) rfl ?_
        refine cMi (va_runV (As := [.int (b2i (inB za 0 7)), .int (b2i false), .int (b2i true)]) (rest := []) ⟨hx, hb, hml, hown, hts⟩ (c_X4_goes l D cy bd hj τ (inB za 0 7) false true) (cwV 3 hts gX4_setImage_X4_goes rfl rfl rfl (by decide +kernel) ⟨Nat.le_of_ble_eq_true rfl, Nat.le_of_ble_eq_true rfl⟩) ⟨mw_bl, (mw_O hP hK), (mw_at hP hK)⟩ rfl rfl hl.1 rfl (lv_room (Nat.le_of_ble_eq_true rfl)) dX4_setImage_71 ⟨Nat.le_of_ble_eq_true rfl, Nat.le_of_ble_eq_true rfl⟩) hS (fun H locs hP hS => ?_)
        refine W.eq (g2 := F0 m 74 ls [.int (b2i ((inB za 0 7) && false && true))]) rfl ?_
        have hw10 : WB (tGo τ (inB za 0 7) false true) 30000 := WB.go hw
        have hF11 : FI (tGo τ (inB za 0 7) false true) := FI.go hF
        refine lv_if_ne (tgt := 78) hx hb dX4_setImage_74 (by decide) (fun c_12 => absurd ((by simp [b2i, c_1, c_5, c_9] : (b2i ((inB za 0 7) && false && true)) = 0)) c_12) (fun c_12 => ?_)
        have e8 : hSetImage τ za zb zc zd ze zf = tGo τ (inB za 0 7) false true := by simp [hSetImage, bSetImage, tSetIm, tGo_r, tGo_0, up2_r, c_1, c_5, c_9, c_12]
        rw [← e8] at hP
        exact W.vret hx hb hr (fun t ht hW => ⟨⟨(), rfl, trivial, by rw [← ht] at hP; exact hP⟩, hS.F ht⟩) hS.2.2 dX4_setImage_77
      · replace c_9 := b2i_n0.mp c_9
        refine lv_iload hx hb dX4_setImage_31 (lv_at hl 5 rfl) ?_
        refine lv_iconst (v := 0) hx hb dX4_setImage_33 (by decide) ?_
        refine lv_bipush (v := 15) hx hb dX4_setImage_34 (by decide) ?_
        refine cS (W.runS (As := [.int ze, .int 0, .int 15]) (rest := []) ⟨hx, hb, hml, hown, hts⟩ (c_X4_in l ze 0 15) (va_cwS 3 hts gX4_setImage_X4_in rfl rfl rfl (by decide +kernel) ⟨Nat.le_of_ble_eq_true rfl, Nat.le_of_ble_eq_true rfl⟩) ⟨fun a U g mk h => h, fun U _ _ => ⟨rfl, trivial⟩⟩ rfl rfl hl.1 rfl (lv_room (Nat.le_of_ble_eq_true rfl)) dX4_setImage_36 ⟨Nat.le_of_ble_eq_true rfl, Nat.le_of_ble_eq_true rfl⟩) (fun _ _ => ?_)
        refine W.eq (g2 := F0 m 39 ls [.int (b2i (inB ze 0 15))]) rfl ?_
        refine lv_if_eq (tgt := 57) hx hb dX4_setImage_39 (by decide) (fun c_13 => ?_) (fun c_13 => ?_)
        · replace c_13 := b2i_0.mp c_13
          refine lv_iconst (v := 0) hx hb dX4_setImage_57 (by decide) ?_
          refine lv_istore (lv' := [(7, .int 0), (0, .ref (bd 0)), (1, .int za), (2, .int zb), (3, .int zc), (4, .int zd), (5, .int ze), (6, .int zf)]) hx hb dX4_setImage_58 hl (by decide) rfl (fun ls hl => ?_)
          refine lv_aload_n hx hb dX4_setImage_60 rfl (lv_at hl 1 rfl) ?_
          refine lv_iload_n hx hb dX4_setImage_61 rfl (lv_at hl 2 rfl) ?_
          refine lv_iconst (v := 0) hx hb dX4_setImage_62 (by decide) ?_
          refine lv_bipush (v := 7) hx hb dX4_setImage_63 (by decide) ?_
          refine cS (W.runS (As := [.int za, .int 0, .int 7]) (rest := [.ref (bd 0)]) ⟨hx, hb, hml, hown, hts⟩ (c_X4_in l za 0 7) (va_cwS 3 hts gX4_setImage_X4_in rfl rfl rfl (by decide +kernel) ⟨Nat.le_of_ble_eq_true rfl, Nat.le_of_ble_eq_true rfl⟩) ⟨fun a U g mk h => h, fun U _ _ => ⟨rfl, trivial⟩⟩ rfl rfl hl.1 rfl (lv_room (Nat.le_of_ble_eq_true rfl)) dX4_setImage_65 ⟨Nat.le_of_ble_eq_true rfl, Nat.le_of_ble_eq_true rfl⟩) (fun _ _ => ?_)
          refine W.eq (g2 := F0 m 68 ls [.int (b2i (inB za 0 7)), .ref (bd 0)]) rfl ?_
          refine lv_iload hx hb dX4_setImage_68 (lv_at hl 0 rfl) ?_
          refine lv_iconst (v := 1) hx hb dX4_setImage_70 (by decide) ?_
          refine W.eq (g2 := F0 m 71 ls [.int (b2i true), .int (b2i false), .int (b2i (inB za 0 7)), .ref (bd 0)]) rfl ?_
          refine cMi (va_runV (As := [.int (b2i (inB za 0 7)), .int (b2i false), .int (b2i true)]) (rest := []) ⟨hx, hb, hml, hown, hts⟩ (c_X4_goes l D cy bd hj τ (inB za 0 7) false true) (cwV 3 hts gX4_setImage_X4_goes rfl rfl rfl (by decide +kernel) ⟨Nat.le_of_ble_eq_true rfl, Nat.le_of_ble_eq_true rfl⟩) ⟨mw_bl, (mw_O hP hK), (mw_at hP hK)⟩ rfl rfl hl.1 rfl (lv_room (Nat.le_of_ble_eq_true rfl)) dX4_setImage_71 ⟨Nat.le_of_ble_eq_true rfl, Nat.le_of_ble_eq_true rfl⟩) hS (fun H locs hP hS => ?_)
          refine W.eq (g2 := F0 m 74 ls [.int (b2i ((inB za 0 7) && false && true))]) rfl ?_
          have hw14 : WB (tGo τ (inB za 0 7) false true) 30000 := WB.go hw
          have hF15 : FI (tGo τ (inB za 0 7) false true) := FI.go hF
          refine lv_if_ne (tgt := 78) hx hb dX4_setImage_74 (by decide) (fun c_16 => absurd ((by simp [b2i, c_1, c_5, c_9, c_13] : (b2i ((inB za 0 7) && false && true)) = 0)) c_16) (fun c_16 => ?_)
          have e8 : hSetImage τ za zb zc zd ze zf = tGo τ (inB za 0 7) false true := by simp [hSetImage, bSetImage, tSetIm, tGo_r, tGo_0, up2_r, c_1, c_5, c_9, c_13, c_16]
          rw [← e8] at hP
          exact W.vret hx hb hr (fun t ht hW => ⟨⟨(), rfl, trivial, by rw [← ht] at hP; exact hP⟩, hS.F ht⟩) hS.2.2 dX4_setImage_77
        · replace c_13 := b2i_n0.mp c_13
          refine lv_iload hx hb dX4_setImage_42 (lv_at hl 6 rfl) ?_
          refine lv_iconst (v := 0) hx hb dX4_setImage_44 (by decide) ?_
          refine lv_bipush (v := 15) hx hb dX4_setImage_45 (by decide) ?_
          refine cS (W.runS (As := [.int zf, .int 0, .int 15]) (rest := []) ⟨hx, hb, hml, hown, hts⟩ (c_X4_in l zf 0 15) (va_cwS 3 hts gX4_setImage_X4_in rfl rfl rfl (by decide +kernel) ⟨Nat.le_of_ble_eq_true rfl, Nat.le_of_ble_eq_true rfl⟩) ⟨fun a U g mk h => h, fun U _ _ => ⟨rfl, trivial⟩⟩ rfl rfl hl.1 rfl (lv_room (Nat.le_of_ble_eq_true rfl)) dX4_setImage_47 ⟨Nat.le_of_ble_eq_true rfl, Nat.le_of_ble_eq_true rfl⟩) (fun _ _ => ?_)
          refine W.eq (g2 := F0 m 50 ls [.int (b2i (inB zf 0 15))]) rfl ?_
          refine lv_if_eq (tgt := 57) hx hb dX4_setImage_50 (by decide) (fun c_17 => ?_) (fun c_17 => ?_)
          · replace c_17 := b2i_0.mp c_17
            refine lv_iconst (v := 0) hx hb dX4_setImage_57 (by decide) ?_
            refine lv_istore (lv' := [(7, .int 0), (0, .ref (bd 0)), (1, .int za), (2, .int zb), (3, .int zc), (4, .int zd), (5, .int ze), (6, .int zf)]) hx hb dX4_setImage_58 hl (by decide) rfl (fun ls hl => ?_)
            refine lv_aload_n hx hb dX4_setImage_60 rfl (lv_at hl 1 rfl) ?_
            refine lv_iload_n hx hb dX4_setImage_61 rfl (lv_at hl 2 rfl) ?_
            refine lv_iconst (v := 0) hx hb dX4_setImage_62 (by decide) ?_
            refine lv_bipush (v := 7) hx hb dX4_setImage_63 (by decide) ?_
            refine cS (W.runS (As := [.int za, .int 0, .int 7]) (rest := [.ref (bd 0)]) ⟨hx, hb, hml, hown, hts⟩ (c_X4_in l za 0 7) (va_cwS 3 hts gX4_setImage_X4_in rfl rfl rfl (by decide +kernel) ⟨Nat.le_of_ble_eq_true rfl, Nat.le_of_ble_eq_true rfl⟩) ⟨fun a U g mk h => h, fun U _ _ => ⟨rfl, trivial⟩⟩ rfl rfl hl.1 rfl (lv_room (Nat.le_of_ble_eq_true rfl)) dX4_setImage_65 ⟨Nat.le_of_ble_eq_true rfl, Nat.le_of_ble_eq_true rfl⟩) (fun _ _ => ?_)
            refine W.eq (g2 := F0 m 68 ls [.int (b2i (inB za 0 7)), .ref (bd 0)]) rfl ?_
            refine lv_iload hx hb dX4_setImage_68 (lv_at hl 0 rfl) ?_
            refine lv_iconst (v := 1) hx hb dX4_setImage_70 (by decide) ?_
            refine W.eq (g2 := F0 m 71 ls [.int (b2i true), .int (b2i false), .int (b2i (inB za 0 7)), .ref (bd 0)]) rfl ?_
            refine cMi (va_runV (As := [.int (b2i (inB za 0 7)), .int (b2i false), .int (b2i true)]) (rest := []) ⟨hx, hb, hml, hown, hts⟩ (c_X4_goes l D cy bd hj τ (inB za 0 7) false true) (cwV 3 hts gX4_setImage_X4_goes rfl rfl rfl (by decide +kernel) ⟨Nat.le_of_ble_eq_true rfl, Nat.le_of_ble_eq_true rfl⟩) ⟨mw_bl, (mw_O hP hK), (mw_at hP hK)⟩ rfl rfl hl.1 rfl (lv_room (Nat.le_of_ble_eq_true rfl)) dX4_setImage_71 ⟨Nat.le_of_ble_eq_true rfl, Nat.le_of_ble_eq_true rfl⟩) hS (fun H locs hP hS => ?_)
            refine W.eq (g2 := F0 m 74 ls [.int (b2i ((inB za 0 7) && false && true))]) rfl ?_
            have hw18 : WB (tGo τ (inB za 0 7) false true) 30000 := WB.go hw
            have hF19 : FI (tGo τ (inB za 0 7) false true) := FI.go hF
            refine lv_if_ne (tgt := 78) hx hb dX4_setImage_74 (by decide) (fun c_20 => absurd ((by simp [b2i, c_1, c_5, c_9, c_13, c_17] : (b2i ((inB za 0 7) && false && true)) = 0)) c_20) (fun c_20 => ?_)
            have e8 : hSetImage τ za zb zc zd ze zf = tGo τ (inB za 0 7) false true := by simp [hSetImage, bSetImage, tSetIm, tGo_r, tGo_0, up2_r, c_1, c_5, c_9, c_13, c_17, c_20]
            rw [← e8] at hP
            exact W.vret hx hb hr (fun t ht hW => ⟨⟨(), rfl, trivial, by rw [← ht] at hP; exact hP⟩, hS.F ht⟩) hS.2.2 dX4_setImage_77
          · replace c_17 := b2i_n0.mp c_17
            refine lv_iconst (v := 1) hx hb dX4_setImage_53 (by decide) ?_
            refine lv_goto (tgt := 58) hx hb dX4_setImage_54 (by decide) ?_
            refine lv_istore (lv' := [(7, .int 1), (0, .ref (bd 0)), (1, .int za), (2, .int zb), (3, .int zc), (4, .int zd), (5, .int ze), (6, .int zf)]) hx hb dX4_setImage_58 hl (by decide) rfl (fun ls hl => ?_)
            refine lv_aload_n hx hb dX4_setImage_60 rfl (lv_at hl 1 rfl) ?_
            refine lv_iload_n hx hb dX4_setImage_61 rfl (lv_at hl 2 rfl) ?_
            refine lv_iconst (v := 0) hx hb dX4_setImage_62 (by decide) ?_
            refine lv_bipush (v := 7) hx hb dX4_setImage_63 (by decide) ?_
            refine cS (W.runS (As := [.int za, .int 0, .int 7]) (rest := [.ref (bd 0)]) ⟨hx, hb, hml, hown, hts⟩ (c_X4_in l za 0 7) (va_cwS 3 hts gX4_setImage_X4_in rfl rfl rfl (by decide +kernel) ⟨Nat.le_of_ble_eq_true rfl, Nat.le_of_ble_eq_true rfl⟩) ⟨fun a U g mk h => h, fun U _ _ => ⟨rfl, trivial⟩⟩ rfl rfl hl.1 rfl (lv_room (Nat.le_of_ble_eq_true rfl)) dX4_setImage_65 ⟨Nat.le_of_ble_eq_true rfl, Nat.le_of_ble_eq_true rfl⟩) (fun _ _ => ?_)
            refine W.eq (g2 := F0 m 68 ls [.int (b2i (inB za 0 7)), .ref (bd 0)]) rfl ?_
            refine lv_iload hx hb dX4_setImage_68 (lv_at hl 0 rfl) ?_
            refine lv_iconst (v := 1) hx hb dX4_setImage_70 (by decide) ?_
            refine W.eq (g2 := F0 m 71 ls [.int (b2i true), .int (b2i true), .int (b2i (inB za 0 7)), .ref (bd 0)]) rfl ?_
            refine cMi (va_runV (As := [.int (b2i (inB za 0 7)), .int (b2i true), .int (b2i true)]) (rest := []) ⟨hx, hb, hml, hown, hts⟩ (c_X4_goes l D cy bd hj τ (inB za 0 7) true true) (cwV 3 hts gX4_setImage_X4_goes rfl rfl rfl (by decide +kernel) ⟨Nat.le_of_ble_eq_true rfl, Nat.le_of_ble_eq_true rfl⟩) ⟨mw_bl, (mw_O hP hK), (mw_at hP hK)⟩ rfl rfl hl.1 rfl (lv_room (Nat.le_of_ble_eq_true rfl)) dX4_setImage_71 ⟨Nat.le_of_ble_eq_true rfl, Nat.le_of_ble_eq_true rfl⟩) hS (fun H locs hP hS => ?_)
            refine W.eq (g2 := F0 m 74 ls [.int (b2i ((inB za 0 7) && true && true))]) rfl ?_
            have hw21 : WB (tGo τ (inB za 0 7) true true) 30000 := WB.go hw
            have hF22 : FI (tGo τ (inB za 0 7) true true) := FI.go hF
            refine lv_if_ne (tgt := 78) hx hb dX4_setImage_74 (by decide) (fun c_23 => ?_) (fun c_23 => ?_)
            · replace c_23 := b2i_n0.mp c_23
              have g_24 : (inB za 0 7) = true := by have h9 := c_23; simp at h9; simp [h9]
              obtain ⟨i, hi, rfl⟩ := of_7 g_24
              have hl : lv_has ls 8 [(7, .int 1), (0, .ref (bd 0)), (1, .int (nI i)), (2, .int zb), (3, .int zc), (4, .int zd), (5, .int ze), (6, .int zf)] := hl
              refine lv_aload_n hx hb dX4_setImage_78 rfl (lv_at hl 1 rfl) ?_
              refine rgO20 hx hb hf4 hown hK hP (hts (.fieldLink RX4 63 "MachineFoundryModel" "hours" "[I") (by decide +kernel)) dX4_setImage_79 ?_
              refine lv_iload_n hx hb dX4_setImage_82 rfl (lv_at hl 2 rfl) ?_
              refine lv_aload_n hx hb dX4_setImage_83 rfl (lv_at hl 1 rfl) ?_
              refine rgO14 hx hb hf4 hown hK hP (hts (.fieldLink RX4 44 "MachineFoundryModel" "isSet" "[Z") (by decide +kernel)) dX4_setImage_84 ?_
              refine lv_iload_n hx hb dX4_setImage_87 rfl (lv_at hl 2 rfl) ?_
              refine raO14 (x := τ 14 i) hx hb hK hP hi (by simp [up2, tGo]) dX4_setImage_88 ?_
              refine lv_if_eq (tgt := 101) hx hb dX4_setImage_89 (by decide) (fun c_25 => ?_) (fun c_25 => ?_)
              · refine lv_iconst (v := 2) hx hb dX4_setImage_101 (by decide) ?_
                refine rsO20 hx hb hK hP hD hS hi dX4_setImage_102 (fun H locs hP hS => ?_)
                refine lv_aload_n hx hb dX4_setImage_103 rfl (lv_at hl 1 rfl) ?_
                refine rgO14 hx hb hf4 hown hK hP (hts (.fieldLink RX4 44 "MachineFoundryModel" "isSet" "[Z") (by decide +kernel)) dX4_setImage_104 ?_
                refine lv_iload_n hx hb dX4_setImage_107 rfl (lv_at hl 2 rfl) ?_
                refine lv_iconst (v := 1) hx hb dX4_setImage_108 (by decide) ?_
                refine rsO14 hx hb hK hP hD hS hi rfl dX4_setImage_109 (fun H locs hP hS => ?_)
                refine lv_aload_n hx hb dX4_setImage_110 rfl (lv_at hl 1 rfl) ?_
                refine rgO15 hx hb hf4 hown hK hP (hts (.fieldLink RX4 48 "MachineFoundryModel" "priority" "[I") (by decide +kernel)) dX4_setImage_111 ?_
                refine lv_iload_n hx hb dX4_setImage_114 rfl (lv_at hl 2 rfl) ?_
                refine lv_iload_n hx hb dX4_setImage_115 rfl (lv_at hl 3 rfl) ?_
                refine rsO15 hx hb hK hP hD hS hi dX4_setImage_116 (fun H locs hP hS => ?_)
                refine lv_aload_n hx hb dX4_setImage_117 rfl (lv_at hl 1 rfl) ?_
                refine rgO16 hx hb hf4 hown hK hP (hts (.fieldLink RX4 51 "MachineFoundryModel" "least" "[I") (by decide +kernel)) dX4_setImage_118 ?_
                refine lv_iload_n hx hb dX4_setImage_121 rfl (lv_at hl 2 rfl) ?_
                refine lv_iload_n hx hb dX4_setImage_122 rfl (lv_at hl 4 rfl) ?_
                refine rsO16 hx hb hK hP hD hS hi dX4_setImage_123 (fun H locs hP hS => ?_)
                refine lv_aload_n hx hb dX4_setImage_124 rfl (lv_at hl 1 rfl) ?_
                refine rgO17 hx hb hf4 hown hK hP (hts (.fieldLink RX4 54 "MachineFoundryModel" "kinds" "[I") (by decide +kernel)) dX4_setImage_125 ?_
                refine lv_iload_n hx hb dX4_setImage_128 rfl (lv_at hl 2 rfl) ?_
                refine lv_iload hx hb dX4_setImage_129 (lv_at hl 5 rfl) ?_
                refine rsO17 hx hb hK hP hD hS hi dX4_setImage_131 (fun H locs hP hS => ?_)
                refine lv_aload_n hx hb dX4_setImage_132 rfl (lv_at hl 1 rfl) ?_
                refine rgO18 hx hb hf4 hown hK hP (hts (.fieldLink RX4 57 "MachineFoundryModel" "required" "[I") (by decide +kernel)) dX4_setImage_133 ?_
                refine lv_iload_n hx hb dX4_setImage_136 rfl (lv_at hl 2 rfl) ?_
                refine lv_iload hx hb dX4_setImage_137 (lv_at hl 6 rfl) ?_
                refine rsO18 hx hb hK hP hD hS hi dX4_setImage_139 (fun H locs hP hS => ?_)
                refine lv_aload_n hx hb dX4_setImage_140 rfl (lv_at hl 1 rfl) ?_
                refine rgO19 hx hb hf4 hown hK hP (hts (.fieldLink RX4 60 "MachineFoundryModel" "barred" "[I") (by decide +kernel)) dX4_setImage_141 ?_
                refine lv_iload_n hx hb dX4_setImage_144 rfl (lv_at hl 2 rfl) ?_
                refine lv_iload hx hb dX4_setImage_145 (lv_at hl 7 rfl) ?_
                refine rsO19 hx hb hK hP hD hS hi dX4_setImage_147 (fun H locs hP hS => ?_)
                refine lv_aload_n hx hb dX4_setImage_148 rfl (lv_at hl 1 rfl) ?_
                refine cMv (va_runV (As := []) (rest := []) ⟨hx, hb, hml, hown, hts⟩ (c_X4_begins l D cy bd hj (up2 (up2 (up2 (up2 (up2 (up2 (up2 (tGo τ (inB (nI i) 0 7) true true) 20 i 2) 14 i 1) 15 i zb) 16 i zc) 17 i zd) 18 i ze) 19 i zf) (WB.le (WB.cong hw21 (by simp [up2])) (by omega))) (cwV 0 hts gX4_setImage_X4_begins rfl rfl rfl (by decide +kernel) ⟨Nat.le_of_ble_eq_true rfl, Nat.le_of_ble_eq_true rfl⟩) ⟨mw_bl, (mw_O hP hK), (mw_at hP hK)⟩ rfl rfl hl.1 rfl (lv_room (Nat.le_of_ble_eq_true rfl)) dX4_setImage_149 ⟨Nat.le_of_ble_eq_true rfl, Nat.le_of_ble_eq_true rfl⟩) hS (fun H locs hP hS => ?_)
                refine W.eq (g2 := F0 m 152 ls []) rfl ?_
                have e8 : hSetImage τ (nI i) zb zc zd ze zf = tBegins (up2 (up2 (up2 (up2 (up2 (up2 (up2 (tGo τ (inB (nI i) 0 7) true true) 20 i 2) 14 i 1) 15 i zb) 16 i zc) 17 i zd) 18 i ze) 19 i zf) := by simp [hSetImage, bSetImage, tSetIm, tGo_r, tGo_0, up2_r, c_1, c_5, c_9, c_13, c_17, c_23, g_24, c_25, inB_7 hi, ix_nI (show i < 2147483648 by omega)]
                rw [← e8] at hP
                exact W.vret hx hb hr (fun t ht hW => ⟨⟨(), rfl, trivial, by rw [← ht] at hP; exact hP⟩, hS.F ht⟩) hS.2.2 dX4_setImage_152
              · refine lv_aload_n hx hb dX4_setImage_92 rfl (lv_at hl 1 rfl) ?_
                refine rgO20 hx hb hf4 hown hK hP (hts (.fieldLink RX4 63 "MachineFoundryModel" "hours" "[I") (by decide +kernel)) dX4_setImage_93 ?_
                refine lv_iload_n hx hb dX4_setImage_96 rfl (lv_at hl 2 rfl) ?_
                refine raO20 (x := τ 20 i) hx hb hK hP hi (by simp [up2, tGo]) dX4_setImage_97 ?_
                refine lv_goto (tgt := 102) hx hb dX4_setImage_98 (by decide) ?_
                refine rsO20 hx hb hK hP hD hS hi dX4_setImage_102 (fun H locs hP hS => ?_)
                refine lv_aload_n hx hb dX4_setImage_103 rfl (lv_at hl 1 rfl) ?_
                refine rgO14 hx hb hf4 hown hK hP (hts (.fieldLink RX4 44 "MachineFoundryModel" "isSet" "[Z") (by decide +kernel)) dX4_setImage_104 ?_
                refine lv_iload_n hx hb dX4_setImage_107 rfl (lv_at hl 2 rfl) ?_
                refine lv_iconst (v := 1) hx hb dX4_setImage_108 (by decide) ?_
                refine rsO14 hx hb hK hP hD hS hi rfl dX4_setImage_109 (fun H locs hP hS => ?_)
                refine lv_aload_n hx hb dX4_setImage_110 rfl (lv_at hl 1 rfl) ?_
                refine rgO15 hx hb hf4 hown hK hP (hts (.fieldLink RX4 48 "MachineFoundryModel" "priority" "[I") (by decide +kernel)) dX4_setImage_111 ?_
                refine lv_iload_n hx hb dX4_setImage_114 rfl (lv_at hl 2 rfl) ?_
                refine lv_iload_n hx hb dX4_setImage_115 rfl (lv_at hl 3 rfl) ?_
                refine rsO15 hx hb hK hP hD hS hi dX4_setImage_116 (fun H locs hP hS => ?_)
                refine lv_aload_n hx hb dX4_setImage_117 rfl (lv_at hl 1 rfl) ?_
                refine rgO16 hx hb hf4 hown hK hP (hts (.fieldLink RX4 51 "MachineFoundryModel" "least" "[I") (by decide +kernel)) dX4_setImage_118 ?_
                refine lv_iload_n hx hb dX4_setImage_121 rfl (lv_at hl 2 rfl) ?_
                refine lv_iload_n hx hb dX4_setImage_122 rfl (lv_at hl 4 rfl) ?_
                refine rsO16 hx hb hK hP hD hS hi dX4_setImage_123 (fun H locs hP hS => ?_)
                refine lv_aload_n hx hb dX4_setImage_124 rfl (lv_at hl 1 rfl) ?_
                refine rgO17 hx hb hf4 hown hK hP (hts (.fieldLink RX4 54 "MachineFoundryModel" "kinds" "[I") (by decide +kernel)) dX4_setImage_125 ?_
                refine lv_iload_n hx hb dX4_setImage_128 rfl (lv_at hl 2 rfl) ?_
                refine lv_iload hx hb dX4_setImage_129 (lv_at hl 5 rfl) ?_
                refine rsO17 hx hb hK hP hD hS hi dX4_setImage_131 (fun H locs hP hS => ?_)
                refine lv_aload_n hx hb dX4_setImage_132 rfl (lv_at hl 1 rfl) ?_
                refine rgO18 hx hb hf4 hown hK hP (hts (.fieldLink RX4 57 "MachineFoundryModel" "required" "[I") (by decide +kernel)) dX4_setImage_133 ?_
                refine lv_iload_n hx hb dX4_setImage_136 rfl (lv_at hl 2 rfl) ?_
                refine lv_iload hx hb dX4_setImage_137 (lv_at hl 6 rfl) ?_
                refine rsO18 hx hb hK hP hD hS hi dX4_setImage_139 (fun H locs hP hS => ?_)
                refine lv_aload_n hx hb dX4_setImage_140 rfl (lv_at hl 1 rfl) ?_
                refine rgO19 hx hb hf4 hown hK hP (hts (.fieldLink RX4 60 "MachineFoundryModel" "barred" "[I") (by decide +kernel)) dX4_setImage_141 ?_
                refine lv_iload_n hx hb dX4_setImage_144 rfl (lv_at hl 2 rfl) ?_
                refine lv_iload hx hb dX4_setImage_145 (lv_at hl 7 rfl) ?_
                refine rsO19 hx hb hK hP hD hS hi dX4_setImage_147 (fun H locs hP hS => ?_)
                refine lv_aload_n hx hb dX4_setImage_148 rfl (lv_at hl 1 rfl) ?_
                refine cMv (va_runV (As := []) (rest := []) ⟨hx, hb, hml, hown, hts⟩ (c_X4_begins l D cy bd hj (up2 (up2 (up2 (up2 (up2 (up2 (up2 (tGo τ (inB (nI i) 0 7) true true) 20 i (τ 20 i)) 14 i 1) 15 i zb) 16 i zc) 17 i zd) 18 i ze) 19 i zf) (WB.le (WB.cong hw21 (by simp [up2])) (by omega))) (cwV 0 hts gX4_setImage_X4_begins rfl rfl rfl (by decide +kernel) ⟨Nat.le_of_ble_eq_true rfl, Nat.le_of_ble_eq_true rfl⟩) ⟨mw_bl, (mw_O hP hK), (mw_at hP hK)⟩ rfl rfl hl.1 rfl (lv_room (Nat.le_of_ble_eq_true rfl)) dX4_setImage_149 ⟨Nat.le_of_ble_eq_true rfl, Nat.le_of_ble_eq_true rfl⟩) hS (fun H locs hP hS => ?_)
                refine W.eq (g2 := F0 m 152 ls []) rfl ?_
                have e8 : hSetImage τ (nI i) zb zc zd ze zf = tBegins (up2 (up2 (up2 (up2 (up2 (up2 (up2 (tGo τ (inB (nI i) 0 7) true true) 20 i (τ 20 i)) 14 i 1) 15 i zb) 16 i zc) 17 i zd) 18 i ze) 19 i zf) := by simp [hSetImage, bSetImage, tSetIm, tGo_r, tGo_0, up2_r, c_1, c_5, c_9, c_13, c_17, c_23, g_24, c_25, inB_7 hi, ix_nI (show i < 2147483648 by omega)]
                rw [← e8] at hP
                exact W.vret hx hb hr (fun t ht hW => ⟨⟨(), rfl, trivial, by rw [← ht] at hP; exact hP⟩, hS.F ht⟩) hS.2.2 dX4_setImage_152
            · replace c_23 := b2i_0.mp c_23
              have g_26 : (inB za 0 7) = false := by simpa [c_1, c_5, c_9, c_13, c_17] using c_23
              have e8 : hSetImage τ za zb zc zd ze zf = tGo τ (inB za 0 7) true true := by simp [hSetImage, bSetImage, tSetIm, tGo_r, tGo_0, up2_r, c_1, c_5, c_9, c_13, c_17, c_23, g_26]
              rw [← e8] at hP
              exact W.vret hx hb hr (fun t ht hW => ⟨⟨(), rfl, trivial, by rw [← ht] at hP; exact hP⟩, hS.F ht⟩) hS.2.2 dX4_setImage_77
set_option maxHeartbeats 4000000 in
set_option maxRecDepth 100000 in
/-- setTime -/
theorem c_X4_setTime (l : Launch) (D : va_G) (cy : Nat → ClassId) (bd : Nat → Nat) (hj : injM bd) (τ : Mem) (za zb : Int32) (hw : WB τ 30000) (hF : FI τ) : Met l yX4_setTime wsX4_setTime ({ frames := 3, cells := 0, slots := 0, locals := 69 }) (va_Pc [.ref (bd 0), .int za, .int zb] (mw D cy bd τ)) (QI (qSetTime τ za zb) (va_P D vwCl (wM cy bd (hSetTime τ za zb))) (AM bd)) 0 0 (AM bd) := by
  refine Met.ofW (cc := cX4_setTime) (maxL := 4) (ret := (some .int)) (by decide) rfl ?_
  intro p e s m args below meth c s₁ B hml hv
  obtain ⟨rfl, hP, hK⟩ := hv
  have hx := B.exec
  have hb := B.bytes
  have hr := B.returns
  have hts := atoms_spec (ws := wsX4_setTime) B.pre
  have hown : s.vm.findClass RX4 = some m.cls := findClass_of_methodNamed B.named
  have hlocks := B.notSynchronized
  have hf4 := fun (w : Cond) (h : w ∈ wsX40) => hts w ((by decide +kernel : ∀ w ∈ wsX40, w ∈ wsX4_setTime) w h)
  have hD := wM_D (cy := cy) hj
  have hS : va_S (AM bd) s.heap s.heap [] := va_S.rf
  have hl := lv_entry ([.ref (bd 0), .int za, .int zb]) (n := 4) (Nat.le_of_ble_eq_true rfl)
  rw [lg_entry_eq]
  generalize (lg_sl ([.ref (bd 0), .int za, .int zb]) ++ List.replicate (4 - (lg_sl ([.ref (bd 0), .int za, .int zb])).length) Slot.unset).toArray = ls at hl ⊢
  have hl : lv_has ls 4 [(0, .ref (bd 0)), (1, .int za), (2, .int zb)] := hl
  refine lv_aload_n hx hb dX4_setTime_0 rfl (lv_at hl 0 rfl) ?_
  refine lv_aload_n hx hb dX4_setTime_1 rfl (lv_at hl 0 rfl) ?_
  refine lv_iload_n hx hb dX4_setTime_2 rfl (lv_at hl 1 rfl) ?_
  refine cS (W.runV (As := [.int za]) (rest := [.ref (bd 0)]) ⟨hx, hb, hml, hown, hts⟩ (c_X4_isImage l D cy bd τ za) (cwV 1 hts gX4_setTime_X4_isImage rfl rfl rfl (by decide +kernel) ⟨Nat.le_of_ble_eq_true rfl, Nat.le_of_ble_eq_true rfl⟩) ⟨mw_bl, (mw_O hP hK), (mw_at hP hK)⟩ rfl rfl hl.1 rfl (lv_room (Nat.le_of_ble_eq_true rfl)) dX4_setTime_3 ⟨Nat.le_of_ble_eq_true rfl, Nat.le_of_ble_eq_true rfl⟩) (fun _ _ => ?_)
  refine W.eq (g2 := F0 m 6 ls [.int (b2i (bIm τ za)), .ref (bd 0)]) rfl ?_
  refine lv_iload_n hx hb dX4_setTime_6 rfl (lv_at hl 2 rfl) ?_
  refine lv_iconst (v := 1) hx hb dX4_setTime_7 (by decide) ?_
  refine lv_bipush (v := 24) hx hb dX4_setTime_8 (by decide) ?_
  refine cS (W.runS (As := [.int zb, .int 1, .int 24]) (rest := [.int (b2i (bIm τ za)), .ref (bd 0)]) ⟨hx, hb, hml, hown, hts⟩ (c_X4_in l zb 1 24) (va_cwS 3 hts gX4_setTime_X4_in rfl rfl rfl (by decide +kernel) ⟨Nat.le_of_ble_eq_true rfl, Nat.le_of_ble_eq_true rfl⟩) ⟨fun a U g mk h => h, fun U _ _ => ⟨rfl, trivial⟩⟩ rfl rfl hl.1 rfl (lv_room (Nat.le_of_ble_eq_true rfl)) dX4_setTime_10 ⟨Nat.le_of_ble_eq_true rfl, Nat.le_of_ble_eq_true rfl⟩) (fun _ _ => ?_)
  refine W.eq (g2 := F0 m 13 ls [.int (b2i (inB zb 1 24)), .int (b2i (bIm τ za)), .ref (bd 0)]) rfl ?_
  refine lv_iconst (v := 1) hx hb dX4_setTime_13 (by decide) ?_
  refine W.eq (g2 := F0 m 14 ls [.int (b2i true), .int (b2i (inB zb 1 24)), .int (b2i (bIm τ za)), .ref (bd 0)]) rfl ?_
  refine cMi (va_runV (As := [.int (b2i (bIm τ za)), .int (b2i (inB zb 1 24)), .int (b2i true)]) (rest := []) ⟨hx, hb, hml, hown, hts⟩ (c_X4_goes l D cy bd hj τ (bIm τ za) (inB zb 1 24) true) (cwV 3 hts gX4_setTime_X4_goes rfl rfl rfl (by decide +kernel) ⟨Nat.le_of_ble_eq_true rfl, Nat.le_of_ble_eq_true rfl⟩) ⟨mw_bl, (mw_O hP hK), (mw_at hP hK)⟩ rfl rfl hl.1 rfl (lv_room (Nat.le_of_ble_eq_true rfl)) dX4_setTime_14 ⟨Nat.le_of_ble_eq_true rfl, Nat.le_of_ble_eq_true rfl⟩) hS (fun H locs hP hS => ?_)
  refine W.eq (g2 := F0 m 17 ls [.int (b2i ((bIm τ za) && (inB zb 1 24) && true))]) rfl ?_
  have hw1 : WB (tGo τ (bIm τ za) (inB zb 1 24) true) 30000 := WB.go hw
  have hF2 : FI (tGo τ (bIm τ za) (inB zb 1 24) true) := FI.go hF
  refine lv_if_ne (tgt := 22) hx hb dX4_setTime_17 (by decide) (fun c_3 => ?_) (fun c_3 => ?_)
  · replace c_3 := b2i_n0.mp c_3
    have g_4 : (bIm τ za) = true := by have h9 := c_3; simp at h9; simp [h9]
    have g_5 : inB za 0 7 = true := by have h9 := g_4; simp [bIm] at h9; simp [h9]
    obtain ⟨i, hi, rfl⟩ := of_7 g_5
    have hl : lv_has ls 4 [(0, .ref (bd 0)), (1, .int (nI i)), (2, .int zb)] := hl
    have g_6 : (inB zb 1 24) = true := by have h9 := c_3; simp at h9; simp [h9]
    refine lv_aload_n hx hb dX4_setTime_22 rfl (lv_at hl 0 rfl) ?_
    refine rgO20 hx hb hf4 hown hK hP (hts (.fieldLink RX4 63 "MachineFoundryModel" "hours" "[I") (by decide +kernel)) dX4_setTime_23 ?_
    refine lv_iload_n hx hb dX4_setTime_26 rfl (lv_at hl 1 rfl) ?_
    refine raO20 (x := τ 20 i) hx hb hK hP hi (by simp [up2, tGo]) dX4_setTime_27 ?_
    refine lv_istore_n (lv' := [(3, .int (τ 20 i)), (0, .ref (bd 0)), (1, .int (nI i)), (2, .int zb)]) hx hb dX4_setTime_28 rfl hl (by decide) rfl (fun ls hl => ?_)
    refine lv_aload_n hx hb dX4_setTime_29 rfl (lv_at hl 1 rfl) ?_
    refine rgO20 hx hb hf4 hown hK hP (hts (.fieldLink RX4 63 "MachineFoundryModel" "hours" "[I") (by decide +kernel)) dX4_setTime_30 ?_
    refine lv_iload_n hx hb dX4_setTime_33 rfl (lv_at hl 2 rfl) ?_
    refine lv_iload_n hx hb dX4_setTime_34 rfl (lv_at hl 3 rfl) ?_
    refine rsO20 hx hb hK hP hD hS hi dX4_setTime_35 (fun H locs hP hS => ?_)
    refine lv_aload_n hx hb dX4_setTime_36 rfl (lv_at hl 1 rfl) ?_
    refine cMv (va_runV (As := []) (rest := []) ⟨hx, hb, hml, hown, hts⟩ (c_X4_begins l D cy bd hj (up2 (tGo τ (bIm τ (nI i)) (inB zb 1 24) true) 20 i zb) (WB.le (WB.cong hw1 (by simp [up2])) (by omega))) (cwV 0 hts gX4_setTime_X4_begins rfl rfl rfl (by decide +kernel) ⟨Nat.le_of_ble_eq_true rfl, Nat.le_of_ble_eq_true rfl⟩) ⟨mw_bl, (mw_O hP hK), (mw_at hP hK)⟩ rfl rfl hl.1 rfl (lv_room (Nat.le_of_ble_eq_true rfl)) dX4_setTime_37 ⟨Nat.le_of_ble_eq_true rfl, Nat.le_of_ble_eq_true rfl⟩) hS (fun H locs hP hS => ?_)
    refine W.eq (g2 := F0 m 40 ls []) rfl ?_
    refine lv_iload_n hx hb dX4_setTime_40 rfl (lv_at hl 0 rfl) ?_
    have e8 : hSetTime τ (nI i) zb = tBegins (up2 (tGo τ (bIm τ (nI i)) (inB zb 1 24) true) 20 i zb) := by simp [hSetTime, qSetTime, tGo_r, tGo_0, up2_r, c_3, g_4, g_6, inB_7 hi, ix_nI (show i < 2147483648 by omega)]
    rw [← e8] at hP
    have e9 : (τ 20 i) = qSetTime τ (nI i) zb := by simp [hSetTime, qSetTime, tGo_r, tGo_0, up2_r, c_3, g_4, g_6, inB_7 hi, ix_nI (show i < 2147483648 by omega)]
    exact W.iret (v := τ 20 i) hx hb hr (fun t ht hW => ⟨⟨_, (), rfl, e9, by rw [← ht] at hP; exact hP⟩, hS.F ht⟩) hS.2.2 dX4_setTime_41
  · replace c_3 := b2i_0.mp c_3
    have g_7 : ¬ ((bIm τ za) = true ∧ (inB zb 1 24) = true) := by rintro ⟨q0, q1⟩; simp [q0, q1] at c_3
    refine lv_iconst (v := 0) hx hb dX4_setTime_20 (by decide) ?_
    have e8 : hSetTime τ za zb = tGo τ (bIm τ za) (inB zb 1 24) true := by simp [hSetTime, qSetTime, tGo_r, tGo_0, up2_r, c_3, g_7]
    rw [← e8] at hP
    have e9 : 0 = qSetTime τ za zb := by simp [hSetTime, qSetTime, tGo_r, tGo_0, up2_r, c_3, g_7]
    exact W.iret (v := 0) hx hb hr (fun t ht hW => ⟨⟨_, (), rfl, e9, by rw [← ht] at hP; exact hP⟩, hS.F ht⟩) hS.2.2 dX4_setTime_21
set_option maxHeartbeats 4000000 in
set_option maxRecDepth 100000 in
/-- dropImage -/
theorem c_X4_dropImage (l : Launch) (D : va_G) (cy : Nat → ClassId) (bd : Nat → Nat) (hj : injM bd) (τ : Mem) (za : Int32) (hw : WB τ 30000) (hF : FI τ) : Met l yX4_dropImage wsX4_dropImage ({ frames := 3, cells := 0, slots := 0, locals := 69 }) (va_Pc [.ref (bd 0), .int za] (mw D cy bd τ)) (QV (va_P D vwCl (wM cy bd (hDropImage τ za))) (AM bd)) 0 0 (AM bd) := by
  refine Met.ofW (cc := cX4_dropImage) (maxL := 2) (ret := none) (by decide) rfl ?_
  intro p e s m args below meth c s₁ B hml hv
  obtain ⟨rfl, hP, hK⟩ := hv
  have hx := B.exec
  have hb := B.bytes
  have hr := B.returns
  have hts := atoms_spec (ws := wsX4_dropImage) B.pre
  have hown : s.vm.findClass RX4 = some m.cls := findClass_of_methodNamed B.named
  have hlocks := B.notSynchronized
  have hf4 := fun (w : Cond) (h : w ∈ wsX40) => hts w ((by decide +kernel : ∀ w ∈ wsX40, w ∈ wsX4_dropImage) w h)
  have hD := wM_D (cy := cy) hj
  have hS : va_S (AM bd) s.heap s.heap [] := va_S.rf
  have hl := lv_entry ([.ref (bd 0), .int za]) (n := 2) (Nat.le_of_ble_eq_true rfl)
  rw [lg_entry_eq]
  generalize (lg_sl ([.ref (bd 0), .int za]) ++ List.replicate (2 - (lg_sl ([.ref (bd 0), .int za])).length) Slot.unset).toArray = ls at hl ⊢
  have hl : lv_has ls 2 [(0, .ref (bd 0)), (1, .int za)] := hl
  refine lv_aload_n hx hb dX4_dropImage_0 rfl (lv_at hl 0 rfl) ?_
  refine lv_aload_n hx hb dX4_dropImage_1 rfl (lv_at hl 0 rfl) ?_
  refine lv_iload_n hx hb dX4_dropImage_2 rfl (lv_at hl 1 rfl) ?_
  refine cS (W.runV (As := [.int za]) (rest := [.ref (bd 0)]) ⟨hx, hb, hml, hown, hts⟩ (c_X4_isImage l D cy bd τ za) (cwV 1 hts gX4_dropImage_X4_isImage rfl rfl rfl (by decide +kernel) ⟨Nat.le_of_ble_eq_true rfl, Nat.le_of_ble_eq_true rfl⟩) ⟨mw_bl, (mw_O hP hK), (mw_at hP hK)⟩ rfl rfl hl.1 rfl (lv_room (Nat.le_of_ble_eq_true rfl)) dX4_dropImage_3 ⟨Nat.le_of_ble_eq_true rfl, Nat.le_of_ble_eq_true rfl⟩) (fun _ _ => ?_)
  refine W.eq (g2 := F0 m 6 ls [.int (b2i (bIm τ za)), .ref (bd 0)]) rfl ?_
  refine lv_iconst (v := 1) hx hb dX4_dropImage_6 (by decide) ?_
  refine lv_iconst (v := 1) hx hb dX4_dropImage_7 (by decide) ?_
  refine W.eq (g2 := F0 m 8 ls [.int (b2i true), .int (b2i true), .int (b2i (bIm τ za)), .ref (bd 0)]) rfl ?_
  refine cMi (va_runV (As := [.int (b2i (bIm τ za)), .int (b2i true), .int (b2i true)]) (rest := []) ⟨hx, hb, hml, hown, hts⟩ (c_X4_goes l D cy bd hj τ (bIm τ za) true true) (cwV 3 hts gX4_dropImage_X4_goes rfl rfl rfl (by decide +kernel) ⟨Nat.le_of_ble_eq_true rfl, Nat.le_of_ble_eq_true rfl⟩) ⟨mw_bl, (mw_O hP hK), (mw_at hP hK)⟩ rfl rfl hl.1 rfl (lv_room (Nat.le_of_ble_eq_true rfl)) dX4_dropImage_8 ⟨Nat.le_of_ble_eq_true rfl, Nat.le_of_ble_eq_true rfl⟩) hS (fun H locs hP hS => ?_)
  refine W.eq (g2 := F0 m 11 ls [.int (b2i ((bIm τ za) && true && true))]) rfl ?_
  have hw1 : WB (tGo τ (bIm τ za) true true) 30000 := WB.go hw
  have hF2 : FI (tGo τ (bIm τ za) true true) := FI.go hF
  refine lv_if_eq (tgt := 25) hx hb dX4_dropImage_11 (by decide) (fun c_3 => ?_) (fun c_3 => ?_)
  · replace c_3 := b2i_0.mp c_3
    have g_4 : (bIm τ za) = false := by simpa [] using c_3
    have e8 : hDropImage τ za = tGo τ (bIm τ za) true true := by simp [hDropImage, tGo_r, tGo_0, up2_r, c_3, g_4]
    rw [← e8] at hP
    exact W.vret hx hb hr (fun t ht hW => ⟨⟨(), rfl, trivial, by rw [← ht] at hP; exact hP⟩, hS.F ht⟩) hS.2.2 dX4_dropImage_25
  · replace c_3 := b2i_n0.mp c_3
    have g_5 : (bIm τ za) = true := by have h9 := c_3; simp at h9; simp [h9]
    have g_6 : inB za 0 7 = true := by have h9 := g_5; simp [bIm] at h9; simp [h9]
    obtain ⟨i, hi, rfl⟩ := of_7 g_6
    have hl : lv_has ls 2 [(0, .ref (bd 0)), (1, .int (nI i))] := hl
    refine lv_aload_n hx hb dX4_dropImage_14 rfl (lv_at hl 0 rfl) ?_
    refine rgO14 hx hb hf4 hown hK hP (hts (.fieldLink RX4 44 "MachineFoundryModel" "isSet" "[Z") (by decide +kernel)) dX4_dropImage_15 ?_
    refine lv_iload_n hx hb dX4_dropImage_18 rfl (lv_at hl 1 rfl) ?_
    refine lv_iconst (v := 0) hx hb dX4_dropImage_19 (by decide) ?_
    refine rsO14 hx hb hK hP hD hS hi rfl dX4_dropImage_20 (fun H locs hP hS => ?_)
    refine lv_aload_n hx hb dX4_dropImage_21 rfl (lv_at hl 0 rfl) ?_
    refine cMv (va_runV (As := []) (rest := []) ⟨hx, hb, hml, hown, hts⟩ (c_X4_begins l D cy bd hj (up2 (tGo τ (bIm τ (nI i)) true true) 14 i 0) (WB.le (WB.cong hw1 (by simp [up2])) (by omega))) (cwV 0 hts gX4_dropImage_X4_begins rfl rfl rfl (by decide +kernel) ⟨Nat.le_of_ble_eq_true rfl, Nat.le_of_ble_eq_true rfl⟩) ⟨mw_bl, (mw_O hP hK), (mw_at hP hK)⟩ rfl rfl hl.1 rfl (lv_room (Nat.le_of_ble_eq_true rfl)) dX4_dropImage_22 ⟨Nat.le_of_ble_eq_true rfl, Nat.le_of_ble_eq_true rfl⟩) hS (fun H locs hP hS => ?_)
    refine W.eq (g2 := F0 m 25 ls []) rfl ?_
    have e8 : hDropImage τ (nI i) = tBegins (up2 (tGo τ (bIm τ (nI i)) true true) 14 i 0) := by simp [hDropImage, tGo_r, tGo_0, up2_r, c_3, g_5, inB_7 hi, ix_nI (show i < 2147483648 by omega)]
    rw [← e8] at hP
    exact W.vret hx hb hr (fun t ht hW => ⟨⟨(), rfl, trivial, by rw [← ht] at hP; exact hP⟩, hS.F ht⟩) hS.2.2 dX4_dropImage_25
set_option maxHeartbeats 4000000 in
set_option maxRecDepth 100000 in
/-- setBatch -/
theorem c_X4_setBatch (l : Launch) (D : va_G) (cy : Nat → ClassId) (bd : Nat → Nat) (hj : injM bd) (τ : Mem) (za zb : Int32) (hw : WB τ 30000) (hF : FI τ) : Met l yX4_setBatch wsX4_setBatch ({ frames := 3, cells := 0, slots := 0, locals := 69 }) (va_Pc [.ref (bd 0), .int za, .int zb] (mw D cy bd τ)) (QI (qSetBatch τ za zb) (va_P D vwCl (wM cy bd (hSetBatch τ za zb))) (AM bd)) 0 0 (AM bd) := by
  refine Met.ofW (cc := cX4_setBatch) (maxL := 4) (ret := (some .int)) (by decide) rfl ?_
  intro p e s m args below meth c s₁ B hml hv
  obtain ⟨rfl, hP, hK⟩ := hv
  have hx := B.exec
  have hb := B.bytes
  have hr := B.returns
  have hts := atoms_spec (ws := wsX4_setBatch) B.pre
  have hown : s.vm.findClass RX4 = some m.cls := findClass_of_methodNamed B.named
  have hlocks := B.notSynchronized
  have hf4 := fun (w : Cond) (h : w ∈ wsX40) => hts w ((by decide +kernel : ∀ w ∈ wsX40, w ∈ wsX4_setBatch) w h)
  have hD := wM_D (cy := cy) hj
  have hS : va_S (AM bd) s.heap s.heap [] := va_S.rf
  have hl := lv_entry ([.ref (bd 0), .int za, .int zb]) (n := 4) (Nat.le_of_ble_eq_true rfl)
  rw [lg_entry_eq]
  generalize (lg_sl ([.ref (bd 0), .int za, .int zb]) ++ List.replicate (4 - (lg_sl ([.ref (bd 0), .int za, .int zb])).length) Slot.unset).toArray = ls at hl ⊢
  have hl : lv_has ls 4 [(0, .ref (bd 0)), (1, .int za), (2, .int zb)] := hl
  refine lv_aload_n hx hb dX4_setBatch_0 rfl (lv_at hl 0 rfl) ?_
  refine lv_iload_n hx hb dX4_setBatch_1 rfl (lv_at hl 1 rfl) ?_
  refine cS (W.runS (As := [.int za]) (rest := [.ref (bd 0)]) ⟨hx, hb, hml, hown, hts⟩ (c_X4_isRack l za) (va_cwS 1 hts gX4_setBatch_X4_isRack rfl rfl rfl (by decide +kernel) ⟨Nat.le_of_ble_eq_true rfl, Nat.le_of_ble_eq_true rfl⟩) ⟨fun a U g mk h => h, fun U _ _ => ⟨rfl, trivial⟩⟩ rfl rfl hl.1 rfl (lv_room (Nat.le_of_ble_eq_true rfl)) dX4_setBatch_2 ⟨Nat.le_of_ble_eq_true rfl, Nat.le_of_ble_eq_true rfl⟩) (fun _ _ => ?_)
  refine W.eq (g2 := F0 m 5 ls [.int (b2i (inB za 0 3)), .ref (bd 0)]) rfl ?_
  refine lv_iload_n hx hb dX4_setBatch_5 rfl (lv_at hl 2 rfl) ?_
  refine lv_iconst (v := 0) hx hb dX4_setBatch_6 (by decide) ?_
  refine lv_iconst (v := 4) hx hb dX4_setBatch_7 (by decide) ?_
  refine cS (W.runS (As := [.int zb, .int 0, .int 4]) (rest := [.int (b2i (inB za 0 3)), .ref (bd 0)]) ⟨hx, hb, hml, hown, hts⟩ (c_X4_in l zb 0 4) (va_cwS 3 hts gX4_setBatch_X4_in rfl rfl rfl (by decide +kernel) ⟨Nat.le_of_ble_eq_true rfl, Nat.le_of_ble_eq_true rfl⟩) ⟨fun a U g mk h => h, fun U _ _ => ⟨rfl, trivial⟩⟩ rfl rfl hl.1 rfl (lv_room (Nat.le_of_ble_eq_true rfl)) dX4_setBatch_8 ⟨Nat.le_of_ble_eq_true rfl, Nat.le_of_ble_eq_true rfl⟩) (fun _ _ => ?_)
  refine W.eq (g2 := F0 m 11 ls [.int (b2i (inB zb 0 4)), .int (b2i (inB za 0 3)), .ref (bd 0)]) rfl ?_
  refine lv_iconst (v := 1) hx hb dX4_setBatch_11 (by decide) ?_
  refine W.eq (g2 := F0 m 12 ls [.int (b2i true), .int (b2i (inB zb 0 4)), .int (b2i (inB za 0 3)), .ref (bd 0)]) rfl ?_
  refine cMi (va_runV (As := [.int (b2i (inB za 0 3)), .int (b2i (inB zb 0 4)), .int (b2i true)]) (rest := []) ⟨hx, hb, hml, hown, hts⟩ (c_X4_goes l D cy bd hj τ (inB za 0 3) (inB zb 0 4) true) (cwV 3 hts gX4_setBatch_X4_goes rfl rfl rfl (by decide +kernel) ⟨Nat.le_of_ble_eq_true rfl, Nat.le_of_ble_eq_true rfl⟩) ⟨mw_bl, (mw_O hP hK), (mw_at hP hK)⟩ rfl rfl hl.1 rfl (lv_room (Nat.le_of_ble_eq_true rfl)) dX4_setBatch_12 ⟨Nat.le_of_ble_eq_true rfl, Nat.le_of_ble_eq_true rfl⟩) hS (fun H locs hP hS => ?_)
  refine W.eq (g2 := F0 m 15 ls [.int (b2i ((inB za 0 3) && (inB zb 0 4) && true))]) rfl ?_
  have hw1 : WB (tGo τ (inB za 0 3) (inB zb 0 4) true) 30000 := WB.go hw
  have hF2 : FI (tGo τ (inB za 0 3) (inB zb 0 4) true) := FI.go hF
  refine lv_if_ne (tgt := 20) hx hb dX4_setBatch_15 (by decide) (fun c_3 => ?_) (fun c_3 => ?_)
  · replace c_3 := b2i_n0.mp c_3
    have g_4 : (inB za 0 3) = true := by have h9 := c_3; simp at h9; simp [h9]
    obtain ⟨i, hi, rfl⟩ := of_3 g_4
    have hl : lv_has ls 4 [(0, .ref (bd 0)), (1, .int (nI i)), (2, .int zb)] := hl
    have g_5 : (inB zb 0 4) = true := by have h9 := c_3; simp at h9; simp [h9]
    refine lv_aload_n hx hb dX4_setBatch_20 rfl (lv_at hl 0 rfl) ?_
    refine rgO21 hx hb hf4 hown hK hP (hts (.fieldLink RX4 66 "MachineFoundryModel" "batch" "[I") (by decide +kernel)) dX4_setBatch_21 ?_
    refine lv_iload_n hx hb dX4_setBatch_24 rfl (lv_at hl 1 rfl) ?_
    refine raO21 (x := τ 21 i) hx hb hK hP hi (by simp [up2, tGo]) dX4_setBatch_25 ?_
    refine lv_istore_n (lv' := [(3, .int (τ 21 i)), (0, .ref (bd 0)), (1, .int (nI i)), (2, .int zb)]) hx hb dX4_setBatch_26 rfl hl (by decide) rfl (fun ls hl => ?_)
    refine lv_aload_n hx hb dX4_setBatch_27 rfl (lv_at hl 1 rfl) ?_
    refine rgO21 hx hb hf4 hown hK hP (hts (.fieldLink RX4 66 "MachineFoundryModel" "batch" "[I") (by decide +kernel)) dX4_setBatch_28 ?_
    refine lv_iload_n hx hb dX4_setBatch_31 rfl (lv_at hl 2 rfl) ?_
    refine lv_iload_n hx hb dX4_setBatch_32 rfl (lv_at hl 3 rfl) ?_
    refine rsO21 hx hb hK hP hD hS hi dX4_setBatch_33 (fun H locs hP hS => ?_)
    refine lv_aload_n hx hb dX4_setBatch_34 rfl (lv_at hl 1 rfl) ?_
    refine cMv (va_runV (As := []) (rest := []) ⟨hx, hb, hml, hown, hts⟩ (c_X4_begins l D cy bd hj (up2 (tGo τ (inB (nI i) 0 3) (inB zb 0 4) true) 21 i zb) (WB.le (WB.cong hw1 (by simp [up2])) (by omega))) (cwV 0 hts gX4_setBatch_X4_begins rfl rfl rfl (by decide +kernel) ⟨Nat.le_of_ble_eq_true rfl, Nat.le_of_ble_eq_true rfl⟩) ⟨mw_bl, (mw_O hP hK), (mw_at hP hK)⟩ rfl rfl hl.1 rfl (lv_room (Nat.le_of_ble_eq_true rfl)) dX4_setBatch_35 ⟨Nat.le_of_ble_eq_true rfl, Nat.le_of_ble_eq_true rfl⟩) hS (fun H locs hP hS => ?_)
    refine W.eq (g2 := F0 m 38 ls []) rfl ?_
    refine lv_iload_n hx hb dX4_setBatch_38 rfl (lv_at hl 0 rfl) ?_
    have e8 : hSetBatch τ (nI i) zb = tBegins (up2 (tGo τ (inB (nI i) 0 3) (inB zb 0 4) true) 21 i zb) := by simp [hSetBatch, qSetBatch, tGo_r, tGo_0, up2_r, c_3, g_4, g_5, inB_3 hi, ix_nI (show i < 2147483648 by omega)]
    rw [← e8] at hP
    have e9 : (τ 21 i) = qSetBatch τ (nI i) zb := by simp [hSetBatch, qSetBatch, tGo_r, tGo_0, up2_r, c_3, g_4, g_5, inB_3 hi, ix_nI (show i < 2147483648 by omega)]
    exact W.iret (v := τ 21 i) hx hb hr (fun t ht hW => ⟨⟨_, (), rfl, e9, by rw [← ht] at hP; exact hP⟩, hS.F ht⟩) hS.2.2 dX4_setBatch_39
  · replace c_3 := b2i_0.mp c_3
    have g_6 : ¬ ((inB za 0 3) = true ∧ (inB zb 0 4) = true) := by rintro ⟨q0, q1⟩; simp [q0, q1] at c_3
    refine lv_iconst (v := 0) hx hb dX4_setBatch_18 (by decide) ?_
    have e8 : hSetBatch τ za zb = tGo τ (inB za 0 3) (inB zb 0 4) true := by simp [hSetBatch, qSetBatch, tGo_r, tGo_0, up2_r, c_3, g_6]
    rw [← e8] at hP
    have e9 : 0 = qSetBatch τ za zb := by simp [hSetBatch, qSetBatch, tGo_r, tGo_0, up2_r, c_3, g_6]
    exact W.iret (v := 0) hx hb hr (fun t ht hW => ⟨⟨_, (), rfl, e9, by rw [← ht] at hP; exact hP⟩, hS.F ht⟩) hS.2.2 dX4_setBatch_19
set_option maxHeartbeats 4000000 in
set_option maxRecDepth 100000 in
/-- setRetries -/
theorem c_X4_setRetries (l : Launch) (D : va_G) (cy : Nat → ClassId) (bd : Nat → Nat) (hj : injM bd) (τ : Mem) (za zb : Int32) (hw : WB τ 30000) (hF : FI τ) : Met l yX4_setRetries wsX4_setRetries ({ frames := 3, cells := 0, slots := 0, locals := 69 }) (va_Pc [.ref (bd 0), .int za, .int zb] (mw D cy bd τ)) (QV (va_P D vwCl (wM cy bd (hSetRetries τ za zb))) (AM bd)) 0 0 (AM bd) := by
  refine Met.ofW (cc := cX4_setRetries) (maxL := 3) (ret := none) (by decide) rfl ?_
  intro p e s m args below meth c s₁ B hml hv
  obtain ⟨rfl, hP, hK⟩ := hv
  have hx := B.exec
  have hb := B.bytes
  have hr := B.returns
  have hts := atoms_spec (ws := wsX4_setRetries) B.pre
  have hown : s.vm.findClass RX4 = some m.cls := findClass_of_methodNamed B.named
  have hlocks := B.notSynchronized
  have hf4 := fun (w : Cond) (h : w ∈ wsX40) => hts w ((by decide +kernel : ∀ w ∈ wsX40, w ∈ wsX4_setRetries) w h)
  have hD := wM_D (cy := cy) hj
  have hS : va_S (AM bd) s.heap s.heap [] := va_S.rf
  have hl := lv_entry ([.ref (bd 0), .int za, .int zb]) (n := 3) (Nat.le_of_ble_eq_true rfl)
  rw [lg_entry_eq]
  generalize (lg_sl ([.ref (bd 0), .int za, .int zb]) ++ List.replicate (3 - (lg_sl ([.ref (bd 0), .int za, .int zb])).length) Slot.unset).toArray = ls at hl ⊢
  have hl : lv_has ls 3 [(0, .ref (bd 0)), (1, .int za), (2, .int zb)] := hl
  refine lv_aload_n hx hb dX4_setRetries_0 rfl (lv_at hl 0 rfl) ?_
  refine lv_iload_n hx hb dX4_setRetries_1 rfl (lv_at hl 1 rfl) ?_
  refine lv_iconst (v := 1) hx hb dX4_setRetries_2 (by decide) ?_
  refine lv_bipush (v := 24) hx hb dX4_setRetries_3 (by decide) ?_
  refine cS (W.runS (As := [.int za, .int 1, .int 24]) (rest := [.ref (bd 0)]) ⟨hx, hb, hml, hown, hts⟩ (c_X4_in l za 1 24) (va_cwS 3 hts gX4_setRetries_X4_in rfl rfl rfl (by decide +kernel) ⟨Nat.le_of_ble_eq_true rfl, Nat.le_of_ble_eq_true rfl⟩) ⟨fun a U g mk h => h, fun U _ _ => ⟨rfl, trivial⟩⟩ rfl rfl hl.1 rfl (lv_room (Nat.le_of_ble_eq_true rfl)) dX4_setRetries_5 ⟨Nat.le_of_ble_eq_true rfl, Nat.le_of_ble_eq_true rfl⟩) (fun _ _ => ?_)
  refine W.eq (g2 := F0 m 8 ls [.int (b2i (inB za 1 24)), .ref (bd 0)]) rfl ?_
  refine lv_if_eq (tgt := 25) hx hb dX4_setRetries_8 (by decide) (fun c_1 => ?_) (fun c_1 => ?_)
  · replace c_1 := b2i_0.mp c_1
    refine lv_iconst (v := 0) hx hb dX4_setRetries_25 (by decide) ?_
    refine lv_iconst (v := 1) hx hb dX4_setRetries_26 (by decide) ?_
    refine lv_iconst (v := 1) hx hb dX4_setRetries_27 (by decide) ?_
    refine W.eq (g2 := F0 m 28 ls [.int (b2i true), .int (b2i true), .int (b2i false), .ref (bd 0)]) rfl ?_
    refine cMi (va_runV (As := [.int (b2i false), .int (b2i true), .int (b2i true)]) (rest := []) ⟨hx, hb, hml, hown, hts⟩ (c_X4_goes l D cy bd hj τ false true true) (cwV 3 hts gX4_setRetries_X4_goes rfl rfl rfl (by decide +kernel) ⟨Nat.le_of_ble_eq_true rfl, Nat.le_of_ble_eq_true rfl⟩) ⟨mw_bl, (mw_O hP hK), (mw_at hP hK)⟩ rfl rfl hl.1 rfl (lv_room (Nat.le_of_ble_eq_true rfl)) dX4_setRetries_28 ⟨Nat.le_of_ble_eq_true rfl, Nat.le_of_ble_eq_true rfl⟩) hS (fun H locs hP hS => ?_)
    refine W.eq (g2 := F0 m 31 ls [.int (b2i (false && true && true))]) rfl ?_
    have hw2 : WB (tGo τ false true true) 30000 := WB.go hw
    have hF3 : FI (tGo τ false true true) := FI.go hF
    refine lv_if_eq (tgt := 48) hx hb dX4_setRetries_31 (by decide) (fun c_4 => ?_) (fun c_4 => absurd ((by simp [b2i, c_1] : (b2i (false && true && true)) = 0)) c_4)
    have e8 : hSetRetries τ za zb = tGo τ false true true := by simp [hSetRetries, bRt, tGo_r, tGo_0, up2_r, c_1, c_4]
    rw [← e8] at hP
    exact W.vret hx hb hr (fun t ht hW => ⟨⟨(), rfl, trivial, by rw [← ht] at hP; exact hP⟩, hS.F ht⟩) hS.2.2 dX4_setRetries_48
  · replace c_1 := b2i_n0.mp c_1
    refine lv_iload_n hx hb dX4_setRetries_11 rfl (lv_at hl 2 rfl) ?_
    refine lv_iconst (v := 1) hx hb dX4_setRetries_12 (by decide) ?_
    refine lv_bipush (v := 9) hx hb dX4_setRetries_13 (by decide) ?_
    refine cS (W.runS (As := [.int zb, .int 1, .int 9]) (rest := [.ref (bd 0)]) ⟨hx, hb, hml, hown, hts⟩ (c_X4_in l zb 1 9) (va_cwS 3 hts gX4_setRetries_X4_in rfl rfl rfl (by decide +kernel) ⟨Nat.le_of_ble_eq_true rfl, Nat.le_of_ble_eq_true rfl⟩) ⟨fun a U g mk h => h, fun U _ _ => ⟨rfl, trivial⟩⟩ rfl rfl hl.1 rfl (lv_room (Nat.le_of_ble_eq_true rfl)) dX4_setRetries_15 ⟨Nat.le_of_ble_eq_true rfl, Nat.le_of_ble_eq_true rfl⟩) (fun _ _ => ?_)
    refine W.eq (g2 := F0 m 18 ls [.int (b2i (inB zb 1 9)), .ref (bd 0)]) rfl ?_
    refine lv_if_eq (tgt := 25) hx hb dX4_setRetries_18 (by decide) (fun c_5 => ?_) (fun c_5 => ?_)
    · replace c_5 := b2i_0.mp c_5
      refine lv_iconst (v := 0) hx hb dX4_setRetries_25 (by decide) ?_
      refine lv_iconst (v := 1) hx hb dX4_setRetries_26 (by decide) ?_
      refine lv_iconst (v := 1) hx hb dX4_setRetries_27 (by decide) ?_
      refine W.eq (g2 := F0 m 28 ls [.int (b2i true), .int (b2i true), .int (b2i false), .ref (bd 0)]) rfl ?_
      refine cMi (va_runV (As := [.int (b2i false), .int (b2i true), .int (b2i true)]) (rest := []) ⟨hx, hb, hml, hown, hts⟩ (c_X4_goes l D cy bd hj τ false true true) (cwV 3 hts gX4_setRetries_X4_goes rfl rfl rfl (by decide +kernel) ⟨Nat.le_of_ble_eq_true rfl, Nat.le_of_ble_eq_true rfl⟩) ⟨mw_bl, (mw_O hP hK), (mw_at hP hK)⟩ rfl rfl hl.1 rfl (lv_room (Nat.le_of_ble_eq_true rfl)) dX4_setRetries_28 ⟨Nat.le_of_ble_eq_true rfl, Nat.le_of_ble_eq_true rfl⟩) hS (fun H locs hP hS => ?_)
      refine W.eq (g2 := F0 m 31 ls [.int (b2i (false && true && true))]) rfl ?_
      have hw6 : WB (tGo τ false true true) 30000 := WB.go hw
      have hF7 : FI (tGo τ false true true) := FI.go hF
      refine lv_if_eq (tgt := 48) hx hb dX4_setRetries_31 (by decide) (fun c_8 => ?_) (fun c_8 => absurd ((by simp [b2i, c_1, c_5] : (b2i (false && true && true)) = 0)) c_8)
      have e8 : hSetRetries τ za zb = tGo τ false true true := by simp [hSetRetries, bRt, tGo_r, tGo_0, up2_r, c_1, c_5, c_8]
      rw [← e8] at hP
      exact W.vret hx hb hr (fun t ht hW => ⟨⟨(), rfl, trivial, by rw [← ht] at hP; exact hP⟩, hS.F ht⟩) hS.2.2 dX4_setRetries_48
    · replace c_5 := b2i_n0.mp c_5
      refine lv_iconst (v := 1) hx hb dX4_setRetries_21 (by decide) ?_
      refine lv_goto (tgt := 26) hx hb dX4_setRetries_22 (by decide) ?_
      refine lv_iconst (v := 1) hx hb dX4_setRetries_26 (by decide) ?_
      refine lv_iconst (v := 1) hx hb dX4_setRetries_27 (by decide) ?_
      refine W.eq (g2 := F0 m 28 ls [.int (b2i true), .int (b2i true), .int (b2i true), .ref (bd 0)]) rfl ?_
      refine cMi (va_runV (As := [.int (b2i true), .int (b2i true), .int (b2i true)]) (rest := []) ⟨hx, hb, hml, hown, hts⟩ (c_X4_goes l D cy bd hj τ true true true) (cwV 3 hts gX4_setRetries_X4_goes rfl rfl rfl (by decide +kernel) ⟨Nat.le_of_ble_eq_true rfl, Nat.le_of_ble_eq_true rfl⟩) ⟨mw_bl, (mw_O hP hK), (mw_at hP hK)⟩ rfl rfl hl.1 rfl (lv_room (Nat.le_of_ble_eq_true rfl)) dX4_setRetries_28 ⟨Nat.le_of_ble_eq_true rfl, Nat.le_of_ble_eq_true rfl⟩) hS (fun H locs hP hS => ?_)
      refine W.eq (g2 := F0 m 31 ls [.int (b2i (true && true && true))]) rfl ?_
      have hw9 : WB (tGo τ true true true) 30000 := WB.go hw
      have hF10 : FI (tGo τ true true true) := FI.go hF
      refine lv_if_eq (tgt := 48) hx hb dX4_setRetries_31 (by decide) (fun c_11 => absurd c_11 ((by simp [b2i, c_1, c_5] : ¬ (b2i (true && true && true)) = 0))) (fun c_11 => ?_)
      refine lv_aload_n hx hb dX4_setRetries_34 rfl (lv_at hl 0 rfl) ?_
      refine lv_iload_n hx hb dX4_setRetries_35 rfl (lv_at hl 1 rfl) ?_
      refine rpO1 hx hb hf4 hown hK hP hD hS (hts (.fieldLink RX4 7 "MachineFoundryModel" "first" "I") (by decide +kernel)) dX4_setRetries_36 (fun H locs hP hS => ?_)
      refine lv_aload_n hx hb dX4_setRetries_39 rfl (lv_at hl 0 rfl) ?_
      refine lv_iload_n hx hb dX4_setRetries_40 rfl (lv_at hl 2 rfl) ?_
      refine rpO2 hx hb hf4 hown hK hP hD hS (hts (.fieldLink RX4 13 "MachineFoundryModel" "mostFailures" "I") (by decide +kernel)) dX4_setRetries_41 (fun H locs hP hS => ?_)
      refine lv_aload_n hx hb dX4_setRetries_44 rfl (lv_at hl 0 rfl) ?_
      refine cMv (va_runV (As := []) (rest := []) ⟨hx, hb, hml, hown, hts⟩ (c_X4_begins l D cy bd hj (up2 (up2 (tGo τ true true true) 0 1 za) 0 2 zb) (WB.le (WB.cong hw9 (by simp [up2])) (by omega))) (cwV 0 hts gX4_setRetries_X4_begins rfl rfl rfl (by decide +kernel) ⟨Nat.le_of_ble_eq_true rfl, Nat.le_of_ble_eq_true rfl⟩) ⟨mw_bl, (mw_O hP hK), (mw_at hP hK)⟩ rfl rfl hl.1 rfl (lv_room (Nat.le_of_ble_eq_true rfl)) dX4_setRetries_45 ⟨Nat.le_of_ble_eq_true rfl, Nat.le_of_ble_eq_true rfl⟩) hS (fun H locs hP hS => ?_)
      refine W.eq (g2 := F0 m 48 ls []) rfl ?_
      have e8 : hSetRetries τ za zb = tBegins (up2 (up2 (tGo τ true true true) 0 1 za) 0 2 zb) := by simp [hSetRetries, bRt, tGo_r, tGo_0, up2_r, c_1, c_5, c_11]
      rw [← e8] at hP
      exact W.vret hx hb hr (fun t ht hW => ⟨⟨(), rfl, trivial, by rw [← ht] at hP; exact hP⟩, hS.F ht⟩) hS.2.2 dX4_setRetries_48
set_option maxHeartbeats 4000000 in
set_option maxRecDepth 100000 in
/-- report -/
theorem c_X4_report (l : Launch) (D : va_G) (cy : Nat → ClassId) (bd : Nat → Nat) (hj : injM bd) (τ : Mem) (za zb zc zd ze : Int32) (hw : WB τ 30000) (hF : FI τ) : Met l yX4_report wsX4_report ({ frames := 4, cells := 0, slots := 0, locals := 90 }) (va_Pc [.ref (bd 0), .int za, .int zb, .int zc, .int zd, .int ze] (mw D cy bd τ)) (QI (qReport τ za zb zc zd ze) (va_P D vwCl (wM cy bd (hReport τ za zb zc zd ze))) (AM bd)) 0 0 (AM bd) := by
  refine Met.ofW (cc := cX4_report) (maxL := 7) (ret := (some .int)) (by decide) rfl ?_
  intro p e s m args below meth c s₁ B hml hv
  obtain ⟨rfl, hP, hK⟩ := hv
  have hx := B.exec
  have hb := B.bytes
  have hr := B.returns
  have hts := atoms_spec (ws := wsX4_report) B.pre
  have hown : s.vm.findClass RX4 = some m.cls := findClass_of_methodNamed B.named
  have hlocks := B.notSynchronized
  have hf4 := fun (w : Cond) (h : w ∈ wsX40) => hts w ((by decide +kernel : ∀ w ∈ wsX40, w ∈ wsX4_report) w h)
  have hD := wM_D (cy := cy) hj
  have hS : va_S (AM bd) s.heap s.heap [] := va_S.rf
  have hl := lv_entry ([.ref (bd 0), .int za, .int zb, .int zc, .int zd, .int ze]) (n := 7) (Nat.le_of_ble_eq_true rfl)
  rw [lg_entry_eq]
  generalize (lg_sl ([.ref (bd 0), .int za, .int zb, .int zc, .int zd, .int ze]) ++ List.replicate (7 - (lg_sl ([.ref (bd 0), .int za, .int zb, .int zc, .int zd, .int ze])).length) Slot.unset).toArray = ls at hl ⊢
  have hl : lv_has ls 7 [(0, .ref (bd 0)), (1, .int za), (2, .int zb), (3, .int zc), (4, .int zd), (5, .int ze)] := hl
  refine lv_aload_n hx hb dX4_report_0 rfl (lv_at hl 0 rfl) ?_
  refine lv_iload_n hx hb dX4_report_1 rfl (lv_at hl 1 rfl) ?_
  refine cS (W.runS (As := [.int za]) (rest := [.ref (bd 0)]) ⟨hx, hb, hml, hown, hts⟩ (c_X4_isMachine l za) (va_cwS 1 hts gX4_report_X4_isMachine rfl rfl rfl (by decide +kernel) ⟨Nat.le_of_ble_eq_true rfl, Nat.le_of_ble_eq_true rfl⟩) ⟨fun a U g mk h => h, fun U _ _ => ⟨rfl, trivial⟩⟩ rfl rfl hl.1 rfl (lv_room (Nat.le_of_ble_eq_true rfl)) dX4_report_2 ⟨Nat.le_of_ble_eq_true rfl, Nat.le_of_ble_eq_true rfl⟩) (fun _ _ => ?_)
  refine W.eq (g2 := F0 m 5 ls [.int (b2i (inB za 0 15)), .ref (bd 0)]) rfl ?_
  refine lv_if_eq (tgt := 19) hx hb dX4_report_5 (by decide) (fun c_1 => ?_) (fun c_1 => ?_)
  · replace c_1 := b2i_0.mp c_1
    refine lv_iconst (v := 0) hx hb dX4_report_19 (by decide) ?_
    refine lv_iload_n hx hb dX4_report_20 rfl (lv_at hl 3 rfl) ?_
    refine lv_iconst (v := 0) hx hb dX4_report_21 (by decide) ?_
    refine lv_bipush (v := 99) hx hb dX4_report_22 (by decide) ?_
    refine cS (W.runS (As := [.int zc, .int 0, .int 99]) (rest := [.int 0, .ref (bd 0)]) ⟨hx, hb, hml, hown, hts⟩ (c_X4_in l zc 0 99) (va_cwS 3 hts gX4_report_X4_in rfl rfl rfl (by decide +kernel) ⟨Nat.le_of_ble_eq_true rfl, Nat.le_of_ble_eq_true rfl⟩) ⟨fun a U g mk h => h, fun U _ _ => ⟨rfl, trivial⟩⟩ rfl rfl hl.1 rfl (lv_room (Nat.le_of_ble_eq_true rfl)) dX4_report_24 ⟨Nat.le_of_ble_eq_true rfl, Nat.le_of_ble_eq_true rfl⟩) (fun _ _ => ?_)
    refine W.eq (g2 := F0 m 27 ls [.int (b2i (inB zc 0 99)), .int 0, .ref (bd 0)]) rfl ?_
    refine lv_if_eq (tgt := 55) hx hb dX4_report_27 (by decide) (fun c_2 => ?_) (fun c_2 => ?_)
    · replace c_2 := b2i_0.mp c_2
      refine lv_iconst (v := 0) hx hb dX4_report_55 (by decide) ?_
      refine lv_iconst (v := 1) hx hb dX4_report_56 (by decide) ?_
      refine W.eq (g2 := F0 m 57 ls [.int (b2i true), .int (b2i false), .int (b2i false), .ref (bd 0)]) rfl ?_
      refine cMi (va_runV (As := [.int (b2i false), .int (b2i false), .int (b2i true)]) (rest := []) ⟨hx, hb, hml, hown, hts⟩ (c_X4_goes l D cy bd hj τ false false true) (cwV 3 hts gX4_report_X4_goes rfl rfl rfl (by decide +kernel) ⟨Nat.le_of_ble_eq_true rfl, Nat.le_of_ble_eq_true rfl⟩) ⟨mw_bl, (mw_O hP hK), (mw_at hP hK)⟩ rfl rfl hl.1 rfl (lv_room (Nat.le_of_ble_eq_true rfl)) dX4_report_57 ⟨Nat.le_of_ble_eq_true rfl, Nat.le_of_ble_eq_true rfl⟩) hS (fun H locs hP hS => ?_)
      refine W.eq (g2 := F0 m 60 ls [.int (b2i (false && false && true))]) rfl ?_
      have hw3 : WB (tGo τ false false true) 30000 := WB.go hw
      have hF4 : FI (tGo τ false false true) := FI.go hF
      refine lv_if_ne (tgt := 65) hx hb dX4_report_60 (by decide) (fun c_5 => absurd ((by simp [b2i, c_1, c_2] : (b2i (false && false && true)) = 0)) c_5) (fun c_5 => ?_)
      refine lv_iconst (v := 0) hx hb dX4_report_63 (by decide) ?_
      have e8 : hReport τ za zb zc zd ze = tGo τ false false true := by simp [hReport, qReport, bRp1, bRp2, tRep, tAns, tGoRp, tGo_r, tGo_0, up2_r, c_1, c_2, c_5]
      rw [← e8] at hP
      have e9 : 0 = qReport τ za zb zc zd ze := by simp [hReport, qReport, bRp1, bRp2, tRep, tAns, tGoRp, tGo_r, tGo_0, up2_r, c_1, c_2, c_5]
      exact W.iret (v := 0) hx hb hr (fun t ht hW => ⟨⟨_, (), rfl, e9, by rw [← ht] at hP; exact hP⟩, hS.F ht⟩) hS.2.2 dX4_report_64
    · replace c_2 := b2i_n0.mp c_2
      refine lv_iload hx hb dX4_report_30 (lv_at hl 4 rfl) ?_
      refine lv_iconst (v := 0) hx hb dX4_report_32 (by decide) ?_
      refine lv_iconst (v := 3) hx hb dX4_report_33 (by decide) ?_
      refine cS (W.runS (As := [.int zd, .int 0, .int 3]) (rest := [.int 0, .ref (bd 0)]) ⟨hx, hb, hml, hown, hts⟩ (c_X4_in l zd 0 3) (va_cwS 3 hts gX4_report_X4_in rfl rfl rfl (by decide +kernel) ⟨Nat.le_of_ble_eq_true rfl, Nat.le_of_ble_eq_true rfl⟩) ⟨fun a U g mk h => h, fun U _ _ => ⟨rfl, trivial⟩⟩ rfl rfl hl.1 rfl (lv_room (Nat.le_of_ble_eq_true rfl)) dX4_report_34 ⟨Nat.le_of_ble_eq_true rfl, Nat.le_of_ble_eq_true rfl⟩) (fun _ _ => ?_)
      refine W.eq (g2 := F0 m 37 ls [.int (b2i (inB zd 0 3)), .int 0, .ref (bd 0)]) rfl ?_
      refine lv_if_eq (tgt := 55) hx hb dX4_report_37 (by decide) (fun c_6 => ?_) (fun c_6 => ?_)
      · replace c_6 := b2i_0.mp c_6
        refine lv_iconst (v := 0) hx hb dX4_report_55 (by decide) ?_
        refine lv_iconst (v := 1) hx hb dX4_report_56 (by decide) ?_
        refine W.eq (g2 := F0 m 57 ls [.int (b2i true), .int (b2i false), .int (b2i false), .ref (bd 0)]) rfl ?_
        refine cMi (va_runV (As := [.int (b2i false), .int (b2i false), .int (b2i true)]) (rest := []) ⟨hx, hb, hml, hown, hts⟩ (c_X4_goes l D cy bd hj τ false false true) (cwV 3 hts gX4_report_X4_goes rfl rfl rfl (by decide +kernel) ⟨Nat.le_of_ble_eq_true rfl, Nat.le_of_ble_eq_true rfl⟩) ⟨mw_bl, (mw_O hP hK), (mw_at hP hK)⟩ rfl rfl hl.1 rfl (lv_room (Nat.le_of_ble_eq_true rfl)) dX4_report_57 ⟨Nat.le_of_ble_eq_true rfl, Nat.le_of_ble_eq_true rfl⟩) hS (fun H locs hP hS => ?_)
        refine W.eq (g2 := F0 m 60 ls [.int (b2i (false && false && true))]) rfl ?_
        have hw7 : WB (tGo τ false false true) 30000 := WB.go hw
        have hF8 : FI (tGo τ false false true) := FI.go hF
        refine lv_if_ne (tgt := 65) hx hb dX4_report_60 (by decide) (fun c_9 => absurd ((by simp [b2i, c_1, c_2, c_6] : (b2i (false && false && true)) = 0)) c_9) (fun c_9 => ?_)
        refine lv_iconst (v := 0) hx hb dX4_report_63 (by decide) ?_
        have e8 : hReport τ za zb zc zd ze = tGo τ false false true := by simp [hReport, qReport, bRp1, bRp2, tRep, tAns, tGoRp, tGo_r, tGo_0, up2_r, c_1, c_2, c_6, c_9]
        rw [← e8] at hP
        have e9 : 0 = qReport τ za zb zc zd ze := by simp [hReport, qReport, bRp1, bRp2, tRep, tAns, tGoRp, tGo_r, tGo_0, up2_r, c_1, c_2, c_6, c_9]
        exact W.iret (v := 0) hx hb hr (fun t ht hW => ⟨⟨_, (), rfl, e9, by rw [← ht] at hP; exact hP⟩, hS.F ht⟩) hS.2.2 dX4_report_64
      · replace c_6 := b2i_n0.mp c_6
        refine lv_iload hx hb dX4_report_40 (lv_at hl 5 rfl) ?_
        refine lv_iconst (v := 0) hx hb dX4_report_42 (by decide) ?_
        refine lv_bipush (v := 15) hx hb dX4_report_43 (by decide) ?_
        refine cS (W.runS (As := [.int ze, .int 0, .int 15]) (rest := [.int 0, .ref (bd 0)]) ⟨hx, hb, hml, hown, hts⟩ (c_X4_in l ze 0 15) (va_cwS 3 hts gX4_report_X4_in rfl rfl rfl (by decide +kernel) ⟨Nat.le_of_ble_eq_true rfl, Nat.le_of_ble_eq_true rfl⟩) ⟨fun a U g mk h => h, fun U _ _ => ⟨rfl, trivial⟩⟩ rfl rfl hl.1 rfl (lv_room (Nat.le_of_ble_eq_true rfl)) dX4_report_45 ⟨Nat.le_of_ble_eq_true rfl, Nat.le_of_ble_eq_true rfl⟩) (fun _ _ => ?_)
        refine W.eq (g2 := F0 m 48 ls [.int (b2i (inB ze 0 15)), .int 0, .ref (bd 0)]) rfl ?_
        refine lv_if_eq (tgt := 55) hx hb dX4_report_48 (by decide) (fun c_10 => ?_) (fun c_10 => ?_)
        · replace c_10 := b2i_0.mp c_10
          refine lv_iconst (v := 0) hx hb dX4_report_55 (by decide) ?_
          refine lv_iconst (v := 1) hx hb dX4_report_56 (by decide) ?_
          refine W.eq (g2 := F0 m 57 ls [.int (b2i true), .int (b2i false), .int (b2i false), .ref (bd 0)]) rfl ?_
          refine cMi (va_runV (As := [.int (b2i false), .int (b2i false), .int (b2i true)]) (rest := []) ⟨hx, hb, hml, hown, hts⟩ (c_X4_goes l D cy bd hj τ false false true) (cwV 3 hts gX4_report_X4_goes rfl rfl rfl (by decide +kernel) ⟨Nat.le_of_ble_eq_true rfl, Nat.le_of_ble_eq_true rfl⟩) ⟨mw_bl, (mw_O hP hK), (mw_at hP hK)⟩ rfl rfl hl.1 rfl (lv_room (Nat.le_of_ble_eq_true rfl)) dX4_report_57 ⟨Nat.le_of_ble_eq_true rfl, Nat.le_of_ble_eq_true rfl⟩) hS (fun H locs hP hS => ?_)
          refine W.eq (g2 := F0 m 60 ls [.int (b2i (false && false && true))]) rfl ?_
          have hw11 : WB (tGo τ false false true) 30000 := WB.go hw
          have hF12 : FI (tGo τ false false true) := FI.go hF
          refine lv_if_ne (tgt := 65) hx hb dX4_report_60 (by decide) (fun c_13 => absurd ((by simp [b2i, c_1, c_2, c_6, c_10] : (b2i (false && false && true)) = 0)) c_13) (fun c_13 => ?_)
          refine lv_iconst (v := 0) hx hb dX4_report_63 (by decide) ?_
          have e8 : hReport τ za zb zc zd ze = tGo τ false false true := by simp [hReport, qReport, bRp1, bRp2, tRep, tAns, tGoRp, tGo_r, tGo_0, up2_r, c_1, c_2, c_6, c_10, c_13]
          rw [← e8] at hP
          have e9 : 0 = qReport τ za zb zc zd ze := by simp [hReport, qReport, bRp1, bRp2, tRep, tAns, tGoRp, tGo_r, tGo_0, up2_r, c_1, c_2, c_6, c_10, c_13]
          exact W.iret (v := 0) hx hb hr (fun t ht hW => ⟨⟨_, (), rfl, e9, by rw [← ht] at hP; exact hP⟩, hS.F ht⟩) hS.2.2 dX4_report_64
        · replace c_10 := b2i_n0.mp c_10
          refine lv_iconst (v := 1) hx hb dX4_report_51 (by decide) ?_
          refine lv_goto (tgt := 56) hx hb dX4_report_52 (by decide) ?_
          refine lv_iconst (v := 1) hx hb dX4_report_56 (by decide) ?_
          refine W.eq (g2 := F0 m 57 ls [.int (b2i true), .int (b2i true), .int (b2i false), .ref (bd 0)]) rfl ?_
          refine cMi (va_runV (As := [.int (b2i false), .int (b2i true), .int (b2i true)]) (rest := []) ⟨hx, hb, hml, hown, hts⟩ (c_X4_goes l D cy bd hj τ false true true) (cwV 3 hts gX4_report_X4_goes rfl rfl rfl (by decide +kernel) ⟨Nat.le_of_ble_eq_true rfl, Nat.le_of_ble_eq_true rfl⟩) ⟨mw_bl, (mw_O hP hK), (mw_at hP hK)⟩ rfl rfl hl.1 rfl (lv_room (Nat.le_of_ble_eq_true rfl)) dX4_report_57 ⟨Nat.le_of_ble_eq_true rfl, Nat.le_of_ble_eq_true rfl⟩) hS (fun H locs hP hS => ?_)
          refine W.eq (g2 := F0 m 60 ls [.int (b2i (false && true && true))]) rfl ?_
          have hw14 : WB (tGo τ false true true) 30000 := WB.go hw
          have hF15 : FI (tGo τ false true true) := FI.go hF
          refine lv_if_ne (tgt := 65) hx hb dX4_report_60 (by decide) (fun c_16 => absurd ((by simp [b2i, c_1, c_2, c_6, c_10] : (b2i (false && true && true)) = 0)) c_16) (fun c_16 => ?_)
          refine lv_iconst (v := 0) hx hb dX4_report_63 (by decide) ?_
          have e8 : hReport τ za zb zc zd ze = tGo τ false true true := by simp [hReport, qReport, bRp1, bRp2, tRep, tAns, tGoRp, tGo_r, tGo_0, up2_r, c_1, c_2, c_6, c_10, c_16]
          rw [← e8] at hP
          have e9 : 0 = qReport τ za zb zc zd ze := by simp [hReport, qReport, bRp1, bRp2, tRep, tAns, tGoRp, tGo_r, tGo_0, up2_r, c_1, c_2, c_6, c_10, c_16]
          exact W.iret (v := 0) hx hb hr (fun t ht hW => ⟨⟨_, (), rfl, e9, by rw [← ht] at hP; exact hP⟩, hS.F ht⟩) hS.2.2 dX4_report_64
  · replace c_1 := b2i_n0.mp c_1
    obtain ⟨i, hi, rfl⟩ := of_15 c_1
    have hl : lv_has ls 7 [(0, .ref (bd 0)), (1, .int (nI i)), (2, .int zb), (3, .int zc), (4, .int zd), (5, .int ze)] := hl
    refine lv_iload_n hx hb dX4_report_8 rfl (lv_at hl 2 rfl) ?_
    refine cS (W.runS (As := [.int zb]) (rest := [.ref (bd 0)]) ⟨hx, hb, hml, hown, hts⟩ (c_X4_isRack l zb) (va_cwS 1 hts gX4_report_X4_isRack rfl rfl rfl (by decide +kernel) ⟨Nat.le_of_ble_eq_true rfl, Nat.le_of_ble_eq_true rfl⟩) ⟨fun a U g mk h => h, fun U _ _ => ⟨rfl, trivial⟩⟩ rfl rfl hl.1 rfl (lv_room (Nat.le_of_ble_eq_true rfl)) dX4_report_9 ⟨Nat.le_of_ble_eq_true rfl, Nat.le_of_ble_eq_true rfl⟩) (fun _ _ => ?_)
    refine W.eq (g2 := F0 m 12 ls [.int (b2i (inB zb 0 3)), .ref (bd 0)]) rfl ?_
    refine lv_if_eq (tgt := 19) hx hb dX4_report_12 (by decide) (fun c_17 => ?_) (fun c_17 => ?_)
    · replace c_17 := b2i_0.mp c_17
      refine lv_iconst (v := 0) hx hb dX4_report_19 (by decide) ?_
      refine lv_iload_n hx hb dX4_report_20 rfl (lv_at hl 3 rfl) ?_
      refine lv_iconst (v := 0) hx hb dX4_report_21 (by decide) ?_
      refine lv_bipush (v := 99) hx hb dX4_report_22 (by decide) ?_
      refine cS (W.runS (As := [.int zc, .int 0, .int 99]) (rest := [.int 0, .ref (bd 0)]) ⟨hx, hb, hml, hown, hts⟩ (c_X4_in l zc 0 99) (va_cwS 3 hts gX4_report_X4_in rfl rfl rfl (by decide +kernel) ⟨Nat.le_of_ble_eq_true rfl, Nat.le_of_ble_eq_true rfl⟩) ⟨fun a U g mk h => h, fun U _ _ => ⟨rfl, trivial⟩⟩ rfl rfl hl.1 rfl (lv_room (Nat.le_of_ble_eq_true rfl)) dX4_report_24 ⟨Nat.le_of_ble_eq_true rfl, Nat.le_of_ble_eq_true rfl⟩) (fun _ _ => ?_)
      refine W.eq (g2 := F0 m 27 ls [.int (b2i (inB zc 0 99)), .int 0, .ref (bd 0)]) rfl ?_
      refine lv_if_eq (tgt := 55) hx hb dX4_report_27 (by decide) (fun c_18 => ?_) (fun c_18 => ?_)
      · replace c_18 := b2i_0.mp c_18
        refine lv_iconst (v := 0) hx hb dX4_report_55 (by decide) ?_
        refine lv_iconst (v := 1) hx hb dX4_report_56 (by decide) ?_
        refine W.eq (g2 := F0 m 57 ls [.int (b2i true), .int (b2i false), .int (b2i false), .ref (bd 0)]) rfl ?_
        refine cMi (va_runV (As := [.int (b2i false), .int (b2i false), .int (b2i true)]) (rest := []) ⟨hx, hb, hml, hown, hts⟩ (c_X4_goes l D cy bd hj τ false false true) (cwV 3 hts gX4_report_X4_goes rfl rfl rfl (by decide +kernel) ⟨Nat.le_of_ble_eq_true rfl, Nat.le_of_ble_eq_true rfl⟩) ⟨mw_bl, (mw_O hP hK), (mw_at hP hK)⟩ rfl rfl hl.1 rfl (lv_room (Nat.le_of_ble_eq_true rfl)) dX4_report_57 ⟨Nat.le_of_ble_eq_true rfl, Nat.le_of_ble_eq_true rfl⟩) hS (fun H locs hP hS => ?_)
        refine W.eq (g2 := F0 m 60 ls [.int (b2i (false && false && true))]) rfl ?_
        have hw19 : WB (tGo τ false false true) 30000 := WB.go hw
        have hF20 : FI (tGo τ false false true) := FI.go hF
        refine lv_if_ne (tgt := 65) hx hb dX4_report_60 (by decide) (fun c_21 => absurd ((by simp [b2i, c_1, c_17, c_18, inB_15 hi, ix_nI (show i < 2147483648 by omega)] : (b2i (false && false && true)) = 0)) c_21) (fun c_21 => ?_)
        refine lv_iconst (v := 0) hx hb dX4_report_63 (by decide) ?_
        have e8 : hReport τ (nI i) zb zc zd ze = tGo τ false false true := by simp [hReport, qReport, bRp1, bRp2, tRep, tAns, tGoRp, tGo_r, tGo_0, up2_r, c_1, c_17, c_18, c_21, inB_15 hi, ix_nI (show i < 2147483648 by omega)]
        rw [← e8] at hP
        have e9 : 0 = qReport τ (nI i) zb zc zd ze := by simp [hReport, qReport, bRp1, bRp2, tRep, tAns, tGoRp, tGo_r, tGo_0, up2_r, c_1, c_17, c_18, c_21, inB_15 hi, ix_nI (show i < 2147483648 by omega)]
        exact W.iret (v := 0) hx hb hr (fun t ht hW => ⟨⟨_, (), rfl, e9, by rw [← ht] at hP; exact hP⟩, hS.F ht⟩) hS.2.2 dX4_report_64
      · replace c_18 := b2i_n0.mp c_18
        refine lv_iload hx hb dX4_report_30 (lv_at hl 4 rfl) ?_
        refine lv_iconst (v := 0) hx hb dX4_report_32 (by decide) ?_
        refine lv_iconst (v := 3) hx hb dX4_report_33 (by decide) ?_
        refine cS (W.runS (As := [.int zd, .int 0, .int 3]) (rest := [.int 0, .ref (bd 0)]) ⟨hx, hb, hml, hown, hts⟩ (c_X4_in l zd 0 3) (va_cwS 3 hts gX4_report_X4_in rfl rfl rfl (by decide +kernel) ⟨Nat.le_of_ble_eq_true rfl, Nat.le_of_ble_eq_true rfl⟩) ⟨fun a U g mk h => h, fun U _ _ => ⟨rfl, trivial⟩⟩ rfl rfl hl.1 rfl (lv_room (Nat.le_of_ble_eq_true rfl)) dX4_report_34 ⟨Nat.le_of_ble_eq_true rfl, Nat.le_of_ble_eq_true rfl⟩) (fun _ _ => ?_)
        refine W.eq (g2 := F0 m 37 ls [.int (b2i (inB zd 0 3)), .int 0, .ref (bd 0)]) rfl ?_
        refine lv_if_eq (tgt := 55) hx hb dX4_report_37 (by decide) (fun c_22 => ?_) (fun c_22 => ?_)
        · replace c_22 := b2i_0.mp c_22
          refine lv_iconst (v := 0) hx hb dX4_report_55 (by decide) ?_
          refine lv_iconst (v := 1) hx hb dX4_report_56 (by decide) ?_
          refine W.eq (g2 := F0 m 57 ls [.int (b2i true), .int (b2i false), .int (b2i false), .ref (bd 0)]) rfl ?_
          refine cMi (va_runV (As := [.int (b2i false), .int (b2i false), .int (b2i true)]) (rest := []) ⟨hx, hb, hml, hown, hts⟩ (c_X4_goes l D cy bd hj τ false false true) (cwV 3 hts gX4_report_X4_goes rfl rfl rfl (by decide +kernel) ⟨Nat.le_of_ble_eq_true rfl, Nat.le_of_ble_eq_true rfl⟩) ⟨mw_bl, (mw_O hP hK), (mw_at hP hK)⟩ rfl rfl hl.1 rfl (lv_room (Nat.le_of_ble_eq_true rfl)) dX4_report_57 ⟨Nat.le_of_ble_eq_true rfl, Nat.le_of_ble_eq_true rfl⟩) hS (fun H locs hP hS => ?_)
          refine W.eq (g2 := F0 m 60 ls [.int (b2i (false && false && true))]) rfl ?_
          have hw23 : WB (tGo τ false false true) 30000 := WB.go hw
          have hF24 : FI (tGo τ false false true) := FI.go hF
          refine lv_if_ne (tgt := 65) hx hb dX4_report_60 (by decide) (fun c_25 => absurd ((by simp [b2i, c_1, c_17, c_18, c_22, inB_15 hi, ix_nI (show i < 2147483648 by omega)] : (b2i (false && false && true)) = 0)) c_25) (fun c_25 => ?_)
          refine lv_iconst (v := 0) hx hb dX4_report_63 (by decide) ?_
          have e8 : hReport τ (nI i) zb zc zd ze = tGo τ false false true := by simp [hReport, qReport, bRp1, bRp2, tRep, tAns, tGoRp, tGo_r, tGo_0, up2_r, c_1, c_17, c_18, c_22, c_25, inB_15 hi, ix_nI (show i < 2147483648 by omega)]
          rw [← e8] at hP
          have e9 : 0 = qReport τ (nI i) zb zc zd ze := by simp [hReport, qReport, bRp1, bRp2, tRep, tAns, tGoRp, tGo_r, tGo_0, up2_r, c_1, c_17, c_18, c_22, c_25, inB_15 hi, ix_nI (show i < 2147483648 by omega)]
          exact W.iret (v := 0) hx hb hr (fun t ht hW => ⟨⟨_, (), rfl, e9, by rw [← ht] at hP; exact hP⟩, hS.F ht⟩) hS.2.2 dX4_report_64
        · replace c_22 := b2i_n0.mp c_22
          refine lv_iload hx hb dX4_report_40 (lv_at hl 5 rfl) ?_
          refine lv_iconst (v := 0) hx hb dX4_report_42 (by decide) ?_
          refine lv_bipush (v := 15) hx hb dX4_report_43 (by decide) ?_
          refine cS (W.runS (As := [.int ze, .int 0, .int 15]) (rest := [.int 0, .ref (bd 0)]) ⟨hx, hb, hml, hown, hts⟩ (c_X4_in l ze 0 15) (va_cwS 3 hts gX4_report_X4_in rfl rfl rfl (by decide +kernel) ⟨Nat.le_of_ble_eq_true rfl, Nat.le_of_ble_eq_true rfl⟩) ⟨fun a U g mk h => h, fun U _ _ => ⟨rfl, trivial⟩⟩ rfl rfl hl.1 rfl (lv_room (Nat.le_of_ble_eq_true rfl)) dX4_report_45 ⟨Nat.le_of_ble_eq_true rfl, Nat.le_of_ble_eq_true rfl⟩) (fun _ _ => ?_)
          refine W.eq (g2 := F0 m 48 ls [.int (b2i (inB ze 0 15)), .int 0, .ref (bd 0)]) rfl ?_
          refine lv_if_eq (tgt := 55) hx hb dX4_report_48 (by decide) (fun c_26 => ?_) (fun c_26 => ?_)
          · replace c_26 := b2i_0.mp c_26
            refine lv_iconst (v := 0) hx hb dX4_report_55 (by decide) ?_
            refine lv_iconst (v := 1) hx hb dX4_report_56 (by decide) ?_
            refine W.eq (g2 := F0 m 57 ls [.int (b2i true), .int (b2i false), .int (b2i false), .ref (bd 0)]) rfl ?_
            refine cMi (va_runV (As := [.int (b2i false), .int (b2i false), .int (b2i true)]) (rest := []) ⟨hx, hb, hml, hown, hts⟩ (c_X4_goes l D cy bd hj τ false false true) (cwV 3 hts gX4_report_X4_goes rfl rfl rfl (by decide +kernel) ⟨Nat.le_of_ble_eq_true rfl, Nat.le_of_ble_eq_true rfl⟩) ⟨mw_bl, (mw_O hP hK), (mw_at hP hK)⟩ rfl rfl hl.1 rfl (lv_room (Nat.le_of_ble_eq_true rfl)) dX4_report_57 ⟨Nat.le_of_ble_eq_true rfl, Nat.le_of_ble_eq_true rfl⟩) hS (fun H locs hP hS => ?_)
            refine W.eq (g2 := F0 m 60 ls [.int (b2i (false && false && true))]) rfl ?_
            have hw27 : WB (tGo τ false false true) 30000 := WB.go hw
            have hF28 : FI (tGo τ false false true) := FI.go hF
            refine lv_if_ne (tgt := 65) hx hb dX4_report_60 (by decide) (fun c_29 => absurd ((by simp [b2i, c_1, c_17, c_18, c_22, c_26, inB_15 hi, ix_nI (show i < 2147483648 by omega)] : (b2i (false && false && true)) = 0)) c_29) (fun c_29 => ?_)
            refine lv_iconst (v := 0) hx hb dX4_report_63 (by decide) ?_
            have e8 : hReport τ (nI i) zb zc zd ze = tGo τ false false true := by simp [hReport, qReport, bRp1, bRp2, tRep, tAns, tGoRp, tGo_r, tGo_0, up2_r, c_1, c_17, c_18, c_22, c_26, c_29, inB_15 hi, ix_nI (show i < 2147483648 by omega)]
            rw [← e8] at hP
            have e9 : 0 = qReport τ (nI i) zb zc zd ze := by simp [hReport, qReport, bRp1, bRp2, tRep, tAns, tGoRp, tGo_r, tGo_0, up2_r, c_1, c_17, c_18, c_22, c_26, c_29, inB_15 hi, ix_nI (show i < 2147483648 by omega)]
            exact W.iret (v := 0) hx hb hr (fun t ht hW => ⟨⟨_, (), rfl, e9, by rw [← ht] at hP; exact hP⟩, hS.F ht⟩) hS.2.2 dX4_report_64
          · replace c_26 := b2i_n0.mp c_26
            refine lv_iconst (v := 1) hx hb dX4_report_51 (by decide) ?_
            refine lv_goto (tgt := 56) hx hb dX4_report_52 (by decide) ?_
            refine lv_iconst (v := 1) hx hb dX4_report_56 (by decide) ?_
            refine W.eq (g2 := F0 m 57 ls [.int (b2i true), .int (b2i true), .int (b2i false), .ref (bd 0)]) rfl ?_
            refine cMi (va_runV (As := [.int (b2i false), .int (b2i true), .int (b2i true)]) (rest := []) ⟨hx, hb, hml, hown, hts⟩ (c_X4_goes l D cy bd hj τ false true true) (cwV 3 hts gX4_report_X4_goes rfl rfl rfl (by decide +kernel) ⟨Nat.le_of_ble_eq_true rfl, Nat.le_of_ble_eq_true rfl⟩) ⟨mw_bl, (mw_O hP hK), (mw_at hP hK)⟩ rfl rfl hl.1 rfl (lv_room (Nat.le_of_ble_eq_true rfl)) dX4_report_57 ⟨Nat.le_of_ble_eq_true rfl, Nat.le_of_ble_eq_true rfl⟩) hS (fun H locs hP hS => ?_)
            refine W.eq (g2 := F0 m 60 ls [.int (b2i (false && true && true))]) rfl ?_
            have hw30 : WB (tGo τ false true true) 30000 := WB.go hw
            have hF31 : FI (tGo τ false true true) := FI.go hF
            refine lv_if_ne (tgt := 65) hx hb dX4_report_60 (by decide) (fun c_32 => absurd ((by simp [b2i, c_1, c_17, c_18, c_22, c_26, inB_15 hi, ix_nI (show i < 2147483648 by omega)] : (b2i (false && true && true)) = 0)) c_32) (fun c_32 => ?_)
            refine lv_iconst (v := 0) hx hb dX4_report_63 (by decide) ?_
            have e8 : hReport τ (nI i) zb zc zd ze = tGo τ false true true := by simp [hReport, qReport, bRp1, bRp2, tRep, tAns, tGoRp, tGo_r, tGo_0, up2_r, c_1, c_17, c_18, c_22, c_26, c_32, inB_15 hi, ix_nI (show i < 2147483648 by omega)]
            rw [← e8] at hP
            have e9 : 0 = qReport τ (nI i) zb zc zd ze := by simp [hReport, qReport, bRp1, bRp2, tRep, tAns, tGoRp, tGo_r, tGo_0, up2_r, c_1, c_17, c_18, c_22, c_26, c_32, inB_15 hi, ix_nI (show i < 2147483648 by omega)]
            exact W.iret (v := 0) hx hb hr (fun t ht hW => ⟨⟨_, (), rfl, e9, by rw [← ht] at hP; exact hP⟩, hS.F ht⟩) hS.2.2 dX4_report_64
    · replace c_17 := b2i_n0.mp c_17
      refine lv_iconst (v := 1) hx hb dX4_report_15 (by decide) ?_
      refine lv_goto (tgt := 20) hx hb dX4_report_16 (by decide) ?_
      refine lv_iload_n hx hb dX4_report_20 rfl (lv_at hl 3 rfl) ?_
      refine lv_iconst (v := 0) hx hb dX4_report_21 (by decide) ?_
      refine lv_bipush (v := 99) hx hb dX4_report_22 (by decide) ?_
      refine cS (W.runS (As := [.int zc, .int 0, .int 99]) (rest := [.int 1, .ref (bd 0)]) ⟨hx, hb, hml, hown, hts⟩ (c_X4_in l zc 0 99) (va_cwS 3 hts gX4_report_X4_in rfl rfl rfl (by decide +kernel) ⟨Nat.le_of_ble_eq_true rfl, Nat.le_of_ble_eq_true rfl⟩) ⟨fun a U g mk h => h, fun U _ _ => ⟨rfl, trivial⟩⟩ rfl rfl hl.1 rfl (lv_room (Nat.le_of_ble_eq_true rfl)) dX4_report_24 ⟨Nat.le_of_ble_eq_true rfl, Nat.le_of_ble_eq_true rfl⟩) (fun _ _ => ?_)
      refine W.eq (g2 := F0 m 27 ls [.int (b2i (inB zc 0 99)), .int 1, .ref (bd 0)]) rfl ?_
      refine lv_if_eq (tgt := 55) hx hb dX4_report_27 (by decide) (fun c_33 => ?_) (fun c_33 => ?_)
      · replace c_33 := b2i_0.mp c_33
        refine lv_iconst (v := 0) hx hb dX4_report_55 (by decide) ?_
        refine lv_iconst (v := 1) hx hb dX4_report_56 (by decide) ?_
        refine W.eq (g2 := F0 m 57 ls [.int (b2i true), .int (b2i false), .int (b2i true), .ref (bd 0)]) rfl ?_
        refine cMi (va_runV (As := [.int (b2i true), .int (b2i false), .int (b2i true)]) (rest := []) ⟨hx, hb, hml, hown, hts⟩ (c_X4_goes l D cy bd hj τ true false true) (cwV 3 hts gX4_report_X4_goes rfl rfl rfl (by decide +kernel) ⟨Nat.le_of_ble_eq_true rfl, Nat.le_of_ble_eq_true rfl⟩) ⟨mw_bl, (mw_O hP hK), (mw_at hP hK)⟩ rfl rfl hl.1 rfl (lv_room (Nat.le_of_ble_eq_true rfl)) dX4_report_57 ⟨Nat.le_of_ble_eq_true rfl, Nat.le_of_ble_eq_true rfl⟩) hS (fun H locs hP hS => ?_)
        refine W.eq (g2 := F0 m 60 ls [.int (b2i (true && false && true))]) rfl ?_
        have hw34 : WB (tGo τ true false true) 30000 := WB.go hw
        have hF35 : FI (tGo τ true false true) := FI.go hF
        refine lv_if_ne (tgt := 65) hx hb dX4_report_60 (by decide) (fun c_36 => absurd ((by simp [b2i, c_1, c_17, c_33, inB_15 hi, ix_nI (show i < 2147483648 by omega)] : (b2i (true && false && true)) = 0)) c_36) (fun c_36 => ?_)
        refine lv_iconst (v := 0) hx hb dX4_report_63 (by decide) ?_
        have e8 : hReport τ (nI i) zb zc zd ze = tGo τ true false true := by simp [hReport, qReport, bRp1, bRp2, tRep, tAns, tGoRp, tGo_r, tGo_0, up2_r, c_1, c_17, c_33, c_36, inB_15 hi, ix_nI (show i < 2147483648 by omega)]
        rw [← e8] at hP
        have e9 : 0 = qReport τ (nI i) zb zc zd ze := by simp [hReport, qReport, bRp1, bRp2, tRep, tAns, tGoRp, tGo_r, tGo_0, up2_r, c_1, c_17, c_33, c_36, inB_15 hi, ix_nI (show i < 2147483648 by omega)]
        exact W.iret (v := 0) hx hb hr (fun t ht hW => ⟨⟨_, (), rfl, e9, by rw [← ht] at hP; exact hP⟩, hS.F ht⟩) hS.2.2 dX4_report_64
      · replace c_33 := b2i_n0.mp c_33
        refine lv_iload hx hb dX4_report_30 (lv_at hl 4 rfl) ?_
        refine lv_iconst (v := 0) hx hb dX4_report_32 (by decide) ?_
        refine lv_iconst (v := 3) hx hb dX4_report_33 (by decide) ?_
        refine cS (W.runS (As := [.int zd, .int 0, .int 3]) (rest := [.int 1, .ref (bd 0)]) ⟨hx, hb, hml, hown, hts⟩ (c_X4_in l zd 0 3) (va_cwS 3 hts gX4_report_X4_in rfl rfl rfl (by decide +kernel) ⟨Nat.le_of_ble_eq_true rfl, Nat.le_of_ble_eq_true rfl⟩) ⟨fun a U g mk h => h, fun U _ _ => ⟨rfl, trivial⟩⟩ rfl rfl hl.1 rfl (lv_room (Nat.le_of_ble_eq_true rfl)) dX4_report_34 ⟨Nat.le_of_ble_eq_true rfl, Nat.le_of_ble_eq_true rfl⟩) (fun _ _ => ?_)
        refine W.eq (g2 := F0 m 37 ls [.int (b2i (inB zd 0 3)), .int 1, .ref (bd 0)]) rfl ?_
        refine lv_if_eq (tgt := 55) hx hb dX4_report_37 (by decide) (fun c_37 => ?_) (fun c_37 => ?_)
        · replace c_37 := b2i_0.mp c_37
          refine lv_iconst (v := 0) hx hb dX4_report_55 (by decide) ?_
          refine lv_iconst (v := 1) hx hb dX4_report_56 (by decide) ?_
          refine W.eq (g2 := F0 m 57 ls [.int (b2i true), .int (b2i false), .int (b2i true), .ref (bd 0)]) rfl ?_
          refine cMi (va_runV (As := [.int (b2i true), .int (b2i false), .int (b2i true)]) (rest := []) ⟨hx, hb, hml, hown, hts⟩ (c_X4_goes l D cy bd hj τ true false true) (cwV 3 hts gX4_report_X4_goes rfl rfl rfl (by decide +kernel) ⟨Nat.le_of_ble_eq_true rfl, Nat.le_of_ble_eq_true rfl⟩) ⟨mw_bl, (mw_O hP hK), (mw_at hP hK)⟩ rfl rfl hl.1 rfl (lv_room (Nat.le_of_ble_eq_true rfl)) dX4_report_57 ⟨Nat.le_of_ble_eq_true rfl, Nat.le_of_ble_eq_true rfl⟩) hS (fun H locs hP hS => ?_)
          refine W.eq (g2 := F0 m 60 ls [.int (b2i (true && false && true))]) rfl ?_
          have hw38 : WB (tGo τ true false true) 30000 := WB.go hw
          have hF39 : FI (tGo τ true false true) := FI.go hF
          refine lv_if_ne (tgt := 65) hx hb dX4_report_60 (by decide) (fun c_40 => absurd ((by simp [b2i, c_1, c_17, c_33, c_37, inB_15 hi, ix_nI (show i < 2147483648 by omega)] : (b2i (true && false && true)) = 0)) c_40) (fun c_40 => ?_)
          refine lv_iconst (v := 0) hx hb dX4_report_63 (by decide) ?_
          have e8 : hReport τ (nI i) zb zc zd ze = tGo τ true false true := by simp [hReport, qReport, bRp1, bRp2, tRep, tAns, tGoRp, tGo_r, tGo_0, up2_r, c_1, c_17, c_33, c_37, c_40, inB_15 hi, ix_nI (show i < 2147483648 by omega)]
          rw [← e8] at hP
          have e9 : 0 = qReport τ (nI i) zb zc zd ze := by simp [hReport, qReport, bRp1, bRp2, tRep, tAns, tGoRp, tGo_r, tGo_0, up2_r, c_1, c_17, c_33, c_37, c_40, inB_15 hi, ix_nI (show i < 2147483648 by omega)]
          exact W.iret (v := 0) hx hb hr (fun t ht hW => ⟨⟨_, (), rfl, e9, by rw [← ht] at hP; exact hP⟩, hS.F ht⟩) hS.2.2 dX4_report_64
        · replace c_37 := b2i_n0.mp c_37
          refine lv_iload hx hb dX4_report_40 (lv_at hl 5 rfl) ?_
          refine lv_iconst (v := 0) hx hb dX4_report_42 (by decide) ?_
          refine lv_bipush (v := 15) hx hb dX4_report_43 (by decide) ?_
          refine cS (W.runS (As := [.int ze, .int 0, .int 15]) (rest := [.int 1, .ref (bd 0)]) ⟨hx, hb, hml, hown, hts⟩ (c_X4_in l ze 0 15) (va_cwS 3 hts gX4_report_X4_in rfl rfl rfl (by decide +kernel) ⟨Nat.le_of_ble_eq_true rfl, Nat.le_of_ble_eq_true rfl⟩) ⟨fun a U g mk h => h, fun U _ _ => ⟨rfl, trivial⟩⟩ rfl rfl hl.1 rfl (lv_room (Nat.le_of_ble_eq_true rfl)) dX4_report_45 ⟨Nat.le_of_ble_eq_true rfl, Nat.le_of_ble_eq_true rfl⟩) (fun _ _ => ?_)
          refine W.eq (g2 := F0 m 48 ls [.int (b2i (inB ze 0 15)), .int 1, .ref (bd 0)]) rfl ?_
          refine lv_if_eq (tgt := 55) hx hb dX4_report_48 (by decide) (fun c_41 => ?_) (fun c_41 => ?_)
          · replace c_41 := b2i_0.mp c_41
            refine lv_iconst (v := 0) hx hb dX4_report_55 (by decide) ?_
            refine lv_iconst (v := 1) hx hb dX4_report_56 (by decide) ?_
            refine W.eq (g2 := F0 m 57 ls [.int (b2i true), .int (b2i false), .int (b2i true), .ref (bd 0)]) rfl ?_
            refine cMi (va_runV (As := [.int (b2i true), .int (b2i false), .int (b2i true)]) (rest := []) ⟨hx, hb, hml, hown, hts⟩ (c_X4_goes l D cy bd hj τ true false true) (cwV 3 hts gX4_report_X4_goes rfl rfl rfl (by decide +kernel) ⟨Nat.le_of_ble_eq_true rfl, Nat.le_of_ble_eq_true rfl⟩) ⟨mw_bl, (mw_O hP hK), (mw_at hP hK)⟩ rfl rfl hl.1 rfl (lv_room (Nat.le_of_ble_eq_true rfl)) dX4_report_57 ⟨Nat.le_of_ble_eq_true rfl, Nat.le_of_ble_eq_true rfl⟩) hS (fun H locs hP hS => ?_)
            refine W.eq (g2 := F0 m 60 ls [.int (b2i (true && false && true))]) rfl ?_
            have hw42 : WB (tGo τ true false true) 30000 := WB.go hw
            have hF43 : FI (tGo τ true false true) := FI.go hF
            refine lv_if_ne (tgt := 65) hx hb dX4_report_60 (by decide) (fun c_44 => absurd ((by simp [b2i, c_1, c_17, c_33, c_37, c_41, inB_15 hi, ix_nI (show i < 2147483648 by omega)] : (b2i (true && false && true)) = 0)) c_44) (fun c_44 => ?_)
            refine lv_iconst (v := 0) hx hb dX4_report_63 (by decide) ?_
            have e8 : hReport τ (nI i) zb zc zd ze = tGo τ true false true := by simp [hReport, qReport, bRp1, bRp2, tRep, tAns, tGoRp, tGo_r, tGo_0, up2_r, c_1, c_17, c_33, c_37, c_41, c_44, inB_15 hi, ix_nI (show i < 2147483648 by omega)]
            rw [← e8] at hP
            have e9 : 0 = qReport τ (nI i) zb zc zd ze := by simp [hReport, qReport, bRp1, bRp2, tRep, tAns, tGoRp, tGo_r, tGo_0, up2_r, c_1, c_17, c_33, c_37, c_41, c_44, inB_15 hi, ix_nI (show i < 2147483648 by omega)]
            exact W.iret (v := 0) hx hb hr (fun t ht hW => ⟨⟨_, (), rfl, e9, by rw [← ht] at hP; exact hP⟩, hS.F ht⟩) hS.2.2 dX4_report_64
          · replace c_41 := b2i_n0.mp c_41
            refine lv_iconst (v := 1) hx hb dX4_report_51 (by decide) ?_
            refine lv_goto (tgt := 56) hx hb dX4_report_52 (by decide) ?_
            refine lv_iconst (v := 1) hx hb dX4_report_56 (by decide) ?_
            refine W.eq (g2 := F0 m 57 ls [.int (b2i true), .int (b2i true), .int (b2i true), .ref (bd 0)]) rfl ?_
            refine cMi (va_runV (As := [.int (b2i true), .int (b2i true), .int (b2i true)]) (rest := []) ⟨hx, hb, hml, hown, hts⟩ (c_X4_goes l D cy bd hj τ true true true) (cwV 3 hts gX4_report_X4_goes rfl rfl rfl (by decide +kernel) ⟨Nat.le_of_ble_eq_true rfl, Nat.le_of_ble_eq_true rfl⟩) ⟨mw_bl, (mw_O hP hK), (mw_at hP hK)⟩ rfl rfl hl.1 rfl (lv_room (Nat.le_of_ble_eq_true rfl)) dX4_report_57 ⟨Nat.le_of_ble_eq_true rfl, Nat.le_of_ble_eq_true rfl⟩) hS (fun H locs hP hS => ?_)
            refine W.eq (g2 := F0 m 60 ls [.int (b2i (true && true && true))]) rfl ?_
            have hw45 : WB (tGo τ true true true) 30000 := WB.go hw
            have hF46 : FI (tGo τ true true true) := FI.go hF
            refine lv_if_ne (tgt := 65) hx hb dX4_report_60 (by decide) (fun c_47 => ?_) (fun c_47 => absurd c_47 ((by simp [b2i, c_1, c_17, c_33, c_37, c_41, inB_15 hi, ix_nI (show i < 2147483648 by omega)] : ¬ (b2i (true && true && true)) = 0)))
            refine lv_aload_n hx hb dX4_report_65 rfl (lv_at hl 0 rfl) ?_
            refine rgO6 hx hb hf4 hown hK hP (hts (.fieldLink RX4 20 "MachineFoundryModel" "rack" "[I") (by decide +kernel)) dX4_report_66 ?_
            refine lv_iload_n hx hb dX4_report_69 rfl (lv_at hl 1 rfl) ?_
            refine raO6 (x := τ 6 i) hx hb hK hP hi (by simp [up2, tGo]) dX4_report_70 ?_
            refine lv_iload_n hx hb dX4_report_71 rfl (lv_at hl 2 rfl) ?_
            refine lv_icmp_eq (tgt := 79) hx hb dX4_report_72 (by decide) (fun c_48 => ?_) (fun c_48 => ?_)
            · refine lv_iconst (v := 0) hx hb dX4_report_79 (by decide) ?_
              refine lv_istore (lv' := [(6, .int 0), (0, .ref (bd 0)), (1, .int (nI i)), (2, .int zb), (3, .int zc), (4, .int zd), (5, .int ze)]) hx hb dX4_report_80 hl (by decide) rfl (fun ls hl => ?_)
              refine lv_aload_n hx hb dX4_report_82 rfl (lv_at hl 1 rfl) ?_
              refine rgO6 hx hb hf4 hown hK hP (hts (.fieldLink RX4 20 "MachineFoundryModel" "rack" "[I") (by decide +kernel)) dX4_report_83 ?_
              refine lv_iload_n hx hb dX4_report_86 rfl (lv_at hl 2 rfl) ?_
              refine lv_iload_n hx hb dX4_report_87 rfl (lv_at hl 3 rfl) ?_
              refine rsO6 hx hb hK hP hD hS hi dX4_report_88 (fun H locs hP hS => ?_)
              refine lv_aload_n hx hb dX4_report_89 rfl (lv_at hl 1 rfl) ?_
              refine rgO7 hx hb hf4 hown hK hP (hts (.fieldLink RX4 23 "MachineFoundryModel" "memory" "[I") (by decide +kernel)) dX4_report_90 ?_
              refine lv_iload_n hx hb dX4_report_93 rfl (lv_at hl 2 rfl) ?_
              refine lv_iload_n hx hb dX4_report_94 rfl (lv_at hl 4 rfl) ?_
              refine rsO7 hx hb hK hP hD hS hi dX4_report_95 (fun H locs hP hS => ?_)
              refine lv_aload_n hx hb dX4_report_96 rfl (lv_at hl 1 rfl) ?_
              refine rgO8 hx hb hf4 hown hK hP (hts (.fieldLink RX4 26 "MachineFoundryModel" "kind" "[I") (by decide +kernel)) dX4_report_97 ?_
              refine lv_iload_n hx hb dX4_report_100 rfl (lv_at hl 2 rfl) ?_
              refine lv_iload hx hb dX4_report_101 (lv_at hl 5 rfl) ?_
              refine rsO8 hx hb hK hP hD hS hi dX4_report_103 (fun H locs hP hS => ?_)
              refine lv_aload_n hx hb dX4_report_104 rfl (lv_at hl 1 rfl) ?_
              refine rgO9 hx hb hf4 hown hK hP (hts (.fieldLink RX4 29 "MachineFoundryModel" "tags" "[I") (by decide +kernel)) dX4_report_105 ?_
              refine lv_iload_n hx hb dX4_report_108 rfl (lv_at hl 2 rfl) ?_
              refine lv_iload hx hb dX4_report_109 (lv_at hl 6 rfl) ?_
              refine rsO9 hx hb hK hP hD hS hi dX4_report_111 (fun H locs hP hS => ?_)
              refine lv_aload_n hx hb dX4_report_112 rfl (lv_at hl 1 rfl) ?_
              refine rgO5 hx hb hf4 hown hK hP (hts (.fieldLink RX4 16 "MachineFoundryModel" "state" "[I") (by decide +kernel)) dX4_report_113 ?_
              refine lv_iload_n hx hb dX4_report_116 rfl (lv_at hl 2 rfl) ?_
              refine raO5 (x := τ 5 i) hx hb hK hP hi (by simp [up2, tGo]) dX4_report_117 ?_
              refine lv_if_ne (tgt := 130) hx hb dX4_report_118 (by decide) (fun c_49 => ?_) (fun c_49 => ?_)
              · refine lv_aload_n hx hb dX4_report_130 rfl (lv_at hl 1 rfl) ?_
                refine rgO5 hx hb hf4 hown hK hP (hts (.fieldLink RX4 16 "MachineFoundryModel" "state" "[I") (by decide +kernel)) dX4_report_131 ?_
                refine lv_iload_n hx hb dX4_report_134 rfl (lv_at hl 2 rfl) ?_
                refine raO5 (x := τ 5 i) hx hb hK hP hi (by simp [up2, tGo]) dX4_report_135 ?_
                refine lv_iconst (v := 2) hx hb dX4_report_136 (by decide) ?_
                refine lv_icmp_ne (tgt := 153) hx hb dX4_report_137 (by decide) (fun c_50 => ?_) (fun c_50 => ?_)
                · refine lv_aload_n hx hb dX4_report_153 rfl (lv_at hl 1 rfl) ?_
                  refine rgO5 hx hb hf4 hown hK hP (hts (.fieldLink RX4 16 "MachineFoundryModel" "state" "[I") (by decide +kernel)) dX4_report_154 ?_
                  refine lv_iload_n hx hb dX4_report_157 rfl (lv_at hl 2 rfl) ?_
                  refine raO5 (x := τ 5 i) hx hb hK hP hi (by simp [up2, tGo]) dX4_report_158 ?_
                  refine lv_iconst (v := 3) hx hb dX4_report_159 (by decide) ?_
                  refine lv_icmp_ne (tgt := 168) hx hb dX4_report_160 (by decide) (fun c_51 => ?_) (fun c_51 => ?_)
                  · refine lv_aload_n hx hb dX4_report_168 rfl (lv_at hl 1 rfl) ?_
                    refine lv_iload_n hx hb dX4_report_169 rfl (lv_at hl 2 rfl) ?_
                    refine cMi (va_runV (As := [.int (nI i)]) (rest := []) ⟨hx, hb, hml, hown, hts⟩ (c_X4_ends l D cy bd hj (up2 (up2 (up2 (up2 (tGo τ true true true) 6 i zb) 7 i zc) 8 i zd) 9 i ze) i hi (WB.le (WB.cong hw45 (by simp [up2])) (by omega))) (cwV 1 hts gX4_report_X4_ends rfl rfl rfl (by decide +kernel) ⟨Nat.le_of_ble_eq_true rfl, Nat.le_of_ble_eq_true rfl⟩) ⟨mw_bl, (mw_O hP hK), (mw_at hP hK)⟩ rfl rfl hl.1 rfl (lv_room (Nat.le_of_ble_eq_true rfl)) dX4_report_170 ⟨Nat.le_of_ble_eq_true rfl, Nat.le_of_ble_eq_true rfl⟩) hS (fun H locs hP hS => ?_)
                    refine W.eq (g2 := F0 m 173 ls [.int ((tBegins (up2 (up2 (up2 (up2 (tGo τ true true true) 6 i zb) 7 i zc) 8 i zd) 9 i ze)) 5 i)]) rfl ?_
                    have e8 : hReport τ (nI i) zb zc zd ze = tBegins (up2 (up2 (up2 (up2 (tGo τ true true true) 6 i zb) 7 i zc) 8 i zd) 9 i ze) := by simp [hReport, qReport, bRp1, bRp2, tRep, tAns, tGoRp, tGo_r, tGo_0, up2_r, c_1, c_17, c_33, c_37, c_41, c_47, c_48, c_49, c_50, c_51, inB_15 hi, ix_nI (show i < 2147483648 by omega)]
                    rw [← e8] at hP
                    have e9 : ((tBegins (up2 (up2 (up2 (up2 (tGo τ true true true) 6 i zb) 7 i zc) 8 i zd) 9 i ze)) 5 i) = qReport τ (nI i) zb zc zd ze := by simp [hReport, qReport, bRp1, bRp2, tRep, tAns, tGoRp, tGo_r, tGo_0, up2_r, c_1, c_17, c_33, c_37, c_41, c_47, c_48, c_49, c_50, c_51, inB_15 hi, ix_nI (show i < 2147483648 by omega)]
                    exact W.iret (v := (tBegins (up2 (up2 (up2 (up2 (tGo τ true true true) 6 i zb) 7 i zc) 8 i zd) 9 i ze)) 5 i) hx hb hr (fun t ht hW => ⟨⟨_, (), rfl, e9, by rw [← ht] at hP; exact hP⟩, hS.F ht⟩) hS.2.2 dX4_report_173
                  · refine lv_aload_n hx hb dX4_report_163 rfl (lv_at hl 1 rfl) ?_
                    refine lv_iload_n hx hb dX4_report_164 rfl (lv_at hl 2 rfl) ?_
                    obtain ⟨n52, hn52a, hn52b, -⟩ := (show FI (up2 (up2 (up2 (up2 (tGo τ true true true) 6 i zb) 7 i zc) 8 i zd) 9 i ze) from (FI.cong hF46 (fun j _ => by simp [up2]) (by simp [up2]) (fun j _ hj => by simp [up2, hj]))).1 i hi
                    have hw53 : WB (tFail (up2 (up2 (up2 (up2 (tGo τ true true true) 6 i zb) 7 i zc) 8 i zd) 9 i ze) i) 29999 := WB.fail (WB.cong hw45 (by simp [up2]))
                    refine cMv (va_runV (As := [.int (nI i)]) (rest := []) ⟨hx, hb, hml, hown, hts⟩ (c_X4_fails l D cy bd hj (up2 (up2 (up2 (up2 (tGo τ true true true) 6 i zb) 7 i zc) 8 i zd) 9 i ze) i hi (WB.nn (WB.cong hw45 (by simp [up2]))) n52 (by omega) hn52b) (cwV 1 hts gX4_report_X4_fails rfl rfl rfl (by decide +kernel) ⟨Nat.le_of_ble_eq_true rfl, Nat.le_of_ble_eq_true rfl⟩) ⟨mw_bl, (mw_O hP hK), (mw_at hP hK)⟩ rfl rfl hl.1 rfl (lv_room (Nat.le_of_ble_eq_true rfl)) dX4_report_165 ⟨Nat.le_of_ble_eq_true rfl, Nat.le_of_ble_eq_true rfl⟩) hS (fun H locs hP hS => ?_)
                    refine W.eq (g2 := F0 m 168 ls []) rfl ?_
                    refine lv_aload_n hx hb dX4_report_168 rfl (lv_at hl 1 rfl) ?_
                    refine lv_iload_n hx hb dX4_report_169 rfl (lv_at hl 2 rfl) ?_
                    refine cMi (va_runV (As := [.int (nI i)]) (rest := []) ⟨hx, hb, hml, hown, hts⟩ (c_X4_ends l D cy bd hj (tFail (up2 (up2 (up2 (up2 (tGo τ true true true) 6 i zb) 7 i zc) 8 i zd) 9 i ze) i) i hi (WB.le hw53 (by omega))) (cwV 1 hts gX4_report_X4_ends rfl rfl rfl (by decide +kernel) ⟨Nat.le_of_ble_eq_true rfl, Nat.le_of_ble_eq_true rfl⟩) ⟨mw_bl, (mw_O hP hK), (mw_at hP hK)⟩ rfl rfl hl.1 rfl (lv_room (Nat.le_of_ble_eq_true rfl)) dX4_report_170 ⟨Nat.le_of_ble_eq_true rfl, Nat.le_of_ble_eq_true rfl⟩) hS (fun H locs hP hS => ?_)
                    refine W.eq (g2 := F0 m 173 ls [.int ((tBegins (tFail (up2 (up2 (up2 (up2 (tGo τ true true true) 6 i zb) 7 i zc) 8 i zd) 9 i ze) i)) 5 i)]) rfl ?_
                    have e8 : hReport τ (nI i) zb zc zd ze = tBegins (tFail (up2 (up2 (up2 (up2 (tGo τ true true true) 6 i zb) 7 i zc) 8 i zd) 9 i ze) i) := by simp [hReport, qReport, bRp1, bRp2, tRep, tAns, tGoRp, tGo_r, tGo_0, up2_r, c_1, c_17, c_33, c_37, c_41, c_47, c_48, c_49, c_50, c_51, inB_15 hi, ix_nI (show i < 2147483648 by omega)]
                    rw [← e8] at hP
                    have e9 : ((tBegins (tFail (up2 (up2 (up2 (up2 (tGo τ true true true) 6 i zb) 7 i zc) 8 i zd) 9 i ze) i)) 5 i) = qReport τ (nI i) zb zc zd ze := by simp [hReport, qReport, bRp1, bRp2, tRep, tAns, tGoRp, tGo_r, tGo_0, up2_r, c_1, c_17, c_33, c_37, c_41, c_47, c_48, c_49, c_50, c_51, inB_15 hi, ix_nI (show i < 2147483648 by omega)]
                    exact W.iret (v := (tBegins (tFail (up2 (up2 (up2 (up2 (tGo τ true true true) 6 i zb) 7 i zc) 8 i zd) 9 i ze) i)) 5 i) hx hb hr (fun t ht hW => ⟨⟨_, (), rfl, e9, by rw [← ht] at hP; exact hP⟩, hS.F ht⟩) hS.2.2 dX4_report_173
                · refine lv_iload hx hb dX4_report_140 (lv_at hl 0 rfl) ?_
                  refine lv_if_eq (tgt := 153) hx hb dX4_report_142 (by decide) (fun c_54 => ?_) (fun c_54 => absurd ((by decide : (0 : Int32) = 0)) c_54)
                  refine lv_aload_n hx hb dX4_report_153 rfl (lv_at hl 1 rfl) ?_
                  refine rgO5 hx hb hf4 hown hK hP (hts (.fieldLink RX4 16 "MachineFoundryModel" "state" "[I") (by decide +kernel)) dX4_report_154 ?_
                  refine lv_iload_n hx hb dX4_report_157 rfl (lv_at hl 2 rfl) ?_
                  refine raO5 (x := τ 5 i) hx hb hK hP hi (by simp [up2, tGo]) dX4_report_158 ?_
                  refine lv_iconst (v := 3) hx hb dX4_report_159 (by decide) ?_
                  refine lv_icmp_ne (tgt := 168) hx hb dX4_report_160 (by decide) (fun c_55 => ?_) (fun c_55 => absurd c_55 (by rw [c_50]; decide))
                  refine lv_aload_n hx hb dX4_report_168 rfl (lv_at hl 1 rfl) ?_
                  refine lv_iload_n hx hb dX4_report_169 rfl (lv_at hl 2 rfl) ?_
                  refine cMi (va_runV (As := [.int (nI i)]) (rest := []) ⟨hx, hb, hml, hown, hts⟩ (c_X4_ends l D cy bd hj (up2 (up2 (up2 (up2 (tGo τ true true true) 6 i zb) 7 i zc) 8 i zd) 9 i ze) i hi (WB.le (WB.cong hw45 (by simp [up2])) (by omega))) (cwV 1 hts gX4_report_X4_ends rfl rfl rfl (by decide +kernel) ⟨Nat.le_of_ble_eq_true rfl, Nat.le_of_ble_eq_true rfl⟩) ⟨mw_bl, (mw_O hP hK), (mw_at hP hK)⟩ rfl rfl hl.1 rfl (lv_room (Nat.le_of_ble_eq_true rfl)) dX4_report_170 ⟨Nat.le_of_ble_eq_true rfl, Nat.le_of_ble_eq_true rfl⟩) hS (fun H locs hP hS => ?_)
                  refine W.eq (g2 := F0 m 173 ls [.int ((tBegins (up2 (up2 (up2 (up2 (tGo τ true true true) 6 i zb) 7 i zc) 8 i zd) 9 i ze)) 5 i)]) rfl ?_
                  have e8 : hReport τ (nI i) zb zc zd ze = tBegins (up2 (up2 (up2 (up2 (tGo τ true true true) 6 i zb) 7 i zc) 8 i zd) 9 i ze) := by simp [hReport, qReport, bRp1, bRp2, tRep, tAns, tGoRp, tGo_r, tGo_0, up2_r, c_1, c_17, c_33, c_37, c_41, c_47, c_48, c_49, c_50, c_54, c_55, inB_15 hi, ix_nI (show i < 2147483648 by omega)]
                  rw [← e8] at hP
                  have e9 : ((tBegins (up2 (up2 (up2 (up2 (tGo τ true true true) 6 i zb) 7 i zc) 8 i zd) 9 i ze)) 5 i) = qReport τ (nI i) zb zc zd ze := by simp [hReport, qReport, bRp1, bRp2, tRep, tAns, tGoRp, tGo_r, tGo_0, up2_r, c_1, c_17, c_33, c_37, c_41, c_47, c_48, c_49, c_50, c_54, c_55, inB_15 hi, ix_nI (show i < 2147483648 by omega)]
                  exact W.iret (v := (tBegins (up2 (up2 (up2 (up2 (tGo τ true true true) 6 i zb) 7 i zc) 8 i zd) 9 i ze)) 5 i) hx hb hr (fun t ht hW => ⟨⟨_, (), rfl, e9, by rw [← ht] at hP; exact hP⟩, hS.F ht⟩) hS.2.2 dX4_report_173
              · refine lv_aload_n hx hb dX4_report_121 rfl (lv_at hl 1 rfl) ?_
                refine lv_iload_n hx hb dX4_report_122 rfl (lv_at hl 2 rfl) ?_
                refine lv_iconst (v := 1) hx hb dX4_report_123 (by decide) ?_
                have hw56 : WB (tTurn (up2 (up2 (up2 (up2 (tGo τ true true true) 6 i zb) 7 i zc) 8 i zd) 9 i ze) i 1) 29999 := WB.turn (WB.cong hw45 (by simp [up2]))
                refine cMv (va_runV (As := [.int (nI i), .int 1]) (rest := []) ⟨hx, hb, hml, hown, hts⟩ (c_X4_turns l D cy bd hj (up2 (up2 (up2 (up2 (tGo τ true true true) 6 i zb) 7 i zc) 8 i zd) 9 i ze) i hi 1 (WB.nn (WB.cong hw45 (by simp [up2])))) (cwV 2 hts gX4_report_X4_turns rfl rfl rfl (by decide +kernel) ⟨Nat.le_of_ble_eq_true rfl, Nat.le_of_ble_eq_true rfl⟩) ⟨mw_bl, (mw_O hP hK), (mw_at hP hK)⟩ rfl rfl hl.1 rfl (lv_room (Nat.le_of_ble_eq_true rfl)) dX4_report_124 ⟨Nat.le_of_ble_eq_true rfl, Nat.le_of_ble_eq_true rfl⟩) hS (fun H locs hP hS => ?_)
                refine W.eq (g2 := F0 m 127 ls []) rfl ?_
                refine lv_goto (tgt := 168) hx hb dX4_report_127 (by decide) ?_
                refine lv_aload_n hx hb dX4_report_168 rfl (lv_at hl 1 rfl) ?_
                refine lv_iload_n hx hb dX4_report_169 rfl (lv_at hl 2 rfl) ?_
                refine cMi (va_runV (As := [.int (nI i)]) (rest := []) ⟨hx, hb, hml, hown, hts⟩ (c_X4_ends l D cy bd hj (tTurn (up2 (up2 (up2 (up2 (tGo τ true true true) 6 i zb) 7 i zc) 8 i zd) 9 i ze) i 1) i hi (WB.le hw56 (by omega))) (cwV 1 hts gX4_report_X4_ends rfl rfl rfl (by decide +kernel) ⟨Nat.le_of_ble_eq_true rfl, Nat.le_of_ble_eq_true rfl⟩) ⟨mw_bl, (mw_O hP hK), (mw_at hP hK)⟩ rfl rfl hl.1 rfl (lv_room (Nat.le_of_ble_eq_true rfl)) dX4_report_170 ⟨Nat.le_of_ble_eq_true rfl, Nat.le_of_ble_eq_true rfl⟩) hS (fun H locs hP hS => ?_)
                refine W.eq (g2 := F0 m 173 ls [.int ((tBegins (tTurn (up2 (up2 (up2 (up2 (tGo τ true true true) 6 i zb) 7 i zc) 8 i zd) 9 i ze) i 1)) 5 i)]) rfl ?_
                have e8 : hReport τ (nI i) zb zc zd ze = tBegins (tTurn (up2 (up2 (up2 (up2 (tGo τ true true true) 6 i zb) 7 i zc) 8 i zd) 9 i ze) i 1) := by simp [hReport, qReport, bRp1, bRp2, tRep, tAns, tGoRp, tGo_r, tGo_0, up2_r, c_1, c_17, c_33, c_37, c_41, c_47, c_48, c_49, inB_15 hi, ix_nI (show i < 2147483648 by omega)]
                rw [← e8] at hP
                have e9 : ((tBegins (tTurn (up2 (up2 (up2 (up2 (tGo τ true true true) 6 i zb) 7 i zc) 8 i zd) 9 i ze) i 1)) 5 i) = qReport τ (nI i) zb zc zd ze := by simp [hReport, qReport, bRp1, bRp2, tRep, tAns, tGoRp, tGo_r, tGo_0, up2_r, c_1, c_17, c_33, c_37, c_41, c_47, c_48, c_49, inB_15 hi, ix_nI (show i < 2147483648 by omega)]
                exact W.iret (v := (tBegins (tTurn (up2 (up2 (up2 (up2 (tGo τ true true true) 6 i zb) 7 i zc) 8 i zd) 9 i ze) i 1)) 5 i) hx hb hr (fun t ht hW => ⟨⟨_, (), rfl, e9, by rw [← ht] at hP; exact hP⟩, hS.F ht⟩) hS.2.2 dX4_report_173
            · refine lv_iconst (v := 1) hx hb dX4_report_75 (by decide) ?_
              refine lv_goto (tgt := 80) hx hb dX4_report_76 (by decide) ?_
              refine lv_istore (lv' := [(6, .int 1), (0, .ref (bd 0)), (1, .int (nI i)), (2, .int zb), (3, .int zc), (4, .int zd), (5, .int ze)]) hx hb dX4_report_80 hl (by decide) rfl (fun ls hl => ?_)
              refine lv_aload_n hx hb dX4_report_82 rfl (lv_at hl 1 rfl) ?_
              refine rgO6 hx hb hf4 hown hK hP (hts (.fieldLink RX4 20 "MachineFoundryModel" "rack" "[I") (by decide +kernel)) dX4_report_83 ?_
              refine lv_iload_n hx hb dX4_report_86 rfl (lv_at hl 2 rfl) ?_
              refine lv_iload_n hx hb dX4_report_87 rfl (lv_at hl 3 rfl) ?_
              refine rsO6 hx hb hK hP hD hS hi dX4_report_88 (fun H locs hP hS => ?_)
              refine lv_aload_n hx hb dX4_report_89 rfl (lv_at hl 1 rfl) ?_
              refine rgO7 hx hb hf4 hown hK hP (hts (.fieldLink RX4 23 "MachineFoundryModel" "memory" "[I") (by decide +kernel)) dX4_report_90 ?_
              refine lv_iload_n hx hb dX4_report_93 rfl (lv_at hl 2 rfl) ?_
              refine lv_iload_n hx hb dX4_report_94 rfl (lv_at hl 4 rfl) ?_
              refine rsO7 hx hb hK hP hD hS hi dX4_report_95 (fun H locs hP hS => ?_)
              refine lv_aload_n hx hb dX4_report_96 rfl (lv_at hl 1 rfl) ?_
              refine rgO8 hx hb hf4 hown hK hP (hts (.fieldLink RX4 26 "MachineFoundryModel" "kind" "[I") (by decide +kernel)) dX4_report_97 ?_
              refine lv_iload_n hx hb dX4_report_100 rfl (lv_at hl 2 rfl) ?_
              refine lv_iload hx hb dX4_report_101 (lv_at hl 5 rfl) ?_
              refine rsO8 hx hb hK hP hD hS hi dX4_report_103 (fun H locs hP hS => ?_)
              refine lv_aload_n hx hb dX4_report_104 rfl (lv_at hl 1 rfl) ?_
              refine rgO9 hx hb hf4 hown hK hP (hts (.fieldLink RX4 29 "MachineFoundryModel" "tags" "[I") (by decide +kernel)) dX4_report_105 ?_
              refine lv_iload_n hx hb dX4_report_108 rfl (lv_at hl 2 rfl) ?_
              refine lv_iload hx hb dX4_report_109 (lv_at hl 6 rfl) ?_
              refine rsO9 hx hb hK hP hD hS hi dX4_report_111 (fun H locs hP hS => ?_)
              refine lv_aload_n hx hb dX4_report_112 rfl (lv_at hl 1 rfl) ?_
              refine rgO5 hx hb hf4 hown hK hP (hts (.fieldLink RX4 16 "MachineFoundryModel" "state" "[I") (by decide +kernel)) dX4_report_113 ?_
              refine lv_iload_n hx hb dX4_report_116 rfl (lv_at hl 2 rfl) ?_
              refine raO5 (x := τ 5 i) hx hb hK hP hi (by simp [up2, tGo]) dX4_report_117 ?_
              refine lv_if_ne (tgt := 130) hx hb dX4_report_118 (by decide) (fun c_57 => ?_) (fun c_57 => ?_)
              · refine lv_aload_n hx hb dX4_report_130 rfl (lv_at hl 1 rfl) ?_
                refine rgO5 hx hb hf4 hown hK hP (hts (.fieldLink RX4 16 "MachineFoundryModel" "state" "[I") (by decide +kernel)) dX4_report_131 ?_
                refine lv_iload_n hx hb dX4_report_134 rfl (lv_at hl 2 rfl) ?_
                refine raO5 (x := τ 5 i) hx hb hK hP hi (by simp [up2, tGo]) dX4_report_135 ?_
                refine lv_iconst (v := 2) hx hb dX4_report_136 (by decide) ?_
                refine lv_icmp_ne (tgt := 153) hx hb dX4_report_137 (by decide) (fun c_58 => ?_) (fun c_58 => ?_)
                · refine lv_aload_n hx hb dX4_report_153 rfl (lv_at hl 1 rfl) ?_
                  refine rgO5 hx hb hf4 hown hK hP (hts (.fieldLink RX4 16 "MachineFoundryModel" "state" "[I") (by decide +kernel)) dX4_report_154 ?_
                  refine lv_iload_n hx hb dX4_report_157 rfl (lv_at hl 2 rfl) ?_
                  refine raO5 (x := τ 5 i) hx hb hK hP hi (by simp [up2, tGo]) dX4_report_158 ?_
                  refine lv_iconst (v := 3) hx hb dX4_report_159 (by decide) ?_
                  refine lv_icmp_ne (tgt := 168) hx hb dX4_report_160 (by decide) (fun c_59 => ?_) (fun c_59 => ?_)
                  · refine lv_aload_n hx hb dX4_report_168 rfl (lv_at hl 1 rfl) ?_
                    refine lv_iload_n hx hb dX4_report_169 rfl (lv_at hl 2 rfl) ?_
                    refine cMi (va_runV (As := [.int (nI i)]) (rest := []) ⟨hx, hb, hml, hown, hts⟩ (c_X4_ends l D cy bd hj (up2 (up2 (up2 (up2 (tGo τ true true true) 6 i zb) 7 i zc) 8 i zd) 9 i ze) i hi (WB.le (WB.cong hw45 (by simp [up2])) (by omega))) (cwV 1 hts gX4_report_X4_ends rfl rfl rfl (by decide +kernel) ⟨Nat.le_of_ble_eq_true rfl, Nat.le_of_ble_eq_true rfl⟩) ⟨mw_bl, (mw_O hP hK), (mw_at hP hK)⟩ rfl rfl hl.1 rfl (lv_room (Nat.le_of_ble_eq_true rfl)) dX4_report_170 ⟨Nat.le_of_ble_eq_true rfl, Nat.le_of_ble_eq_true rfl⟩) hS (fun H locs hP hS => ?_)
                    refine W.eq (g2 := F0 m 173 ls [.int ((tBegins (up2 (up2 (up2 (up2 (tGo τ true true true) 6 i zb) 7 i zc) 8 i zd) 9 i ze)) 5 i)]) rfl ?_
                    have e8 : hReport τ (nI i) zb zc zd ze = tBegins (up2 (up2 (up2 (up2 (tGo τ true true true) 6 i zb) 7 i zc) 8 i zd) 9 i ze) := by simp [hReport, qReport, bRp1, bRp2, tRep, tAns, tGoRp, tGo_r, tGo_0, up2_r, c_1, c_17, c_33, c_37, c_41, c_47, c_48, c_57, c_58, c_59, inB_15 hi, ix_nI (show i < 2147483648 by omega)]
                    rw [← e8] at hP
                    have e9 : ((tBegins (up2 (up2 (up2 (up2 (tGo τ true true true) 6 i zb) 7 i zc) 8 i zd) 9 i ze)) 5 i) = qReport τ (nI i) zb zc zd ze := by simp [hReport, qReport, bRp1, bRp2, tRep, tAns, tGoRp, tGo_r, tGo_0, up2_r, c_1, c_17, c_33, c_37, c_41, c_47, c_48, c_57, c_58, c_59, inB_15 hi, ix_nI (show i < 2147483648 by omega)]
                    exact W.iret (v := (tBegins (up2 (up2 (up2 (up2 (tGo τ true true true) 6 i zb) 7 i zc) 8 i zd) 9 i ze)) 5 i) hx hb hr (fun t ht hW => ⟨⟨_, (), rfl, e9, by rw [← ht] at hP; exact hP⟩, hS.F ht⟩) hS.2.2 dX4_report_173
                  · refine lv_aload_n hx hb dX4_report_163 rfl (lv_at hl 1 rfl) ?_
                    refine lv_iload_n hx hb dX4_report_164 rfl (lv_at hl 2 rfl) ?_
                    obtain ⟨n60, hn60a, hn60b, -⟩ := (show FI (up2 (up2 (up2 (up2 (tGo τ true true true) 6 i zb) 7 i zc) 8 i zd) 9 i ze) from (FI.cong hF46 (fun j _ => by simp [up2]) (by simp [up2]) (fun j _ hj => by simp [up2, hj]))).1 i hi
                    have hw61 : WB (tFail (up2 (up2 (up2 (up2 (tGo τ true true true) 6 i zb) 7 i zc) 8 i zd) 9 i ze) i) 29999 := WB.fail (WB.cong hw45 (by simp [up2]))
                    refine cMv (va_runV (As := [.int (nI i)]) (rest := []) ⟨hx, hb, hml, hown, hts⟩ (c_X4_fails l D cy bd hj (up2 (up2 (up2 (up2 (tGo τ true true true) 6 i zb) 7 i zc) 8 i zd) 9 i ze) i hi (WB.nn (WB.cong hw45 (by simp [up2]))) n60 (by omega) hn60b) (cwV 1 hts gX4_report_X4_fails rfl rfl rfl (by decide +kernel) ⟨Nat.le_of_ble_eq_true rfl, Nat.le_of_ble_eq_true rfl⟩) ⟨mw_bl, (mw_O hP hK), (mw_at hP hK)⟩ rfl rfl hl.1 rfl (lv_room (Nat.le_of_ble_eq_true rfl)) dX4_report_165 ⟨Nat.le_of_ble_eq_true rfl, Nat.le_of_ble_eq_true rfl⟩) hS (fun H locs hP hS => ?_)
                    refine W.eq (g2 := F0 m 168 ls []) rfl ?_
                    refine lv_aload_n hx hb dX4_report_168 rfl (lv_at hl 1 rfl) ?_
                    refine lv_iload_n hx hb dX4_report_169 rfl (lv_at hl 2 rfl) ?_
                    refine cMi (va_runV (As := [.int (nI i)]) (rest := []) ⟨hx, hb, hml, hown, hts⟩ (c_X4_ends l D cy bd hj (tFail (up2 (up2 (up2 (up2 (tGo τ true true true) 6 i zb) 7 i zc) 8 i zd) 9 i ze) i) i hi (WB.le hw61 (by omega))) (cwV 1 hts gX4_report_X4_ends rfl rfl rfl (by decide +kernel) ⟨Nat.le_of_ble_eq_true rfl, Nat.le_of_ble_eq_true rfl⟩) ⟨mw_bl, (mw_O hP hK), (mw_at hP hK)⟩ rfl rfl hl.1 rfl (lv_room (Nat.le_of_ble_eq_true rfl)) dX4_report_170 ⟨Nat.le_of_ble_eq_true rfl, Nat.le_of_ble_eq_true rfl⟩) hS (fun H locs hP hS => ?_)
                    refine W.eq (g2 := F0 m 173 ls [.int ((tBegins (tFail (up2 (up2 (up2 (up2 (tGo τ true true true) 6 i zb) 7 i zc) 8 i zd) 9 i ze) i)) 5 i)]) rfl ?_
                    have e8 : hReport τ (nI i) zb zc zd ze = tBegins (tFail (up2 (up2 (up2 (up2 (tGo τ true true true) 6 i zb) 7 i zc) 8 i zd) 9 i ze) i) := by simp [hReport, qReport, bRp1, bRp2, tRep, tAns, tGoRp, tGo_r, tGo_0, up2_r, c_1, c_17, c_33, c_37, c_41, c_47, c_48, c_57, c_58, c_59, inB_15 hi, ix_nI (show i < 2147483648 by omega)]
                    rw [← e8] at hP
                    have e9 : ((tBegins (tFail (up2 (up2 (up2 (up2 (tGo τ true true true) 6 i zb) 7 i zc) 8 i zd) 9 i ze) i)) 5 i) = qReport τ (nI i) zb zc zd ze := by simp [hReport, qReport, bRp1, bRp2, tRep, tAns, tGoRp, tGo_r, tGo_0, up2_r, c_1, c_17, c_33, c_37, c_41, c_47, c_48, c_57, c_58, c_59, inB_15 hi, ix_nI (show i < 2147483648 by omega)]
                    exact W.iret (v := (tBegins (tFail (up2 (up2 (up2 (up2 (tGo τ true true true) 6 i zb) 7 i zc) 8 i zd) 9 i ze) i)) 5 i) hx hb hr (fun t ht hW => ⟨⟨_, (), rfl, e9, by rw [← ht] at hP; exact hP⟩, hS.F ht⟩) hS.2.2 dX4_report_173
                · refine lv_iload hx hb dX4_report_140 (lv_at hl 0 rfl) ?_
                  refine lv_if_eq (tgt := 153) hx hb dX4_report_142 (by decide) (fun c_62 => absurd c_62 ((by decide : ¬ (1 : Int32) = 0))) (fun c_62 => ?_)
                  refine lv_aload_n hx hb dX4_report_145 rfl (lv_at hl 1 rfl) ?_
                  refine lv_iload_n hx hb dX4_report_146 rfl (lv_at hl 2 rfl) ?_
                  have hw63 : WB (tStand (up2 (up2 (up2 (up2 (tGo τ true true true) 6 i zb) 7 i zc) 8 i zd) 9 i ze) i) 30000 := WB.stand (WB.cong hw45 (by simp [up2]))
                  refine cMv (va_runV (As := [.int (nI i)]) (rest := []) ⟨hx, hb, hml, hown, hts⟩ (c_X4_stands l D cy bd hj (up2 (up2 (up2 (up2 (tGo τ true true true) 6 i zb) 7 i zc) 8 i zd) 9 i ze) i hi) (cwV 1 hts gX4_report_X4_stands rfl rfl rfl (by decide +kernel) ⟨Nat.le_of_ble_eq_true rfl, Nat.le_of_ble_eq_true rfl⟩) ⟨mw_bl, (mw_O hP hK), (mw_at hP hK)⟩ rfl rfl hl.1 rfl (lv_room (Nat.le_of_ble_eq_true rfl)) dX4_report_147 ⟨Nat.le_of_ble_eq_true rfl, Nat.le_of_ble_eq_true rfl⟩) hS (fun H locs hP hS => ?_)
                  refine W.eq (g2 := F0 m 150 ls []) rfl ?_
                  refine lv_goto (tgt := 168) hx hb dX4_report_150 (by decide) ?_
                  refine lv_aload_n hx hb dX4_report_168 rfl (lv_at hl 1 rfl) ?_
                  refine lv_iload_n hx hb dX4_report_169 rfl (lv_at hl 2 rfl) ?_
                  refine cMi (va_runV (As := [.int (nI i)]) (rest := []) ⟨hx, hb, hml, hown, hts⟩ (c_X4_ends l D cy bd hj (tStand (up2 (up2 (up2 (up2 (tGo τ true true true) 6 i zb) 7 i zc) 8 i zd) 9 i ze) i) i hi (WB.le hw63 (by omega))) (cwV 1 hts gX4_report_X4_ends rfl rfl rfl (by decide +kernel) ⟨Nat.le_of_ble_eq_true rfl, Nat.le_of_ble_eq_true rfl⟩) ⟨mw_bl, (mw_O hP hK), (mw_at hP hK)⟩ rfl rfl hl.1 rfl (lv_room (Nat.le_of_ble_eq_true rfl)) dX4_report_170 ⟨Nat.le_of_ble_eq_true rfl, Nat.le_of_ble_eq_true rfl⟩) hS (fun H locs hP hS => ?_)
                  refine W.eq (g2 := F0 m 173 ls [.int ((tBegins (tStand (up2 (up2 (up2 (up2 (tGo τ true true true) 6 i zb) 7 i zc) 8 i zd) 9 i ze) i)) 5 i)]) rfl ?_
                  have e8 : hReport τ (nI i) zb zc zd ze = tBegins (tStand (up2 (up2 (up2 (up2 (tGo τ true true true) 6 i zb) 7 i zc) 8 i zd) 9 i ze) i) := by simp [hReport, qReport, bRp1, bRp2, tRep, tAns, tGoRp, tGo_r, tGo_0, up2_r, c_1, c_17, c_33, c_37, c_41, c_47, c_48, c_57, c_58, c_62, inB_15 hi, ix_nI (show i < 2147483648 by omega)]
                  rw [← e8] at hP
                  have e9 : ((tBegins (tStand (up2 (up2 (up2 (up2 (tGo τ true true true) 6 i zb) 7 i zc) 8 i zd) 9 i ze) i)) 5 i) = qReport τ (nI i) zb zc zd ze := by simp [hReport, qReport, bRp1, bRp2, tRep, tAns, tGoRp, tGo_r, tGo_0, up2_r, c_1, c_17, c_33, c_37, c_41, c_47, c_48, c_57, c_58, c_62, inB_15 hi, ix_nI (show i < 2147483648 by omega)]
                  exact W.iret (v := (tBegins (tStand (up2 (up2 (up2 (up2 (tGo τ true true true) 6 i zb) 7 i zc) 8 i zd) 9 i ze) i)) 5 i) hx hb hr (fun t ht hW => ⟨⟨_, (), rfl, e9, by rw [← ht] at hP; exact hP⟩, hS.F ht⟩) hS.2.2 dX4_report_173
              · refine lv_aload_n hx hb dX4_report_121 rfl (lv_at hl 1 rfl) ?_
                refine lv_iload_n hx hb dX4_report_122 rfl (lv_at hl 2 rfl) ?_
                refine lv_iconst (v := 1) hx hb dX4_report_123 (by decide) ?_
                have hw64 : WB (tTurn (up2 (up2 (up2 (up2 (tGo τ true true true) 6 i zb) 7 i zc) 8 i zd) 9 i ze) i 1) 29999 := WB.turn (WB.cong hw45 (by simp [up2]))
                refine cMv (va_runV (As := [.int (nI i), .int 1]) (rest := []) ⟨hx, hb, hml, hown, hts⟩ (c_X4_turns l D cy bd hj (up2 (up2 (up2 (up2 (tGo τ true true true) 6 i zb) 7 i zc) 8 i zd) 9 i ze) i hi 1 (WB.nn (WB.cong hw45 (by simp [up2])))) (cwV 2 hts gX4_report_X4_turns rfl rfl rfl (by decide +kernel) ⟨Nat.le_of_ble_eq_true rfl, Nat.le_of_ble_eq_true rfl⟩) ⟨mw_bl, (mw_O hP hK), (mw_at hP hK)⟩ rfl rfl hl.1 rfl (lv_room (Nat.le_of_ble_eq_true rfl)) dX4_report_124 ⟨Nat.le_of_ble_eq_true rfl, Nat.le_of_ble_eq_true rfl⟩) hS (fun H locs hP hS => ?_)
                refine W.eq (g2 := F0 m 127 ls []) rfl ?_
                refine lv_goto (tgt := 168) hx hb dX4_report_127 (by decide) ?_
                refine lv_aload_n hx hb dX4_report_168 rfl (lv_at hl 1 rfl) ?_
                refine lv_iload_n hx hb dX4_report_169 rfl (lv_at hl 2 rfl) ?_
                refine cMi (va_runV (As := [.int (nI i)]) (rest := []) ⟨hx, hb, hml, hown, hts⟩ (c_X4_ends l D cy bd hj (tTurn (up2 (up2 (up2 (up2 (tGo τ true true true) 6 i zb) 7 i zc) 8 i zd) 9 i ze) i 1) i hi (WB.le hw64 (by omega))) (cwV 1 hts gX4_report_X4_ends rfl rfl rfl (by decide +kernel) ⟨Nat.le_of_ble_eq_true rfl, Nat.le_of_ble_eq_true rfl⟩) ⟨mw_bl, (mw_O hP hK), (mw_at hP hK)⟩ rfl rfl hl.1 rfl (lv_room (Nat.le_of_ble_eq_true rfl)) dX4_report_170 ⟨Nat.le_of_ble_eq_true rfl, Nat.le_of_ble_eq_true rfl⟩) hS (fun H locs hP hS => ?_)
                refine W.eq (g2 := F0 m 173 ls [.int ((tBegins (tTurn (up2 (up2 (up2 (up2 (tGo τ true true true) 6 i zb) 7 i zc) 8 i zd) 9 i ze) i 1)) 5 i)]) rfl ?_
                have e8 : hReport τ (nI i) zb zc zd ze = tBegins (tTurn (up2 (up2 (up2 (up2 (tGo τ true true true) 6 i zb) 7 i zc) 8 i zd) 9 i ze) i 1) := by simp [hReport, qReport, bRp1, bRp2, tRep, tAns, tGoRp, tGo_r, tGo_0, up2_r, c_1, c_17, c_33, c_37, c_41, c_47, c_48, c_57, inB_15 hi, ix_nI (show i < 2147483648 by omega)]
                rw [← e8] at hP
                have e9 : ((tBegins (tTurn (up2 (up2 (up2 (up2 (tGo τ true true true) 6 i zb) 7 i zc) 8 i zd) 9 i ze) i 1)) 5 i) = qReport τ (nI i) zb zc zd ze := by simp [hReport, qReport, bRp1, bRp2, tRep, tAns, tGoRp, tGo_r, tGo_0, up2_r, c_1, c_17, c_33, c_37, c_41, c_47, c_48, c_57, inB_15 hi, ix_nI (show i < 2147483648 by omega)]
                exact W.iret (v := (tBegins (tTurn (up2 (up2 (up2 (up2 (tGo τ true true true) 6 i zb) 7 i zc) 8 i zd) 9 i ze) i 1)) 5 i) hx hb hr (fun t ht hW => ⟨⟨_, (), rfl, e9, by rw [← ht] at hP; exact hP⟩, hS.F ht⟩) hS.2.2 dX4_report_173
set_option maxHeartbeats 4000000 in
set_option maxRecDepth 100000 in
/-- order -/
theorem c_X4_order (l : Launch) (D : va_G) (cy : Nat → ClassId) (bd : Nat → Nat) (hj : injM bd) (τ : Mem) (za : Int32) (hw : WB τ 30000) (hF : FI τ) : Met l yX4_order wsX4_order ({ frames := 4, cells := 0, slots := 0, locals := 90 }) (va_Pc [.ref (bd 0), .int za] (mw D cy bd τ)) (QI (qOrder τ za) (va_P D vwCl (wM cy bd (hOrder τ za))) (AM bd)) 0 0 (AM bd) := by
  refine Met.ofW (cc := cX4_order) (maxL := 3) (ret := (some .int)) (by decide) rfl ?_
  intro p e s m args below meth c s₁ B hml hv
  obtain ⟨rfl, hP, hK⟩ := hv
  have hx := B.exec
  have hb := B.bytes
  have hr := B.returns
  have hts := atoms_spec (ws := wsX4_order) B.pre
  have hown : s.vm.findClass RX4 = some m.cls := findClass_of_methodNamed B.named
  have hlocks := B.notSynchronized
  have hf4 := fun (w : Cond) (h : w ∈ wsX40) => hts w ((by decide +kernel : ∀ w ∈ wsX40, w ∈ wsX4_order) w h)
  have hD := wM_D (cy := cy) hj
  have hS : va_S (AM bd) s.heap s.heap [] := va_S.rf
  have hl := lv_entry ([.ref (bd 0), .int za]) (n := 3) (Nat.le_of_ble_eq_true rfl)
  rw [lg_entry_eq]
  generalize (lg_sl ([.ref (bd 0), .int za]) ++ List.replicate (3 - (lg_sl ([.ref (bd 0), .int za])).length) Slot.unset).toArray = ls at hl ⊢
  have hl : lv_has ls 3 [(0, .ref (bd 0)), (1, .int za)] := hl
  refine lv_iload_n hx hb dX4_order_0 rfl (lv_at hl 1 rfl) ?_
  refine cS (W.runS (As := [.int za]) (rest := []) ⟨hx, hb, hml, hown, hts⟩ (c_X4_isMachine l za) (va_cwS 1 hts gX4_order_X4_isMachine rfl rfl rfl (by decide +kernel) ⟨Nat.le_of_ble_eq_true rfl, Nat.le_of_ble_eq_true rfl⟩) ⟨fun a U g mk h => h, fun U _ _ => ⟨rfl, trivial⟩⟩ rfl rfl hl.1 rfl (lv_room (Nat.le_of_ble_eq_true rfl)) dX4_order_1 ⟨Nat.le_of_ble_eq_true rfl, Nat.le_of_ble_eq_true rfl⟩) (fun _ _ => ?_)
  refine W.eq (g2 := F0 m 4 ls [.int (b2i (inB za 0 15))]) rfl ?_
  refine lv_istore_n (lv' := [(2, .int (b2i (inB za 0 15))), (0, .ref (bd 0)), (1, .int za)]) hx hb dX4_order_4 rfl hl (by decide) rfl (fun ls hl => ?_)
  refine lv_aload_n hx hb dX4_order_5 rfl (lv_at hl 1 rfl) ?_
  refine lv_iload_n hx hb dX4_order_6 rfl (lv_at hl 0 rfl) ?_
  refine lv_iload_n hx hb dX4_order_7 rfl (lv_at hl 0 rfl) ?_
  refine lv_if_eq (tgt := 34) hx hb dX4_order_8 (by decide) (fun c_1 => ?_) (fun c_1 => ?_)
  · replace c_1 := b2i_0.mp c_1
    refine lv_iconst (v := 0) hx hb dX4_order_34 (by decide) ?_
    refine lv_iconst (v := 1) hx hb dX4_order_35 (by decide) ?_
    refine W.eq (g2 := F0 m 36 ls [.int (b2i true), .int (b2i false), .int (b2i (inB za 0 15)), .ref (bd 0)]) rfl ?_
    refine cMi (va_runV (As := [.int (b2i (inB za 0 15)), .int (b2i false), .int (b2i true)]) (rest := []) ⟨hx, hb, hml, hown, hts⟩ (c_X4_goes l D cy bd hj τ (inB za 0 15) false true) (cwV 3 hts gX4_order_X4_goes rfl rfl rfl (by decide +kernel) ⟨Nat.le_of_ble_eq_true rfl, Nat.le_of_ble_eq_true rfl⟩) ⟨mw_bl, (mw_O hP hK), (mw_at hP hK)⟩ rfl rfl hl.1 rfl (lv_room (Nat.le_of_ble_eq_true rfl)) dX4_order_36 ⟨Nat.le_of_ble_eq_true rfl, Nat.le_of_ble_eq_true rfl⟩) hS (fun H locs hP hS => ?_)
    refine W.eq (g2 := F0 m 39 ls [.int (b2i ((inB za 0 15) && false && true))]) rfl ?_
    have hw2 : WB (tGo τ (inB za 0 15) false true) 30000 := WB.go hw
    have hF3 : FI (tGo τ (inB za 0 15) false true) := FI.go hF
    refine lv_if_ne (tgt := 44) hx hb dX4_order_39 (by decide) (fun c_4 => absurd ((by simp [b2i, c_1] : (b2i ((inB za 0 15) && false && true)) = 0)) c_4) (fun c_4 => ?_)
    refine lv_iconst (v := 0) hx hb dX4_order_42 (by decide) ?_
    have e8 : hOrder τ za = tGo τ (inB za 0 15) false true := by simp [hOrder, qOrder, bOr, tGo_r, tGo_0, up2_r, c_1, c_4]
    rw [← e8] at hP
    have e9 : 0 = qOrder τ za := by simp [hOrder, qOrder, bOr, tGo_r, tGo_0, up2_r, c_1, c_4]
    exact W.iret (v := 0) hx hb hr (fun t ht hW => ⟨⟨_, (), rfl, e9, by rw [← ht] at hP; exact hP⟩, hS.F ht⟩) hS.2.2 dX4_order_43
  · replace c_1 := b2i_n0.mp c_1
    obtain ⟨i, hi, rfl⟩ := of_15 c_1
    have hl : lv_has ls 3 [(2, .int (b2i (inB (nI i) 0 15))), (0, .ref (bd 0)), (1, .int (nI i))] := hl
    refine lv_aload_n hx hb dX4_order_11 rfl (lv_at hl 1 rfl) ?_
    refine rgO5 hx hb hf4 hown hK hP (hts (.fieldLink RX4 16 "MachineFoundryModel" "state" "[I") (by decide +kernel)) dX4_order_12 ?_
    refine lv_iload_n hx hb dX4_order_15 rfl (lv_at hl 2 rfl) ?_
    refine raO5 hx hb hK hP hi (rfl) dX4_order_16 ?_
    refine lv_iconst (v := 1) hx hb dX4_order_17 (by decide) ?_
    refine lv_icmp_ne (tgt := 34) hx hb dX4_order_18 (by decide) (fun c_5 => ?_) (fun c_5 => ?_)
    · refine lv_iconst (v := 0) hx hb dX4_order_34 (by decide) ?_
      refine lv_iconst (v := 1) hx hb dX4_order_35 (by decide) ?_
      refine W.eq (g2 := F0 m 36 ls [.int (b2i true), .int (b2i false), .int (b2i (inB (nI i) 0 15)), .ref (bd 0)]) rfl ?_
      refine cMi (va_runV (As := [.int (b2i (inB (nI i) 0 15)), .int (b2i false), .int (b2i true)]) (rest := []) ⟨hx, hb, hml, hown, hts⟩ (c_X4_goes l D cy bd hj τ (inB (nI i) 0 15) false true) (cwV 3 hts gX4_order_X4_goes rfl rfl rfl (by decide +kernel) ⟨Nat.le_of_ble_eq_true rfl, Nat.le_of_ble_eq_true rfl⟩) ⟨mw_bl, (mw_O hP hK), (mw_at hP hK)⟩ rfl rfl hl.1 rfl (lv_room (Nat.le_of_ble_eq_true rfl)) dX4_order_36 ⟨Nat.le_of_ble_eq_true rfl, Nat.le_of_ble_eq_true rfl⟩) hS (fun H locs hP hS => ?_)
      refine W.eq (g2 := F0 m 39 ls [.int (b2i ((inB (nI i) 0 15) && false && true))]) rfl ?_
      have hw6 : WB (tGo τ (inB (nI i) 0 15) false true) 30000 := WB.go hw
      have hF7 : FI (tGo τ (inB (nI i) 0 15) false true) := FI.go hF
      refine lv_if_ne (tgt := 44) hx hb dX4_order_39 (by decide) (fun c_8 => absurd ((by simp [b2i, c_1, c_5, inB_15 hi, ix_nI (show i < 2147483648 by omega)] : (b2i ((inB (nI i) 0 15) && false && true)) = 0)) c_8) (fun c_8 => ?_)
      refine lv_iconst (v := 0) hx hb dX4_order_42 (by decide) ?_
      have e8 : hOrder τ (nI i) = tGo τ (inB (nI i) 0 15) false true := by simp [hOrder, qOrder, bOr, tGo_r, tGo_0, up2_r, c_1, c_5, c_8, inB_15 hi, ix_nI (show i < 2147483648 by omega)]
      rw [← e8] at hP
      have e9 : 0 = qOrder τ (nI i) := by simp [hOrder, qOrder, bOr, tGo_r, tGo_0, up2_r, c_1, c_5, c_8, inB_15 hi, ix_nI (show i < 2147483648 by omega)]
      exact W.iret (v := 0) hx hb hr (fun t ht hW => ⟨⟨_, (), rfl, e9, by rw [← ht] at hP; exact hP⟩, hS.F ht⟩) hS.2.2 dX4_order_43
    · refine lv_aload_n hx hb dX4_order_21 rfl (lv_at hl 1 rfl) ?_
      refine lv_iload_n hx hb dX4_order_22 rfl (lv_at hl 2 rfl) ?_
      refine cS (W.runV (As := [.int (nI i)]) (rest := [.int (b2i (inB (nI i) 0 15)), .ref (bd 0)]) ⟨hx, hb, hml, hown, hts⟩ (c_X4_match l D cy bd τ i hi) (cwV 1 hts gX4_order_X4_match rfl rfl rfl (by decide +kernel) ⟨Nat.le_of_ble_eq_true rfl, Nat.le_of_ble_eq_true rfl⟩) ⟨mw_bl, mw_O hP hK, mw_at hP hK⟩ rfl rfl hl.1 rfl (lv_room (Nat.le_of_ble_eq_true rfl)) dX4_order_23 ⟨Nat.le_of_ble_eq_true rfl, Nat.le_of_ble_eq_true rfl⟩) (fun _ _ => ?_)
      rcases hob9 : tBst τ i with _ | b9
      · refine W.eq (g2 := F0 m 26 ls [.int (-1), .int (b2i (inB (nI i) 0 15)), .ref (bd 0)]) rfl ?_
        refine lv_iconst (v := (-1)) hx hb dX4_order_26 (by decide) ?_
        refine lv_icmp_eq (tgt := 34) hx hb dX4_order_27 (by decide) (fun c_10 => ?_) (fun c_10 => absurd ((by decide : (-1 : Int32) = -1)) c_10)
        refine lv_iconst (v := 0) hx hb dX4_order_34 (by decide) ?_
        refine lv_iconst (v := 1) hx hb dX4_order_35 (by decide) ?_
        refine W.eq (g2 := F0 m 36 ls [.int (b2i true), .int (b2i false), .int (b2i (inB (nI i) 0 15)), .ref (bd 0)]) rfl ?_
        refine cMi (va_runV (As := [.int (b2i (inB (nI i) 0 15)), .int (b2i false), .int (b2i true)]) (rest := []) ⟨hx, hb, hml, hown, hts⟩ (c_X4_goes l D cy bd hj τ (inB (nI i) 0 15) false true) (cwV 3 hts gX4_order_X4_goes rfl rfl rfl (by decide +kernel) ⟨Nat.le_of_ble_eq_true rfl, Nat.le_of_ble_eq_true rfl⟩) ⟨mw_bl, (mw_O hP hK), (mw_at hP hK)⟩ rfl rfl hl.1 rfl (lv_room (Nat.le_of_ble_eq_true rfl)) dX4_order_36 ⟨Nat.le_of_ble_eq_true rfl, Nat.le_of_ble_eq_true rfl⟩) hS (fun H locs hP hS => ?_)
        refine W.eq (g2 := F0 m 39 ls [.int (b2i ((inB (nI i) 0 15) && false && true))]) rfl ?_
        have hw11 : WB (tGo τ (inB (nI i) 0 15) false true) 30000 := WB.go hw
        have hF12 : FI (tGo τ (inB (nI i) 0 15) false true) := FI.go hF
        refine lv_if_ne (tgt := 44) hx hb dX4_order_39 (by decide) (fun c_13 => absurd ((by simp [b2i, c_1, c_5, hob9, c_10, inB_15 hi, ix_nI (show i < 2147483648 by omega)] : (b2i ((inB (nI i) 0 15) && false && true)) = 0)) c_13) (fun c_13 => ?_)
        refine lv_iconst (v := 0) hx hb dX4_order_42 (by decide) ?_
        have e8 : hOrder τ (nI i) = tGo τ (inB (nI i) 0 15) false true := by simp [hOrder, qOrder, bOr, tGo_r, tGo_0, up2_r, c_1, c_5, hob9, c_10, c_13, inB_15 hi, ix_nI (show i < 2147483648 by omega)]
        rw [← e8] at hP
        have e9 : 0 = qOrder τ (nI i) := by simp [hOrder, qOrder, bOr, tGo_r, tGo_0, up2_r, c_1, c_5, hob9, c_10, c_13, inB_15 hi, ix_nI (show i < 2147483648 by omega)]
        exact W.iret (v := 0) hx hb hr (fun t ht hW => ⟨⟨_, (), rfl, e9, by rw [← ht] at hP; exact hP⟩, hS.F ht⟩) hS.2.2 dX4_order_43
      · have hb9 := bst_lt (n := 8) hob9
        refine W.eq (g2 := F0 m 26 ls [.int (nI b9), .int (b2i (inB (nI i) 0 15)), .ref (bd 0)]) rfl ?_
        refine lv_iconst (v := (-1)) hx hb dX4_order_26 (by decide) ?_
        refine lv_icmp_eq (tgt := 34) hx hb dX4_order_27 (by decide) (fun c_14 => absurd c_14 ((nI_ne_m1 (by omega) : ¬ nI b9 = -1))) (fun c_14 => ?_)
        refine lv_iconst (v := 1) hx hb dX4_order_30 (by decide) ?_
        refine lv_goto (tgt := 35) hx hb dX4_order_31 (by decide) ?_
        refine lv_iconst (v := 1) hx hb dX4_order_35 (by decide) ?_
        refine W.eq (g2 := F0 m 36 ls [.int (b2i true), .int (b2i true), .int (b2i (inB (nI i) 0 15)), .ref (bd 0)]) rfl ?_
        refine cMi (va_runV (As := [.int (b2i (inB (nI i) 0 15)), .int (b2i true), .int (b2i true)]) (rest := []) ⟨hx, hb, hml, hown, hts⟩ (c_X4_goes l D cy bd hj τ (inB (nI i) 0 15) true true) (cwV 3 hts gX4_order_X4_goes rfl rfl rfl (by decide +kernel) ⟨Nat.le_of_ble_eq_true rfl, Nat.le_of_ble_eq_true rfl⟩) ⟨mw_bl, (mw_O hP hK), (mw_at hP hK)⟩ rfl rfl hl.1 rfl (lv_room (Nat.le_of_ble_eq_true rfl)) dX4_order_36 ⟨Nat.le_of_ble_eq_true rfl, Nat.le_of_ble_eq_true rfl⟩) hS (fun H locs hP hS => ?_)
        refine W.eq (g2 := F0 m 39 ls [.int (b2i ((inB (nI i) 0 15) && true && true))]) rfl ?_
        have hw15 : WB (tGo τ (inB (nI i) 0 15) true true) 30000 := WB.go hw
        have hF16 : FI (tGo τ (inB (nI i) 0 15) true true) := FI.go hF
        refine lv_if_ne (tgt := 44) hx hb dX4_order_39 (by decide) (fun c_17 => ?_) (fun c_17 => absurd c_17 ((by simp [b2i, c_1, c_5, hob9, c_14, inB_15 hi, ix_nI (show i < 2147483648 by omega)] : ¬ (b2i ((inB (nI i) 0 15) && true && true)) = 0)))
        refine lv_aload_n hx hb dX4_order_44 rfl (lv_at hl 1 rfl) ?_
        refine lv_iload_n hx hb dX4_order_45 rfl (lv_at hl 2 rfl) ?_
        have hw18 : WB (tQueue (tGo τ (inB (nI i) 0 15) true true) i) 29999 := WB.queue hw15
        refine cMv (va_runV (As := [.int (nI i)]) (rest := []) ⟨hx, hb, hml, hown, hts⟩ (c_X4_queues l D cy bd hj (tGo τ (inB (nI i) 0 15) true true) i hi (WB.nn hw15)) (cwV 1 hts gX4_order_X4_queues rfl rfl rfl (by decide +kernel) ⟨Nat.le_of_ble_eq_true rfl, Nat.le_of_ble_eq_true rfl⟩) ⟨mw_bl, (mw_O hP hK), (mw_at hP hK)⟩ rfl rfl hl.1 rfl (lv_room (Nat.le_of_ble_eq_true rfl)) dX4_order_46 ⟨Nat.le_of_ble_eq_true rfl, Nat.le_of_ble_eq_true rfl⟩) hS (fun H locs hP hS => ?_)
        refine W.eq (g2 := F0 m 49 ls []) rfl ?_
        refine lv_aload_n hx hb dX4_order_49 rfl (lv_at hl 1 rfl) ?_
        refine lv_iload_n hx hb dX4_order_50 rfl (lv_at hl 2 rfl) ?_
        refine cMi (va_runV (As := [.int (nI i)]) (rest := []) ⟨hx, hb, hml, hown, hts⟩ (c_X4_ends l D cy bd hj (tQueue (tGo τ (inB (nI i) 0 15) true true) i) i hi (WB.le hw18 (by omega))) (cwV 1 hts gX4_order_X4_ends rfl rfl rfl (by decide +kernel) ⟨Nat.le_of_ble_eq_true rfl, Nat.le_of_ble_eq_true rfl⟩) ⟨mw_bl, (mw_O hP hK), (mw_at hP hK)⟩ rfl rfl hl.1 rfl (lv_room (Nat.le_of_ble_eq_true rfl)) dX4_order_51 ⟨Nat.le_of_ble_eq_true rfl, Nat.le_of_ble_eq_true rfl⟩) hS (fun H locs hP hS => ?_)
        refine W.eq (g2 := F0 m 54 ls [.int ((tBegins (tQueue (tGo τ (inB (nI i) 0 15) true true) i)) 5 i)]) rfl ?_
        have e8 : hOrder τ (nI i) = tBegins (tQueue (tGo τ (inB (nI i) 0 15) true true) i) := by simp [hOrder, qOrder, bOr, tGo_r, tGo_0, up2_r, c_1, c_5, hob9, c_14, c_17, inB_15 hi, ix_nI (show i < 2147483648 by omega)]
        rw [← e8] at hP
        have e9 : ((tBegins (tQueue (tGo τ (inB (nI i) 0 15) true true) i)) 5 i) = qOrder τ (nI i) := by simp [hOrder, qOrder, bOr, tGo_r, tGo_0, up2_r, c_1, c_5, hob9, c_14, c_17, inB_15 hi, ix_nI (show i < 2147483648 by omega)]
        exact W.iret (v := (tBegins (tQueue (tGo τ (inB (nI i) 0 15) true true) i)) 5 i) hx hb hr (fun t ht hW => ⟨⟨_, (), rfl, e9, by rw [← ht] at hP; exact hP⟩, hS.F ht⟩) hS.2.2 dX4_order_54
set_option maxHeartbeats 4000000 in
set_option maxRecDepth 100000 in
/-- cancel -/
theorem c_X4_cancel (l : Launch) (D : va_G) (cy : Nat → ClassId) (bd : Nat → Nat) (hj : injM bd) (τ : Mem) (za : Int32) (hw : WB τ 30000) (hF : FI τ) : Met l yX4_cancel wsX4_cancel ({ frames := 3, cells := 0, slots := 0, locals := 69 }) (va_Pc [.ref (bd 0), .int za] (mw D cy bd τ)) (QV (va_P D vwCl (wM cy bd (hCancel τ za))) (AM bd)) 0 0 (AM bd) := by
  refine Met.ofW (cc := cX4_cancel) (maxL := 3) (ret := none) (by decide) rfl ?_
  intro p e s m args below meth c s₁ B hml hv
  obtain ⟨rfl, hP, hK⟩ := hv
  have hx := B.exec
  have hb := B.bytes
  have hr := B.returns
  have hts := atoms_spec (ws := wsX4_cancel) B.pre
  have hown : s.vm.findClass RX4 = some m.cls := findClass_of_methodNamed B.named
  have hlocks := B.notSynchronized
  have hf4 := fun (w : Cond) (h : w ∈ wsX40) => hts w ((by decide +kernel : ∀ w ∈ wsX40, w ∈ wsX4_cancel) w h)
  have hD := wM_D (cy := cy) hj
  have hS : va_S (AM bd) s.heap s.heap [] := va_S.rf
  have hl := lv_entry ([.ref (bd 0), .int za]) (n := 3) (Nat.le_of_ble_eq_true rfl)
  rw [lg_entry_eq]
  generalize (lg_sl ([.ref (bd 0), .int za]) ++ List.replicate (3 - (lg_sl ([.ref (bd 0), .int za])).length) Slot.unset).toArray = ls at hl ⊢
  have hl : lv_has ls 3 [(0, .ref (bd 0)), (1, .int za)] := hl
  refine lv_iload_n hx hb dX4_cancel_0 rfl (lv_at hl 1 rfl) ?_
  refine cS (W.runS (As := [.int za]) (rest := []) ⟨hx, hb, hml, hown, hts⟩ (c_X4_isMachine l za) (va_cwS 1 hts gX4_cancel_X4_isMachine rfl rfl rfl (by decide +kernel) ⟨Nat.le_of_ble_eq_true rfl, Nat.le_of_ble_eq_true rfl⟩) ⟨fun a U g mk h => h, fun U _ _ => ⟨rfl, trivial⟩⟩ rfl rfl hl.1 rfl (lv_room (Nat.le_of_ble_eq_true rfl)) dX4_cancel_1 ⟨Nat.le_of_ble_eq_true rfl, Nat.le_of_ble_eq_true rfl⟩) (fun _ _ => ?_)
  refine W.eq (g2 := F0 m 4 ls [.int (b2i (inB za 0 15))]) rfl ?_
  refine lv_istore_n (lv' := [(2, .int (b2i (inB za 0 15))), (0, .ref (bd 0)), (1, .int za)]) hx hb dX4_cancel_4 rfl hl (by decide) rfl (fun ls hl => ?_)
  refine lv_aload_n hx hb dX4_cancel_5 rfl (lv_at hl 1 rfl) ?_
  refine lv_iload_n hx hb dX4_cancel_6 rfl (lv_at hl 0 rfl) ?_
  refine lv_iload_n hx hb dX4_cancel_7 rfl (lv_at hl 0 rfl) ?_
  refine lv_if_eq (tgt := 35) hx hb dX4_cancel_8 (by decide) (fun c_1 => ?_) (fun c_1 => ?_)
  · replace c_1 := b2i_0.mp c_1
    refine lv_iconst (v := 0) hx hb dX4_cancel_35 (by decide) ?_
    refine lv_iconst (v := 1) hx hb dX4_cancel_36 (by decide) ?_
    refine W.eq (g2 := F0 m 37 ls [.int (b2i true), .int (b2i false), .int (b2i (inB za 0 15)), .ref (bd 0)]) rfl ?_
    refine cMi (va_runV (As := [.int (b2i (inB za 0 15)), .int (b2i false), .int (b2i true)]) (rest := []) ⟨hx, hb, hml, hown, hts⟩ (c_X4_goes l D cy bd hj τ (inB za 0 15) false true) (cwV 3 hts gX4_cancel_X4_goes rfl rfl rfl (by decide +kernel) ⟨Nat.le_of_ble_eq_true rfl, Nat.le_of_ble_eq_true rfl⟩) ⟨mw_bl, (mw_O hP hK), (mw_at hP hK)⟩ rfl rfl hl.1 rfl (lv_room (Nat.le_of_ble_eq_true rfl)) dX4_cancel_37 ⟨Nat.le_of_ble_eq_true rfl, Nat.le_of_ble_eq_true rfl⟩) hS (fun H locs hP hS => ?_)
    refine W.eq (g2 := F0 m 40 ls [.int (b2i ((inB za 0 15) && false && true))]) rfl ?_
    have hw2 : WB (tGo τ (inB za 0 15) false true) 30000 := WB.go hw
    have hF3 : FI (tGo τ (inB za 0 15) false true) := FI.go hF
    refine lv_if_eq (tgt := 53) hx hb dX4_cancel_40 (by decide) (fun c_4 => ?_) (fun c_4 => absurd ((by simp [b2i, c_1] : (b2i ((inB za 0 15) && false && true)) = 0)) c_4)
    have e8 : hCancel τ za = tGo τ (inB za 0 15) false true := by simp [hCancel, bCa, tGo_r, tGo_0, up2_r, c_1, c_4]
    rw [← e8] at hP
    exact W.vret hx hb hr (fun t ht hW => ⟨⟨(), rfl, trivial, by rw [← ht] at hP; exact hP⟩, hS.F ht⟩) hS.2.2 dX4_cancel_53
  · replace c_1 := b2i_n0.mp c_1
    obtain ⟨i, hi, rfl⟩ := of_15 c_1
    have hl : lv_has ls 3 [(2, .int (b2i (inB (nI i) 0 15))), (0, .ref (bd 0)), (1, .int (nI i))] := hl
    refine lv_aload_n hx hb dX4_cancel_11 rfl (lv_at hl 1 rfl) ?_
    refine rgO5 hx hb hf4 hown hK hP (hts (.fieldLink RX4 16 "MachineFoundryModel" "state" "[I") (by decide +kernel)) dX4_cancel_12 ?_
    refine lv_iload_n hx hb dX4_cancel_15 rfl (lv_at hl 2 rfl) ?_
    refine raO5 hx hb hK hP hi (rfl) dX4_cancel_16 ?_
    refine lv_iconst (v := 2) hx hb dX4_cancel_17 (by decide) ?_
    refine lv_icmp_eq (tgt := 31) hx hb dX4_cancel_18 (by decide) (fun c_5 => ?_) (fun c_5 => ?_)
    · refine lv_iconst (v := 1) hx hb dX4_cancel_31 (by decide) ?_
      refine lv_goto (tgt := 36) hx hb dX4_cancel_32 (by decide) ?_
      refine lv_iconst (v := 1) hx hb dX4_cancel_36 (by decide) ?_
      refine W.eq (g2 := F0 m 37 ls [.int (b2i true), .int (b2i true), .int (b2i (inB (nI i) 0 15)), .ref (bd 0)]) rfl ?_
      refine cMi (va_runV (As := [.int (b2i (inB (nI i) 0 15)), .int (b2i true), .int (b2i true)]) (rest := []) ⟨hx, hb, hml, hown, hts⟩ (c_X4_goes l D cy bd hj τ (inB (nI i) 0 15) true true) (cwV 3 hts gX4_cancel_X4_goes rfl rfl rfl (by decide +kernel) ⟨Nat.le_of_ble_eq_true rfl, Nat.le_of_ble_eq_true rfl⟩) ⟨mw_bl, (mw_O hP hK), (mw_at hP hK)⟩ rfl rfl hl.1 rfl (lv_room (Nat.le_of_ble_eq_true rfl)) dX4_cancel_37 ⟨Nat.le_of_ble_eq_true rfl, Nat.le_of_ble_eq_true rfl⟩) hS (fun H locs hP hS => ?_)
      refine W.eq (g2 := F0 m 40 ls [.int (b2i ((inB (nI i) 0 15) && true && true))]) rfl ?_
      have hw6 : WB (tGo τ (inB (nI i) 0 15) true true) 30000 := WB.go hw
      have hF7 : FI (tGo τ (inB (nI i) 0 15) true true) := FI.go hF
      refine lv_if_eq (tgt := 53) hx hb dX4_cancel_40 (by decide) (fun c_8 => absurd c_8 ((by simp [b2i, c_1, c_5, inB_15 hi, ix_nI (show i < 2147483648 by omega)] : ¬ (b2i ((inB (nI i) 0 15) && true && true)) = 0))) (fun c_8 => ?_)
      refine lv_aload_n hx hb dX4_cancel_43 rfl (lv_at hl 1 rfl) ?_
      refine lv_iload_n hx hb dX4_cancel_44 rfl (lv_at hl 2 rfl) ?_
      refine lv_iconst (v := 1) hx hb dX4_cancel_45 (by decide) ?_
      have hw9 : WB (tTurn (tGo τ (inB (nI i) 0 15) true true) i 1) 29999 := WB.turn hw6
      refine cMv (va_runV (As := [.int (nI i), .int 1]) (rest := []) ⟨hx, hb, hml, hown, hts⟩ (c_X4_turns l D cy bd hj (tGo τ (inB (nI i) 0 15) true true) i hi 1 (WB.nn hw6)) (cwV 2 hts gX4_cancel_X4_turns rfl rfl rfl (by decide +kernel) ⟨Nat.le_of_ble_eq_true rfl, Nat.le_of_ble_eq_true rfl⟩) ⟨mw_bl, (mw_O hP hK), (mw_at hP hK)⟩ rfl rfl hl.1 rfl (lv_room (Nat.le_of_ble_eq_true rfl)) dX4_cancel_46 ⟨Nat.le_of_ble_eq_true rfl, Nat.le_of_ble_eq_true rfl⟩) hS (fun H locs hP hS => ?_)
      refine W.eq (g2 := F0 m 49 ls []) rfl ?_
      refine lv_aload_n hx hb dX4_cancel_49 rfl (lv_at hl 1 rfl) ?_
      refine cMv (va_runV (As := []) (rest := []) ⟨hx, hb, hml, hown, hts⟩ (c_X4_begins l D cy bd hj (tTurn (tGo τ (inB (nI i) 0 15) true true) i 1) (WB.le hw9 (by omega))) (cwV 0 hts gX4_cancel_X4_begins rfl rfl rfl (by decide +kernel) ⟨Nat.le_of_ble_eq_true rfl, Nat.le_of_ble_eq_true rfl⟩) ⟨mw_bl, (mw_O hP hK), (mw_at hP hK)⟩ rfl rfl hl.1 rfl (lv_room (Nat.le_of_ble_eq_true rfl)) dX4_cancel_50 ⟨Nat.le_of_ble_eq_true rfl, Nat.le_of_ble_eq_true rfl⟩) hS (fun H locs hP hS => ?_)
      refine W.eq (g2 := F0 m 53 ls []) rfl ?_
      have e8 : hCancel τ (nI i) = tBegins (tTurn (tGo τ (inB (nI i) 0 15) true true) i 1) := by simp [hCancel, bCa, tGo_r, tGo_0, up2_r, c_1, c_5, c_8, inB_15 hi, ix_nI (show i < 2147483648 by omega)]
      rw [← e8] at hP
      exact W.vret hx hb hr (fun t ht hW => ⟨⟨(), rfl, trivial, by rw [← ht] at hP; exact hP⟩, hS.F ht⟩) hS.2.2 dX4_cancel_53
    · refine lv_aload_n hx hb dX4_cancel_21 rfl (lv_at hl 1 rfl) ?_
      refine rgO5 hx hb hf4 hown hK hP (hts (.fieldLink RX4 16 "MachineFoundryModel" "state" "[I") (by decide +kernel)) dX4_cancel_22 ?_
      refine lv_iload_n hx hb dX4_cancel_25 rfl (lv_at hl 2 rfl) ?_
      refine raO5 hx hb hK hP hi (rfl) dX4_cancel_26 ?_
      refine lv_iconst (v := 4) hx hb dX4_cancel_27 (by decide) ?_
      refine lv_icmp_ne (tgt := 35) hx hb dX4_cancel_28 (by decide) (fun c_10 => ?_) (fun c_10 => ?_)
      · refine lv_iconst (v := 0) hx hb dX4_cancel_35 (by decide) ?_
        refine lv_iconst (v := 1) hx hb dX4_cancel_36 (by decide) ?_
        refine W.eq (g2 := F0 m 37 ls [.int (b2i true), .int (b2i false), .int (b2i (inB (nI i) 0 15)), .ref (bd 0)]) rfl ?_
        refine cMi (va_runV (As := [.int (b2i (inB (nI i) 0 15)), .int (b2i false), .int (b2i true)]) (rest := []) ⟨hx, hb, hml, hown, hts⟩ (c_X4_goes l D cy bd hj τ (inB (nI i) 0 15) false true) (cwV 3 hts gX4_cancel_X4_goes rfl rfl rfl (by decide +kernel) ⟨Nat.le_of_ble_eq_true rfl, Nat.le_of_ble_eq_true rfl⟩) ⟨mw_bl, (mw_O hP hK), (mw_at hP hK)⟩ rfl rfl hl.1 rfl (lv_room (Nat.le_of_ble_eq_true rfl)) dX4_cancel_37 ⟨Nat.le_of_ble_eq_true rfl, Nat.le_of_ble_eq_true rfl⟩) hS (fun H locs hP hS => ?_)
        refine W.eq (g2 := F0 m 40 ls [.int (b2i ((inB (nI i) 0 15) && false && true))]) rfl ?_
        have hw11 : WB (tGo τ (inB (nI i) 0 15) false true) 30000 := WB.go hw
        have hF12 : FI (tGo τ (inB (nI i) 0 15) false true) := FI.go hF
        refine lv_if_eq (tgt := 53) hx hb dX4_cancel_40 (by decide) (fun c_13 => ?_) (fun c_13 => absurd ((by simp [b2i, c_1, c_5, c_10, inB_15 hi, ix_nI (show i < 2147483648 by omega)] : (b2i ((inB (nI i) 0 15) && false && true)) = 0)) c_13)
        have e8 : hCancel τ (nI i) = tGo τ (inB (nI i) 0 15) false true := by simp [hCancel, bCa, tGo_r, tGo_0, up2_r, c_1, c_5, c_10, c_13, inB_15 hi, ix_nI (show i < 2147483648 by omega)]
        rw [← e8] at hP
        exact W.vret hx hb hr (fun t ht hW => ⟨⟨(), rfl, trivial, by rw [← ht] at hP; exact hP⟩, hS.F ht⟩) hS.2.2 dX4_cancel_53
      · refine lv_iconst (v := 1) hx hb dX4_cancel_31 (by decide) ?_
        refine lv_goto (tgt := 36) hx hb dX4_cancel_32 (by decide) ?_
        refine lv_iconst (v := 1) hx hb dX4_cancel_36 (by decide) ?_
        refine W.eq (g2 := F0 m 37 ls [.int (b2i true), .int (b2i true), .int (b2i (inB (nI i) 0 15)), .ref (bd 0)]) rfl ?_
        refine cMi (va_runV (As := [.int (b2i (inB (nI i) 0 15)), .int (b2i true), .int (b2i true)]) (rest := []) ⟨hx, hb, hml, hown, hts⟩ (c_X4_goes l D cy bd hj τ (inB (nI i) 0 15) true true) (cwV 3 hts gX4_cancel_X4_goes rfl rfl rfl (by decide +kernel) ⟨Nat.le_of_ble_eq_true rfl, Nat.le_of_ble_eq_true rfl⟩) ⟨mw_bl, (mw_O hP hK), (mw_at hP hK)⟩ rfl rfl hl.1 rfl (lv_room (Nat.le_of_ble_eq_true rfl)) dX4_cancel_37 ⟨Nat.le_of_ble_eq_true rfl, Nat.le_of_ble_eq_true rfl⟩) hS (fun H locs hP hS => ?_)
        refine W.eq (g2 := F0 m 40 ls [.int (b2i ((inB (nI i) 0 15) && true && true))]) rfl ?_
        have hw14 : WB (tGo τ (inB (nI i) 0 15) true true) 30000 := WB.go hw
        have hF15 : FI (tGo τ (inB (nI i) 0 15) true true) := FI.go hF
        refine lv_if_eq (tgt := 53) hx hb dX4_cancel_40 (by decide) (fun c_16 => absurd c_16 ((by simp [b2i, c_1, c_5, c_10, inB_15 hi, ix_nI (show i < 2147483648 by omega)] : ¬ (b2i ((inB (nI i) 0 15) && true && true)) = 0))) (fun c_16 => ?_)
        refine lv_aload_n hx hb dX4_cancel_43 rfl (lv_at hl 1 rfl) ?_
        refine lv_iload_n hx hb dX4_cancel_44 rfl (lv_at hl 2 rfl) ?_
        refine lv_iconst (v := 1) hx hb dX4_cancel_45 (by decide) ?_
        have hw17 : WB (tTurn (tGo τ (inB (nI i) 0 15) true true) i 1) 29999 := WB.turn hw14
        refine cMv (va_runV (As := [.int (nI i), .int 1]) (rest := []) ⟨hx, hb, hml, hown, hts⟩ (c_X4_turns l D cy bd hj (tGo τ (inB (nI i) 0 15) true true) i hi 1 (WB.nn hw14)) (cwV 2 hts gX4_cancel_X4_turns rfl rfl rfl (by decide +kernel) ⟨Nat.le_of_ble_eq_true rfl, Nat.le_of_ble_eq_true rfl⟩) ⟨mw_bl, (mw_O hP hK), (mw_at hP hK)⟩ rfl rfl hl.1 rfl (lv_room (Nat.le_of_ble_eq_true rfl)) dX4_cancel_46 ⟨Nat.le_of_ble_eq_true rfl, Nat.le_of_ble_eq_true rfl⟩) hS (fun H locs hP hS => ?_)
        refine W.eq (g2 := F0 m 49 ls []) rfl ?_
        refine lv_aload_n hx hb dX4_cancel_49 rfl (lv_at hl 1 rfl) ?_
        refine cMv (va_runV (As := []) (rest := []) ⟨hx, hb, hml, hown, hts⟩ (c_X4_begins l D cy bd hj (tTurn (tGo τ (inB (nI i) 0 15) true true) i 1) (WB.le hw17 (by omega))) (cwV 0 hts gX4_cancel_X4_begins rfl rfl rfl (by decide +kernel) ⟨Nat.le_of_ble_eq_true rfl, Nat.le_of_ble_eq_true rfl⟩) ⟨mw_bl, (mw_O hP hK), (mw_at hP hK)⟩ rfl rfl hl.1 rfl (lv_room (Nat.le_of_ble_eq_true rfl)) dX4_cancel_50 ⟨Nat.le_of_ble_eq_true rfl, Nat.le_of_ble_eq_true rfl⟩) hS (fun H locs hP hS => ?_)
        refine W.eq (g2 := F0 m 53 ls []) rfl ?_
        have e8 : hCancel τ (nI i) = tBegins (tTurn (tGo τ (inB (nI i) 0 15) true true) i 1) := by simp [hCancel, bCa, tGo_r, tGo_0, up2_r, c_1, c_5, c_10, c_16, inB_15 hi, ix_nI (show i < 2147483648 by omega)]
        rw [← e8] at hP
        exact W.vret hx hb hr (fun t ht hW => ⟨⟨(), rfl, trivial, by rw [← ht] at hP; exact hP⟩, hS.F ht⟩) hS.2.2 dX4_cancel_53
set_option maxHeartbeats 4000000 in
set_option maxRecDepth 100000 in
/-- finish -/
theorem c_X4_finish (l : Launch) (D : va_G) (cy : Nat → ClassId) (bd : Nat → Nat) (hj : injM bd) (τ : Mem) (za : Int32) (gd : Bool) (hw : WB τ 30000) (hF : FI τ) : Met l yX4_finish wsX4_finish ({ frames := 4, cells := 0, slots := 0, locals := 90 }) (va_Pc [.ref (bd 0), .int za, .int (b2i gd)] (mw D cy bd τ)) (QI (qFinish τ za gd) (va_P D vwCl (wM cy bd (hFinish τ za gd))) (AM bd)) 0 0 (AM bd) := by
  refine Met.ofW (cc := cX4_finish) (maxL := 4) (ret := (some .int)) (by decide) rfl ?_
  intro p e s m args below meth c s₁ B hml hv
  obtain ⟨rfl, hP, hK⟩ := hv
  have hx := B.exec
  have hb := B.bytes
  have hr := B.returns
  have hts := atoms_spec (ws := wsX4_finish) B.pre
  have hown : s.vm.findClass RX4 = some m.cls := findClass_of_methodNamed B.named
  have hlocks := B.notSynchronized
  have hf4 := fun (w : Cond) (h : w ∈ wsX40) => hts w ((by decide +kernel : ∀ w ∈ wsX40, w ∈ wsX4_finish) w h)
  have hD := wM_D (cy := cy) hj
  have hS : va_S (AM bd) s.heap s.heap [] := va_S.rf
  have hl := lv_entry ([.ref (bd 0), .int za, .int (b2i gd)]) (n := 4) (Nat.le_of_ble_eq_true rfl)
  rw [lg_entry_eq]
  generalize (lg_sl ([.ref (bd 0), .int za, .int (b2i gd)]) ++ List.replicate (4 - (lg_sl ([.ref (bd 0), .int za, .int (b2i gd)])).length) Slot.unset).toArray = ls at hl ⊢
  have hl : lv_has ls 4 [(0, .ref (bd 0)), (1, .int za), (2, .int (b2i gd))] := hl
  refine lv_iload_n hx hb dX4_finish_0 rfl (lv_at hl 1 rfl) ?_
  refine cS (W.runS (As := [.int za]) (rest := []) ⟨hx, hb, hml, hown, hts⟩ (c_X4_isMachine l za) (va_cwS 1 hts gX4_finish_X4_isMachine rfl rfl rfl (by decide +kernel) ⟨Nat.le_of_ble_eq_true rfl, Nat.le_of_ble_eq_true rfl⟩) ⟨fun a U g mk h => h, fun U _ _ => ⟨rfl, trivial⟩⟩ rfl rfl hl.1 rfl (lv_room (Nat.le_of_ble_eq_true rfl)) dX4_finish_1 ⟨Nat.le_of_ble_eq_true rfl, Nat.le_of_ble_eq_true rfl⟩) (fun _ _ => ?_)
  refine W.eq (g2 := F0 m 4 ls [.int (b2i (inB za 0 15))]) rfl ?_
  refine lv_istore_n (lv' := [(3, .int (b2i (inB za 0 15))), (0, .ref (bd 0)), (1, .int za), (2, .int (b2i gd))]) hx hb dX4_finish_4 rfl hl (by decide) rfl (fun ls hl => ?_)
  refine lv_aload_n hx hb dX4_finish_5 rfl (lv_at hl 1 rfl) ?_
  refine lv_iload_n hx hb dX4_finish_6 rfl (lv_at hl 0 rfl) ?_
  refine lv_iload_n hx hb dX4_finish_7 rfl (lv_at hl 0 rfl) ?_
  refine lv_if_eq (tgt := 25) hx hb dX4_finish_8 (by decide) (fun c_1 => ?_) (fun c_1 => ?_)
  · replace c_1 := b2i_0.mp c_1
    refine lv_iconst (v := 0) hx hb dX4_finish_25 (by decide) ?_
    refine lv_iconst (v := 1) hx hb dX4_finish_26 (by decide) ?_
    refine W.eq (g2 := F0 m 27 ls [.int (b2i true), .int (b2i false), .int (b2i (inB za 0 15)), .ref (bd 0)]) rfl ?_
    refine cMi (va_runV (As := [.int (b2i (inB za 0 15)), .int (b2i false), .int (b2i true)]) (rest := []) ⟨hx, hb, hml, hown, hts⟩ (c_X4_goes l D cy bd hj τ (inB za 0 15) false true) (cwV 3 hts gX4_finish_X4_goes rfl rfl rfl (by decide +kernel) ⟨Nat.le_of_ble_eq_true rfl, Nat.le_of_ble_eq_true rfl⟩) ⟨mw_bl, (mw_O hP hK), (mw_at hP hK)⟩ rfl rfl hl.1 rfl (lv_room (Nat.le_of_ble_eq_true rfl)) dX4_finish_27 ⟨Nat.le_of_ble_eq_true rfl, Nat.le_of_ble_eq_true rfl⟩) hS (fun H locs hP hS => ?_)
    refine W.eq (g2 := F0 m 30 ls [.int (b2i ((inB za 0 15) && false && true))]) rfl ?_
    have hw2 : WB (tGo τ (inB za 0 15) false true) 30000 := WB.go hw
    have hF3 : FI (tGo τ (inB za 0 15) false true) := FI.go hF
    refine lv_if_ne (tgt := 35) hx hb dX4_finish_30 (by decide) (fun c_4 => absurd ((by simp [b2i, c_1] : (b2i ((inB za 0 15) && false && true)) = 0)) c_4) (fun c_4 => ?_)
    refine lv_iconst (v := 0) hx hb dX4_finish_33 (by decide) ?_
    have e8 : hFinish τ za gd = tGo τ (inB za 0 15) false true := by simp [hFinish, qFinish, bSt, tGo_r, tGo_0, up2_r, c_1, c_4]
    rw [← e8] at hP
    have e9 : 0 = qFinish τ za gd := by simp [hFinish, qFinish, bSt, tGo_r, tGo_0, up2_r, c_1, c_4]
    exact W.iret (v := 0) hx hb hr (fun t ht hW => ⟨⟨_, (), rfl, e9, by rw [← ht] at hP; exact hP⟩, hS.F ht⟩) hS.2.2 dX4_finish_34
  · replace c_1 := b2i_n0.mp c_1
    obtain ⟨i, hi, rfl⟩ := of_15 c_1
    have hl : lv_has ls 4 [(3, .int (b2i (inB (nI i) 0 15))), (0, .ref (bd 0)), (1, .int (nI i)), (2, .int (b2i gd))] := hl
    refine lv_aload_n hx hb dX4_finish_11 rfl (lv_at hl 1 rfl) ?_
    refine rgO5 hx hb hf4 hown hK hP (hts (.fieldLink RX4 16 "MachineFoundryModel" "state" "[I") (by decide +kernel)) dX4_finish_12 ?_
    refine lv_iload_n hx hb dX4_finish_15 rfl (lv_at hl 2 rfl) ?_
    refine raO5 hx hb hK hP hi (rfl) dX4_finish_16 ?_
    refine lv_iconst (v := 3) hx hb dX4_finish_17 (by decide) ?_
    refine lv_icmp_ne (tgt := 25) hx hb dX4_finish_18 (by decide) (fun c_5 => ?_) (fun c_5 => ?_)
    · refine lv_iconst (v := 0) hx hb dX4_finish_25 (by decide) ?_
      refine lv_iconst (v := 1) hx hb dX4_finish_26 (by decide) ?_
      refine W.eq (g2 := F0 m 27 ls [.int (b2i true), .int (b2i false), .int (b2i (inB (nI i) 0 15)), .ref (bd 0)]) rfl ?_
      refine cMi (va_runV (As := [.int (b2i (inB (nI i) 0 15)), .int (b2i false), .int (b2i true)]) (rest := []) ⟨hx, hb, hml, hown, hts⟩ (c_X4_goes l D cy bd hj τ (inB (nI i) 0 15) false true) (cwV 3 hts gX4_finish_X4_goes rfl rfl rfl (by decide +kernel) ⟨Nat.le_of_ble_eq_true rfl, Nat.le_of_ble_eq_true rfl⟩) ⟨mw_bl, (mw_O hP hK), (mw_at hP hK)⟩ rfl rfl hl.1 rfl (lv_room (Nat.le_of_ble_eq_true rfl)) dX4_finish_27 ⟨Nat.le_of_ble_eq_true rfl, Nat.le_of_ble_eq_true rfl⟩) hS (fun H locs hP hS => ?_)
      refine W.eq (g2 := F0 m 30 ls [.int (b2i ((inB (nI i) 0 15) && false && true))]) rfl ?_
      have hw6 : WB (tGo τ (inB (nI i) 0 15) false true) 30000 := WB.go hw
      have hF7 : FI (tGo τ (inB (nI i) 0 15) false true) := FI.go hF
      refine lv_if_ne (tgt := 35) hx hb dX4_finish_30 (by decide) (fun c_8 => absurd ((by simp [b2i, c_1, c_5, inB_15 hi, ix_nI (show i < 2147483648 by omega)] : (b2i ((inB (nI i) 0 15) && false && true)) = 0)) c_8) (fun c_8 => ?_)
      refine lv_iconst (v := 0) hx hb dX4_finish_33 (by decide) ?_
      have e8 : hFinish τ (nI i) gd = tGo τ (inB (nI i) 0 15) false true := by simp [hFinish, qFinish, bSt, tGo_r, tGo_0, up2_r, c_1, c_5, c_8, inB_15 hi, ix_nI (show i < 2147483648 by omega)]
      rw [← e8] at hP
      have e9 : 0 = qFinish τ (nI i) gd := by simp [hFinish, qFinish, bSt, tGo_r, tGo_0, up2_r, c_1, c_5, c_8, inB_15 hi, ix_nI (show i < 2147483648 by omega)]
      exact W.iret (v := 0) hx hb hr (fun t ht hW => ⟨⟨_, (), rfl, e9, by rw [← ht] at hP; exact hP⟩, hS.F ht⟩) hS.2.2 dX4_finish_34
    · refine lv_iconst (v := 1) hx hb dX4_finish_21 (by decide) ?_
      refine lv_goto (tgt := 26) hx hb dX4_finish_22 (by decide) ?_
      refine lv_iconst (v := 1) hx hb dX4_finish_26 (by decide) ?_
      refine W.eq (g2 := F0 m 27 ls [.int (b2i true), .int (b2i true), .int (b2i (inB (nI i) 0 15)), .ref (bd 0)]) rfl ?_
      refine cMi (va_runV (As := [.int (b2i (inB (nI i) 0 15)), .int (b2i true), .int (b2i true)]) (rest := []) ⟨hx, hb, hml, hown, hts⟩ (c_X4_goes l D cy bd hj τ (inB (nI i) 0 15) true true) (cwV 3 hts gX4_finish_X4_goes rfl rfl rfl (by decide +kernel) ⟨Nat.le_of_ble_eq_true rfl, Nat.le_of_ble_eq_true rfl⟩) ⟨mw_bl, (mw_O hP hK), (mw_at hP hK)⟩ rfl rfl hl.1 rfl (lv_room (Nat.le_of_ble_eq_true rfl)) dX4_finish_27 ⟨Nat.le_of_ble_eq_true rfl, Nat.le_of_ble_eq_true rfl⟩) hS (fun H locs hP hS => ?_)
      refine W.eq (g2 := F0 m 30 ls [.int (b2i ((inB (nI i) 0 15) && true && true))]) rfl ?_
      have hw9 : WB (tGo τ (inB (nI i) 0 15) true true) 30000 := WB.go hw
      have hF10 : FI (tGo τ (inB (nI i) 0 15) true true) := FI.go hF
      refine lv_if_ne (tgt := 35) hx hb dX4_finish_30 (by decide) (fun c_11 => ?_) (fun c_11 => absurd c_11 ((by simp [b2i, c_1, c_5, inB_15 hi, ix_nI (show i < 2147483648 by omega)] : ¬ (b2i ((inB (nI i) 0 15) && true && true)) = 0)))
      refine lv_iload_n hx hb dX4_finish_35 rfl (lv_at hl 3 rfl) ?_
      refine lv_if_eq (tgt := 55) hx hb dX4_finish_36 (by decide) (fun c_12 => ?_) (fun c_12 => ?_)
      · replace c_12 := b2i_0.mp c_12
        refine lv_aload_n hx hb dX4_finish_55 rfl (lv_at hl 1 rfl) ?_
        refine lv_iload_n hx hb dX4_finish_56 rfl (lv_at hl 2 rfl) ?_
        obtain ⟨n13, hn13a, hn13b, -⟩ := (show FI (tGo τ (inB (nI i) 0 15) true true) from hF10).1 i hi
        have hw14 : WB (tFail (tGo τ (inB (nI i) 0 15) true true) i) 29999 := WB.fail hw9
        refine cMv (va_runV (As := [.int (nI i)]) (rest := []) ⟨hx, hb, hml, hown, hts⟩ (c_X4_fails l D cy bd hj (tGo τ (inB (nI i) 0 15) true true) i hi (WB.nn hw9) n13 (by omega) hn13b) (cwV 1 hts gX4_finish_X4_fails rfl rfl rfl (by decide +kernel) ⟨Nat.le_of_ble_eq_true rfl, Nat.le_of_ble_eq_true rfl⟩) ⟨mw_bl, (mw_O hP hK), (mw_at hP hK)⟩ rfl rfl hl.1 rfl (lv_room (Nat.le_of_ble_eq_true rfl)) dX4_finish_57 ⟨Nat.le_of_ble_eq_true rfl, Nat.le_of_ble_eq_true rfl⟩) hS (fun H locs hP hS => ?_)
        refine W.eq (g2 := F0 m 60 ls []) rfl ?_
        refine lv_aload_n hx hb dX4_finish_60 rfl (lv_at hl 1 rfl) ?_
        refine lv_iload_n hx hb dX4_finish_61 rfl (lv_at hl 2 rfl) ?_
        refine cMi (va_runV (As := [.int (nI i)]) (rest := []) ⟨hx, hb, hml, hown, hts⟩ (c_X4_ends l D cy bd hj (tFail (tGo τ (inB (nI i) 0 15) true true) i) i hi (WB.le hw14 (by omega))) (cwV 1 hts gX4_finish_X4_ends rfl rfl rfl (by decide +kernel) ⟨Nat.le_of_ble_eq_true rfl, Nat.le_of_ble_eq_true rfl⟩) ⟨mw_bl, (mw_O hP hK), (mw_at hP hK)⟩ rfl rfl hl.1 rfl (lv_room (Nat.le_of_ble_eq_true rfl)) dX4_finish_62 ⟨Nat.le_of_ble_eq_true rfl, Nat.le_of_ble_eq_true rfl⟩) hS (fun H locs hP hS => ?_)
        refine W.eq (g2 := F0 m 65 ls [.int ((tBegins (tFail (tGo τ (inB (nI i) 0 15) true true) i)) 5 i)]) rfl ?_
        have e8 : hFinish τ (nI i) gd = tBegins (tFail (tGo τ (inB (nI i) 0 15) true true) i) := by simp [hFinish, qFinish, bSt, tGo_r, tGo_0, up2_r, c_1, c_5, c_11, c_12, inB_15 hi, ix_nI (show i < 2147483648 by omega)]
        rw [← e8] at hP
        have e9 : ((tBegins (tFail (tGo τ (inB (nI i) 0 15) true true) i)) 5 i) = qFinish τ (nI i) gd := by simp [hFinish, qFinish, bSt, tGo_r, tGo_0, up2_r, c_1, c_5, c_11, c_12, inB_15 hi, ix_nI (show i < 2147483648 by omega)]
        exact W.iret (v := (tBegins (tFail (tGo τ (inB (nI i) 0 15) true true) i)) 5 i) hx hb hr (fun t ht hW => ⟨⟨_, (), rfl, e9, by rw [← ht] at hP; exact hP⟩, hS.F ht⟩) hS.2.2 dX4_finish_65
      · replace c_12 := b2i_n0.mp c_12
        refine lv_aload_n hx hb dX4_finish_39 rfl (lv_at hl 1 rfl) ?_
        refine lv_iload_n hx hb dX4_finish_40 rfl (lv_at hl 2 rfl) ?_
        refine lv_iconst (v := 5) hx hb dX4_finish_41 (by decide) ?_
        have hw15 : WB (tTurn (tGo τ (inB (nI i) 0 15) true true) i 5) 29999 := WB.turn hw9
        refine cMv (va_runV (As := [.int (nI i), .int 5]) (rest := []) ⟨hx, hb, hml, hown, hts⟩ (c_X4_turns l D cy bd hj (tGo τ (inB (nI i) 0 15) true true) i hi 5 (WB.nn hw9)) (cwV 2 hts gX4_finish_X4_turns rfl rfl rfl (by decide +kernel) ⟨Nat.le_of_ble_eq_true rfl, Nat.le_of_ble_eq_true rfl⟩) ⟨mw_bl, (mw_O hP hK), (mw_at hP hK)⟩ rfl rfl hl.1 rfl (lv_room (Nat.le_of_ble_eq_true rfl)) dX4_finish_42 ⟨Nat.le_of_ble_eq_true rfl, Nat.le_of_ble_eq_true rfl⟩) hS (fun H locs hP hS => ?_)
        refine W.eq (g2 := F0 m 45 ls []) rfl ?_
        refine lv_aload_n hx hb dX4_finish_45 rfl (lv_at hl 1 rfl) ?_
        refine rgO13 hx hb hf4 hown hK hP (hts (.fieldLink RX4 41 "MachineFoundryModel" "failures" "[I") (by decide +kernel)) dX4_finish_46 ?_
        refine lv_iload_n hx hb dX4_finish_49 rfl (lv_at hl 2 rfl) ?_
        refine lv_iconst (v := 0) hx hb dX4_finish_50 (by decide) ?_
        refine rsO13 hx hb hK hP hD hS hi dX4_finish_51 (fun H locs hP hS => ?_)
        refine lv_goto (tgt := 60) hx hb dX4_finish_52 (by decide) ?_
        refine lv_aload_n hx hb dX4_finish_60 rfl (lv_at hl 1 rfl) ?_
        refine lv_iload_n hx hb dX4_finish_61 rfl (lv_at hl 2 rfl) ?_
        refine cMi (va_runV (As := [.int (nI i)]) (rest := []) ⟨hx, hb, hml, hown, hts⟩ (c_X4_ends l D cy bd hj (up2 (tTurn (tGo τ (inB (nI i) 0 15) true true) i 5) 13 i 0) i hi (WB.le (WB.cong hw15 (by simp [up2])) (by omega))) (cwV 1 hts gX4_finish_X4_ends rfl rfl rfl (by decide +kernel) ⟨Nat.le_of_ble_eq_true rfl, Nat.le_of_ble_eq_true rfl⟩) ⟨mw_bl, (mw_O hP hK), (mw_at hP hK)⟩ rfl rfl hl.1 rfl (lv_room (Nat.le_of_ble_eq_true rfl)) dX4_finish_62 ⟨Nat.le_of_ble_eq_true rfl, Nat.le_of_ble_eq_true rfl⟩) hS (fun H locs hP hS => ?_)
        refine W.eq (g2 := F0 m 65 ls [.int ((tBegins (up2 (tTurn (tGo τ (inB (nI i) 0 15) true true) i 5) 13 i 0)) 5 i)]) rfl ?_
        have e8 : hFinish τ (nI i) gd = tBegins (up2 (tTurn (tGo τ (inB (nI i) 0 15) true true) i 5) 13 i 0) := by simp [hFinish, qFinish, bSt, tGo_r, tGo_0, up2_r, c_1, c_5, c_11, c_12, inB_15 hi, ix_nI (show i < 2147483648 by omega)]
        rw [← e8] at hP
        have e9 : ((tBegins (up2 (tTurn (tGo τ (inB (nI i) 0 15) true true) i 5) 13 i 0)) 5 i) = qFinish τ (nI i) gd := by simp [hFinish, qFinish, bSt, tGo_r, tGo_0, up2_r, c_1, c_5, c_11, c_12, inB_15 hi, ix_nI (show i < 2147483648 by omega)]
        exact W.iret (v := (tBegins (up2 (tTurn (tGo τ (inB (nI i) 0 15) true true) i 5) 13 i 0)) 5 i) hx hb hr (fun t ht hW => ⟨⟨_, (), rfl, e9, by rw [← ht] at hP; exact hP⟩, hS.F ht⟩) hS.2.2 dX4_finish_65
set_option maxHeartbeats 4000000 in
set_option maxRecDepth 100000 in
/-- retire -/
theorem c_X4_retire (l : Launch) (D : va_G) (cy : Nat → ClassId) (bd : Nat → Nat) (hj : injM bd) (τ : Mem) (za zb : Int32) (hw : WB τ 30000) (hF : FI τ) : Met l yX4_retire wsX4_retire ({ frames := 3, cells := 0, slots := 0, locals := 69 }) (va_Pc [.ref (bd 0), .int za, .int zb] (mw D cy bd τ)) (QV (va_P D vwCl (wM cy bd (hRetire τ za zb))) (AM bd)) 0 0 (AM bd) := by
  refine Met.ofW (cc := cX4_retire) (maxL := 4) (ret := none) (by decide) rfl ?_
  intro p e s m args below meth c s₁ B hml hv
  obtain ⟨rfl, hP, hK⟩ := hv
  have hx := B.exec
  have hb := B.bytes
  have hr := B.returns
  have hts := atoms_spec (ws := wsX4_retire) B.pre
  have hown : s.vm.findClass RX4 = some m.cls := findClass_of_methodNamed B.named
  have hlocks := B.notSynchronized
  have hf4 := fun (w : Cond) (h : w ∈ wsX40) => hts w ((by decide +kernel : ∀ w ∈ wsX40, w ∈ wsX4_retire) w h)
  have hD := wM_D (cy := cy) hj
  have hS : va_S (AM bd) s.heap s.heap [] := va_S.rf
  have hl := lv_entry ([.ref (bd 0), .int za, .int zb]) (n := 4) (Nat.le_of_ble_eq_true rfl)
  rw [lg_entry_eq]
  generalize (lg_sl ([.ref (bd 0), .int za, .int zb]) ++ List.replicate (4 - (lg_sl ([.ref (bd 0), .int za, .int zb])).length) Slot.unset).toArray = ls at hl ⊢
  have hl : lv_has ls 4 [(0, .ref (bd 0)), (1, .int za), (2, .int zb)] := hl
  refine lv_iload_n hx hb dX4_retire_0 rfl (lv_at hl 1 rfl) ?_
  refine cS (W.runS (As := [.int za]) (rest := []) ⟨hx, hb, hml, hown, hts⟩ (c_X4_isMachine l za) (va_cwS 1 hts gX4_retire_X4_isMachine rfl rfl rfl (by decide +kernel) ⟨Nat.le_of_ble_eq_true rfl, Nat.le_of_ble_eq_true rfl⟩) ⟨fun a U g mk h => h, fun U _ _ => ⟨rfl, trivial⟩⟩ rfl rfl hl.1 rfl (lv_room (Nat.le_of_ble_eq_true rfl)) dX4_retire_1 ⟨Nat.le_of_ble_eq_true rfl, Nat.le_of_ble_eq_true rfl⟩) (fun _ _ => ?_)
  refine W.eq (g2 := F0 m 4 ls [.int (b2i (inB za 0 15))]) rfl ?_
  refine lv_istore_n (lv' := [(3, .int (b2i (inB za 0 15))), (0, .ref (bd 0)), (1, .int za), (2, .int zb)]) hx hb dX4_retire_4 rfl hl (by decide) rfl (fun ls hl => ?_)
  refine lv_aload_n hx hb dX4_retire_5 rfl (lv_at hl 1 rfl) ?_
  refine lv_iload_n hx hb dX4_retire_6 rfl (lv_at hl 0 rfl) ?_
  refine lv_iload_n hx hb dX4_retire_7 rfl (lv_at hl 3 rfl) ?_
  refine lv_iconst (v := 0) hx hb dX4_retire_8 (by decide) ?_
  refine lv_bipush (v := 48) hx hb dX4_retire_9 (by decide) ?_
  refine cS (W.runS (As := [.int zb, .int 0, .int 48]) (rest := [.int (b2i (inB za 0 15)), .ref (bd 0)]) ⟨hx, hb, hml, hown, hts⟩ (c_X4_in l zb 0 48) (va_cwS 3 hts gX4_retire_X4_in rfl rfl rfl (by decide +kernel) ⟨Nat.le_of_ble_eq_true rfl, Nat.le_of_ble_eq_true rfl⟩) ⟨fun a U g mk h => h, fun U _ _ => ⟨rfl, trivial⟩⟩ rfl rfl hl.1 rfl (lv_room (Nat.le_of_ble_eq_true rfl)) dX4_retire_11 ⟨Nat.le_of_ble_eq_true rfl, Nat.le_of_ble_eq_true rfl⟩) (fun _ _ => ?_)
  refine W.eq (g2 := F0 m 14 ls [.int (b2i (inB zb 0 48)), .int (b2i (inB za 0 15)), .ref (bd 0)]) rfl ?_
  refine lv_iload_n hx hb dX4_retire_14 rfl (lv_at hl 0 rfl) ?_
  refine lv_if_eq (tgt := 32) hx hb dX4_retire_15 (by decide) (fun c_1 => ?_) (fun c_1 => ?_)
  · replace c_1 := b2i_0.mp c_1
    refine lv_iconst (v := 0) hx hb dX4_retire_32 (by decide) ?_
    refine W.eq (g2 := F0 m 33 ls [.int (b2i false), .int (b2i (inB zb 0 48)), .int (b2i (inB za 0 15)), .ref (bd 0)]) rfl ?_
    refine cMi (va_runV (As := [.int (b2i (inB za 0 15)), .int (b2i (inB zb 0 48)), .int (b2i false)]) (rest := []) ⟨hx, hb, hml, hown, hts⟩ (c_X4_goes l D cy bd hj τ (inB za 0 15) (inB zb 0 48) false) (cwV 3 hts gX4_retire_X4_goes rfl rfl rfl (by decide +kernel) ⟨Nat.le_of_ble_eq_true rfl, Nat.le_of_ble_eq_true rfl⟩) ⟨mw_bl, (mw_O hP hK), (mw_at hP hK)⟩ rfl rfl hl.1 rfl (lv_room (Nat.le_of_ble_eq_true rfl)) dX4_retire_33 ⟨Nat.le_of_ble_eq_true rfl, Nat.le_of_ble_eq_true rfl⟩) hS (fun H locs hP hS => ?_)
    refine W.eq (g2 := F0 m 36 ls [.int (b2i ((inB za 0 15) && (inB zb 0 48) && false))]) rfl ?_
    have hw2 : WB (tGo τ (inB za 0 15) (inB zb 0 48) false) 30000 := WB.go hw
    have hF3 : FI (tGo τ (inB za 0 15) (inB zb 0 48) false) := FI.go hF
    refine lv_if_ne (tgt := 40) hx hb dX4_retire_36 (by decide) (fun c_4 => absurd ((by simp [b2i, c_1] : (b2i ((inB za 0 15) && (inB zb 0 48) && false)) = 0)) c_4) (fun c_4 => ?_)
    have e8 : hRetire τ za zb = tGo τ (inB za 0 15) (inB zb 0 48) false := by simp [hRetire, bSt, tGoRe, tDrain, (by decide : inB 0 0 48 = true), tGo_r, tGo_0, up2_r, c_1, c_4]
    rw [← e8] at hP
    exact W.vret hx hb hr (fun t ht hW => ⟨⟨(), rfl, trivial, by rw [← ht] at hP; exact hP⟩, hS.F ht⟩) hS.2.2 dX4_retire_39
  · replace c_1 := b2i_n0.mp c_1
    obtain ⟨i, hi, rfl⟩ := of_15 c_1
    have hl : lv_has ls 4 [(3, .int (b2i (inB (nI i) 0 15))), (0, .ref (bd 0)), (1, .int (nI i)), (2, .int zb)] := hl
    refine lv_aload_n hx hb dX4_retire_18 rfl (lv_at hl 1 rfl) ?_
    refine rgO5 hx hb hf4 hown hK hP (hts (.fieldLink RX4 16 "MachineFoundryModel" "state" "[I") (by decide +kernel)) dX4_retire_19 ?_
    refine lv_iload_n hx hb dX4_retire_22 rfl (lv_at hl 2 rfl) ?_
    refine raO5 hx hb hK hP hi (rfl) dX4_retire_23 ?_
    refine lv_iconst (v := 5) hx hb dX4_retire_24 (by decide) ?_
    refine lv_icmp_ne (tgt := 32) hx hb dX4_retire_25 (by decide) (fun c_5 => ?_) (fun c_5 => ?_)
    · refine lv_iconst (v := 0) hx hb dX4_retire_32 (by decide) ?_
      refine W.eq (g2 := F0 m 33 ls [.int (b2i false), .int (b2i (inB zb 0 48)), .int (b2i (inB (nI i) 0 15)), .ref (bd 0)]) rfl ?_
      refine cMi (va_runV (As := [.int (b2i (inB (nI i) 0 15)), .int (b2i (inB zb 0 48)), .int (b2i false)]) (rest := []) ⟨hx, hb, hml, hown, hts⟩ (c_X4_goes l D cy bd hj τ (inB (nI i) 0 15) (inB zb 0 48) false) (cwV 3 hts gX4_retire_X4_goes rfl rfl rfl (by decide +kernel) ⟨Nat.le_of_ble_eq_true rfl, Nat.le_of_ble_eq_true rfl⟩) ⟨mw_bl, (mw_O hP hK), (mw_at hP hK)⟩ rfl rfl hl.1 rfl (lv_room (Nat.le_of_ble_eq_true rfl)) dX4_retire_33 ⟨Nat.le_of_ble_eq_true rfl, Nat.le_of_ble_eq_true rfl⟩) hS (fun H locs hP hS => ?_)
      refine W.eq (g2 := F0 m 36 ls [.int (b2i ((inB (nI i) 0 15) && (inB zb 0 48) && false))]) rfl ?_
      have hw6 : WB (tGo τ (inB (nI i) 0 15) (inB zb 0 48) false) 30000 := WB.go hw
      have hF7 : FI (tGo τ (inB (nI i) 0 15) (inB zb 0 48) false) := FI.go hF
      refine lv_if_ne (tgt := 40) hx hb dX4_retire_36 (by decide) (fun c_8 => absurd ((by simp [b2i, c_1, c_5, inB_15 hi, ix_nI (show i < 2147483648 by omega)] : (b2i ((inB (nI i) 0 15) && (inB zb 0 48) && false)) = 0)) c_8) (fun c_8 => ?_)
      have e8 : hRetire τ (nI i) zb = tGo τ (inB (nI i) 0 15) (inB zb 0 48) false := by simp [hRetire, bSt, tGoRe, tDrain, (by decide : inB 0 0 48 = true), tGo_r, tGo_0, up2_r, c_1, c_5, c_8, inB_15 hi, ix_nI (show i < 2147483648 by omega)]
      rw [← e8] at hP
      exact W.vret hx hb hr (fun t ht hW => ⟨⟨(), rfl, trivial, by rw [← ht] at hP; exact hP⟩, hS.F ht⟩) hS.2.2 dX4_retire_39
    · refine lv_iconst (v := 1) hx hb dX4_retire_28 (by decide) ?_
      refine lv_goto (tgt := 33) hx hb dX4_retire_29 (by decide) ?_
      refine W.eq (g2 := F0 m 33 ls [.int (b2i true), .int (b2i (inB zb 0 48)), .int (b2i (inB (nI i) 0 15)), .ref (bd 0)]) rfl ?_
      refine cMi (va_runV (As := [.int (b2i (inB (nI i) 0 15)), .int (b2i (inB zb 0 48)), .int (b2i true)]) (rest := []) ⟨hx, hb, hml, hown, hts⟩ (c_X4_goes l D cy bd hj τ (inB (nI i) 0 15) (inB zb 0 48) true) (cwV 3 hts gX4_retire_X4_goes rfl rfl rfl (by decide +kernel) ⟨Nat.le_of_ble_eq_true rfl, Nat.le_of_ble_eq_true rfl⟩) ⟨mw_bl, (mw_O hP hK), (mw_at hP hK)⟩ rfl rfl hl.1 rfl (lv_room (Nat.le_of_ble_eq_true rfl)) dX4_retire_33 ⟨Nat.le_of_ble_eq_true rfl, Nat.le_of_ble_eq_true rfl⟩) hS (fun H locs hP hS => ?_)
      refine W.eq (g2 := F0 m 36 ls [.int (b2i ((inB (nI i) 0 15) && (inB zb 0 48) && true))]) rfl ?_
      have hw9 : WB (tGo τ (inB (nI i) 0 15) (inB zb 0 48) true) 30000 := WB.go hw
      have hF10 : FI (tGo τ (inB (nI i) 0 15) (inB zb 0 48) true) := FI.go hF
      refine lv_if_ne (tgt := 40) hx hb dX4_retire_36 (by decide) (fun c_11 => ?_) (fun c_11 => ?_)
      · replace c_11 := b2i_n0.mp c_11
        have g_12 : (inB zb 0 48) = true := by have h9 := c_11; simp at h9; simp [h9]
        refine lv_iload_n hx hb dX4_retire_40 rfl (lv_at hl 3 rfl) ?_
        refine lv_if_ne (tgt := 52) hx hb dX4_retire_41 (by decide) (fun c_13 => ?_) (fun c_13 => ?_)
        · refine lv_aload_n hx hb dX4_retire_52 rfl (lv_at hl 1 rfl) ?_
          refine lv_iload_n hx hb dX4_retire_53 rfl (lv_at hl 2 rfl) ?_
          refine lv_bipush (v := 6) hx hb dX4_retire_54 (by decide) ?_
          have hw14 : WB (tTurn (tGo τ (inB (nI i) 0 15) (inB zb 0 48) true) i 6) 29999 := WB.turn hw9
          refine cMv (va_runV (As := [.int (nI i), .int 6]) (rest := []) ⟨hx, hb, hml, hown, hts⟩ (c_X4_turns l D cy bd hj (tGo τ (inB (nI i) 0 15) (inB zb 0 48) true) i hi 6 (WB.nn hw9)) (cwV 2 hts gX4_retire_X4_turns rfl rfl rfl (by decide +kernel) ⟨Nat.le_of_ble_eq_true rfl, Nat.le_of_ble_eq_true rfl⟩) ⟨mw_bl, (mw_O hP hK), (mw_at hP hK)⟩ rfl rfl hl.1 rfl (lv_room (Nat.le_of_ble_eq_true rfl)) dX4_retire_56 ⟨Nat.le_of_ble_eq_true rfl, Nat.le_of_ble_eq_true rfl⟩) hS (fun H locs hP hS => ?_)
          refine W.eq (g2 := F0 m 59 ls []) rfl ?_
          refine lv_aload_n hx hb dX4_retire_59 rfl (lv_at hl 1 rfl) ?_
          refine rgO12 hx hb hf4 hown hK hP (hts (.fieldLink RX4 38 "MachineFoundryModel" "end" "[I") (by decide +kernel)) dX4_retire_60 ?_
          refine lv_iload_n hx hb dX4_retire_63 rfl (lv_at hl 2 rfl) ?_
          refine lv_aload_n hx hb dX4_retire_64 rfl (lv_at hl 1 rfl) ?_
          refine rgO0 hx hb hf4 hown hK hP (hts (.fieldLink RX4 96 "MachineFoundryModel" "now" "I") (by decide +kernel)) (rfl) dX4_retire_65 ?_
          refine lv_iload_n hx hb dX4_retire_68 rfl (lv_at hl 3 rfl) ?_
          refine lv_iadd hx hb dX4_retire_69 ?_
          refine rsO12 hx hb hK hP hD hS hi dX4_retire_70 (fun H locs hP hS => ?_)
          refine lv_aload_n hx hb dX4_retire_71 rfl (lv_at hl 1 rfl) ?_
          refine cMv (va_runV (As := []) (rest := []) ⟨hx, hb, hml, hown, hts⟩ (c_X4_begins l D cy bd hj (up2 (tTurn (tGo τ (inB (nI i) 0 15) (inB zb 0 48) true) i 6) 12 i (((tTurn (tGo τ (inB (nI i) 0 15) (inB zb 0 48) true) i 6) 0 0) + zb)) (WB.le (WB.cong hw14 (by simp [up2])) (by omega))) (cwV 0 hts gX4_retire_X4_begins rfl rfl rfl (by decide +kernel) ⟨Nat.le_of_ble_eq_true rfl, Nat.le_of_ble_eq_true rfl⟩) ⟨mw_bl, (mw_O hP hK), (mw_at hP hK)⟩ rfl rfl hl.1 rfl (lv_room (Nat.le_of_ble_eq_true rfl)) dX4_retire_72 ⟨Nat.le_of_ble_eq_true rfl, Nat.le_of_ble_eq_true rfl⟩) hS (fun H locs hP hS => ?_)
          refine W.eq (g2 := F0 m 75 ls []) rfl ?_
          have e8 : hRetire τ (nI i) zb = tBegins (up2 (tTurn (tGo τ (inB (nI i) 0 15) (inB zb 0 48) true) i 6) 12 i (((tTurn (tGo τ (inB (nI i) 0 15) (inB zb 0 48) true) i 6) 0 0) + zb)) := by simp [hRetire, bSt, tGoRe, tDrain, (by decide : inB 0 0 48 = true), tGo_r, tGo_0, up2_r, c_1, c_5, c_11, g_12, c_13, inB_15 hi, ix_nI (show i < 2147483648 by omega)]
          rw [← e8] at hP
          exact W.vret hx hb hr (fun t ht hW => ⟨⟨(), rfl, trivial, by rw [← ht] at hP; exact hP⟩, hS.F ht⟩) hS.2.2 dX4_retire_75
        · refine lv_aload_n hx hb dX4_retire_44 rfl (lv_at hl 1 rfl) ?_
          refine lv_iload_n hx hb dX4_retire_45 rfl (lv_at hl 2 rfl) ?_
          have hw15 : WB (tWiped (tGo τ (inB (nI i) 0 15) (inB zb 0 48) true) i) 29999 := WB.wiped hw9
          refine cMv (va_runV (As := [.int (nI i)]) (rest := []) ⟨hx, hb, hml, hown, hts⟩ (c_X4_wiped l D cy bd hj (tGo τ (inB (nI i) 0 15) (inB zb 0 48) true) i hi (WB.nn hw9)) (cwV 1 hts gX4_retire_X4_wiped rfl rfl rfl (by decide +kernel) ⟨Nat.le_of_ble_eq_true rfl, Nat.le_of_ble_eq_true rfl⟩) ⟨mw_bl, (mw_O hP hK), (mw_at hP hK)⟩ rfl rfl hl.1 rfl (lv_room (Nat.le_of_ble_eq_true rfl)) dX4_retire_46 ⟨Nat.le_of_ble_eq_true rfl, Nat.le_of_ble_eq_true rfl⟩) hS (fun H locs hP hS => ?_)
          refine W.eq (g2 := F0 m 49 ls []) rfl ?_
          refine lv_goto (tgt := 71) hx hb dX4_retire_49 (by decide) ?_
          refine lv_aload_n hx hb dX4_retire_71 rfl (lv_at hl 1 rfl) ?_
          refine cMv (va_runV (As := []) (rest := []) ⟨hx, hb, hml, hown, hts⟩ (c_X4_begins l D cy bd hj (tWiped (tGo τ (inB (nI i) 0 15) (inB zb 0 48) true) i) (WB.le hw15 (by omega))) (cwV 0 hts gX4_retire_X4_begins rfl rfl rfl (by decide +kernel) ⟨Nat.le_of_ble_eq_true rfl, Nat.le_of_ble_eq_true rfl⟩) ⟨mw_bl, (mw_O hP hK), (mw_at hP hK)⟩ rfl rfl hl.1 rfl (lv_room (Nat.le_of_ble_eq_true rfl)) dX4_retire_72 ⟨Nat.le_of_ble_eq_true rfl, Nat.le_of_ble_eq_true rfl⟩) hS (fun H locs hP hS => ?_)
          refine W.eq (g2 := F0 m 75 ls []) rfl ?_
          have e8 : hRetire τ (nI i) zb = tBegins (tWiped (tGo τ (inB (nI i) 0 15) (inB zb 0 48) true) i) := by simp [hRetire, bSt, tGoRe, tDrain, (by decide : inB 0 0 48 = true), tGo_r, tGo_0, up2_r, c_1, c_5, c_11, g_12, c_13, inB_15 hi, ix_nI (show i < 2147483648 by omega)]
          rw [← e8] at hP
          exact W.vret hx hb hr (fun t ht hW => ⟨⟨(), rfl, trivial, by rw [← ht] at hP; exact hP⟩, hS.F ht⟩) hS.2.2 dX4_retire_75
      · replace c_11 := b2i_0.mp c_11
        have g_16 : (inB zb 0 48) = false := by simpa [inB_15 hi, ix_nI (show i < 2147483648 by omega), c_1, c_5] using c_11
        have e8 : hRetire τ (nI i) zb = tGo τ (inB (nI i) 0 15) (inB zb 0 48) true := by simp [hRetire, bSt, tGoRe, tDrain, (by decide : inB 0 0 48 = true), tGo_r, tGo_0, up2_r, c_1, c_5, c_11, g_16, inB_15 hi, ix_nI (show i < 2147483648 by omega)]
        rw [← e8] at hP
        exact W.vret hx hb hr (fun t ht hW => ⟨⟨(), rfl, trivial, by rw [← ht] at hP; exact hP⟩, hS.F ht⟩) hS.2.2 dX4_retire_39
set_option maxHeartbeats 4000000 in
set_option maxRecDepth 100000 in
/-- keep -/
theorem c_X4_keep (l : Launch) (D : va_G) (cy : Nat → ClassId) (bd : Nat → Nat) (hj : injM bd) (τ : Mem) (za : Int32) (hw : WB τ 30000) (hF : FI τ) : Met l yX4_keep wsX4_keep ({ frames := 3, cells := 0, slots := 0, locals := 69 }) (va_Pc [.ref (bd 0), .int za] (mw D cy bd τ)) (QV (va_P D vwCl (wM cy bd (hKeep τ za))) (AM bd)) 0 0 (AM bd) := by
  refine Met.ofW (cc := cX4_keep) (maxL := 3) (ret := none) (by decide) rfl ?_
  intro p e s m args below meth c s₁ B hml hv
  obtain ⟨rfl, hP, hK⟩ := hv
  have hx := B.exec
  have hb := B.bytes
  have hr := B.returns
  have hts := atoms_spec (ws := wsX4_keep) B.pre
  have hown : s.vm.findClass RX4 = some m.cls := findClass_of_methodNamed B.named
  have hlocks := B.notSynchronized
  have hf4 := fun (w : Cond) (h : w ∈ wsX40) => hts w ((by decide +kernel : ∀ w ∈ wsX40, w ∈ wsX4_keep) w h)
  have hD := wM_D (cy := cy) hj
  have hS : va_S (AM bd) s.heap s.heap [] := va_S.rf
  have hl := lv_entry ([.ref (bd 0), .int za]) (n := 3) (Nat.le_of_ble_eq_true rfl)
  rw [lg_entry_eq]
  generalize (lg_sl ([.ref (bd 0), .int za]) ++ List.replicate (3 - (lg_sl ([.ref (bd 0), .int za])).length) Slot.unset).toArray = ls at hl ⊢
  have hl : lv_has ls 3 [(0, .ref (bd 0)), (1, .int za)] := hl
  refine lv_iload_n hx hb dX4_keep_0 rfl (lv_at hl 1 rfl) ?_
  refine cS (W.runS (As := [.int za]) (rest := []) ⟨hx, hb, hml, hown, hts⟩ (c_X4_isMachine l za) (va_cwS 1 hts gX4_keep_X4_isMachine rfl rfl rfl (by decide +kernel) ⟨Nat.le_of_ble_eq_true rfl, Nat.le_of_ble_eq_true rfl⟩) ⟨fun a U g mk h => h, fun U _ _ => ⟨rfl, trivial⟩⟩ rfl rfl hl.1 rfl (lv_room (Nat.le_of_ble_eq_true rfl)) dX4_keep_1 ⟨Nat.le_of_ble_eq_true rfl, Nat.le_of_ble_eq_true rfl⟩) (fun _ _ => ?_)
  refine W.eq (g2 := F0 m 4 ls [.int (b2i (inB za 0 15))]) rfl ?_
  refine lv_istore_n (lv' := [(2, .int (b2i (inB za 0 15))), (0, .ref (bd 0)), (1, .int za)]) hx hb dX4_keep_4 rfl hl (by decide) rfl (fun ls hl => ?_)
  refine lv_aload_n hx hb dX4_keep_5 rfl (lv_at hl 1 rfl) ?_
  refine lv_iload_n hx hb dX4_keep_6 rfl (lv_at hl 0 rfl) ?_
  refine lv_iload_n hx hb dX4_keep_7 rfl (lv_at hl 0 rfl) ?_
  refine lv_if_eq (tgt := 26) hx hb dX4_keep_8 (by decide) (fun c_1 => ?_) (fun c_1 => ?_)
  · replace c_1 := b2i_0.mp c_1
    refine lv_iconst (v := 0) hx hb dX4_keep_26 (by decide) ?_
    refine lv_iconst (v := 1) hx hb dX4_keep_27 (by decide) ?_
    refine W.eq (g2 := F0 m 28 ls [.int (b2i true), .int (b2i false), .int (b2i (inB za 0 15)), .ref (bd 0)]) rfl ?_
    refine cMi (va_runV (As := [.int (b2i (inB za 0 15)), .int (b2i false), .int (b2i true)]) (rest := []) ⟨hx, hb, hml, hown, hts⟩ (c_X4_goes l D cy bd hj τ (inB za 0 15) false true) (cwV 3 hts gX4_keep_X4_goes rfl rfl rfl (by decide +kernel) ⟨Nat.le_of_ble_eq_true rfl, Nat.le_of_ble_eq_true rfl⟩) ⟨mw_bl, (mw_O hP hK), (mw_at hP hK)⟩ rfl rfl hl.1 rfl (lv_room (Nat.le_of_ble_eq_true rfl)) dX4_keep_28 ⟨Nat.le_of_ble_eq_true rfl, Nat.le_of_ble_eq_true rfl⟩) hS (fun H locs hP hS => ?_)
    refine W.eq (g2 := F0 m 31 ls [.int (b2i ((inB za 0 15) && false && true))]) rfl ?_
    have hw2 : WB (tGo τ (inB za 0 15) false true) 30000 := WB.go hw
    have hF3 : FI (tGo τ (inB za 0 15) false true) := FI.go hF
    refine lv_if_eq (tgt := 44) hx hb dX4_keep_31 (by decide) (fun c_4 => ?_) (fun c_4 => absurd ((by simp [b2i, c_1] : (b2i ((inB za 0 15) && false && true)) = 0)) c_4)
    have e8 : hKeep τ za = tGo τ (inB za 0 15) false true := by simp [hKeep, bSt, tGo_r, tGo_0, up2_r, c_1, c_4]
    rw [← e8] at hP
    exact W.vret hx hb hr (fun t ht hW => ⟨⟨(), rfl, trivial, by rw [← ht] at hP; exact hP⟩, hS.F ht⟩) hS.2.2 dX4_keep_44
  · replace c_1 := b2i_n0.mp c_1
    obtain ⟨i, hi, rfl⟩ := of_15 c_1
    have hl : lv_has ls 3 [(2, .int (b2i (inB (nI i) 0 15))), (0, .ref (bd 0)), (1, .int (nI i))] := hl
    refine lv_aload_n hx hb dX4_keep_11 rfl (lv_at hl 1 rfl) ?_
    refine rgO5 hx hb hf4 hown hK hP (hts (.fieldLink RX4 16 "MachineFoundryModel" "state" "[I") (by decide +kernel)) dX4_keep_12 ?_
    refine lv_iload_n hx hb dX4_keep_15 rfl (lv_at hl 2 rfl) ?_
    refine raO5 hx hb hK hP hi (rfl) dX4_keep_16 ?_
    refine lv_bipush (v := 6) hx hb dX4_keep_17 (by decide) ?_
    refine lv_icmp_ne (tgt := 26) hx hb dX4_keep_19 (by decide) (fun c_5 => ?_) (fun c_5 => ?_)
    · refine lv_iconst (v := 0) hx hb dX4_keep_26 (by decide) ?_
      refine lv_iconst (v := 1) hx hb dX4_keep_27 (by decide) ?_
      refine W.eq (g2 := F0 m 28 ls [.int (b2i true), .int (b2i false), .int (b2i (inB (nI i) 0 15)), .ref (bd 0)]) rfl ?_
      refine cMi (va_runV (As := [.int (b2i (inB (nI i) 0 15)), .int (b2i false), .int (b2i true)]) (rest := []) ⟨hx, hb, hml, hown, hts⟩ (c_X4_goes l D cy bd hj τ (inB (nI i) 0 15) false true) (cwV 3 hts gX4_keep_X4_goes rfl rfl rfl (by decide +kernel) ⟨Nat.le_of_ble_eq_true rfl, Nat.le_of_ble_eq_true rfl⟩) ⟨mw_bl, (mw_O hP hK), (mw_at hP hK)⟩ rfl rfl hl.1 rfl (lv_room (Nat.le_of_ble_eq_true rfl)) dX4_keep_28 ⟨Nat.le_of_ble_eq_true rfl, Nat.le_of_ble_eq_true rfl⟩) hS (fun H locs hP hS => ?_)
      refine W.eq (g2 := F0 m 31 ls [.int (b2i ((inB (nI i) 0 15) && false && true))]) rfl ?_
      have hw6 : WB (tGo τ (inB (nI i) 0 15) false true) 30000 := WB.go hw
      have hF7 : FI (tGo τ (inB (nI i) 0 15) false true) := FI.go hF
      refine lv_if_eq (tgt := 44) hx hb dX4_keep_31 (by decide) (fun c_8 => ?_) (fun c_8 => absurd ((by simp [b2i, c_1, c_5, inB_15 hi, ix_nI (show i < 2147483648 by omega)] : (b2i ((inB (nI i) 0 15) && false && true)) = 0)) c_8)
      have e8 : hKeep τ (nI i) = tGo τ (inB (nI i) 0 15) false true := by simp [hKeep, bSt, tGo_r, tGo_0, up2_r, c_1, c_5, c_8, inB_15 hi, ix_nI (show i < 2147483648 by omega)]
      rw [← e8] at hP
      exact W.vret hx hb hr (fun t ht hW => ⟨⟨(), rfl, trivial, by rw [← ht] at hP; exact hP⟩, hS.F ht⟩) hS.2.2 dX4_keep_44
    · refine lv_iconst (v := 1) hx hb dX4_keep_22 (by decide) ?_
      refine lv_goto (tgt := 27) hx hb dX4_keep_23 (by decide) ?_
      refine lv_iconst (v := 1) hx hb dX4_keep_27 (by decide) ?_
      refine W.eq (g2 := F0 m 28 ls [.int (b2i true), .int (b2i true), .int (b2i (inB (nI i) 0 15)), .ref (bd 0)]) rfl ?_
      refine cMi (va_runV (As := [.int (b2i (inB (nI i) 0 15)), .int (b2i true), .int (b2i true)]) (rest := []) ⟨hx, hb, hml, hown, hts⟩ (c_X4_goes l D cy bd hj τ (inB (nI i) 0 15) true true) (cwV 3 hts gX4_keep_X4_goes rfl rfl rfl (by decide +kernel) ⟨Nat.le_of_ble_eq_true rfl, Nat.le_of_ble_eq_true rfl⟩) ⟨mw_bl, (mw_O hP hK), (mw_at hP hK)⟩ rfl rfl hl.1 rfl (lv_room (Nat.le_of_ble_eq_true rfl)) dX4_keep_28 ⟨Nat.le_of_ble_eq_true rfl, Nat.le_of_ble_eq_true rfl⟩) hS (fun H locs hP hS => ?_)
      refine W.eq (g2 := F0 m 31 ls [.int (b2i ((inB (nI i) 0 15) && true && true))]) rfl ?_
      have hw9 : WB (tGo τ (inB (nI i) 0 15) true true) 30000 := WB.go hw
      have hF10 : FI (tGo τ (inB (nI i) 0 15) true true) := FI.go hF
      refine lv_if_eq (tgt := 44) hx hb dX4_keep_31 (by decide) (fun c_11 => absurd c_11 ((by simp [b2i, c_1, c_5, inB_15 hi, ix_nI (show i < 2147483648 by omega)] : ¬ (b2i ((inB (nI i) 0 15) && true && true)) = 0))) (fun c_11 => ?_)
      refine lv_aload_n hx hb dX4_keep_34 rfl (lv_at hl 1 rfl) ?_
      refine lv_iload_n hx hb dX4_keep_35 rfl (lv_at hl 2 rfl) ?_
      refine lv_iconst (v := 5) hx hb dX4_keep_36 (by decide) ?_
      have hw12 : WB (tTurn (tGo τ (inB (nI i) 0 15) true true) i 5) 29999 := WB.turn hw9
      refine cMv (va_runV (As := [.int (nI i), .int 5]) (rest := []) ⟨hx, hb, hml, hown, hts⟩ (c_X4_turns l D cy bd hj (tGo τ (inB (nI i) 0 15) true true) i hi 5 (WB.nn hw9)) (cwV 2 hts gX4_keep_X4_turns rfl rfl rfl (by decide +kernel) ⟨Nat.le_of_ble_eq_true rfl, Nat.le_of_ble_eq_true rfl⟩) ⟨mw_bl, (mw_O hP hK), (mw_at hP hK)⟩ rfl rfl hl.1 rfl (lv_room (Nat.le_of_ble_eq_true rfl)) dX4_keep_37 ⟨Nat.le_of_ble_eq_true rfl, Nat.le_of_ble_eq_true rfl⟩) hS (fun H locs hP hS => ?_)
      refine W.eq (g2 := F0 m 40 ls []) rfl ?_
      refine lv_aload_n hx hb dX4_keep_40 rfl (lv_at hl 1 rfl) ?_
      refine cMv (va_runV (As := []) (rest := []) ⟨hx, hb, hml, hown, hts⟩ (c_X4_begins l D cy bd hj (tTurn (tGo τ (inB (nI i) 0 15) true true) i 5) (WB.le hw12 (by omega))) (cwV 0 hts gX4_keep_X4_begins rfl rfl rfl (by decide +kernel) ⟨Nat.le_of_ble_eq_true rfl, Nat.le_of_ble_eq_true rfl⟩) ⟨mw_bl, (mw_O hP hK), (mw_at hP hK)⟩ rfl rfl hl.1 rfl (lv_room (Nat.le_of_ble_eq_true rfl)) dX4_keep_41 ⟨Nat.le_of_ble_eq_true rfl, Nat.le_of_ble_eq_true rfl⟩) hS (fun H locs hP hS => ?_)
      refine W.eq (g2 := F0 m 44 ls []) rfl ?_
      have e8 : hKeep τ (nI i) = tBegins (tTurn (tGo τ (inB (nI i) 0 15) true true) i 5) := by simp [hKeep, bSt, tGo_r, tGo_0, up2_r, c_1, c_5, c_11, inB_15 hi, ix_nI (show i < 2147483648 by omega)]
      rw [← e8] at hP
      exact W.vret hx hb hr (fun t ht hW => ⟨⟨(), rfl, trivial, by rw [← ht] at hP; exact hP⟩, hS.F ht⟩) hS.2.2 dX4_keep_44
set_option maxHeartbeats 4000000 in
set_option maxRecDepth 100000 in
/-- release -/
theorem c_X4_release (l : Launch) (D : va_G) (cy : Nat → ClassId) (bd : Nat → Nat) (hj : injM bd) (τ : Mem) (za : Int32) (hw : WB τ 30000) (hF : FI τ) : Met l yX4_release wsX4_release ({ frames := 3, cells := 0, slots := 0, locals := 69 }) (va_Pc [.ref (bd 0), .int za] (mw D cy bd τ)) (QV (va_P D vwCl (wM cy bd (hRelease τ za))) (AM bd)) 0 0 (AM bd) := by
  refine Met.ofW (cc := cX4_release) (maxL := 3) (ret := none) (by decide) rfl ?_
  intro p e s m args below meth c s₁ B hml hv
  obtain ⟨rfl, hP, hK⟩ := hv
  have hx := B.exec
  have hb := B.bytes
  have hr := B.returns
  have hts := atoms_spec (ws := wsX4_release) B.pre
  have hown : s.vm.findClass RX4 = some m.cls := findClass_of_methodNamed B.named
  have hlocks := B.notSynchronized
  have hf4 := fun (w : Cond) (h : w ∈ wsX40) => hts w ((by decide +kernel : ∀ w ∈ wsX40, w ∈ wsX4_release) w h)
  have hD := wM_D (cy := cy) hj
  have hS : va_S (AM bd) s.heap s.heap [] := va_S.rf
  have hl := lv_entry ([.ref (bd 0), .int za]) (n := 3) (Nat.le_of_ble_eq_true rfl)
  rw [lg_entry_eq]
  generalize (lg_sl ([.ref (bd 0), .int za]) ++ List.replicate (3 - (lg_sl ([.ref (bd 0), .int za])).length) Slot.unset).toArray = ls at hl ⊢
  have hl : lv_has ls 3 [(0, .ref (bd 0)), (1, .int za)] := hl
  refine lv_iload_n hx hb dX4_release_0 rfl (lv_at hl 1 rfl) ?_
  refine cS (W.runS (As := [.int za]) (rest := []) ⟨hx, hb, hml, hown, hts⟩ (c_X4_isMachine l za) (va_cwS 1 hts gX4_release_X4_isMachine rfl rfl rfl (by decide +kernel) ⟨Nat.le_of_ble_eq_true rfl, Nat.le_of_ble_eq_true rfl⟩) ⟨fun a U g mk h => h, fun U _ _ => ⟨rfl, trivial⟩⟩ rfl rfl hl.1 rfl (lv_room (Nat.le_of_ble_eq_true rfl)) dX4_release_1 ⟨Nat.le_of_ble_eq_true rfl, Nat.le_of_ble_eq_true rfl⟩) (fun _ _ => ?_)
  refine W.eq (g2 := F0 m 4 ls [.int (b2i (inB za 0 15))]) rfl ?_
  refine lv_istore_n (lv' := [(2, .int (b2i (inB za 0 15))), (0, .ref (bd 0)), (1, .int za)]) hx hb dX4_release_4 rfl hl (by decide) rfl (fun ls hl => ?_)
  refine lv_aload_n hx hb dX4_release_5 rfl (lv_at hl 1 rfl) ?_
  refine lv_iload_n hx hb dX4_release_6 rfl (lv_at hl 0 rfl) ?_
  refine lv_iload_n hx hb dX4_release_7 rfl (lv_at hl 0 rfl) ?_
  refine lv_if_eq (tgt := 26) hx hb dX4_release_8 (by decide) (fun c_1 => ?_) (fun c_1 => ?_)
  · replace c_1 := b2i_0.mp c_1
    refine lv_iconst (v := 0) hx hb dX4_release_26 (by decide) ?_
    refine lv_iconst (v := 1) hx hb dX4_release_27 (by decide) ?_
    refine W.eq (g2 := F0 m 28 ls [.int (b2i true), .int (b2i false), .int (b2i (inB za 0 15)), .ref (bd 0)]) rfl ?_
    refine cMi (va_runV (As := [.int (b2i (inB za 0 15)), .int (b2i false), .int (b2i true)]) (rest := []) ⟨hx, hb, hml, hown, hts⟩ (c_X4_goes l D cy bd hj τ (inB za 0 15) false true) (cwV 3 hts gX4_release_X4_goes rfl rfl rfl (by decide +kernel) ⟨Nat.le_of_ble_eq_true rfl, Nat.le_of_ble_eq_true rfl⟩) ⟨mw_bl, (mw_O hP hK), (mw_at hP hK)⟩ rfl rfl hl.1 rfl (lv_room (Nat.le_of_ble_eq_true rfl)) dX4_release_28 ⟨Nat.le_of_ble_eq_true rfl, Nat.le_of_ble_eq_true rfl⟩) hS (fun H locs hP hS => ?_)
    refine W.eq (g2 := F0 m 31 ls [.int (b2i ((inB za 0 15) && false && true))]) rfl ?_
    have hw2 : WB (tGo τ (inB za 0 15) false true) 30000 := WB.go hw
    have hF3 : FI (tGo τ (inB za 0 15) false true) := FI.go hF
    refine lv_if_eq (tgt := 51) hx hb dX4_release_31 (by decide) (fun c_4 => ?_) (fun c_4 => absurd ((by simp [b2i, c_1] : (b2i ((inB za 0 15) && false && true)) = 0)) c_4)
    have e8 : hRelease τ za = tGo τ (inB za 0 15) false true := by simp [hRelease, bSt, tGo_r, tGo_0, up2_r, c_1, c_4]
    rw [← e8] at hP
    exact W.vret hx hb hr (fun t ht hW => ⟨⟨(), rfl, trivial, by rw [← ht] at hP; exact hP⟩, hS.F ht⟩) hS.2.2 dX4_release_51
  · replace c_1 := b2i_n0.mp c_1
    obtain ⟨i, hi, rfl⟩ := of_15 c_1
    have hl : lv_has ls 3 [(2, .int (b2i (inB (nI i) 0 15))), (0, .ref (bd 0)), (1, .int (nI i))] := hl
    refine lv_aload_n hx hb dX4_release_11 rfl (lv_at hl 1 rfl) ?_
    refine rgO5 hx hb hf4 hown hK hP (hts (.fieldLink RX4 16 "MachineFoundryModel" "state" "[I") (by decide +kernel)) dX4_release_12 ?_
    refine lv_iload_n hx hb dX4_release_15 rfl (lv_at hl 2 rfl) ?_
    refine raO5 hx hb hK hP hi (rfl) dX4_release_16 ?_
    refine lv_bipush (v := 7) hx hb dX4_release_17 (by decide) ?_
    refine lv_icmp_ne (tgt := 26) hx hb dX4_release_19 (by decide) (fun c_5 => ?_) (fun c_5 => ?_)
    · refine lv_iconst (v := 0) hx hb dX4_release_26 (by decide) ?_
      refine lv_iconst (v := 1) hx hb dX4_release_27 (by decide) ?_
      refine W.eq (g2 := F0 m 28 ls [.int (b2i true), .int (b2i false), .int (b2i (inB (nI i) 0 15)), .ref (bd 0)]) rfl ?_
      refine cMi (va_runV (As := [.int (b2i (inB (nI i) 0 15)), .int (b2i false), .int (b2i true)]) (rest := []) ⟨hx, hb, hml, hown, hts⟩ (c_X4_goes l D cy bd hj τ (inB (nI i) 0 15) false true) (cwV 3 hts gX4_release_X4_goes rfl rfl rfl (by decide +kernel) ⟨Nat.le_of_ble_eq_true rfl, Nat.le_of_ble_eq_true rfl⟩) ⟨mw_bl, (mw_O hP hK), (mw_at hP hK)⟩ rfl rfl hl.1 rfl (lv_room (Nat.le_of_ble_eq_true rfl)) dX4_release_28 ⟨Nat.le_of_ble_eq_true rfl, Nat.le_of_ble_eq_true rfl⟩) hS (fun H locs hP hS => ?_)
      refine W.eq (g2 := F0 m 31 ls [.int (b2i ((inB (nI i) 0 15) && false && true))]) rfl ?_
      have hw6 : WB (tGo τ (inB (nI i) 0 15) false true) 30000 := WB.go hw
      have hF7 : FI (tGo τ (inB (nI i) 0 15) false true) := FI.go hF
      refine lv_if_eq (tgt := 51) hx hb dX4_release_31 (by decide) (fun c_8 => ?_) (fun c_8 => absurd ((by simp [b2i, c_1, c_5, inB_15 hi, ix_nI (show i < 2147483648 by omega)] : (b2i ((inB (nI i) 0 15) && false && true)) = 0)) c_8)
      have e8 : hRelease τ (nI i) = tGo τ (inB (nI i) 0 15) false true := by simp [hRelease, bSt, tGo_r, tGo_0, up2_r, c_1, c_5, c_8, inB_15 hi, ix_nI (show i < 2147483648 by omega)]
      rw [← e8] at hP
      exact W.vret hx hb hr (fun t ht hW => ⟨⟨(), rfl, trivial, by rw [← ht] at hP; exact hP⟩, hS.F ht⟩) hS.2.2 dX4_release_51
    · refine lv_iconst (v := 1) hx hb dX4_release_22 (by decide) ?_
      refine lv_goto (tgt := 27) hx hb dX4_release_23 (by decide) ?_
      refine lv_iconst (v := 1) hx hb dX4_release_27 (by decide) ?_
      refine W.eq (g2 := F0 m 28 ls [.int (b2i true), .int (b2i true), .int (b2i (inB (nI i) 0 15)), .ref (bd 0)]) rfl ?_
      refine cMi (va_runV (As := [.int (b2i (inB (nI i) 0 15)), .int (b2i true), .int (b2i true)]) (rest := []) ⟨hx, hb, hml, hown, hts⟩ (c_X4_goes l D cy bd hj τ (inB (nI i) 0 15) true true) (cwV 3 hts gX4_release_X4_goes rfl rfl rfl (by decide +kernel) ⟨Nat.le_of_ble_eq_true rfl, Nat.le_of_ble_eq_true rfl⟩) ⟨mw_bl, (mw_O hP hK), (mw_at hP hK)⟩ rfl rfl hl.1 rfl (lv_room (Nat.le_of_ble_eq_true rfl)) dX4_release_28 ⟨Nat.le_of_ble_eq_true rfl, Nat.le_of_ble_eq_true rfl⟩) hS (fun H locs hP hS => ?_)
      refine W.eq (g2 := F0 m 31 ls [.int (b2i ((inB (nI i) 0 15) && true && true))]) rfl ?_
      have hw9 : WB (tGo τ (inB (nI i) 0 15) true true) 30000 := WB.go hw
      have hF10 : FI (tGo τ (inB (nI i) 0 15) true true) := FI.go hF
      refine lv_if_eq (tgt := 51) hx hb dX4_release_31 (by decide) (fun c_11 => absurd c_11 ((by simp [b2i, c_1, c_5, inB_15 hi, ix_nI (show i < 2147483648 by omega)] : ¬ (b2i ((inB (nI i) 0 15) && true && true)) = 0))) (fun c_11 => ?_)
      refine lv_aload_n hx hb dX4_release_34 rfl (lv_at hl 1 rfl) ?_
      refine lv_iload_n hx hb dX4_release_35 rfl (lv_at hl 2 rfl) ?_
      refine lv_iconst (v := 1) hx hb dX4_release_36 (by decide) ?_
      have hw12 : WB (tTurn (tGo τ (inB (nI i) 0 15) true true) i 1) 29999 := WB.turn hw9
      refine cMv (va_runV (As := [.int (nI i), .int 1]) (rest := []) ⟨hx, hb, hml, hown, hts⟩ (c_X4_turns l D cy bd hj (tGo τ (inB (nI i) 0 15) true true) i hi 1 (WB.nn hw9)) (cwV 2 hts gX4_release_X4_turns rfl rfl rfl (by decide +kernel) ⟨Nat.le_of_ble_eq_true rfl, Nat.le_of_ble_eq_true rfl⟩) ⟨mw_bl, (mw_O hP hK), (mw_at hP hK)⟩ rfl rfl hl.1 rfl (lv_room (Nat.le_of_ble_eq_true rfl)) dX4_release_37 ⟨Nat.le_of_ble_eq_true rfl, Nat.le_of_ble_eq_true rfl⟩) hS (fun H locs hP hS => ?_)
      refine W.eq (g2 := F0 m 40 ls []) rfl ?_
      refine lv_aload_n hx hb dX4_release_40 rfl (lv_at hl 1 rfl) ?_
      refine rgO13 hx hb hf4 hown hK hP (hts (.fieldLink RX4 41 "MachineFoundryModel" "failures" "[I") (by decide +kernel)) dX4_release_41 ?_
      refine lv_iload_n hx hb dX4_release_44 rfl (lv_at hl 2 rfl) ?_
      refine lv_iconst (v := 0) hx hb dX4_release_45 (by decide) ?_
      refine rsO13 hx hb hK hP hD hS hi dX4_release_46 (fun H locs hP hS => ?_)
      refine lv_aload_n hx hb dX4_release_47 rfl (lv_at hl 1 rfl) ?_
      refine cMv (va_runV (As := []) (rest := []) ⟨hx, hb, hml, hown, hts⟩ (c_X4_begins l D cy bd hj (up2 (tTurn (tGo τ (inB (nI i) 0 15) true true) i 1) 13 i 0) (WB.le (WB.cong hw12 (by simp [up2])) (by omega))) (cwV 0 hts gX4_release_X4_begins rfl rfl rfl (by decide +kernel) ⟨Nat.le_of_ble_eq_true rfl, Nat.le_of_ble_eq_true rfl⟩) ⟨mw_bl, (mw_O hP hK), (mw_at hP hK)⟩ rfl rfl hl.1 rfl (lv_room (Nat.le_of_ble_eq_true rfl)) dX4_release_48 ⟨Nat.le_of_ble_eq_true rfl, Nat.le_of_ble_eq_true rfl⟩) hS (fun H locs hP hS => ?_)
      refine W.eq (g2 := F0 m 51 ls []) rfl ?_
      have e8 : hRelease τ (nI i) = tBegins (up2 (tTurn (tGo τ (inB (nI i) 0 15) true true) i 1) 13 i 0) := by simp [hRelease, bSt, tGo_r, tGo_0, up2_r, c_1, c_5, c_11, inB_15 hi, ix_nI (show i < 2147483648 by omega)]
      rw [← e8] at hP
      exact W.vret hx hb hr (fun t ht hW => ⟨⟨(), rfl, trivial, by rw [← ht] at hP; exact hP⟩, hS.F ht⟩) hS.2.2 dX4_release_51
set_option maxHeartbeats 4000000 in
set_option maxRecDepth 100000 in
/-- advance -/
theorem c_X4_advance (l : Launch) (D : va_G) (cy : Nat → ClassId) (bd : Nat → Nat) (hj : injM bd) (τ : Mem) (za : Int32) (hw : WB τ 30000) (hF : FI τ) : Met l yX4_advance wsX4_advance ({ frames := 4, cells := 0, slots := 0, locals := 90 }) (va_Pc [.ref (bd 0), .int za] (mw D cy bd τ)) (QI (qAdvance τ za) (va_P D vwCl (wM cy bd (hAdvance τ za))) (AM bd)) 0 0 (AM bd) := by
  refine Met.ofW (cc := cX4_advance) (maxL := 4) (ret := (some .int)) (by decide) rfl ?_
  intro p e s m args below meth c s₁ B hml hv
  obtain ⟨rfl, hP, hK⟩ := hv
  have hx := B.exec
  have hb := B.bytes
  have hr := B.returns
  have hts := atoms_spec (ws := wsX4_advance) B.pre
  have hown : s.vm.findClass RX4 = some m.cls := findClass_of_methodNamed B.named
  have hlocks := B.notSynchronized
  have hf4 := fun (w : Cond) (h : w ∈ wsX40) => hts w ((by decide +kernel : ∀ w ∈ wsX40, w ∈ wsX4_advance) w h)
  have hD := wM_D (cy := cy) hj
  have hS : va_S (AM bd) s.heap s.heap [] := va_S.rf
  have hl := lv_entry ([.ref (bd 0), .int za]) (n := 4) (Nat.le_of_ble_eq_true rfl)
  rw [lg_entry_eq]
  generalize (lg_sl ([.ref (bd 0), .int za]) ++ List.replicate (4 - (lg_sl ([.ref (bd 0), .int za])).length) Slot.unset).toArray = ls at hl ⊢
  have hl : lv_has ls 4 [(0, .ref (bd 0)), (1, .int za)] := hl
  refine lv_aload_n hx hb dX4_advance_0 rfl (lv_at hl 0 rfl) ?_
  refine lv_iload_n hx hb dX4_advance_1 rfl (lv_at hl 1 rfl) ?_
  refine lv_iconst (v := 1) hx hb dX4_advance_2 (by decide) ?_
  refine lv_sipush (v := 200) hx hb dX4_advance_3 (by decide) ?_
  refine cS (W.runS (As := [.int za, .int 1, .int 200]) (rest := [.ref (bd 0)]) ⟨hx, hb, hml, hown, hts⟩ (c_X4_in l za 1 200) (va_cwS 3 hts gX4_advance_X4_in rfl rfl rfl (by decide +kernel) ⟨Nat.le_of_ble_eq_true rfl, Nat.le_of_ble_eq_true rfl⟩) ⟨fun a U g mk h => h, fun U _ _ => ⟨rfl, trivial⟩⟩ rfl rfl hl.1 rfl (lv_room (Nat.le_of_ble_eq_true rfl)) dX4_advance_6 ⟨Nat.le_of_ble_eq_true rfl, Nat.le_of_ble_eq_true rfl⟩) (fun _ _ => ?_)
  refine W.eq (g2 := F0 m 9 ls [.int (b2i (inB za 1 200)), .ref (bd 0)]) rfl ?_
  refine lv_iconst (v := 1) hx hb dX4_advance_9 (by decide) ?_
  refine lv_iconst (v := 1) hx hb dX4_advance_10 (by decide) ?_
  refine W.eq (g2 := F0 m 11 ls [.int (b2i true), .int (b2i true), .int (b2i (inB za 1 200)), .ref (bd 0)]) rfl ?_
  refine cMi (va_runV (As := [.int (b2i (inB za 1 200)), .int (b2i true), .int (b2i true)]) (rest := []) ⟨hx, hb, hml, hown, hts⟩ (c_X4_goes l D cy bd hj τ (inB za 1 200) true true) (cwV 3 hts gX4_advance_X4_goes rfl rfl rfl (by decide +kernel) ⟨Nat.le_of_ble_eq_true rfl, Nat.le_of_ble_eq_true rfl⟩) ⟨mw_bl, (mw_O hP hK), (mw_at hP hK)⟩ rfl rfl hl.1 rfl (lv_room (Nat.le_of_ble_eq_true rfl)) dX4_advance_11 ⟨Nat.le_of_ble_eq_true rfl, Nat.le_of_ble_eq_true rfl⟩) hS (fun H locs hP hS => ?_)
  refine W.eq (g2 := F0 m 14 ls [.int (b2i ((inB za 1 200) && true && true))]) rfl ?_
  have hw1 : WB (tGo τ (inB za 1 200) true true) 30000 := WB.go hw
  have hF2 : FI (tGo τ (inB za 1 200) true true) := FI.go hF
  refine lv_if_ne (tgt := 19) hx hb dX4_advance_14 (by decide) (fun c_3 => ?_) (fun c_3 => ?_)
  · replace c_3 := b2i_n0.mp c_3
    have g_4 : (inB za 1 200) = true := by have h9 := c_3; simp at h9; simp [h9]
    obtain ⟨n9, hn9, rfl⟩ := inB_le 200 (by decide) (by decide : (0 : Int32) ≤ 1) (by decide : (200 : Int32) ≤ nI 200) g_4
    have hl : lv_has ls 4 [(0, .ref (bd 0)), (1, .int (nI n9))] := hl
    refine lv_aload_n hx hb dX4_advance_19 rfl (lv_at hl 0 rfl) ?_
    refine rgO22 (x := τ 0 22) hx hb hf4 hown hK hP (hts (.fieldLink RX4 82 "MachineFoundryModel" "written" "I") (by decide +kernel)) (by simp [up2, tGo]) dX4_advance_20 ?_
    refine lv_istore_n (lv' := [(2, .int (τ 0 22)), (0, .ref (bd 0)), (1, .int (nI n9))]) hx hb dX4_advance_23 rfl hl (by decide) rfl (fun ls hl => ?_)
    refine lv_iconst (v := 0) hx hb dX4_advance_24 (by decide) ?_
    refine lv_istore_n (lv' := [(3, .int 0), (2, .int (τ 0 22)), (0, .ref (bd 0)), (1, .int (nI n9))]) hx hb dX4_advance_25 rfl hl (by decide) rfl (fun ls hl => ?_)
    have hl0 : lv_has ls 4 [(3, .int (nI 0)), (0, .ref (bd 0)), (1, .int (nI n9)), (2, .int (τ 0 22))] := lv_sub hl [0, 2, 3, 1] rfl
    have hP0 : va_P D vwCl (wM cy bd (tAdv (tGo τ (inB (nI n9) 1 200) true true) 0)) _ := hP
    refine w_loopM n9 (fun k => [(3, .int (nI k)), (0, .ref (bd 0)), (1, .int (nI n9)), (2, .int (τ 0 22))]) (fun k => va_P D vwCl (wM cy bd (tAdv (tGo τ (inB (nI n9) 1 200) true true) k))) 0 (Nat.zero_le _) hl0 hP0 hS (fun H locs ls hl hP hS => ?_) (fun k hk0 hk H locs ls hl hP hS ih => ?_)
    · have hl : lv_has ls 4 [(3, .int (nI n9)), (0, .ref (bd 0)), (1, .int (nI n9)), (2, .int (τ 0 22))] := hl
      have hP : va_P D vwCl (wM cy bd (tAdv (tGo τ (inB (nI n9) 1 200) true true) n9)) H := hP
      refine lv_iload_n hx hb dX4_advance_26 rfl (lv_at hl 0 rfl) ?_
      refine lv_iload_n hx hb dX4_advance_27 rfl (lv_at hl 2 rfl) ?_
      refine lv_icmp_ge (tgt := 41) hx hb dX4_advance_28 (by decide) (fun c_5 => ?_) (fun c_5 => absurd ((nI_le (Nat.le_refl n9) (by omega))) c_5)
      refine lv_aload_n hx hb dX4_advance_41 rfl (lv_at hl 1 rfl) ?_
      refine rgO22 hx hb hf4 hown hK hP (hts (.fieldLink RX4 82 "MachineFoundryModel" "written" "I") (by decide +kernel)) (rfl) dX4_advance_42 ?_
      refine lv_iload_n hx hb dX4_advance_45 rfl (lv_at hl 3 rfl) ?_
      refine lv_isub hx hb dX4_advance_46 ?_
      have e8 : hAdvance τ (nI n9) = tAdv (tGo τ (inB (nI n9) 1 200) true true) n9 := by simp [hAdvance, qAdvance, tGo_r, tGo_0, up2_r, c_3, g_4, c_5, ix_nI (show n9 < 2147483648 by omega)]
      rw [← e8] at hP
      have e9 : (((tAdv (tGo τ (inB (nI n9) 1 200) true true) n9) 0 22) - (τ 0 22)) = qAdvance τ (nI n9) := by simp [hAdvance, qAdvance, tGo_r, tGo_0, up2_r, c_3, g_4, c_5, ix_nI (show n9 < 2147483648 by omega)]
      exact W.iret (v := ((tAdv (tGo τ (inB (nI n9) 1 200) true true) n9) 0 22) - (τ 0 22)) hx hb hr (fun t ht hW => ⟨⟨_, (), rfl, e9, by rw [← ht] at hP; exact hP⟩, hS.F ht⟩) hS.2.2 dX4_advance_47
    · have hl : lv_has ls 4 [(3, .int (nI k)), (0, .ref (bd 0)), (1, .int (nI n9)), (2, .int (τ 0 22))] := hl
      have hP : va_P D vwCl (wM cy bd (tAdv (tGo τ (inB (nI n9) 1 200) true true) k)) H := hP
      refine lv_iload_n hx hb dX4_advance_26 rfl (lv_at hl 0 rfl) ?_
      refine lv_iload_n hx hb dX4_advance_27 rfl (lv_at hl 2 rfl) ?_
      refine lv_icmp_ge (tgt := 41) hx hb dX4_advance_28 (by decide) (fun c_6 => absurd c_6 ((nI_ge hk (by omega)))) (fun c_6 => ?_)
      refine lv_aload_n hx hb dX4_advance_31 rfl (lv_at hl 1 rfl) ?_
      refine cMv (va_runV (As := []) (rest := []) ⟨hx, hb, hml, hown, hts⟩ (c_X4_passes l D cy bd hj (tAdv (tGo τ (inB (nI n9) 1 200) true true) k) ((WB.adv (b := 112) (n := n9) (WB.le hw1 (by omega)) k (by omega)).le (by omega)) (FI.adv hF2 k)) (cwV 0 hts gX4_advance_X4_passes rfl rfl rfl (by decide +kernel) ⟨Nat.le_of_ble_eq_true rfl, Nat.le_of_ble_eq_true rfl⟩) ⟨mw_bl, (mw_O hP hK), (mw_at hP hK)⟩ rfl rfl hl.1 rfl (lv_room (Nat.le_of_ble_eq_true rfl)) dX4_advance_32 ⟨Nat.le_of_ble_eq_true rfl, Nat.le_of_ble_eq_true rfl⟩) hS (fun H locs hP hS => ?_)
      refine W.eq (g2 := F0 m 35 ls []) rfl ?_
      refine lv_iinc (v := nI (k + 1)) (lv' := [(3, .int (nI (k + 1))), (0, .ref (bd 0)), (1, .int (nI n9)), (2, .int (τ 0 22))]) hx hb dX4_advance_35 hl (k := 0) rfl (nI_1 k) (by decide) rfl (fun ls hl => ?_)
      refine lv_goto (tgt := 26) hx hb dX4_advance_38 (by decide) ?_
      have e6 : tAdv (tGo τ (inB (nI n9) 1 200) true true) (k + 1) = tPass (tAdv (tGo τ (inB (nI n9) 1 200) true true) k) := by rfl
      exact ih H locs ls (lv_sub hl [0, 1, 2, 3] rfl) (by rw [e6]; exact hP) hS
  · replace c_3 := b2i_0.mp c_3
    have g_7 : (inB za 1 200) = false := by simpa [] using c_3
    refine lv_iconst (v := 0) hx hb dX4_advance_17 (by decide) ?_
    have e8 : hAdvance τ za = tGo τ (inB za 1 200) true true := by simp [hAdvance, qAdvance, tGo_r, tGo_0, up2_r, c_3, g_7]
    rw [← e8] at hP
    have e9 : 0 = qAdvance τ za := by simp [hAdvance, qAdvance, tGo_r, tGo_0, up2_r, c_3, g_7]
    exact W.iret (v := 0) hx hb hr (fun t ht hW => ⟨⟨_, (), rfl, e9, by rw [← ht] at hP; exact hP⟩, hS.F ht⟩) hS.2.2 dX4_advance_18
set_option maxHeartbeats 4000000 in
set_option maxRecDepth 100000 in
/-- now -/
theorem c_X4_now (l : Launch) (D : va_G) (cy : Nat → ClassId) (bd : Nat → Nat) (hj : injM bd) (τ : Mem) : Met l yX4_now wsX4_now ({ frames := 1, cells := 0, slots := 0, locals := 21 }) (va_Pc [.ref (bd 0)] (mw D cy bd τ)) (QI (τ 0 0) (va_P D vwCl (wM cy bd (tTold τ))) (AM bd)) 0 0 (AM bd) := by
  refine Met.ofW (cc := cX4_now) (maxL := 1) (ret := (some .int)) (by decide) rfl ?_
  intro p e s m args below meth c s₁ B hml hv
  obtain ⟨rfl, hP, hK⟩ := hv
  have hx := B.exec
  have hb := B.bytes
  have hr := B.returns
  have hts := atoms_spec (ws := wsX4_now) B.pre
  have hown : s.vm.findClass RX4 = some m.cls := findClass_of_methodNamed B.named
  have hlocks := B.notSynchronized
  have hf4 := fun (w : Cond) (h : w ∈ wsX40) => hts w ((by decide +kernel : ∀ w ∈ wsX40, w ∈ wsX4_now) w h)
  have hD := wM_D (cy := cy) hj
  have hS : va_S (AM bd) s.heap s.heap [] := va_S.rf
  have hl := lv_entry ([.ref (bd 0)]) (n := 1) (Nat.le_of_ble_eq_true rfl)
  rw [lg_entry_eq]
  generalize (lg_sl ([.ref (bd 0)]) ++ List.replicate (1 - (lg_sl ([.ref (bd 0)])).length) Slot.unset).toArray = ls at hl ⊢
  have hl : lv_has ls 1 [(0, .ref (bd 0))] := hl
  refine lv_aload_n hx hb dX4_now_0 rfl (lv_at hl 0 rfl) ?_
  refine lv_aload_n hx hb dX4_now_1 rfl (lv_at hl 0 rfl) ?_
  refine rgO0 hx hb hf4 hown hK hP (hts (.fieldLink RX4 96 "MachineFoundryModel" "now" "I") (by decide +kernel)) (rfl) dX4_now_2 ?_
  refine cMi (va_runV (As := [.int (τ 0 0)]) (rest := []) ⟨hx, hb, hml, hown, hts⟩ (c_X4_told l D cy bd hj τ (τ 0 0)) (cwV 1 hts gX4_now_X4_told rfl rfl rfl (by decide +kernel) ⟨Nat.le_of_ble_eq_true rfl, Nat.le_of_ble_eq_true rfl⟩) ⟨mw_bl, (mw_O hP hK), (mw_at hP hK)⟩ rfl rfl hl.1 rfl (lv_room (Nat.le_of_ble_eq_true rfl)) dX4_now_5 ⟨Nat.le_of_ble_eq_true rfl, Nat.le_of_ble_eq_true rfl⟩) hS (fun H locs hP hS => ?_)
  refine W.eq (g2 := F0 m 8 ls [.int (τ 0 0)]) rfl ?_
  have e9 : (τ 0 0) = τ 0 0 := rfl
  exact W.iret (v := τ 0 0) hx hb hr (fun t ht hW => ⟨⟨_, (), rfl, e9, by rw [← ht] at hP; exact hP⟩, hS.F ht⟩) hS.2.2 dX4_now_8
set_option maxHeartbeats 4000000 in
set_option maxRecDepth 100000 in
/-- wipes -/
theorem c_X4_wipes (l : Launch) (D : va_G) (cy : Nat → ClassId) (bd : Nat → Nat) (hj : injM bd) (τ : Mem) : Met l yX4_wipes wsX4_wipes ({ frames := 1, cells := 0, slots := 0, locals := 21 }) (va_Pc [.ref (bd 0)] (mw D cy bd τ)) (QI (τ 0 4) (va_P D vwCl (wM cy bd (tTold τ))) (AM bd)) 0 0 (AM bd) := by
  refine Met.ofW (cc := cX4_wipes) (maxL := 1) (ret := (some .int)) (by decide) rfl ?_
  intro p e s m args below meth c s₁ B hml hv
  obtain ⟨rfl, hP, hK⟩ := hv
  have hx := B.exec
  have hb := B.bytes
  have hr := B.returns
  have hts := atoms_spec (ws := wsX4_wipes) B.pre
  have hown : s.vm.findClass RX4 = some m.cls := findClass_of_methodNamed B.named
  have hlocks := B.notSynchronized
  have hf4 := fun (w : Cond) (h : w ∈ wsX40) => hts w ((by decide +kernel : ∀ w ∈ wsX40, w ∈ wsX4_wipes) w h)
  have hD := wM_D (cy := cy) hj
  have hS : va_S (AM bd) s.heap s.heap [] := va_S.rf
  have hl := lv_entry ([.ref (bd 0)]) (n := 1) (Nat.le_of_ble_eq_true rfl)
  rw [lg_entry_eq]
  generalize (lg_sl ([.ref (bd 0)]) ++ List.replicate (1 - (lg_sl ([.ref (bd 0)])).length) Slot.unset).toArray = ls at hl ⊢
  have hl : lv_has ls 1 [(0, .ref (bd 0))] := hl
  refine lv_aload_n hx hb dX4_wipes_0 rfl (lv_at hl 0 rfl) ?_
  refine lv_aload_n hx hb dX4_wipes_1 rfl (lv_at hl 0 rfl) ?_
  refine rgO4 hx hb hf4 hown hK hP (hts (.fieldLink RX4 99 "MachineFoundryModel" "wipes" "I") (by decide +kernel)) (rfl) dX4_wipes_2 ?_
  refine cMi (va_runV (As := [.int (τ 0 4)]) (rest := []) ⟨hx, hb, hml, hown, hts⟩ (c_X4_told l D cy bd hj τ (τ 0 4)) (cwV 1 hts gX4_wipes_X4_told rfl rfl rfl (by decide +kernel) ⟨Nat.le_of_ble_eq_true rfl, Nat.le_of_ble_eq_true rfl⟩) ⟨mw_bl, (mw_O hP hK), (mw_at hP hK)⟩ rfl rfl hl.1 rfl (lv_room (Nat.le_of_ble_eq_true rfl)) dX4_wipes_5 ⟨Nat.le_of_ble_eq_true rfl, Nat.le_of_ble_eq_true rfl⟩) hS (fun H locs hP hS => ?_)
  refine W.eq (g2 := F0 m 8 ls [.int (τ 0 4)]) rfl ?_
  have e9 : (τ 0 4) = τ 0 4 := rfl
  exact W.iret (v := τ 0 4) hx hb hr (fun t ht hW => ⟨⟨_, (), rfl, e9, by rw [← ht] at hP; exact hP⟩, hS.F ht⟩) hS.2.2 dX4_wipes_8
set_option maxHeartbeats 4000000 in
set_option maxRecDepth 100000 in
/-- entries -/
theorem c_X4_entries (l : Launch) (D : va_G) (cy : Nat → ClassId) (bd : Nat → Nat) (hj : injM bd) (τ : Mem) : Met l yX4_entries wsX4_entries ({ frames := 1, cells := 0, slots := 0, locals := 21 }) (va_Pc [.ref (bd 0)] (mw D cy bd τ)) (QI (tKept τ) (va_P D vwCl (wM cy bd (tTold τ))) (AM bd)) 0 0 (AM bd) := by
  refine Met.ofW (cc := cX4_entries) (maxL := 1) (ret := (some .int)) (by decide) rfl ?_
  intro p e s m args below meth c s₁ B hml hv
  obtain ⟨rfl, hP, hK⟩ := hv
  have hx := B.exec
  have hb := B.bytes
  have hr := B.returns
  have hts := atoms_spec (ws := wsX4_entries) B.pre
  have hown : s.vm.findClass RX4 = some m.cls := findClass_of_methodNamed B.named
  have hlocks := B.notSynchronized
  have hD := wM_D (cy := cy) hj
  have hS : va_S (AM bd) s.heap s.heap [] := va_S.rf
  have hl := lv_entry ([.ref (bd 0)]) (n := 1) (Nat.le_of_ble_eq_true rfl)
  rw [lg_entry_eq]
  generalize (lg_sl ([.ref (bd 0)]) ++ List.replicate (1 - (lg_sl ([.ref (bd 0)])).length) Slot.unset).toArray = ls at hl ⊢
  have hl : lv_has ls 1 [(0, .ref (bd 0))] := hl
  refine lv_aload_n hx hb dX4_entries_0 rfl (lv_at hl 0 rfl) ?_
  refine lv_aload_n hx hb dX4_entries_1 rfl (lv_at hl 0 rfl) ?_
  refine cS (W.runV (As := []) (rest := [.ref (bd 0)]) ⟨hx, hb, hml, hown, hts⟩ (c_X4_kept l D cy bd τ) (cwV 0 hts gX4_entries_X4_kept rfl rfl rfl (by decide +kernel) ⟨Nat.le_of_ble_eq_true rfl, Nat.le_of_ble_eq_true rfl⟩) ⟨mw_bl, (mw_O hP hK), (mw_at hP hK)⟩ rfl rfl hl.1 rfl (lv_room (Nat.le_of_ble_eq_true rfl)) dX4_entries_2 ⟨Nat.le_of_ble_eq_true rfl, Nat.le_of_ble_eq_true rfl⟩) (fun _ _ => ?_)
  refine W.eq (g2 := F0 m 5 ls [.int (tKept τ), .ref (bd 0)]) rfl ?_
  refine cMi (va_runV (As := [.int (tKept τ)]) (rest := []) ⟨hx, hb, hml, hown, hts⟩ (c_X4_told l D cy bd hj τ (tKept τ)) (cwV 1 hts gX4_entries_X4_told rfl rfl rfl (by decide +kernel) ⟨Nat.le_of_ble_eq_true rfl, Nat.le_of_ble_eq_true rfl⟩) ⟨mw_bl, (mw_O hP hK), (mw_at hP hK)⟩ rfl rfl hl.1 rfl (lv_room (Nat.le_of_ble_eq_true rfl)) dX4_entries_5 ⟨Nat.le_of_ble_eq_true rfl, Nat.le_of_ble_eq_true rfl⟩) hS (fun H locs hP hS => ?_)
  refine W.eq (g2 := F0 m 8 ls [.int (tKept τ)]) rfl ?_
  have e9 : (tKept τ) = tKept τ := rfl
  exact W.iret (v := tKept τ) hx hb hr (fun t ht hW => ⟨⟨_, (), rfl, e9, by rw [← ht] at hP; exact hP⟩, hS.F ht⟩) hS.2.2 dX4_entries_8
set_option maxHeartbeats 4000000 in
set_option maxRecDepth 100000 in
/-- stateOf -/
theorem c_X4_stateOf (l : Launch) (D : va_G) (cy : Nat → ClassId) (bd : Nat → Nat) (hj : injM bd) (τ : Mem) (za : Int32) : Met l yX4_stateOf wsX4_stateOf ({ frames := 2, cells := 0, slots := 0, locals := 42 }) (va_Pc [.ref (bd 0), .int za] (mw D cy bd τ)) (QI (qM τ za (τ 5 (ix za))) (va_P D vwCl (wM cy bd (hM τ za))) (AM bd)) 0 0 (AM bd) := by
  refine Met.ofW (cc := cX4_stateOf) (maxL := 2) (ret := (some .int)) (by decide) rfl ?_
  intro p e s m args below meth c s₁ B hml hv
  obtain ⟨rfl, hP, hK⟩ := hv
  have hx := B.exec
  have hb := B.bytes
  have hr := B.returns
  have hts := atoms_spec (ws := wsX4_stateOf) B.pre
  have hown : s.vm.findClass RX4 = some m.cls := findClass_of_methodNamed B.named
  have hlocks := B.notSynchronized
  have hf4 := fun (w : Cond) (h : w ∈ wsX40) => hts w ((by decide +kernel : ∀ w ∈ wsX40, w ∈ wsX4_stateOf) w h)
  have hD := wM_D (cy := cy) hj
  have hS : va_S (AM bd) s.heap s.heap [] := va_S.rf
  have hl := lv_entry ([.ref (bd 0), .int za]) (n := 2) (Nat.le_of_ble_eq_true rfl)
  rw [lg_entry_eq]
  generalize (lg_sl ([.ref (bd 0), .int za]) ++ List.replicate (2 - (lg_sl ([.ref (bd 0), .int za])).length) Slot.unset).toArray = ls at hl ⊢
  have hl : lv_has ls 2 [(0, .ref (bd 0)), (1, .int za)] := hl
  refine lv_aload_n hx hb dX4_stateOf_0 rfl (lv_at hl 0 rfl) ?_
  refine lv_iload_n hx hb dX4_stateOf_1 rfl (lv_at hl 1 rfl) ?_
  refine cS (W.runS (As := [.int za]) (rest := [.ref (bd 0)]) ⟨hx, hb, hml, hown, hts⟩ (c_X4_isMachine l za) (va_cwS 1 hts gX4_stateOf_X4_isMachine rfl rfl rfl (by decide +kernel) ⟨Nat.le_of_ble_eq_true rfl, Nat.le_of_ble_eq_true rfl⟩) ⟨fun a U g mk h => h, fun U _ _ => ⟨rfl, trivial⟩⟩ rfl rfl hl.1 rfl (lv_room (Nat.le_of_ble_eq_true rfl)) dX4_stateOf_2 ⟨Nat.le_of_ble_eq_true rfl, Nat.le_of_ble_eq_true rfl⟩) (fun _ _ => ?_)
  refine W.eq (g2 := F0 m 5 ls [.int (b2i (inB za 0 15)), .ref (bd 0)]) rfl ?_
  refine lv_iconst (v := 1) hx hb dX4_stateOf_5 (by decide) ?_
  refine lv_iconst (v := 1) hx hb dX4_stateOf_6 (by decide) ?_
  refine W.eq (g2 := F0 m 7 ls [.int (b2i true), .int (b2i true), .int (b2i (inB za 0 15)), .ref (bd 0)]) rfl ?_
  refine cMi (va_runV (As := [.int (b2i (inB za 0 15)), .int (b2i true), .int (b2i true)]) (rest := []) ⟨hx, hb, hml, hown, hts⟩ (c_X4_goes l D cy bd hj τ (inB za 0 15) true true) (cwV 3 hts gX4_stateOf_X4_goes rfl rfl rfl (by decide +kernel) ⟨Nat.le_of_ble_eq_true rfl, Nat.le_of_ble_eq_true rfl⟩) ⟨mw_bl, (mw_O hP hK), (mw_at hP hK)⟩ rfl rfl hl.1 rfl (lv_room (Nat.le_of_ble_eq_true rfl)) dX4_stateOf_7 ⟨Nat.le_of_ble_eq_true rfl, Nat.le_of_ble_eq_true rfl⟩) hS (fun H locs hP hS => ?_)
  refine W.eq (g2 := F0 m 10 ls [.int (b2i ((inB za 0 15) && true && true))]) rfl ?_
  refine lv_if_eq (tgt := 22) hx hb dX4_stateOf_10 (by decide) (fun c_1 => ?_) (fun c_1 => ?_)
  · replace c_1 := b2i_0.mp c_1
    have g_2 : (inB za 0 15) = false := by simpa [] using c_1
    refine lv_iconst (v := 0) hx hb dX4_stateOf_22 (by decide) ?_
    have e8 : hM τ za = tGo τ (inB za 0 15) true true := by simp [qM, hM, tGo_r, tGo_0, up2_r, c_1, g_2]
    rw [← e8] at hP
    have e9 : 0 = qM τ za (τ 5 (ix za)) := by simp [qM, hM, tGo_r, tGo_0, up2_r, c_1, g_2]
    exact W.iret (v := 0) hx hb hr (fun t ht hW => ⟨⟨_, (), rfl, e9, by rw [← ht] at hP; exact hP⟩, hS.F ht⟩) hS.2.2 dX4_stateOf_23
  · replace c_1 := b2i_n0.mp c_1
    have g_3 : (inB za 0 15) = true := by have h9 := c_1; simp at h9; simp [h9]
    obtain ⟨i, hi, rfl⟩ := of_15 g_3
    have hl : lv_has ls 2 [(0, .ref (bd 0)), (1, .int (nI i))] := hl
    refine lv_aload_n hx hb dX4_stateOf_13 rfl (lv_at hl 0 rfl) ?_
    refine rgO5 hx hb hf4 hown hK hP (hts (.fieldLink RX4 16 "MachineFoundryModel" "state" "[I") (by decide +kernel)) dX4_stateOf_14 ?_
    refine lv_iload_n hx hb dX4_stateOf_17 rfl (lv_at hl 1 rfl) ?_
    refine raO5 (x := τ 5 i) hx hb hK hP hi (by simp [up2, tGo]) dX4_stateOf_18 ?_
    refine lv_goto (tgt := 23) hx hb dX4_stateOf_19 (by decide) ?_
    have e8 : hM τ (nI i) = tGo τ (inB (nI i) 0 15) true true := by simp [qM, hM, tGo_r, tGo_0, up2_r, c_1, g_3, inB_15 hi, ix_nI (show i < 2147483648 by omega)]
    rw [← e8] at hP
    have e9 : (τ 5 i) = qM τ (nI i) (τ 5 (ix (nI i))) := by simp [qM, hM, tGo_r, tGo_0, up2_r, c_1, g_3, inB_15 hi, ix_nI (show i < 2147483648 by omega)]
    exact W.iret (v := τ 5 i) hx hb hr (fun t ht hW => ⟨⟨_, (), rfl, e9, by rw [← ht] at hP; exact hP⟩, hS.F ht⟩) hS.2.2 dX4_stateOf_23
set_option maxHeartbeats 4000000 in
set_option maxRecDepth 100000 in
/-- failuresOf -/
theorem c_X4_failuresOf (l : Launch) (D : va_G) (cy : Nat → ClassId) (bd : Nat → Nat) (hj : injM bd) (τ : Mem) (za : Int32) : Met l yX4_failuresOf wsX4_failuresOf ({ frames := 2, cells := 0, slots := 0, locals := 42 }) (va_Pc [.ref (bd 0), .int za] (mw D cy bd τ)) (QI (qM τ za (τ 13 (ix za))) (va_P D vwCl (wM cy bd (hM τ za))) (AM bd)) 0 0 (AM bd) := by
  refine Met.ofW (cc := cX4_failuresOf) (maxL := 2) (ret := (some .int)) (by decide) rfl ?_
  intro p e s m args below meth c s₁ B hml hv
  obtain ⟨rfl, hP, hK⟩ := hv
  have hx := B.exec
  have hb := B.bytes
  have hr := B.returns
  have hts := atoms_spec (ws := wsX4_failuresOf) B.pre
  have hown : s.vm.findClass RX4 = some m.cls := findClass_of_methodNamed B.named
  have hlocks := B.notSynchronized
  have hf4 := fun (w : Cond) (h : w ∈ wsX40) => hts w ((by decide +kernel : ∀ w ∈ wsX40, w ∈ wsX4_failuresOf) w h)
  have hD := wM_D (cy := cy) hj
  have hS : va_S (AM bd) s.heap s.heap [] := va_S.rf
  have hl := lv_entry ([.ref (bd 0), .int za]) (n := 2) (Nat.le_of_ble_eq_true rfl)
  rw [lg_entry_eq]
  generalize (lg_sl ([.ref (bd 0), .int za]) ++ List.replicate (2 - (lg_sl ([.ref (bd 0), .int za])).length) Slot.unset).toArray = ls at hl ⊢
  have hl : lv_has ls 2 [(0, .ref (bd 0)), (1, .int za)] := hl
  refine lv_aload_n hx hb dX4_failuresOf_0 rfl (lv_at hl 0 rfl) ?_
  refine lv_iload_n hx hb dX4_failuresOf_1 rfl (lv_at hl 1 rfl) ?_
  refine cS (W.runS (As := [.int za]) (rest := [.ref (bd 0)]) ⟨hx, hb, hml, hown, hts⟩ (c_X4_isMachine l za) (va_cwS 1 hts gX4_failuresOf_X4_isMachine rfl rfl rfl (by decide +kernel) ⟨Nat.le_of_ble_eq_true rfl, Nat.le_of_ble_eq_true rfl⟩) ⟨fun a U g mk h => h, fun U _ _ => ⟨rfl, trivial⟩⟩ rfl rfl hl.1 rfl (lv_room (Nat.le_of_ble_eq_true rfl)) dX4_failuresOf_2 ⟨Nat.le_of_ble_eq_true rfl, Nat.le_of_ble_eq_true rfl⟩) (fun _ _ => ?_)
  refine W.eq (g2 := F0 m 5 ls [.int (b2i (inB za 0 15)), .ref (bd 0)]) rfl ?_
  refine lv_iconst (v := 1) hx hb dX4_failuresOf_5 (by decide) ?_
  refine lv_iconst (v := 1) hx hb dX4_failuresOf_6 (by decide) ?_
  refine W.eq (g2 := F0 m 7 ls [.int (b2i true), .int (b2i true), .int (b2i (inB za 0 15)), .ref (bd 0)]) rfl ?_
  refine cMi (va_runV (As := [.int (b2i (inB za 0 15)), .int (b2i true), .int (b2i true)]) (rest := []) ⟨hx, hb, hml, hown, hts⟩ (c_X4_goes l D cy bd hj τ (inB za 0 15) true true) (cwV 3 hts gX4_failuresOf_X4_goes rfl rfl rfl (by decide +kernel) ⟨Nat.le_of_ble_eq_true rfl, Nat.le_of_ble_eq_true rfl⟩) ⟨mw_bl, (mw_O hP hK), (mw_at hP hK)⟩ rfl rfl hl.1 rfl (lv_room (Nat.le_of_ble_eq_true rfl)) dX4_failuresOf_7 ⟨Nat.le_of_ble_eq_true rfl, Nat.le_of_ble_eq_true rfl⟩) hS (fun H locs hP hS => ?_)
  refine W.eq (g2 := F0 m 10 ls [.int (b2i ((inB za 0 15) && true && true))]) rfl ?_
  refine lv_if_eq (tgt := 22) hx hb dX4_failuresOf_10 (by decide) (fun c_1 => ?_) (fun c_1 => ?_)
  · replace c_1 := b2i_0.mp c_1
    have g_2 : (inB za 0 15) = false := by simpa [] using c_1
    refine lv_iconst (v := 0) hx hb dX4_failuresOf_22 (by decide) ?_
    have e8 : hM τ za = tGo τ (inB za 0 15) true true := by simp [qM, hM, tGo_r, tGo_0, up2_r, c_1, g_2]
    rw [← e8] at hP
    have e9 : 0 = qM τ za (τ 13 (ix za)) := by simp [qM, hM, tGo_r, tGo_0, up2_r, c_1, g_2]
    exact W.iret (v := 0) hx hb hr (fun t ht hW => ⟨⟨_, (), rfl, e9, by rw [← ht] at hP; exact hP⟩, hS.F ht⟩) hS.2.2 dX4_failuresOf_23
  · replace c_1 := b2i_n0.mp c_1
    have g_3 : (inB za 0 15) = true := by have h9 := c_1; simp at h9; simp [h9]
    obtain ⟨i, hi, rfl⟩ := of_15 g_3
    have hl : lv_has ls 2 [(0, .ref (bd 0)), (1, .int (nI i))] := hl
    refine lv_aload_n hx hb dX4_failuresOf_13 rfl (lv_at hl 0 rfl) ?_
    refine rgO13 hx hb hf4 hown hK hP (hts (.fieldLink RX4 41 "MachineFoundryModel" "failures" "[I") (by decide +kernel)) dX4_failuresOf_14 ?_
    refine lv_iload_n hx hb dX4_failuresOf_17 rfl (lv_at hl 1 rfl) ?_
    refine raO13 (x := τ 13 i) hx hb hK hP hi (by simp [up2, tGo]) dX4_failuresOf_18 ?_
    refine lv_goto (tgt := 23) hx hb dX4_failuresOf_19 (by decide) ?_
    have e8 : hM τ (nI i) = tGo τ (inB (nI i) 0 15) true true := by simp [qM, hM, tGo_r, tGo_0, up2_r, c_1, g_3, inB_15 hi, ix_nI (show i < 2147483648 by omega)]
    rw [← e8] at hP
    have e9 : (τ 13 i) = qM τ (nI i) (τ 13 (ix (nI i))) := by simp [qM, hM, tGo_r, tGo_0, up2_r, c_1, g_3, inB_15 hi, ix_nI (show i < 2147483648 by omega)]
    exact W.iret (v := τ 13 i) hx hb hr (fun t ht hW => ⟨⟨_, (), rfl, e9, by rw [← ht] at hP; exact hP⟩, hS.F ht⟩) hS.2.2 dX4_failuresOf_23
set_option maxHeartbeats 4000000 in
set_option maxRecDepth 100000 in
/-- matchOf -/
theorem c_X4_matchOf (l : Launch) (D : va_G) (cy : Nat → ClassId) (bd : Nat → Nat) (hj : injM bd) (τ : Mem) (za : Int32) : Met l yX4_matchOf wsX4_matchOf ({ frames := 2, cells := 0, slots := 0, locals := 46 }) (va_Pc [.ref (bd 0), .int za] (mw D cy bd τ)) (QI (qM τ za (oI (tBst τ (ix za)))) (va_P D vwCl (wM cy bd (hM τ za))) (AM bd)) 0 0 (AM bd) := by
  refine Met.ofW (cc := cX4_matchOf) (maxL := 2) (ret := (some .int)) (by decide) rfl ?_
  intro p e s m args below meth c s₁ B hml hv
  obtain ⟨rfl, hP, hK⟩ := hv
  have hx := B.exec
  have hb := B.bytes
  have hr := B.returns
  have hts := atoms_spec (ws := wsX4_matchOf) B.pre
  have hown : s.vm.findClass RX4 = some m.cls := findClass_of_methodNamed B.named
  have hlocks := B.notSynchronized
  have hD := wM_D (cy := cy) hj
  have hS : va_S (AM bd) s.heap s.heap [] := va_S.rf
  have hl := lv_entry ([.ref (bd 0), .int za]) (n := 2) (Nat.le_of_ble_eq_true rfl)
  rw [lg_entry_eq]
  generalize (lg_sl ([.ref (bd 0), .int za]) ++ List.replicate (2 - (lg_sl ([.ref (bd 0), .int za])).length) Slot.unset).toArray = ls at hl ⊢
  have hl : lv_has ls 2 [(0, .ref (bd 0)), (1, .int za)] := hl
  refine lv_aload_n hx hb dX4_matchOf_0 rfl (lv_at hl 0 rfl) ?_
  refine lv_iload_n hx hb dX4_matchOf_1 rfl (lv_at hl 1 rfl) ?_
  refine cS (W.runS (As := [.int za]) (rest := [.ref (bd 0)]) ⟨hx, hb, hml, hown, hts⟩ (c_X4_isMachine l za) (va_cwS 1 hts gX4_matchOf_X4_isMachine rfl rfl rfl (by decide +kernel) ⟨Nat.le_of_ble_eq_true rfl, Nat.le_of_ble_eq_true rfl⟩) ⟨fun a U g mk h => h, fun U _ _ => ⟨rfl, trivial⟩⟩ rfl rfl hl.1 rfl (lv_room (Nat.le_of_ble_eq_true rfl)) dX4_matchOf_2 ⟨Nat.le_of_ble_eq_true rfl, Nat.le_of_ble_eq_true rfl⟩) (fun _ _ => ?_)
  refine W.eq (g2 := F0 m 5 ls [.int (b2i (inB za 0 15)), .ref (bd 0)]) rfl ?_
  refine lv_iconst (v := 1) hx hb dX4_matchOf_5 (by decide) ?_
  refine lv_iconst (v := 1) hx hb dX4_matchOf_6 (by decide) ?_
  refine W.eq (g2 := F0 m 7 ls [.int (b2i true), .int (b2i true), .int (b2i (inB za 0 15)), .ref (bd 0)]) rfl ?_
  refine cMi (va_runV (As := [.int (b2i (inB za 0 15)), .int (b2i true), .int (b2i true)]) (rest := []) ⟨hx, hb, hml, hown, hts⟩ (c_X4_goes l D cy bd hj τ (inB za 0 15) true true) (cwV 3 hts gX4_matchOf_X4_goes rfl rfl rfl (by decide +kernel) ⟨Nat.le_of_ble_eq_true rfl, Nat.le_of_ble_eq_true rfl⟩) ⟨mw_bl, (mw_O hP hK), (mw_at hP hK)⟩ rfl rfl hl.1 rfl (lv_room (Nat.le_of_ble_eq_true rfl)) dX4_matchOf_7 ⟨Nat.le_of_ble_eq_true rfl, Nat.le_of_ble_eq_true rfl⟩) hS (fun H locs hP hS => ?_)
  refine W.eq (g2 := F0 m 10 ls [.int (b2i ((inB za 0 15) && true && true))]) rfl ?_
  refine lv_if_eq (tgt := 21) hx hb dX4_matchOf_10 (by decide) (fun c_1 => ?_) (fun c_1 => ?_)
  · replace c_1 := b2i_0.mp c_1
    have g_2 : (inB za 0 15) = false := by simpa [] using c_1
    refine lv_iconst (v := 0) hx hb dX4_matchOf_21 (by decide) ?_
    have e8 : hM τ za = tGo τ (inB za 0 15) true true := by simp [qM, hM, oI_n, oI_s, tGo_r, tGo_0, up2_r, c_1, g_2]
    rw [← e8] at hP
    have e9 : 0 = qM τ za (oI (tBst τ (ix za))) := by simp [qM, hM, oI_n, oI_s, tGo_r, tGo_0, up2_r, c_1, g_2]
    exact W.iret (v := 0) hx hb hr (fun t ht hW => ⟨⟨_, (), rfl, e9, by rw [← ht] at hP; exact hP⟩, hS.F ht⟩) hS.2.2 dX4_matchOf_22
  · replace c_1 := b2i_n0.mp c_1
    have g_3 : (inB za 0 15) = true := by have h9 := c_1; simp at h9; simp [h9]
    obtain ⟨i, hi, rfl⟩ := of_15 g_3
    have hl : lv_has ls 2 [(0, .ref (bd 0)), (1, .int (nI i))] := hl
    refine lv_aload_n hx hb dX4_matchOf_13 rfl (lv_at hl 0 rfl) ?_
    refine lv_iload_n hx hb dX4_matchOf_14 rfl (lv_at hl 1 rfl) ?_
    refine cS (W.runV (As := [.int (nI i)]) (rest := []) ⟨hx, hb, hml, hown, hts⟩ (c_X4_match l D cy bd (tGo τ (inB (nI i) 0 15) true true) i hi) (cwV 1 hts gX4_matchOf_X4_match rfl rfl rfl (by decide +kernel) ⟨Nat.le_of_ble_eq_true rfl, Nat.le_of_ble_eq_true rfl⟩) ⟨mw_bl, mw_O hP hK, mw_at hP hK⟩ rfl rfl hl.1 rfl (lv_room (Nat.le_of_ble_eq_true rfl)) dX4_matchOf_15 ⟨Nat.le_of_ble_eq_true rfl, Nat.le_of_ble_eq_true rfl⟩) (fun _ _ => ?_)
    refine W.eq (g2 := F0 m 18 ls [.int (oI (tBst τ i))]) rfl ?_
    rcases hob4 : tBst τ i with _ | b4
    · refine W.eq (g2 := F0 m 18 ls [.int (-1)]) rfl ?_
      refine lv_goto (tgt := 22) hx hb dX4_matchOf_18 (by decide) ?_
      have e8 : hM τ (nI i) = tGo τ (inB (nI i) 0 15) true true := by simp [qM, hM, oI_n, oI_s, tGo_r, tGo_0, up2_r, c_1, g_3, hob4, inB_15 hi, ix_nI (show i < 2147483648 by omega)]
      rw [← e8] at hP
      have e9 : (-1) = qM τ (nI i) (oI (tBst τ (ix (nI i)))) := by simp [qM, hM, oI_n, oI_s, tGo_r, tGo_0, up2_r, c_1, g_3, hob4, inB_15 hi, ix_nI (show i < 2147483648 by omega)]
      exact W.iret (v := (-1)) hx hb hr (fun t ht hW => ⟨⟨_, (), rfl, e9, by rw [← ht] at hP; exact hP⟩, hS.F ht⟩) hS.2.2 dX4_matchOf_22
    · have hb4 := bst_lt (n := 8) hob4
      refine W.eq (g2 := F0 m 18 ls [.int (nI b4)]) rfl ?_
      refine lv_goto (tgt := 22) hx hb dX4_matchOf_18 (by decide) ?_
      have e8 : hM τ (nI i) = tGo τ (inB (nI i) 0 15) true true := by simp [qM, hM, oI_n, oI_s, tGo_r, tGo_0, up2_r, c_1, g_3, hob4, inB_15 hi, ix_nI (show i < 2147483648 by omega)]
      rw [← e8] at hP
      have e9 : (nI b4) = qM τ (nI i) (oI (tBst τ (ix (nI i)))) := by simp [qM, hM, oI_n, oI_s, tGo_r, tGo_0, up2_r, c_1, g_3, hob4, inB_15 hi, ix_nI (show i < 2147483648 by omega)]
      exact W.iret (v := nI b4) hx hb hr (fun t ht hW => ⟨⟨_, (), rfl, e9, by rw [← ht] at hP; exact hP⟩, hS.F ht⟩) hS.2.2 dX4_matchOf_22
set_option maxHeartbeats 4000000 in
set_option maxRecDepth 100000 in
/-- why -/
theorem c_X4_why (l : Launch) (D : va_G) (cy : Nat → ClassId) (bd : Nat → Nat) (τ : Mem) (i : Nat) (hi : i < 16) : Met l yX4_why wsX4_why ({ frames := 2, cells := 0, slots := 0, locals := 46 }) (va_Pc [.ref (bd 0), .int (nI i)] (mw D cy bd τ)) (SI (tWhy τ i)) 0 0 NoA := by
  refine Met.ofW (cc := cX4_why) (maxL := 2) (ret := (some .int)) (by decide) rfl ?_
  intro p e s m args below meth c s₁ B hml hv
  obtain ⟨rfl, hP, hK⟩ := hv
  have hx := B.exec
  have hb := B.bytes
  have hr := B.returns
  have hts := atoms_spec (ws := wsX4_why) B.pre
  have hown : s.vm.findClass RX4 = some m.cls := findClass_of_methodNamed B.named
  have hlocks := B.notSynchronized
  have hf4 := fun (w : Cond) (h : w ∈ wsX40) => hts w ((by decide +kernel : ∀ w ∈ wsX40, w ∈ wsX4_why) w h)
  have hl := lv_entry ([.ref (bd 0), .int (nI i)]) (n := 2) (Nat.le_of_ble_eq_true rfl)
  rw [lg_entry_eq]
  generalize (lg_sl ([.ref (bd 0), .int (nI i)]) ++ List.replicate (2 - (lg_sl ([.ref (bd 0), .int (nI i)])).length) Slot.unset).toArray = ls at hl ⊢
  have hl : lv_has ls 2 [(0, .ref (bd 0)), (1, .int (nI i))] := hl
  refine lv_aload_n hx hb dX4_why_0 rfl (lv_at hl 0 rfl) ?_
  refine rgO5 hx hb hf4 hown hK hP (hts (.fieldLink RX4 16 "MachineFoundryModel" "state" "[I") (by decide +kernel)) dX4_why_1 ?_
  refine lv_iload_n hx hb dX4_why_4 rfl (lv_at hl 1 rfl) ?_
  refine raO5 hx hb hK hP hi (rfl) dX4_why_5 ?_
  by_cases h0 : τ 5 i = 0
  · refine W.eq (g2 := F0 m 6 ls [.int 0]) (by rw [h0]) ?_
    refine lv_tableIn (tgt := 52) hx hb dX4_why_6 (by decide) (by decide) (off := 46) (by decide) (by decide) ?_
    refine lv_iconst (v := 1) hx hb dX4_why_52 (by decide) ?_
    have e9 : tWhy τ i = 1 := by simp [tWhy, h0]
    exact W.iret (v := 1) hx hb hr (fun t ht hW => ⟨(), by rw [e9], trivial, ht⟩) (fun q h => nomatch h) dX4_why_53
  · by_cases h1 : τ 5 i = 1
    · refine W.eq (g2 := F0 m 6 ls [.int 1]) (by rw [h1]) ?_
      refine lv_tableIn (tgt := 54) hx hb dX4_why_6 (by decide) (by decide) (off := 48) (by decide) (by decide) ?_
      refine lv_aload_n hx hb dX4_why_54 rfl (lv_at hl 0 rfl) ?_
      refine lv_iload_n hx hb dX4_why_55 rfl (lv_at hl 1 rfl) ?_
      refine cS (W.runV (As := [.int (nI i)]) (rest := []) ⟨hx, hb, hml, hown, hts⟩ (c_X4_match l D cy bd τ i hi) (cwV 1 hts gX4_why_X4_match rfl rfl rfl (by decide +kernel) ⟨Nat.le_of_ble_eq_true rfl, Nat.le_of_ble_eq_true rfl⟩) ⟨mw_bl, mw_O hP hK, mw_at hP hK⟩ rfl rfl hl.1 rfl (lv_room (Nat.le_of_ble_eq_true rfl)) dX4_why_56 ⟨Nat.le_of_ble_eq_true rfl, Nat.le_of_ble_eq_true rfl⟩) (fun _ _ => ?_)
      rcases hob1 : tBst τ i with _ | b1
      · refine W.eq (g2 := F0 m 59 ls [.int (-1)]) rfl ?_
        refine lv_iconst (v := (-1)) hx hb dX4_why_59 (by decide) ?_
        refine lv_icmp_ne (tgt := 67) hx hb dX4_why_60 (by decide) (fun c_2 => absurd ((by decide : (-1 : Int32) = -1)) c_2) (fun c_2 => ?_)
        refine lv_iconst (v := 2) hx hb dX4_why_63 (by decide) ?_
        refine lv_goto (tgt := 68) hx hb dX4_why_64 (by decide) ?_
        have e9 : tWhy τ i = 2 := by simp [tWhy, h1, hob1, c_2]
        exact W.iret (v := 2) hx hb hr (fun t ht hW => ⟨(), by rw [e9], trivial, ht⟩) (fun q h => nomatch h) dX4_why_68
      · have hb1 := bst_lt (n := 8) hob1
        refine W.eq (g2 := F0 m 59 ls [.int (nI b1)]) rfl ?_
        refine lv_iconst (v := (-1)) hx hb dX4_why_59 (by decide) ?_
        refine lv_icmp_ne (tgt := 67) hx hb dX4_why_60 (by decide) (fun c_3 => ?_) (fun c_3 => absurd c_3 ((nI_ne_m1 (by omega) : ¬ nI b1 = -1)))
        refine lv_iconst (v := 3) hx hb dX4_why_67 (by decide) ?_
        have e9 : tWhy τ i = 3 := by simp [tWhy, h1, hob1, c_3]
        exact W.iret (v := 3) hx hb hr (fun t ht hW => ⟨(), by rw [e9], trivial, ht⟩) (fun q h => nomatch h) dX4_why_68
    · by_cases h2 : τ 5 i = 2
      · refine W.eq (g2 := F0 m 6 ls [.int 2]) (by rw [h2]) ?_
        refine lv_tableIn (tgt := 69) hx hb dX4_why_6 (by decide) (by decide) (off := 63) (by decide) (by decide) ?_
        refine lv_aload_n hx hb dX4_why_69 rfl (lv_at hl 0 rfl) ?_
        refine lv_iload_n hx hb dX4_why_70 rfl (lv_at hl 1 rfl) ?_
        refine cS (W.runV (As := [.int (nI i)]) (rest := []) ⟨hx, hb, hml, hown, hts⟩ (c_X4_match l D cy bd τ i hi) (cwV 1 hts gX4_why_X4_match rfl rfl rfl (by decide +kernel) ⟨Nat.le_of_ble_eq_true rfl, Nat.le_of_ble_eq_true rfl⟩) ⟨mw_bl, mw_O hP hK, mw_at hP hK⟩ rfl rfl hl.1 rfl (lv_room (Nat.le_of_ble_eq_true rfl)) dX4_why_71 ⟨Nat.le_of_ble_eq_true rfl, Nat.le_of_ble_eq_true rfl⟩) (fun _ _ => ?_)
        rcases hob4 : tBst τ i with _ | b4
        · refine W.eq (g2 := F0 m 74 ls [.int (-1)]) rfl ?_
          refine lv_iconst (v := (-1)) hx hb dX4_why_74 (by decide) ?_
          refine lv_icmp_ne (tgt := 82) hx hb dX4_why_75 (by decide) (fun c_5 => absurd ((by decide : (-1 : Int32) = -1)) c_5) (fun c_5 => ?_)
          refine lv_iconst (v := 2) hx hb dX4_why_78 (by decide) ?_
          refine lv_goto (tgt := 83) hx hb dX4_why_79 (by decide) ?_
          have e9 : tWhy τ i = 2 := by simp [tWhy, h2, hob4, c_5]
          exact W.iret (v := 2) hx hb hr (fun t ht hW => ⟨(), by rw [e9], trivial, ht⟩) (fun q h => nomatch h) dX4_why_83
        · have hb4 := bst_lt (n := 8) hob4
          refine W.eq (g2 := F0 m 74 ls [.int (nI b4)]) rfl ?_
          refine lv_iconst (v := (-1)) hx hb dX4_why_74 (by decide) ?_
          refine lv_icmp_ne (tgt := 82) hx hb dX4_why_75 (by decide) (fun c_6 => ?_) (fun c_6 => absurd c_6 ((nI_ne_m1 (by omega) : ¬ nI b4 = -1)))
          refine lv_iconst (v := 4) hx hb dX4_why_82 (by decide) ?_
          have e9 : tWhy τ i = 4 := by simp [tWhy, h2, hob4, c_6]
          exact W.iret (v := 4) hx hb hr (fun t ht hW => ⟨(), by rw [e9], trivial, ht⟩) (fun q h => nomatch h) dX4_why_83
      · by_cases h3 : τ 5 i = 3
        · refine W.eq (g2 := F0 m 6 ls [.int 3]) (by rw [h3]) ?_
          refine lv_tableIn (tgt := 84) hx hb dX4_why_6 (by decide) (by decide) (off := 78) (by decide) (by decide) ?_
          refine lv_iconst (v := 5) hx hb dX4_why_84 (by decide) ?_
          have e9 : tWhy τ i = 5 := by simp [tWhy, h3]
          exact W.iret (v := 5) hx hb hr (fun t ht hW => ⟨(), by rw [e9], trivial, ht⟩) (fun q h => nomatch h) dX4_why_85
        · by_cases h4 : τ 5 i = 4
          · refine W.eq (g2 := F0 m 6 ls [.int 4]) (by rw [h4]) ?_
            refine lv_tableIn (tgt := 86) hx hb dX4_why_6 (by decide) (by decide) (off := 80) (by decide) (by decide) ?_
            refine lv_bipush (v := 6) hx hb dX4_why_86 (by decide) ?_
            have e9 : tWhy τ i = 6 := by simp [tWhy, h4]
            exact W.iret (v := 6) hx hb hr (fun t ht hW => ⟨(), by rw [e9], trivial, ht⟩) (fun q h => nomatch h) dX4_why_88
          · by_cases h5 : τ 5 i = 5
            · refine W.eq (g2 := F0 m 6 ls [.int 5]) (by rw [h5]) ?_
              refine lv_tableIn (tgt := 95) hx hb dX4_why_6 (by decide) (by decide) (off := 89) (by decide) (by decide) ?_
              refine lv_iconst (v := 0) hx hb dX4_why_95 (by decide) ?_
              have e9 : tWhy τ i = 0 := by simp [tWhy, h5]
              exact W.iret (v := 0) hx hb hr (fun t ht hW => ⟨(), by rw [e9], trivial, ht⟩) (fun q h => nomatch h) dX4_why_96
            · by_cases h6 : τ 5 i = 6
              · refine W.eq (g2 := F0 m 6 ls [.int 6]) (by rw [h6]) ?_
                refine lv_tableIn (tgt := 89) hx hb dX4_why_6 (by decide) (by decide) (off := 83) (by decide) (by decide) ?_
                refine lv_bipush (v := 7) hx hb dX4_why_89 (by decide) ?_
                have e9 : tWhy τ i = 7 := by simp [tWhy, h6]
                exact W.iret (v := 7) hx hb hr (fun t ht hW => ⟨(), by rw [e9], trivial, ht⟩) (fun q h => nomatch h) dX4_why_91
              · by_cases h7 : τ 5 i = 7
                · refine W.eq (g2 := F0 m 6 ls [.int 7]) (by rw [h7]) ?_
                  refine lv_tableIn (tgt := 92) hx hb dX4_why_6 (by decide) (by decide) (off := 86) (by decide) (by decide) ?_
                  refine lv_bipush (v := 8) hx hb dX4_why_92 (by decide) ?_
                  have e9 : tWhy τ i = 8 := by simp [tWhy, h7]
                  exact W.iret (v := 8) hx hb hr (fun t ht hW => ⟨(), by rw [e9], trivial, ht⟩) (fun q h => nomatch h) dX4_why_94
                · refine lv_tableOut (tgt := 95) hx hb dX4_why_6 (sw8 h0 h1 h2 h3 h4 h5 h6 h7) (by decide) ?_
                  refine lv_iconst (v := 0) hx hb dX4_why_95 (by decide) ?_
                  have e9 : tWhy τ i = 0 := by simp [tWhy, h0, h1, h2, h3, h4, h6, h7]
                  exact W.iret (v := 0) hx hb hr (fun t ht hW => ⟨(), by rw [e9], trivial, ht⟩) (fun q h => nomatch h) dX4_why_96
set_option maxHeartbeats 4000000 in
set_option maxRecDepth 100000 in
/-- reason -/
theorem c_X4_reason (l : Launch) (D : va_G) (cy : Nat → ClassId) (bd : Nat → Nat) (hj : injM bd) (τ : Mem) (za : Int32) : Met l yX4_reason wsX4_reason ({ frames := 3, cells := 0, slots := 0, locals := 67 }) (va_Pc [.ref (bd 0), .int za] (mw D cy bd τ)) (QI (qM τ za (tWhy τ (ix za))) (va_P D vwCl (wM cy bd (hM τ za))) (AM bd)) 0 0 (AM bd) := by
  refine Met.ofW (cc := cX4_reason) (maxL := 2) (ret := (some .int)) (by decide) rfl ?_
  intro p e s m args below meth c s₁ B hml hv
  obtain ⟨rfl, hP, hK⟩ := hv
  have hx := B.exec
  have hb := B.bytes
  have hr := B.returns
  have hts := atoms_spec (ws := wsX4_reason) B.pre
  have hown : s.vm.findClass RX4 = some m.cls := findClass_of_methodNamed B.named
  have hlocks := B.notSynchronized
  have hD := wM_D (cy := cy) hj
  have hS : va_S (AM bd) s.heap s.heap [] := va_S.rf
  have hl := lv_entry ([.ref (bd 0), .int za]) (n := 2) (Nat.le_of_ble_eq_true rfl)
  rw [lg_entry_eq]
  generalize (lg_sl ([.ref (bd 0), .int za]) ++ List.replicate (2 - (lg_sl ([.ref (bd 0), .int za])).length) Slot.unset).toArray = ls at hl ⊢
  have hl : lv_has ls 2 [(0, .ref (bd 0)), (1, .int za)] := hl
  refine lv_aload_n hx hb dX4_reason_0 rfl (lv_at hl 0 rfl) ?_
  refine lv_iload_n hx hb dX4_reason_1 rfl (lv_at hl 1 rfl) ?_
  refine cS (W.runS (As := [.int za]) (rest := [.ref (bd 0)]) ⟨hx, hb, hml, hown, hts⟩ (c_X4_isMachine l za) (va_cwS 1 hts gX4_reason_X4_isMachine rfl rfl rfl (by decide +kernel) ⟨Nat.le_of_ble_eq_true rfl, Nat.le_of_ble_eq_true rfl⟩) ⟨fun a U g mk h => h, fun U _ _ => ⟨rfl, trivial⟩⟩ rfl rfl hl.1 rfl (lv_room (Nat.le_of_ble_eq_true rfl)) dX4_reason_2 ⟨Nat.le_of_ble_eq_true rfl, Nat.le_of_ble_eq_true rfl⟩) (fun _ _ => ?_)
  refine W.eq (g2 := F0 m 5 ls [.int (b2i (inB za 0 15)), .ref (bd 0)]) rfl ?_
  refine lv_iconst (v := 1) hx hb dX4_reason_5 (by decide) ?_
  refine lv_iconst (v := 1) hx hb dX4_reason_6 (by decide) ?_
  refine W.eq (g2 := F0 m 7 ls [.int (b2i true), .int (b2i true), .int (b2i (inB za 0 15)), .ref (bd 0)]) rfl ?_
  refine cMi (va_runV (As := [.int (b2i (inB za 0 15)), .int (b2i true), .int (b2i true)]) (rest := []) ⟨hx, hb, hml, hown, hts⟩ (c_X4_goes l D cy bd hj τ (inB za 0 15) true true) (cwV 3 hts gX4_reason_X4_goes rfl rfl rfl (by decide +kernel) ⟨Nat.le_of_ble_eq_true rfl, Nat.le_of_ble_eq_true rfl⟩) ⟨mw_bl, (mw_O hP hK), (mw_at hP hK)⟩ rfl rfl hl.1 rfl (lv_room (Nat.le_of_ble_eq_true rfl)) dX4_reason_7 ⟨Nat.le_of_ble_eq_true rfl, Nat.le_of_ble_eq_true rfl⟩) hS (fun H locs hP hS => ?_)
  refine W.eq (g2 := F0 m 10 ls [.int (b2i ((inB za 0 15) && true && true))]) rfl ?_
  refine lv_if_eq (tgt := 21) hx hb dX4_reason_10 (by decide) (fun c_1 => ?_) (fun c_1 => ?_)
  · replace c_1 := b2i_0.mp c_1
    have g_2 : (inB za 0 15) = false := by simpa [] using c_1
    refine lv_iconst (v := 0) hx hb dX4_reason_21 (by decide) ?_
    have e8 : hM τ za = tGo τ (inB za 0 15) true true := by simp [qM, hM, tGo_r, tGo_0, up2_r, c_1, g_2]
    rw [← e8] at hP
    have e9 : 0 = qM τ za (tWhy τ (ix za)) := by simp [qM, hM, tGo_r, tGo_0, up2_r, c_1, g_2]
    exact W.iret (v := 0) hx hb hr (fun t ht hW => ⟨⟨_, (), rfl, e9, by rw [← ht] at hP; exact hP⟩, hS.F ht⟩) hS.2.2 dX4_reason_22
  · replace c_1 := b2i_n0.mp c_1
    have g_3 : (inB za 0 15) = true := by have h9 := c_1; simp at h9; simp [h9]
    obtain ⟨i, hi, rfl⟩ := of_15 g_3
    have hl : lv_has ls 2 [(0, .ref (bd 0)), (1, .int (nI i))] := hl
    refine lv_aload_n hx hb dX4_reason_13 rfl (lv_at hl 0 rfl) ?_
    refine lv_iload_n hx hb dX4_reason_14 rfl (lv_at hl 1 rfl) ?_
    refine cS (W.runV (As := [.int (nI i)]) (rest := []) ⟨hx, hb, hml, hown, hts⟩ (c_X4_why l D cy bd (tGo τ (inB (nI i) 0 15) true true) i hi) (cwV 1 hts gX4_reason_X4_why rfl rfl rfl (by decide +kernel) ⟨Nat.le_of_ble_eq_true rfl, Nat.le_of_ble_eq_true rfl⟩) ⟨mw_bl, (mw_O hP hK), (mw_at hP hK)⟩ rfl rfl hl.1 rfl (lv_room (Nat.le_of_ble_eq_true rfl)) dX4_reason_15 ⟨Nat.le_of_ble_eq_true rfl, Nat.le_of_ble_eq_true rfl⟩) (fun _ _ => ?_)
    refine W.eq (g2 := F0 m 18 ls [.int (tWhy τ i)]) rfl ?_
    refine lv_goto (tgt := 22) hx hb dX4_reason_18 (by decide) ?_
    have e8 : hM τ (nI i) = tGo τ (inB (nI i) 0 15) true true := by simp [qM, hM, tGo_r, tGo_0, up2_r, c_1, g_3, inB_15 hi, ix_nI (show i < 2147483648 by omega)]
    rw [← e8] at hP
    have e9 : (tWhy τ i) = qM τ (nI i) (tWhy τ (ix (nI i))) := by simp [qM, hM, tGo_r, tGo_0, up2_r, c_1, g_3, inB_15 hi, ix_nI (show i < 2147483648 by omega)]
    exact W.iret (v := tWhy τ i) hx hb hr (fun t ht hW => ⟨⟨_, (), rfl, e9, by rw [← ht] at hP; exact hP⟩, hS.F ht⟩) hS.2.2 dX4_reason_22
set_option maxHeartbeats 4000000 in
set_option maxRecDepth 100000 in
/-- imageOf -/
theorem c_X4_imageOf (l : Launch) (D : va_G) (cy : Nat → ClassId) (bd : Nat → Nat) (hj : injM bd) (τ : Mem) (za : Int32) : Met l yX4_imageOf wsX4_imageOf ({ frames := 2, cells := 0, slots := 0, locals := 42 }) (va_Pc [.ref (bd 0), .int za] (mw D cy bd τ)) (QI (qImageOf τ za) (va_P D vwCl (wM cy bd (hM τ za))) (AM bd)) 0 0 (AM bd) := by
  refine Met.ofW (cc := cX4_imageOf) (maxL := 3) (ret := (some .int)) (by decide) rfl ?_
  intro p e s m args below meth c s₁ B hml hv
  obtain ⟨rfl, hP, hK⟩ := hv
  have hx := B.exec
  have hb := B.bytes
  have hr := B.returns
  have hts := atoms_spec (ws := wsX4_imageOf) B.pre
  have hown : s.vm.findClass RX4 = some m.cls := findClass_of_methodNamed B.named
  have hlocks := B.notSynchronized
  have hf4 := fun (w : Cond) (h : w ∈ wsX40) => hts w ((by decide +kernel : ∀ w ∈ wsX40, w ∈ wsX4_imageOf) w h)
  have hD := wM_D (cy := cy) hj
  have hS : va_S (AM bd) s.heap s.heap [] := va_S.rf
  have hl := lv_entry ([.ref (bd 0), .int za]) (n := 3) (Nat.le_of_ble_eq_true rfl)
  rw [lg_entry_eq]
  generalize (lg_sl ([.ref (bd 0), .int za]) ++ List.replicate (3 - (lg_sl ([.ref (bd 0), .int za])).length) Slot.unset).toArray = ls at hl ⊢
  have hl : lv_has ls 3 [(0, .ref (bd 0)), (1, .int za)] := hl
  refine lv_aload_n hx hb dX4_imageOf_0 rfl (lv_at hl 0 rfl) ?_
  refine lv_iload_n hx hb dX4_imageOf_1 rfl (lv_at hl 1 rfl) ?_
  refine cS (W.runS (As := [.int za]) (rest := [.ref (bd 0)]) ⟨hx, hb, hml, hown, hts⟩ (c_X4_isMachine l za) (va_cwS 1 hts gX4_imageOf_X4_isMachine rfl rfl rfl (by decide +kernel) ⟨Nat.le_of_ble_eq_true rfl, Nat.le_of_ble_eq_true rfl⟩) ⟨fun a U g mk h => h, fun U _ _ => ⟨rfl, trivial⟩⟩ rfl rfl hl.1 rfl (lv_room (Nat.le_of_ble_eq_true rfl)) dX4_imageOf_2 ⟨Nat.le_of_ble_eq_true rfl, Nat.le_of_ble_eq_true rfl⟩) (fun _ _ => ?_)
  refine W.eq (g2 := F0 m 5 ls [.int (b2i (inB za 0 15)), .ref (bd 0)]) rfl ?_
  refine lv_iconst (v := 1) hx hb dX4_imageOf_5 (by decide) ?_
  refine lv_iconst (v := 1) hx hb dX4_imageOf_6 (by decide) ?_
  refine W.eq (g2 := F0 m 7 ls [.int (b2i true), .int (b2i true), .int (b2i (inB za 0 15)), .ref (bd 0)]) rfl ?_
  refine cMi (va_runV (As := [.int (b2i (inB za 0 15)), .int (b2i true), .int (b2i true)]) (rest := []) ⟨hx, hb, hml, hown, hts⟩ (c_X4_goes l D cy bd hj τ (inB za 0 15) true true) (cwV 3 hts gX4_imageOf_X4_goes rfl rfl rfl (by decide +kernel) ⟨Nat.le_of_ble_eq_true rfl, Nat.le_of_ble_eq_true rfl⟩) ⟨mw_bl, (mw_O hP hK), (mw_at hP hK)⟩ rfl rfl hl.1 rfl (lv_room (Nat.le_of_ble_eq_true rfl)) dX4_imageOf_7 ⟨Nat.le_of_ble_eq_true rfl, Nat.le_of_ble_eq_true rfl⟩) hS (fun H locs hP hS => ?_)
  refine W.eq (g2 := F0 m 10 ls [.int (b2i ((inB za 0 15) && true && true))]) rfl ?_
  refine lv_if_ne (tgt := 15) hx hb dX4_imageOf_10 (by decide) (fun c_1 => ?_) (fun c_1 => ?_)
  · replace c_1 := b2i_n0.mp c_1
    have g_2 : (inB za 0 15) = true := by have h9 := c_1; simp at h9; simp [h9]
    obtain ⟨i, hi, rfl⟩ := of_15 g_2
    have hl : lv_has ls 3 [(0, .ref (bd 0)), (1, .int (nI i))] := hl
    refine lv_aload_n hx hb dX4_imageOf_15 rfl (lv_at hl 0 rfl) ?_
    refine rgO5 hx hb hf4 hown hK hP (hts (.fieldLink RX4 16 "MachineFoundryModel" "state" "[I") (by decide +kernel)) dX4_imageOf_16 ?_
    refine lv_iload_n hx hb dX4_imageOf_19 rfl (lv_at hl 1 rfl) ?_
    refine raO5 (x := τ 5 i) hx hb hK hP hi (by simp [up2, tGo]) dX4_imageOf_20 ?_
    refine lv_iconst (v := 3) hx hb dX4_imageOf_21 (by decide) ?_
    refine lv_icmp_eq (tgt := 46) hx hb dX4_imageOf_22 (by decide) (fun c_3 => ?_) (fun c_3 => ?_)
    · refine lv_iconst (v := 1) hx hb dX4_imageOf_46 (by decide) ?_
      refine lv_goto (tgt := 51) hx hb dX4_imageOf_47 (by decide) ?_
      refine lv_istore_n (lv' := [(2, .int 1), (0, .ref (bd 0)), (1, .int (nI i))]) hx hb dX4_imageOf_51 rfl hl (by decide) rfl (fun ls hl => ?_)
      refine lv_iload_n hx hb dX4_imageOf_52 rfl (lv_at hl 0 rfl) ?_
      refine lv_if_eq (tgt := 65) hx hb dX4_imageOf_53 (by decide) (fun c_4 => absurd c_4 ((by decide : ¬ (1 : Int32) = 0))) (fun c_4 => ?_)
      refine lv_aload_n hx hb dX4_imageOf_56 rfl (lv_at hl 1 rfl) ?_
      refine rgO11 hx hb hf4 hown hK hP (hts (.fieldLink RX4 35 "MachineFoundryModel" "image" "[I") (by decide +kernel)) dX4_imageOf_57 ?_
      refine lv_iload_n hx hb dX4_imageOf_60 rfl (lv_at hl 2 rfl) ?_
      refine raO11 (x := τ 11 i) hx hb hK hP hi (by simp [up2, tGo]) dX4_imageOf_61 ?_
      refine lv_goto (tgt := 66) hx hb dX4_imageOf_62 (by decide) ?_
      have e8 : hM τ (nI i) = tGo τ (inB (nI i) 0 15) true true := by simp [qImageOf, hM, tGo_r, tGo_0, up2_r, c_1, g_2, c_3, c_4, inB_15 hi, ix_nI (show i < 2147483648 by omega)]
      rw [← e8] at hP
      have e9 : (τ 11 i) = qImageOf τ (nI i) := by simp [qImageOf, hM, tGo_r, tGo_0, up2_r, c_1, g_2, c_3, c_4, inB_15 hi, ix_nI (show i < 2147483648 by omega)]
      exact W.iret (v := τ 11 i) hx hb hr (fun t ht hW => ⟨⟨_, (), rfl, e9, by rw [← ht] at hP; exact hP⟩, hS.F ht⟩) hS.2.2 dX4_imageOf_66
    · refine lv_aload_n hx hb dX4_imageOf_25 rfl (lv_at hl 0 rfl) ?_
      refine rgO5 hx hb hf4 hown hK hP (hts (.fieldLink RX4 16 "MachineFoundryModel" "state" "[I") (by decide +kernel)) dX4_imageOf_26 ?_
      refine lv_iload_n hx hb dX4_imageOf_29 rfl (lv_at hl 1 rfl) ?_
      refine raO5 (x := τ 5 i) hx hb hK hP hi (by simp [up2, tGo]) dX4_imageOf_30 ?_
      refine lv_iconst (v := 5) hx hb dX4_imageOf_31 (by decide) ?_
      refine lv_icmp_eq (tgt := 46) hx hb dX4_imageOf_32 (by decide) (fun c_5 => ?_) (fun c_5 => ?_)
      · refine lv_iconst (v := 1) hx hb dX4_imageOf_46 (by decide) ?_
        refine lv_goto (tgt := 51) hx hb dX4_imageOf_47 (by decide) ?_
        refine lv_istore_n (lv' := [(2, .int 1), (0, .ref (bd 0)), (1, .int (nI i))]) hx hb dX4_imageOf_51 rfl hl (by decide) rfl (fun ls hl => ?_)
        refine lv_iload_n hx hb dX4_imageOf_52 rfl (lv_at hl 0 rfl) ?_
        refine lv_if_eq (tgt := 65) hx hb dX4_imageOf_53 (by decide) (fun c_6 => absurd c_6 ((by decide : ¬ (1 : Int32) = 0))) (fun c_6 => ?_)
        refine lv_aload_n hx hb dX4_imageOf_56 rfl (lv_at hl 1 rfl) ?_
        refine rgO11 hx hb hf4 hown hK hP (hts (.fieldLink RX4 35 "MachineFoundryModel" "image" "[I") (by decide +kernel)) dX4_imageOf_57 ?_
        refine lv_iload_n hx hb dX4_imageOf_60 rfl (lv_at hl 2 rfl) ?_
        refine raO11 (x := τ 11 i) hx hb hK hP hi (by simp [up2, tGo]) dX4_imageOf_61 ?_
        refine lv_goto (tgt := 66) hx hb dX4_imageOf_62 (by decide) ?_
        have e8 : hM τ (nI i) = tGo τ (inB (nI i) 0 15) true true := by simp [qImageOf, hM, tGo_r, tGo_0, up2_r, c_1, g_2, c_3, c_5, c_6, inB_15 hi, ix_nI (show i < 2147483648 by omega)]
        rw [← e8] at hP
        have e9 : (τ 11 i) = qImageOf τ (nI i) := by simp [qImageOf, hM, tGo_r, tGo_0, up2_r, c_1, g_2, c_3, c_5, c_6, inB_15 hi, ix_nI (show i < 2147483648 by omega)]
        exact W.iret (v := τ 11 i) hx hb hr (fun t ht hW => ⟨⟨_, (), rfl, e9, by rw [← ht] at hP; exact hP⟩, hS.F ht⟩) hS.2.2 dX4_imageOf_66
      · refine lv_aload_n hx hb dX4_imageOf_35 rfl (lv_at hl 0 rfl) ?_
        refine rgO5 hx hb hf4 hown hK hP (hts (.fieldLink RX4 16 "MachineFoundryModel" "state" "[I") (by decide +kernel)) dX4_imageOf_36 ?_
        refine lv_iload_n hx hb dX4_imageOf_39 rfl (lv_at hl 1 rfl) ?_
        refine raO5 (x := τ 5 i) hx hb hK hP hi (by simp [up2, tGo]) dX4_imageOf_40 ?_
        refine lv_bipush (v := 6) hx hb dX4_imageOf_41 (by decide) ?_
        refine lv_icmp_ne (tgt := 50) hx hb dX4_imageOf_43 (by decide) (fun c_7 => ?_) (fun c_7 => ?_)
        · refine lv_iconst (v := 0) hx hb dX4_imageOf_50 (by decide) ?_
          refine lv_istore_n (lv' := [(2, .int 0), (0, .ref (bd 0)), (1, .int (nI i))]) hx hb dX4_imageOf_51 rfl hl (by decide) rfl (fun ls hl => ?_)
          refine lv_iload_n hx hb dX4_imageOf_52 rfl (lv_at hl 0 rfl) ?_
          refine lv_if_eq (tgt := 65) hx hb dX4_imageOf_53 (by decide) (fun c_8 => ?_) (fun c_8 => absurd ((by decide : (0 : Int32) = 0)) c_8)
          refine lv_iconst (v := (-1)) hx hb dX4_imageOf_65 (by decide) ?_
          have e8 : hM τ (nI i) = tGo τ (inB (nI i) 0 15) true true := by simp [qImageOf, hM, tGo_r, tGo_0, up2_r, c_1, g_2, c_3, c_5, c_7, c_8, inB_15 hi, ix_nI (show i < 2147483648 by omega)]
          rw [← e8] at hP
          have e9 : (-1) = qImageOf τ (nI i) := by simp [qImageOf, hM, tGo_r, tGo_0, up2_r, c_1, g_2, c_3, c_5, c_7, c_8, inB_15 hi, ix_nI (show i < 2147483648 by omega)]
          exact W.iret (v := (-1)) hx hb hr (fun t ht hW => ⟨⟨_, (), rfl, e9, by rw [← ht] at hP; exact hP⟩, hS.F ht⟩) hS.2.2 dX4_imageOf_66
        · refine lv_iconst (v := 1) hx hb dX4_imageOf_46 (by decide) ?_
          refine lv_goto (tgt := 51) hx hb dX4_imageOf_47 (by decide) ?_
          refine lv_istore_n (lv' := [(2, .int 1), (0, .ref (bd 0)), (1, .int (nI i))]) hx hb dX4_imageOf_51 rfl hl (by decide) rfl (fun ls hl => ?_)
          refine lv_iload_n hx hb dX4_imageOf_52 rfl (lv_at hl 0 rfl) ?_
          refine lv_if_eq (tgt := 65) hx hb dX4_imageOf_53 (by decide) (fun c_9 => absurd c_9 ((by decide : ¬ (1 : Int32) = 0))) (fun c_9 => ?_)
          refine lv_aload_n hx hb dX4_imageOf_56 rfl (lv_at hl 1 rfl) ?_
          refine rgO11 hx hb hf4 hown hK hP (hts (.fieldLink RX4 35 "MachineFoundryModel" "image" "[I") (by decide +kernel)) dX4_imageOf_57 ?_
          refine lv_iload_n hx hb dX4_imageOf_60 rfl (lv_at hl 2 rfl) ?_
          refine raO11 (x := τ 11 i) hx hb hK hP hi (by simp [up2, tGo]) dX4_imageOf_61 ?_
          refine lv_goto (tgt := 66) hx hb dX4_imageOf_62 (by decide) ?_
          have e8 : hM τ (nI i) = tGo τ (inB (nI i) 0 15) true true := by simp [qImageOf, hM, tGo_r, tGo_0, up2_r, c_1, g_2, c_3, c_5, c_7, c_9, inB_15 hi, ix_nI (show i < 2147483648 by omega)]
          rw [← e8] at hP
          have e9 : (τ 11 i) = qImageOf τ (nI i) := by simp [qImageOf, hM, tGo_r, tGo_0, up2_r, c_1, g_2, c_3, c_5, c_7, c_9, inB_15 hi, ix_nI (show i < 2147483648 by omega)]
          exact W.iret (v := τ 11 i) hx hb hr (fun t ht hW => ⟨⟨_, (), rfl, e9, by rw [← ht] at hP; exact hP⟩, hS.F ht⟩) hS.2.2 dX4_imageOf_66
  · replace c_1 := b2i_0.mp c_1
    have g_10 : (inB za 0 15) = false := by simpa [] using c_1
    refine lv_iconst (v := 0) hx hb dX4_imageOf_13 (by decide) ?_
    have e8 : hM τ za = tGo τ (inB za 0 15) true true := by simp [qImageOf, hM, tGo_r, tGo_0, up2_r, c_1, g_10]
    rw [← e8] at hP
    have e9 : 0 = qImageOf τ za := by simp [qImageOf, hM, tGo_r, tGo_0, up2_r, c_1, g_10]
    exact W.iret (v := 0) hx hb hr (fun t ht hW => ⟨⟨_, (), rfl, e9, by rw [← ht] at hP; exact hP⟩, hS.F ht⟩) hS.2.2 dX4_imageOf_14
set_option maxHeartbeats 4000000 in
set_option maxRecDepth 100000 in
/-- endOf -/
theorem c_X4_endOf (l : Launch) (D : va_G) (cy : Nat → ClassId) (bd : Nat → Nat) (hj : injM bd) (τ : Mem) (za : Int32) : Met l yX4_endOf wsX4_endOf ({ frames := 2, cells := 0, slots := 0, locals := 42 }) (va_Pc [.ref (bd 0), .int za] (mw D cy bd τ)) (QI (qEndOf τ za) (va_P D vwCl (wM cy bd (hM τ za))) (AM bd)) 0 0 (AM bd) := by
  refine Met.ofW (cc := cX4_endOf) (maxL := 2) (ret := (some .int)) (by decide) rfl ?_
  intro p e s m args below meth c s₁ B hml hv
  obtain ⟨rfl, hP, hK⟩ := hv
  have hx := B.exec
  have hb := B.bytes
  have hr := B.returns
  have hts := atoms_spec (ws := wsX4_endOf) B.pre
  have hown : s.vm.findClass RX4 = some m.cls := findClass_of_methodNamed B.named
  have hlocks := B.notSynchronized
  have hf4 := fun (w : Cond) (h : w ∈ wsX40) => hts w ((by decide +kernel : ∀ w ∈ wsX40, w ∈ wsX4_endOf) w h)
  have hD := wM_D (cy := cy) hj
  have hS : va_S (AM bd) s.heap s.heap [] := va_S.rf
  have hl := lv_entry ([.ref (bd 0), .int za]) (n := 2) (Nat.le_of_ble_eq_true rfl)
  rw [lg_entry_eq]
  generalize (lg_sl ([.ref (bd 0), .int za]) ++ List.replicate (2 - (lg_sl ([.ref (bd 0), .int za])).length) Slot.unset).toArray = ls at hl ⊢
  have hl : lv_has ls 2 [(0, .ref (bd 0)), (1, .int za)] := hl
  refine lv_aload_n hx hb dX4_endOf_0 rfl (lv_at hl 0 rfl) ?_
  refine lv_iload_n hx hb dX4_endOf_1 rfl (lv_at hl 1 rfl) ?_
  refine cS (W.runS (As := [.int za]) (rest := [.ref (bd 0)]) ⟨hx, hb, hml, hown, hts⟩ (c_X4_isMachine l za) (va_cwS 1 hts gX4_endOf_X4_isMachine rfl rfl rfl (by decide +kernel) ⟨Nat.le_of_ble_eq_true rfl, Nat.le_of_ble_eq_true rfl⟩) ⟨fun a U g mk h => h, fun U _ _ => ⟨rfl, trivial⟩⟩ rfl rfl hl.1 rfl (lv_room (Nat.le_of_ble_eq_true rfl)) dX4_endOf_2 ⟨Nat.le_of_ble_eq_true rfl, Nat.le_of_ble_eq_true rfl⟩) (fun _ _ => ?_)
  refine W.eq (g2 := F0 m 5 ls [.int (b2i (inB za 0 15)), .ref (bd 0)]) rfl ?_
  refine lv_iconst (v := 1) hx hb dX4_endOf_5 (by decide) ?_
  refine lv_iconst (v := 1) hx hb dX4_endOf_6 (by decide) ?_
  refine W.eq (g2 := F0 m 7 ls [.int (b2i true), .int (b2i true), .int (b2i (inB za 0 15)), .ref (bd 0)]) rfl ?_
  refine cMi (va_runV (As := [.int (b2i (inB za 0 15)), .int (b2i true), .int (b2i true)]) (rest := []) ⟨hx, hb, hml, hown, hts⟩ (c_X4_goes l D cy bd hj τ (inB za 0 15) true true) (cwV 3 hts gX4_endOf_X4_goes rfl rfl rfl (by decide +kernel) ⟨Nat.le_of_ble_eq_true rfl, Nat.le_of_ble_eq_true rfl⟩) ⟨mw_bl, (mw_O hP hK), (mw_at hP hK)⟩ rfl rfl hl.1 rfl (lv_room (Nat.le_of_ble_eq_true rfl)) dX4_endOf_7 ⟨Nat.le_of_ble_eq_true rfl, Nat.le_of_ble_eq_true rfl⟩) hS (fun H locs hP hS => ?_)
  refine W.eq (g2 := F0 m 10 ls [.int (b2i ((inB za 0 15) && true && true))]) rfl ?_
  refine lv_if_ne (tgt := 15) hx hb dX4_endOf_10 (by decide) (fun c_1 => ?_) (fun c_1 => ?_)
  · replace c_1 := b2i_n0.mp c_1
    have g_2 : (inB za 0 15) = true := by have h9 := c_1; simp at h9; simp [h9]
    obtain ⟨i, hi, rfl⟩ := of_15 g_2
    have hl : lv_has ls 2 [(0, .ref (bd 0)), (1, .int (nI i))] := hl
    refine lv_aload_n hx hb dX4_endOf_15 rfl (lv_at hl 0 rfl) ?_
    refine lv_iload_n hx hb dX4_endOf_16 rfl (lv_at hl 1 rfl) ?_
    refine cS (W.runV (As := [.int (nI i)]) (rest := []) ⟨hx, hb, hml, hown, hts⟩ (c_X4_isEnding l D cy bd (tGo τ (inB (nI i) 0 15) true true) i hi) (cwV 1 hts gX4_endOf_X4_isEnding rfl rfl rfl (by decide +kernel) ⟨Nat.le_of_ble_eq_true rfl, Nat.le_of_ble_eq_true rfl⟩) ⟨mw_bl, (mw_O hP hK), (mw_at hP hK)⟩ rfl rfl hl.1 rfl (lv_room (Nat.le_of_ble_eq_true rfl)) dX4_endOf_17 ⟨Nat.le_of_ble_eq_true rfl, Nat.le_of_ble_eq_true rfl⟩) (fun _ _ => ?_)
    refine W.eq (g2 := F0 m 20 ls [.int (b2i (tEnds τ i))]) rfl ?_
    refine lv_if_eq (tgt := 32) hx hb dX4_endOf_20 (by decide) (fun c_3 => ?_) (fun c_3 => ?_)
    · replace c_3 := b2i_0.mp c_3
      refine lv_iconst (v := (-1)) hx hb dX4_endOf_32 (by decide) ?_
      have e8 : hM τ (nI i) = tGo τ (inB (nI i) 0 15) true true := by simp [qEndOf, hM, tGo_r, tGo_0, up2_r, c_1, g_2, c_3, inB_15 hi, ix_nI (show i < 2147483648 by omega)]
      rw [← e8] at hP
      have e9 : (-1) = qEndOf τ (nI i) := by simp [qEndOf, hM, tGo_r, tGo_0, up2_r, c_1, g_2, c_3, inB_15 hi, ix_nI (show i < 2147483648 by omega)]
      exact W.iret (v := (-1)) hx hb hr (fun t ht hW => ⟨⟨_, (), rfl, e9, by rw [← ht] at hP; exact hP⟩, hS.F ht⟩) hS.2.2 dX4_endOf_33
    · replace c_3 := b2i_n0.mp c_3
      refine lv_aload_n hx hb dX4_endOf_23 rfl (lv_at hl 0 rfl) ?_
      refine rgO12 hx hb hf4 hown hK hP (hts (.fieldLink RX4 38 "MachineFoundryModel" "end" "[I") (by decide +kernel)) dX4_endOf_24 ?_
      refine lv_iload_n hx hb dX4_endOf_27 rfl (lv_at hl 1 rfl) ?_
      refine raO12 (x := τ 12 i) hx hb hK hP hi (by simp [up2, tGo]) dX4_endOf_28 ?_
      refine lv_goto (tgt := 33) hx hb dX4_endOf_29 (by decide) ?_
      have e8 : hM τ (nI i) = tGo τ (inB (nI i) 0 15) true true := by simp [qEndOf, hM, tGo_r, tGo_0, up2_r, c_1, g_2, c_3, inB_15 hi, ix_nI (show i < 2147483648 by omega)]
      rw [← e8] at hP
      have e9 : (τ 12 i) = qEndOf τ (nI i) := by simp [qEndOf, hM, tGo_r, tGo_0, up2_r, c_1, g_2, c_3, inB_15 hi, ix_nI (show i < 2147483648 by omega)]
      exact W.iret (v := τ 12 i) hx hb hr (fun t ht hW => ⟨⟨_, (), rfl, e9, by rw [← ht] at hP; exact hP⟩, hS.F ht⟩) hS.2.2 dX4_endOf_33
  · replace c_1 := b2i_0.mp c_1
    have g_4 : (inB za 0 15) = false := by simpa [] using c_1
    refine lv_iconst (v := 0) hx hb dX4_endOf_13 (by decide) ?_
    have e8 : hM τ za = tGo τ (inB za 0 15) true true := by simp [qEndOf, hM, tGo_r, tGo_0, up2_r, c_1, g_4]
    rw [← e8] at hP
    have e9 : 0 = qEndOf τ za := by simp [qEndOf, hM, tGo_r, tGo_0, up2_r, c_1, g_4]
    exact W.iret (v := 0) hx hb hr (fun t ht hW => ⟨⟨_, (), rfl, e9, by rw [← ht] at hP; exact hP⟩, hS.F ht⟩) hS.2.2 dX4_endOf_14
set_option maxHeartbeats 4000000 in
set_option maxRecDepth 100000 in
/-- installing -/
theorem c_X4_installing (l : Launch) (D : va_G) (cy : Nat → ClassId) (bd : Nat → Nat) (hj : injM bd) (τ : Mem) (za : Int32) : Met l yX4_installing wsX4_installing ({ frames := 2, cells := 0, slots := 0, locals := 42 }) (va_Pc [.ref (bd 0), .int za] (mw D cy bd τ)) (QI (qInstalling τ za) (va_P D vwCl (wM cy bd (hR τ za))) (AM bd)) 0 0 (AM bd) := by
  refine Met.ofW (cc := cX4_installing) (maxL := 2) (ret := (some .int)) (by decide) rfl ?_
  intro p e s m args below meth c s₁ B hml hv
  obtain ⟨rfl, hP, hK⟩ := hv
  have hx := B.exec
  have hb := B.bytes
  have hr := B.returns
  have hts := atoms_spec (ws := wsX4_installing) B.pre
  have hown : s.vm.findClass RX4 = some m.cls := findClass_of_methodNamed B.named
  have hlocks := B.notSynchronized
  have hD := wM_D (cy := cy) hj
  have hS : va_S (AM bd) s.heap s.heap [] := va_S.rf
  have hl := lv_entry ([.ref (bd 0), .int za]) (n := 2) (Nat.le_of_ble_eq_true rfl)
  rw [lg_entry_eq]
  generalize (lg_sl ([.ref (bd 0), .int za]) ++ List.replicate (2 - (lg_sl ([.ref (bd 0), .int za])).length) Slot.unset).toArray = ls at hl ⊢
  have hl : lv_has ls 2 [(0, .ref (bd 0)), (1, .int za)] := hl
  refine lv_aload_n hx hb dX4_installing_0 rfl (lv_at hl 0 rfl) ?_
  refine lv_iload_n hx hb dX4_installing_1 rfl (lv_at hl 1 rfl) ?_
  refine cS (W.runS (As := [.int za]) (rest := [.ref (bd 0)]) ⟨hx, hb, hml, hown, hts⟩ (c_X4_isRack l za) (va_cwS 1 hts gX4_installing_X4_isRack rfl rfl rfl (by decide +kernel) ⟨Nat.le_of_ble_eq_true rfl, Nat.le_of_ble_eq_true rfl⟩) ⟨fun a U g mk h => h, fun U _ _ => ⟨rfl, trivial⟩⟩ rfl rfl hl.1 rfl (lv_room (Nat.le_of_ble_eq_true rfl)) dX4_installing_2 ⟨Nat.le_of_ble_eq_true rfl, Nat.le_of_ble_eq_true rfl⟩) (fun _ _ => ?_)
  refine W.eq (g2 := F0 m 5 ls [.int (b2i (inB za 0 3)), .ref (bd 0)]) rfl ?_
  refine lv_iconst (v := 1) hx hb dX4_installing_5 (by decide) ?_
  refine lv_iconst (v := 1) hx hb dX4_installing_6 (by decide) ?_
  refine W.eq (g2 := F0 m 7 ls [.int (b2i true), .int (b2i true), .int (b2i (inB za 0 3)), .ref (bd 0)]) rfl ?_
  refine cMi (va_runV (As := [.int (b2i (inB za 0 3)), .int (b2i true), .int (b2i true)]) (rest := []) ⟨hx, hb, hml, hown, hts⟩ (c_X4_goes l D cy bd hj τ (inB za 0 3) true true) (cwV 3 hts gX4_installing_X4_goes rfl rfl rfl (by decide +kernel) ⟨Nat.le_of_ble_eq_true rfl, Nat.le_of_ble_eq_true rfl⟩) ⟨mw_bl, (mw_O hP hK), (mw_at hP hK)⟩ rfl rfl hl.1 rfl (lv_room (Nat.le_of_ble_eq_true rfl)) dX4_installing_7 ⟨Nat.le_of_ble_eq_true rfl, Nat.le_of_ble_eq_true rfl⟩) hS (fun H locs hP hS => ?_)
  refine W.eq (g2 := F0 m 10 ls [.int (b2i ((inB za 0 3) && true && true))]) rfl ?_
  refine lv_if_eq (tgt := 21) hx hb dX4_installing_10 (by decide) (fun c_1 => ?_) (fun c_1 => ?_)
  · replace c_1 := b2i_0.mp c_1
    have g_2 : (inB za 0 3) = false := by simpa [] using c_1
    refine lv_iconst (v := 0) hx hb dX4_installing_21 (by decide) ?_
    have e8 : hR τ za = tGo τ (inB za 0 3) true true := by simp [qInstalling, hR, tGo_r, tGo_0, up2_r, c_1, g_2]
    rw [← e8] at hP
    have e9 : 0 = qInstalling τ za := by simp [qInstalling, hR, tGo_r, tGo_0, up2_r, c_1, g_2]
    exact W.iret (v := 0) hx hb hr (fun t ht hW => ⟨⟨_, (), rfl, e9, by rw [← ht] at hP; exact hP⟩, hS.F ht⟩) hS.2.2 dX4_installing_22
  · replace c_1 := b2i_n0.mp c_1
    have g_3 : (inB za 0 3) = true := by have h9 := c_1; simp at h9; simp [h9]
    obtain ⟨i, hi, rfl⟩ := of_3 g_3
    have hl : lv_has ls 2 [(0, .ref (bd 0)), (1, .int (nI i))] := hl
    refine lv_aload_n hx hb dX4_installing_13 rfl (lv_at hl 0 rfl) ?_
    refine lv_iload_n hx hb dX4_installing_14 rfl (lv_at hl 1 rfl) ?_
    refine cS (W.runV (As := [.int (nI i)]) (rest := []) ⟨hx, hb, hml, hown, hts⟩ (c_X4_atWork l D cy bd (tGo τ (inB (nI i) 0 3) true true) (nI i)) (cwV 1 hts gX4_installing_X4_atWork rfl rfl rfl (by decide +kernel) ⟨Nat.le_of_ble_eq_true rfl, Nat.le_of_ble_eq_true rfl⟩) ⟨mw_bl, (mw_O hP hK), (mw_at hP hK)⟩ rfl rfl hl.1 rfl (lv_room (Nat.le_of_ble_eq_true rfl)) dX4_installing_15 ⟨Nat.le_of_ble_eq_true rfl, Nat.le_of_ble_eq_true rfl⟩) (fun _ _ => ?_)
    refine W.eq (g2 := F0 m 18 ls [.int (tAW τ (nI i))]) rfl ?_
    refine lv_goto (tgt := 22) hx hb dX4_installing_18 (by decide) ?_
    have e8 : hR τ (nI i) = tGo τ (inB (nI i) 0 3) true true := by simp [qInstalling, hR, tGo_r, tGo_0, up2_r, c_1, g_3, inB_3 hi, ix_nI (show i < 2147483648 by omega)]
    rw [← e8] at hP
    have e9 : (tAW τ (nI i)) = qInstalling τ (nI i) := by simp [qInstalling, hR, tGo_r, tGo_0, up2_r, c_1, g_3, inB_3 hi, ix_nI (show i < 2147483648 by omega)]
    exact W.iret (v := tAW τ (nI i)) hx hb hr (fun t ht hW => ⟨⟨_, (), rfl, e9, by rw [← ht] at hP; exact hP⟩, hS.F ht⟩) hS.2.2 dX4_installing_22
set_option maxHeartbeats 4000000 in
set_option maxRecDepth 100000 in
/-- queueAt -/
theorem c_X4_queueAt (l : Launch) (D : va_G) (cy : Nat → ClassId) (bd : Nat → Nat) (hj : injM bd) (τ : Mem) (za zb : Int32) : Met l yX4_queueAt wsX4_queueAt ({ frames := 2, cells := 0, slots := 0, locals := 42 }) (va_Pc [.ref (bd 0), .int za, .int zb] (mw D cy bd τ)) (QI (qQueueAt τ za zb) (va_P D vwCl (wM cy bd (hQueueAt τ za zb))) (AM bd)) 0 0 (AM bd) := by
  refine Met.ofW (cc := cX4_queueAt) (maxL := 3) (ret := (some .int)) (by decide) rfl ?_
  intro p e s m args below meth c s₁ B hml hv
  obtain ⟨rfl, hP, hK⟩ := hv
  have hx := B.exec
  have hb := B.bytes
  have hr := B.returns
  have hts := atoms_spec (ws := wsX4_queueAt) B.pre
  have hown : s.vm.findClass RX4 = some m.cls := findClass_of_methodNamed B.named
  have hlocks := B.notSynchronized
  have hD := wM_D (cy := cy) hj
  have hS : va_S (AM bd) s.heap s.heap [] := va_S.rf
  have hl := lv_entry ([.ref (bd 0), .int za, .int zb]) (n := 3) (Nat.le_of_ble_eq_true rfl)
  rw [lg_entry_eq]
  generalize (lg_sl ([.ref (bd 0), .int za, .int zb]) ++ List.replicate (3 - (lg_sl ([.ref (bd 0), .int za, .int zb])).length) Slot.unset).toArray = ls at hl ⊢
  have hl : lv_has ls 3 [(0, .ref (bd 0)), (1, .int za), (2, .int zb)] := hl
  refine lv_aload_n hx hb dX4_queueAt_0 rfl (lv_at hl 0 rfl) ?_
  refine lv_iload_n hx hb dX4_queueAt_1 rfl (lv_at hl 1 rfl) ?_
  refine cS (W.runS (As := [.int za]) (rest := [.ref (bd 0)]) ⟨hx, hb, hml, hown, hts⟩ (c_X4_isRack l za) (va_cwS 1 hts gX4_queueAt_X4_isRack rfl rfl rfl (by decide +kernel) ⟨Nat.le_of_ble_eq_true rfl, Nat.le_of_ble_eq_true rfl⟩) ⟨fun a U g mk h => h, fun U _ _ => ⟨rfl, trivial⟩⟩ rfl rfl hl.1 rfl (lv_room (Nat.le_of_ble_eq_true rfl)) dX4_queueAt_2 ⟨Nat.le_of_ble_eq_true rfl, Nat.le_of_ble_eq_true rfl⟩) (fun _ _ => ?_)
  refine W.eq (g2 := F0 m 5 ls [.int (b2i (inB za 0 3)), .ref (bd 0)]) rfl ?_
  refine lv_if_eq (tgt := 16) hx hb dX4_queueAt_5 (by decide) (fun c_1 => ?_) (fun c_1 => ?_)
  · replace c_1 := b2i_0.mp c_1
    refine lv_iconst (v := 0) hx hb dX4_queueAt_16 (by decide) ?_
    refine lv_iconst (v := 1) hx hb dX4_queueAt_17 (by decide) ?_
    refine lv_iconst (v := 1) hx hb dX4_queueAt_18 (by decide) ?_
    refine W.eq (g2 := F0 m 19 ls [.int (b2i true), .int (b2i true), .int (b2i false), .ref (bd 0)]) rfl ?_
    refine cMi (va_runV (As := [.int (b2i false), .int (b2i true), .int (b2i true)]) (rest := []) ⟨hx, hb, hml, hown, hts⟩ (c_X4_goes l D cy bd hj τ false true true) (cwV 3 hts gX4_queueAt_X4_goes rfl rfl rfl (by decide +kernel) ⟨Nat.le_of_ble_eq_true rfl, Nat.le_of_ble_eq_true rfl⟩) ⟨mw_bl, (mw_O hP hK), (mw_at hP hK)⟩ rfl rfl hl.1 rfl (lv_room (Nat.le_of_ble_eq_true rfl)) dX4_queueAt_19 ⟨Nat.le_of_ble_eq_true rfl, Nat.le_of_ble_eq_true rfl⟩) hS (fun H locs hP hS => ?_)
    refine W.eq (g2 := F0 m 22 ls [.int (b2i (false && true && true))]) rfl ?_
    refine lv_if_eq (tgt := 34) hx hb dX4_queueAt_22 (by decide) (fun c_2 => ?_) (fun c_2 => absurd ((by simp [b2i, c_1] : (b2i (false && true && true)) = 0)) c_2)
    refine lv_iconst (v := 0) hx hb dX4_queueAt_34 (by decide) ?_
    have e8 : hQueueAt τ za zb = tGo τ false true true := by simp [qQueueAt, hQueueAt, bQa, tGo_r, tGo_0, up2_r, c_1, c_2]
    rw [← e8] at hP
    have e9 : 0 = qQueueAt τ za zb := by simp [qQueueAt, hQueueAt, bQa, tGo_r, tGo_0, up2_r, c_1, c_2]
    exact W.iret (v := 0) hx hb hr (fun t ht hW => ⟨⟨_, (), rfl, e9, by rw [← ht] at hP; exact hP⟩, hS.F ht⟩) hS.2.2 dX4_queueAt_35
  · replace c_1 := b2i_n0.mp c_1
    obtain ⟨i, hi, rfl⟩ := of_3 c_1
    have hl : lv_has ls 3 [(0, .ref (bd 0)), (1, .int (nI i)), (2, .int zb)] := hl
    refine lv_iload_n hx hb dX4_queueAt_8 rfl (lv_at hl 2 rfl) ?_
    refine lv_if_lt (tgt := 16) hx hb dX4_queueAt_9 (by decide) (fun c_3 => ?_) (fun c_3 => ?_)
    · have d_3 := Int32.not_le.mpr c_3
      refine lv_iconst (v := 0) hx hb dX4_queueAt_16 (by decide) ?_
      refine lv_iconst (v := 1) hx hb dX4_queueAt_17 (by decide) ?_
      refine lv_iconst (v := 1) hx hb dX4_queueAt_18 (by decide) ?_
      refine W.eq (g2 := F0 m 19 ls [.int (b2i true), .int (b2i true), .int (b2i false), .ref (bd 0)]) rfl ?_
      refine cMi (va_runV (As := [.int (b2i false), .int (b2i true), .int (b2i true)]) (rest := []) ⟨hx, hb, hml, hown, hts⟩ (c_X4_goes l D cy bd hj τ false true true) (cwV 3 hts gX4_queueAt_X4_goes rfl rfl rfl (by decide +kernel) ⟨Nat.le_of_ble_eq_true rfl, Nat.le_of_ble_eq_true rfl⟩) ⟨mw_bl, (mw_O hP hK), (mw_at hP hK)⟩ rfl rfl hl.1 rfl (lv_room (Nat.le_of_ble_eq_true rfl)) dX4_queueAt_19 ⟨Nat.le_of_ble_eq_true rfl, Nat.le_of_ble_eq_true rfl⟩) hS (fun H locs hP hS => ?_)
      refine W.eq (g2 := F0 m 22 ls [.int (b2i (false && true && true))]) rfl ?_
      refine lv_if_eq (tgt := 34) hx hb dX4_queueAt_22 (by decide) (fun c_4 => ?_) (fun c_4 => absurd ((by simp [b2i, c_1, c_3, d_3, inB_3 hi, ix_nI (show i < 2147483648 by omega)] : (b2i (false && true && true)) = 0)) c_4)
      refine lv_iconst (v := 0) hx hb dX4_queueAt_34 (by decide) ?_
      have e8 : hQueueAt τ (nI i) zb = tGo τ false true true := by simp [qQueueAt, hQueueAt, bQa, tGo_r, tGo_0, up2_r, c_1, c_3, d_3, c_4, inB_3 hi, ix_nI (show i < 2147483648 by omega)]
      rw [← e8] at hP
      have e9 : 0 = qQueueAt τ (nI i) zb := by simp [qQueueAt, hQueueAt, bQa, tGo_r, tGo_0, up2_r, c_1, c_3, d_3, c_4, inB_3 hi, ix_nI (show i < 2147483648 by omega)]
      exact W.iret (v := 0) hx hb hr (fun t ht hW => ⟨⟨_, (), rfl, e9, by rw [← ht] at hP; exact hP⟩, hS.F ht⟩) hS.2.2 dX4_queueAt_35
    · have d_3 := Int32.not_lt.mp c_3
      refine lv_iconst (v := 1) hx hb dX4_queueAt_12 (by decide) ?_
      refine lv_goto (tgt := 17) hx hb dX4_queueAt_13 (by decide) ?_
      refine lv_iconst (v := 1) hx hb dX4_queueAt_17 (by decide) ?_
      refine lv_iconst (v := 1) hx hb dX4_queueAt_18 (by decide) ?_
      refine W.eq (g2 := F0 m 19 ls [.int (b2i true), .int (b2i true), .int (b2i true), .ref (bd 0)]) rfl ?_
      refine cMi (va_runV (As := [.int (b2i true), .int (b2i true), .int (b2i true)]) (rest := []) ⟨hx, hb, hml, hown, hts⟩ (c_X4_goes l D cy bd hj τ true true true) (cwV 3 hts gX4_queueAt_X4_goes rfl rfl rfl (by decide +kernel) ⟨Nat.le_of_ble_eq_true rfl, Nat.le_of_ble_eq_true rfl⟩) ⟨mw_bl, (mw_O hP hK), (mw_at hP hK)⟩ rfl rfl hl.1 rfl (lv_room (Nat.le_of_ble_eq_true rfl)) dX4_queueAt_19 ⟨Nat.le_of_ble_eq_true rfl, Nat.le_of_ble_eq_true rfl⟩) hS (fun H locs hP hS => ?_)
      refine W.eq (g2 := F0 m 22 ls [.int (b2i (true && true && true))]) rfl ?_
      refine lv_if_eq (tgt := 34) hx hb dX4_queueAt_22 (by decide) (fun c_5 => absurd c_5 ((by simp [b2i, c_1, c_3, d_3, inB_3 hi, ix_nI (show i < 2147483648 by omega)] : ¬ (b2i (true && true && true)) = 0))) (fun c_5 => ?_)
      refine lv_aload_n hx hb dX4_queueAt_25 rfl (lv_at hl 0 rfl) ?_
      refine lv_iload_n hx hb dX4_queueAt_26 rfl (lv_at hl 1 rfl) ?_
      refine lv_iload_n hx hb dX4_queueAt_27 rfl (lv_at hl 2 rfl) ?_
      refine cS (W.runV (As := [.int (nI i), .int zb]) (rest := []) ⟨hx, hb, hml, hown, hts⟩ (c_X4_queued l D cy bd (tGo τ true true true) (nI i) zb) (cwV 2 hts gX4_queueAt_X4_queued rfl rfl rfl (by decide +kernel) ⟨Nat.le_of_ble_eq_true rfl, Nat.le_of_ble_eq_true rfl⟩) ⟨mw_bl, (mw_O hP hK), (mw_at hP hK)⟩ rfl rfl hl.1 rfl (lv_room (Nat.le_of_ble_eq_true rfl)) dX4_queueAt_28 ⟨Nat.le_of_ble_eq_true rfl, Nat.le_of_ble_eq_true rfl⟩) (fun _ _ => ?_)
      refine W.eq (g2 := F0 m 31 ls [.int (tQu τ (nI i) zb)]) rfl ?_
      refine lv_goto (tgt := 35) hx hb dX4_queueAt_31 (by decide) ?_
      have e8 : hQueueAt τ (nI i) zb = tGo τ true true true := by simp [qQueueAt, hQueueAt, bQa, tGo_r, tGo_0, up2_r, c_1, c_3, d_3, c_5, inB_3 hi, ix_nI (show i < 2147483648 by omega)]
      rw [← e8] at hP
      have e9 : (tQu τ (nI i) zb) = qQueueAt τ (nI i) zb := by simp [qQueueAt, hQueueAt, bQa, tGo_r, tGo_0, up2_r, c_1, c_3, d_3, c_5, inB_3 hi, ix_nI (show i < 2147483648 by omega)]
      exact W.iret (v := tQu τ (nI i) zb) hx hb hr (fun t ht hW => ⟨⟨_, (), rfl, e9, by rw [← ht] at hP; exact hP⟩, hS.F ht⟩) hS.2.2 dX4_queueAt_35
set_option maxHeartbeats 4000000 in
set_option maxRecDepth 100000 in
/-- nextChange -/
theorem c_X4_nextChange (l : Launch) (D : va_G) (cy : Nat → ClassId) (bd : Nat → Nat) (hj : injM bd) (τ : Mem) : Met l yX4_nextChange wsX4_nextChange ({ frames := 1, cells := 0, slots := 0, locals := 21 }) (va_Pc [.ref (bd 0)] (mw D cy bd τ)) (QI (tNx (tTold τ) 16) (va_P D vwCl (wM cy bd (tTold τ))) (AM bd)) 0 0 (AM bd) := by
  refine Met.ofW (cc := cX4_nextChange) (maxL := 3) (ret := (some .int)) (by decide) rfl ?_
  intro p e s m args below meth c s₁ B hml hv
  obtain ⟨rfl, hP, hK⟩ := hv
  have hx := B.exec
  have hb := B.bytes
  have hr := B.returns
  have hts := atoms_spec (ws := wsX4_nextChange) B.pre
  have hown : s.vm.findClass RX4 = some m.cls := findClass_of_methodNamed B.named
  have hlocks := B.notSynchronized
  have hf4 := fun (w : Cond) (h : w ∈ wsX40) => hts w ((by decide +kernel : ∀ w ∈ wsX40, w ∈ wsX4_nextChange) w h)
  have hD := wM_D (cy := cy) hj
  have hS : va_S (AM bd) s.heap s.heap [] := va_S.rf
  have hl := lv_entry ([.ref (bd 0)]) (n := 3) (Nat.le_of_ble_eq_true rfl)
  rw [lg_entry_eq]
  generalize (lg_sl ([.ref (bd 0)]) ++ List.replicate (3 - (lg_sl ([.ref (bd 0)])).length) Slot.unset).toArray = ls at hl ⊢
  have hl : lv_has ls 3 [(0, .ref (bd 0))] := hl
  refine lv_aload_n hx hb dX4_nextChange_0 rfl (lv_at hl 0 rfl) ?_
  refine lv_iconst (v := 0) hx hb dX4_nextChange_1 (by decide) ?_
  refine rpO25 hx hb hf4 hown hK hP hD hS (hts (.fieldLink RX4 75 "MachineFoundryModel" "thrown" "I") (by decide +kernel)) dX4_nextChange_2 (fun H locs hP hS => ?_)
  have hP : va_P D vwCl (wM cy bd (tTold τ)) _ := hP
  refine lv_iconst (v := (-1)) hx hb dX4_nextChange_5 (by decide) ?_
  refine lv_istore_n (lv' := [(1, .int (-1)), (0, .ref (bd 0))]) hx hb dX4_nextChange_6 rfl hl (by decide) rfl (fun ls hl => ?_)
  refine lv_iconst (v := 0) hx hb dX4_nextChange_7 (by decide) ?_
  refine lv_istore_n (lv' := [(2, .int 0), (1, .int (-1)), (0, .ref (bd 0))]) hx hb dX4_nextChange_8 rfl hl (by decide) rfl (fun ls hl => ?_)
  have hl0 : lv_has ls 3 [(1, .int (-1)), (2, .int (nI 0)), (0, .ref (bd 0))] := lv_sub hl [1, 0, 2] rfl
  refine w_loop 16 (fun _ => True) (fun k => [(1, .int (tNx (tTold τ) k)), (2, .int (nI k)), (0, .ref (bd 0))]) 0 (Nat.zero_le _) trivial hl0 (fun ls hI hl => ?_) (fun k hk0 hk ls hI hl ih => ?_)
  · have hl : lv_has ls 3 [(1, .int (tNx (tTold τ) 16)), (2, .int (nI 16)), (0, .ref (bd 0))] := hl
    refine lv_iload_n hx hb dX4_nextChange_9 rfl (lv_at hl 1 rfl) ?_
    refine lv_bipush (v := 16) hx hb dX4_nextChange_10 (by decide) ?_
    refine lv_icmp_ge (tgt := 65) hx hb dX4_nextChange_12 (by decide) (fun c_1 => ?_) (fun c_1 => absurd ((show (16 : Int32) ≤ nI 16 from nI_le (a := 16) (b := 16) (Nat.le_refl 16) (by decide))) c_1)
    refine lv_iload_n hx hb dX4_nextChange_65 rfl (lv_at hl 0 rfl) ?_
    have e9 : (tNx (tTold τ) 16) = tNx (tTold τ) 16 := rfl
    exact W.iret (v := tNx (tTold τ) 16) hx hb hr (fun t ht hW => ⟨⟨_, (), rfl, e9, by rw [← ht] at hP; exact hP⟩, hS.F ht⟩) hS.2.2 dX4_nextChange_66
  · have hl : lv_has ls 3 [(1, .int (tNx (tTold τ) k)), (2, .int (nI k)), (0, .ref (bd 0))] := hl
    refine lv_iload_n hx hb dX4_nextChange_9 rfl (lv_at hl 1 rfl) ?_
    refine lv_bipush (v := 16) hx hb dX4_nextChange_10 (by decide) ?_
    refine lv_icmp_ge (tgt := 65) hx hb dX4_nextChange_12 (by decide) (fun c_2 => absurd c_2 ((show ¬ (16 : Int32) ≤ nI k from nI_ge (a := k) (b := 16) hk (by decide)))) (fun c_2 => ?_)
    refine lv_aload_n hx hb dX4_nextChange_15 rfl (lv_at hl 2 rfl) ?_
    refine lv_iload_n hx hb dX4_nextChange_16 rfl (lv_at hl 1 rfl) ?_
    refine cS (W.runV (As := [.int (nI k)]) (rest := []) ⟨hx, hb, hml, hown, hts⟩ (c_X4_isEnding l D cy bd (tTold τ) k hk) (cwV 1 hts gX4_nextChange_X4_isEnding rfl rfl rfl (by decide +kernel) ⟨Nat.le_of_ble_eq_true rfl, Nat.le_of_ble_eq_true rfl⟩) ⟨mw_bl, (mw_O hP hK), (mw_at hP hK)⟩ rfl rfl hl.1 rfl (lv_room (Nat.le_of_ble_eq_true rfl)) dX4_nextChange_17 ⟨Nat.le_of_ble_eq_true rfl, Nat.le_of_ble_eq_true rfl⟩) (fun _ _ => ?_)
    refine W.eq (g2 := F0 m 20 ls [.int (b2i (tEnds (tTold τ) k))]) rfl ?_
    refine lv_if_eq (tgt := 57) hx hb dX4_nextChange_20 (by decide) (fun c_3 => ?_) (fun c_3 => ?_)
    · replace c_3 := b2i_0.mp c_3
      refine lv_iload_n hx hb dX4_nextChange_57 rfl (lv_at hl 0 rfl) ?_
      refine lv_istore_n (lv' := [(1, .int (tNx (tTold τ) k)), (2, .int (nI k)), (0, .ref (bd 0))]) hx hb dX4_nextChange_58 rfl hl (by decide) rfl (fun ls hl => ?_)
      refine lv_iinc (v := nI (k + 1)) (lv' := [(2, .int (nI (k + 1))), (1, .int (tNx (tTold τ) k)), (0, .ref (bd 0))]) hx hb dX4_nextChange_59 hl (k := 1) rfl (nI_1 k) (by decide) rfl (fun ls hl => ?_)
      refine lv_goto (tgt := 9) hx hb dX4_nextChange_62 (by decide) ?_
      have e70 : tNx (tTold τ) (k + 1) = tNx (tTold τ) k := by simp [tNx, c_3]
      exact ih ls trivial (show lv_has ls 3 [(1, .int (tNx (tTold τ) (k + 1))), (2, .int (nI (k + 1))), (0, .ref (bd 0))] from by rw [e70]; exact lv_sub hl [1, 0, 2] rfl)
    · replace c_3 := b2i_n0.mp c_3
      refine lv_iload_n hx hb dX4_nextChange_23 rfl (lv_at hl 0 rfl) ?_
      refine lv_iconst (v := (-1)) hx hb dX4_nextChange_24 (by decide) ?_
      refine lv_icmp_eq (tgt := 43) hx hb dX4_nextChange_25 (by decide) (fun c_4 => ?_) (fun c_4 => ?_)
      · refine lv_aload_n hx hb dX4_nextChange_43 rfl (lv_at hl 2 rfl) ?_
        refine rgO12 hx hb hf4 hown hK hP (hts (.fieldLink RX4 38 "MachineFoundryModel" "end" "[I") (by decide +kernel)) dX4_nextChange_44 ?_
        refine lv_iload_n hx hb dX4_nextChange_47 rfl (lv_at hl 1 rfl) ?_
        refine raO12 hx hb hK hP hk (rfl) dX4_nextChange_48 ?_
        refine lv_aload_n hx hb dX4_nextChange_49 rfl (lv_at hl 2 rfl) ?_
        refine rgO0 hx hb hf4 hown hK hP (hts (.fieldLink RX4 96 "MachineFoundryModel" "now" "I") (by decide +kernel)) (rfl) dX4_nextChange_50 ?_
        refine lv_isub hx hb dX4_nextChange_53 ?_
        refine lv_goto (tgt := 58) hx hb dX4_nextChange_54 (by decide) ?_
        refine lv_istore_n (lv' := [(1, .int (((tTold τ) 12 k) - ((tTold τ) 0 0))), (2, .int (nI k)), (0, .ref (bd 0))]) hx hb dX4_nextChange_58 rfl hl (by decide) rfl (fun ls hl => ?_)
        refine lv_iinc (v := nI (k + 1)) (lv' := [(2, .int (nI (k + 1))), (1, .int (((tTold τ) 12 k) - ((tTold τ) 0 0))), (0, .ref (bd 0))]) hx hb dX4_nextChange_59 hl (k := 1) rfl (nI_1 k) (by decide) rfl (fun ls hl => ?_)
        refine lv_goto (tgt := 9) hx hb dX4_nextChange_62 (by decide) ?_
        have e70 : tNx (tTold τ) (k + 1) = ((tTold τ) 12 k) - ((tTold τ) 0 0) := by simp [tNx, c_3, c_4]
        exact ih ls trivial (show lv_has ls 3 [(1, .int (tNx (tTold τ) (k + 1))), (2, .int (nI (k + 1))), (0, .ref (bd 0))] from by rw [e70]; exact lv_sub hl [1, 0, 2] rfl)
      · refine lv_aload_n hx hb dX4_nextChange_28 rfl (lv_at hl 2 rfl) ?_
        refine rgO12 hx hb hf4 hown hK hP (hts (.fieldLink RX4 38 "MachineFoundryModel" "end" "[I") (by decide +kernel)) dX4_nextChange_29 ?_
        refine lv_iload_n hx hb dX4_nextChange_32 rfl (lv_at hl 1 rfl) ?_
        refine raO12 hx hb hK hP hk (rfl) dX4_nextChange_33 ?_
        refine lv_aload_n hx hb dX4_nextChange_34 rfl (lv_at hl 2 rfl) ?_
        refine rgO0 hx hb hf4 hown hK hP (hts (.fieldLink RX4 96 "MachineFoundryModel" "now" "I") (by decide +kernel)) (rfl) dX4_nextChange_35 ?_
        refine lv_isub hx hb dX4_nextChange_38 ?_
        refine lv_iload_n hx hb dX4_nextChange_39 rfl (lv_at hl 0 rfl) ?_
        refine lv_icmp_ge (tgt := 57) hx hb dX4_nextChange_40 (by decide) (fun c_5 => ?_) (fun c_5 => ?_)
        · have d_5 := Int32.not_lt.mpr c_5
          refine lv_iload_n hx hb dX4_nextChange_57 rfl (lv_at hl 0 rfl) ?_
          refine lv_istore_n (lv' := [(1, .int (tNx (tTold τ) k)), (2, .int (nI k)), (0, .ref (bd 0))]) hx hb dX4_nextChange_58 rfl hl (by decide) rfl (fun ls hl => ?_)
          refine lv_iinc (v := nI (k + 1)) (lv' := [(2, .int (nI (k + 1))), (1, .int (tNx (tTold τ) k)), (0, .ref (bd 0))]) hx hb dX4_nextChange_59 hl (k := 1) rfl (nI_1 k) (by decide) rfl (fun ls hl => ?_)
          refine lv_goto (tgt := 9) hx hb dX4_nextChange_62 (by decide) ?_
          have e70 : tNx (tTold τ) (k + 1) = tNx (tTold τ) k := by simp [tNx, c_3, c_4, c_5, d_5]
          exact ih ls trivial (show lv_has ls 3 [(1, .int (tNx (tTold τ) (k + 1))), (2, .int (nI (k + 1))), (0, .ref (bd 0))] from by rw [e70]; exact lv_sub hl [1, 0, 2] rfl)
        · have d_5 := Int32.not_le.mp c_5
          refine lv_aload_n hx hb dX4_nextChange_43 rfl (lv_at hl 2 rfl) ?_
          refine rgO12 hx hb hf4 hown hK hP (hts (.fieldLink RX4 38 "MachineFoundryModel" "end" "[I") (by decide +kernel)) dX4_nextChange_44 ?_
          refine lv_iload_n hx hb dX4_nextChange_47 rfl (lv_at hl 1 rfl) ?_
          refine raO12 hx hb hK hP hk (rfl) dX4_nextChange_48 ?_
          refine lv_aload_n hx hb dX4_nextChange_49 rfl (lv_at hl 2 rfl) ?_
          refine rgO0 hx hb hf4 hown hK hP (hts (.fieldLink RX4 96 "MachineFoundryModel" "now" "I") (by decide +kernel)) (rfl) dX4_nextChange_50 ?_
          refine lv_isub hx hb dX4_nextChange_53 ?_
          refine lv_goto (tgt := 58) hx hb dX4_nextChange_54 (by decide) ?_
          refine lv_istore_n (lv' := [(1, .int (((tTold τ) 12 k) - ((tTold τ) 0 0))), (2, .int (nI k)), (0, .ref (bd 0))]) hx hb dX4_nextChange_58 rfl hl (by decide) rfl (fun ls hl => ?_)
          refine lv_iinc (v := nI (k + 1)) (lv' := [(2, .int (nI (k + 1))), (1, .int (((tTold τ) 12 k) - ((tTold τ) 0 0))), (0, .ref (bd 0))]) hx hb dX4_nextChange_59 hl (k := 1) rfl (nI_1 k) (by decide) rfl (fun ls hl => ?_)
          refine lv_goto (tgt := 9) hx hb dX4_nextChange_62 (by decide) ?_
          have e70 : tNx (tTold τ) (k + 1) = ((tTold τ) 12 k) - ((tTold τ) 0 0) := by simp [tNx, c_3, c_4, c_5, d_5]
          exact ih ls trivial (show lv_has ls 3 [(1, .int (tNx (tTold τ) (k + 1))), (2, .int (nI (k + 1))), (0, .ref (bd 0))] from by rw [e70]; exact lv_sub hl [1, 0, 2] rfl)
set_option maxHeartbeats 4000000 in
set_option maxRecDepth 100000 in
/-- place -/
theorem c_X4_place (l : Launch) (D : va_G) (cy : Nat → ClassId) (bd : Nat → Nat) (τ : Mem) (w k : Nat) (hk : k < w) (hw9 : τ 0 22 = nI w) (hwb : w < 2147483648) : Met l yX4_place wsX4_place ({ frames := 0, cells := 0, slots := 0, locals := 0 }) (va_Pc [.ref (bd 0), .int (nI k)] (mw D cy bd τ)) (SI (nI ((w - 1 - k) % 40))) 0 0 NoA := by
  refine Met.ofW (cc := cX4_place) (maxL := 2) (ret := (some .int)) (by decide) rfl ?_
  intro p e s m args below meth c s₁ B hml hv
  obtain ⟨rfl, hP, hK⟩ := hv
  have hx := B.exec
  have hb := B.bytes
  have hr := B.returns
  have hts := atoms_spec (ws := wsX4_place) B.pre
  have hown : s.vm.findClass RX4 = some m.cls := findClass_of_methodNamed B.named
  have hlocks := B.notSynchronized
  have hf4 := fun (w : Cond) (h : w ∈ wsX40) => hts w ((by decide +kernel : ∀ w ∈ wsX40, w ∈ wsX4_place) w h)
  have hl := lv_entry ([.ref (bd 0), .int (nI k)]) (n := 2) (Nat.le_of_ble_eq_true rfl)
  rw [lg_entry_eq]
  generalize (lg_sl ([.ref (bd 0), .int (nI k)]) ++ List.replicate (2 - (lg_sl ([.ref (bd 0), .int (nI k)])).length) Slot.unset).toArray = ls at hl ⊢
  have hl : lv_has ls 2 [(0, .ref (bd 0)), (1, .int (nI k))] := hl
  refine lv_aload_n hx hb dX4_place_0 rfl (lv_at hl 0 rfl) ?_
  refine rgO22 (x := nI w) hx hb hf4 hown hK hP (hts (.fieldLink RX4 82 "MachineFoundryModel" "written" "I") (by decide +kernel)) (hw9) dX4_place_1 ?_
  refine lv_iconst (v := 1) hx hb dX4_place_4 (by decide) ?_
  refine lv_isub hx hb dX4_place_5 ?_
  refine W.eq (g2 := F0 m 6 ls [.int (nI (w - 1))]) (by rw [show (1 : Int32) = nI 1 from rfl, pk_sub (show 1 ≤ w by omega)]) ?_
  refine lv_iload_n hx hb dX4_place_6 rfl (lv_at hl 1 rfl) ?_
  refine lv_isub hx hb dX4_place_7 ?_
  refine W.eq (g2 := F0 m 8 ls [.int (nI (w - 1 - k))]) (by rw [pk_sub (show k ≤ w - 1 by omega)]) ?_
  refine lv_bipush (v := 40) hx hb dX4_place_8 (by decide) ?_
  refine lv_irem hx hb dX4_place_10 (by decide) ?_
  refine W.eq (g2 := F0 m 11 ls [.int (nI ((w - 1 - k) % 40))]) (by rw [show (40 : Int32) = nI 40 from rfl, pk_rem (show w - 1 - k < 2 ^ 31 by omega) (by decide) (by decide)]) ?_
  have e9 : nI ((w - 1 - k) % 40) = (nI ((w - 1 - k) % 40)) := rfl
  exact W.iret (v := nI ((w - 1 - k) % 40)) hx hb hr (fun t ht hW => ⟨(), by rw [e9], trivial, ht⟩) (fun q h => nomatch h) dX4_place_11
set_option maxHeartbeats 4000000 in
set_option maxRecDepth 100000 in
/-- machineAt -/
theorem c_X4_machineAt (l : Launch) (D : va_G) (cy : Nat → ClassId) (bd : Nat → Nat) (hj : injM bd) (τ : Mem) (za : Int32) (w : Nat) (hw9 : τ 0 22 = nI w) (hwb : w < 2147483648) : Met l yX4_machineAt wsX4_machineAt ({ frames := 1, cells := 0, slots := 0, locals := 23 }) (va_Pc [.ref (bd 0), .int za] (mw D cy bd τ)) (QI (qMachineAt τ za) (va_P D vwCl (wM cy bd (hMachineAt τ za))) (AM bd)) 0 0 (AM bd) := by
  refine Met.ofW (cc := cX4_machineAt) (maxL := 2) (ret := (some .int)) (by decide) rfl ?_
  intro p e s m args below meth c s₁ B hml hv
  obtain ⟨rfl, hP, hK⟩ := hv
  have hx := B.exec
  have hb := B.bytes
  have hr := B.returns
  have hts := atoms_spec (ws := wsX4_machineAt) B.pre
  have hown : s.vm.findClass RX4 = some m.cls := findClass_of_methodNamed B.named
  have hlocks := B.notSynchronized
  have hf4 := fun (w : Cond) (h : w ∈ wsX40) => hts w ((by decide +kernel : ∀ w ∈ wsX40, w ∈ wsX4_machineAt) w h)
  have hD := wM_D (cy := cy) hj
  have hS : va_S (AM bd) s.heap s.heap [] := va_S.rf
  have hl := lv_entry ([.ref (bd 0), .int za]) (n := 2) (Nat.le_of_ble_eq_true rfl)
  rw [lg_entry_eq]
  generalize (lg_sl ([.ref (bd 0), .int za]) ++ List.replicate (2 - (lg_sl ([.ref (bd 0), .int za])).length) Slot.unset).toArray = ls at hl ⊢
  have hl : lv_has ls 2 [(0, .ref (bd 0)), (1, .int za)] := hl
  refine lv_aload_n hx hb dX4_machineAt_0 rfl (lv_at hl 0 rfl) ?_
  refine lv_iload_n hx hb dX4_machineAt_1 rfl (lv_at hl 1 rfl) ?_
  refine lv_iconst (v := 0) hx hb dX4_machineAt_2 (by decide) ?_
  refine lv_aload_n hx hb dX4_machineAt_3 rfl (lv_at hl 0 rfl) ?_
  refine cS (W.runV (As := []) (rest := [.int 0, .int za, .ref (bd 0)]) ⟨hx, hb, hml, hown, hts⟩ (c_X4_kept l D cy bd τ) (cwV 0 hts gX4_machineAt_X4_kept rfl rfl rfl (by decide +kernel) ⟨Nat.le_of_ble_eq_true rfl, Nat.le_of_ble_eq_true rfl⟩) ⟨mw_bl, (mw_O hP hK), (mw_at hP hK)⟩ rfl rfl hl.1 rfl (lv_room (Nat.le_of_ble_eq_true rfl)) dX4_machineAt_4 ⟨Nat.le_of_ble_eq_true rfl, Nat.le_of_ble_eq_true rfl⟩) (fun _ _ => ?_)
  refine W.eq (g2 := F0 m 7 ls [.int (tKept τ), .int 0, .int za, .ref (bd 0)]) rfl ?_
  refine lv_iconst (v := 1) hx hb dX4_machineAt_7 (by decide) ?_
  refine lv_isub hx hb dX4_machineAt_8 ?_
  refine cS (W.runS (As := [.int za, .int 0, .int ((tKept τ) - 1)]) (rest := [.ref (bd 0)]) ⟨hx, hb, hml, hown, hts⟩ (c_X4_in l za 0 ((tKept τ) - 1)) (va_cwS 3 hts gX4_machineAt_X4_in rfl rfl rfl (by decide +kernel) ⟨Nat.le_of_ble_eq_true rfl, Nat.le_of_ble_eq_true rfl⟩) ⟨fun a U g mk h => h, fun U _ _ => ⟨rfl, trivial⟩⟩ rfl rfl hl.1 rfl (lv_room (Nat.le_of_ble_eq_true rfl)) dX4_machineAt_9 ⟨Nat.le_of_ble_eq_true rfl, Nat.le_of_ble_eq_true rfl⟩) (fun _ _ => ?_)
  refine W.eq (g2 := F0 m 12 ls [.int (b2i (inB za 0 ((tKept τ) - 1))), .ref (bd 0)]) rfl ?_
  refine lv_iconst (v := 1) hx hb dX4_machineAt_12 (by decide) ?_
  refine lv_iconst (v := 1) hx hb dX4_machineAt_13 (by decide) ?_
  refine W.eq (g2 := F0 m 14 ls [.int (b2i true), .int (b2i true), .int (b2i (inB za 0 ((tKept τ) - 1))), .ref (bd 0)]) rfl ?_
  refine cMi (va_runV (As := [.int (b2i (inB za 0 ((tKept τ) - 1))), .int (b2i true), .int (b2i true)]) (rest := []) ⟨hx, hb, hml, hown, hts⟩ (c_X4_goes l D cy bd hj τ (inB za 0 ((tKept τ) - 1)) true true) (cwV 3 hts gX4_machineAt_X4_goes rfl rfl rfl (by decide +kernel) ⟨Nat.le_of_ble_eq_true rfl, Nat.le_of_ble_eq_true rfl⟩) ⟨mw_bl, (mw_O hP hK), (mw_at hP hK)⟩ rfl rfl hl.1 rfl (lv_room (Nat.le_of_ble_eq_true rfl)) dX4_machineAt_14 ⟨Nat.le_of_ble_eq_true rfl, Nat.le_of_ble_eq_true rfl⟩) hS (fun H locs hP hS => ?_)
  refine W.eq (g2 := F0 m 17 ls [.int (b2i ((inB za 0 ((tKept τ) - 1)) && true && true))]) rfl ?_
  refine lv_if_eq (tgt := 33) hx hb dX4_machineAt_17 (by decide) (fun c_1 => ?_) (fun c_1 => ?_)
  · replace c_1 := b2i_0.mp c_1
    have g_2 : (inB za 0 ((tKept τ) - 1)) = false := by simpa [] using c_1
    refine lv_iconst (v := 0) hx hb dX4_machineAt_33 (by decide) ?_
    have e8 : hMachineAt τ za = tGo τ (inB za 0 ((tKept τ) - 1)) true true := by simp [qMachineAt, hMachineAt, bMa, tGo_r, tGo_0, up2_r, c_1, g_2]
    rw [← e8] at hP
    have e9 : 0 = qMachineAt τ za := by simp [qMachineAt, hMachineAt, bMa, tGo_r, tGo_0, up2_r, c_1, g_2]
    exact W.iret (v := 0) hx hb hr (fun t ht hW => ⟨⟨_, (), rfl, e9, by rw [← ht] at hP; exact hP⟩, hS.F ht⟩) hS.2.2 dX4_machineAt_34
  · replace c_1 := b2i_n0.mp c_1
    have g_3 : (inB za 0 ((tKept τ) - 1)) = true := by have h9 := c_1; simp at h9; simp [h9]
    obtain ⟨k, hk40, hkw, rfl⟩ := ma_of hw9 hwb g_3
    have hl : lv_has ls 2 [(0, .ref (bd 0)), (1, .int (nI k))] := hl
    refine lv_aload_n hx hb dX4_machineAt_20 rfl (lv_at hl 0 rfl) ?_
    refine rgO23 hx hb hf4 hown hK hP (hts (.fieldLink RX4 69 "MachineFoundryModel" "who" "[I") (by decide +kernel)) dX4_machineAt_21 ?_
    refine lv_aload_n hx hb dX4_machineAt_24 rfl (lv_at hl 0 rfl) ?_
    refine lv_iload_n hx hb dX4_machineAt_25 rfl (lv_at hl 1 rfl) ?_
    refine cS (W.runV (As := [.int (nI k)]) (rest := [.ref (bd 23)]) ⟨hx, hb, hml, hown, hts⟩ (c_X4_place l D cy bd (tGo τ (inB (nI k) 0 ((tKept τ) - 1)) true true) w k (by omega) (by simp [tGo, up2, hw9]) hwb) (cwV 1 hts gX4_machineAt_X4_place rfl rfl rfl (by decide +kernel) ⟨Nat.le_of_ble_eq_true rfl, Nat.le_of_ble_eq_true rfl⟩) ⟨mw_bl, (mw_O hP hK), (mw_at hP hK)⟩ rfl rfl hl.1 rfl (lv_room (Nat.le_of_ble_eq_true rfl)) dX4_machineAt_26 ⟨Nat.le_of_ble_eq_true rfl, Nat.le_of_ble_eq_true rfl⟩) (fun _ _ => ?_)
    refine W.eq (g2 := F0 m 29 ls [.int (nI ((w - 1 - k) % 40)), .ref (bd 23)]) rfl ?_
    refine raO23 (x := τ 23 ((w - 1 - k) % 40)) hx hb hK hP (by omega) (by simp [up2, tGo]) dX4_machineAt_29 ?_
    refine lv_goto (tgt := 34) hx hb dX4_machineAt_30 (by decide) ?_
    have e8 : hMachineAt τ (nI k) = tGo τ (inB (nI k) 0 ((tKept τ) - 1)) true true := by simp [qMachineAt, hMachineAt, bMa, tGo_r, tGo_0, up2_r, c_1, g_3, ix_nI (show k < 2147483648 by omega), ix_nI (show w < 2147483648 by omega), hw9]
    rw [← e8] at hP
    have e9 : (τ 23 ((w - 1 - k) % 40)) = qMachineAt τ (nI k) := by simp [qMachineAt, hMachineAt, bMa, tGo_r, tGo_0, up2_r, c_1, g_3, ix_nI (show k < 2147483648 by omega), ix_nI (show w < 2147483648 by omega), hw9]
    exact W.iret (v := τ 23 ((w - 1 - k) % 40)) hx hb hr (fun t ht hW => ⟨⟨_, (), rfl, e9, by rw [← ht] at hP; exact hP⟩, hS.F ht⟩) hS.2.2 dX4_machineAt_34
set_option maxHeartbeats 4000000 in
set_option maxRecDepth 100000 in
/-- stateBefore -/
theorem c_X4_stateBefore (l : Launch) (D : va_G) (cy : Nat → ClassId) (bd : Nat → Nat) (hj : injM bd) (τ : Mem) (za zb : Int32) (w : Nat) (hw9 : τ 0 22 = nI w) (hwb : w < 2147483648) : Met l yX4_stateBefore wsX4_stateBefore ({ frames := 2, cells := 0, slots := 0, locals := 42 }) (va_Pc [.ref (bd 0), .int za, .int zb] (mw D cy bd τ)) (QI (qStateBefore τ za zb) (va_P D vwCl (wM cy bd (hStateBefore τ za zb))) (AM bd)) 0 0 (AM bd) := by
  refine Met.ofW (cc := cX4_stateBefore) (maxL := 5) (ret := (some .int)) (by decide) rfl ?_
  intro p e s m args below meth c s₁ B hml hv
  obtain ⟨rfl, hP, hK⟩ := hv
  have hx := B.exec
  have hb := B.bytes
  have hr := B.returns
  have hts := atoms_spec (ws := wsX4_stateBefore) B.pre
  have hown : s.vm.findClass RX4 = some m.cls := findClass_of_methodNamed B.named
  have hlocks := B.notSynchronized
  have hf4 := fun (w : Cond) (h : w ∈ wsX40) => hts w ((by decide +kernel : ∀ w ∈ wsX40, w ∈ wsX4_stateBefore) w h)
  have hD := wM_D (cy := cy) hj
  have hS : va_S (AM bd) s.heap s.heap [] := va_S.rf
  have hl := lv_entry ([.ref (bd 0), .int za, .int zb]) (n := 5) (Nat.le_of_ble_eq_true rfl)
  rw [lg_entry_eq]
  generalize (lg_sl ([.ref (bd 0), .int za, .int zb]) ++ List.replicate (5 - (lg_sl ([.ref (bd 0), .int za, .int zb])).length) Slot.unset).toArray = ls at hl ⊢
  have hl : lv_has ls 5 [(0, .ref (bd 0)), (1, .int za), (2, .int zb)] := hl
  refine lv_aload_n hx hb dX4_stateBefore_0 rfl (lv_at hl 0 rfl) ?_
  refine lv_iload_n hx hb dX4_stateBefore_1 rfl (lv_at hl 1 rfl) ?_
  refine cS (W.runS (As := [.int za]) (rest := [.ref (bd 0)]) ⟨hx, hb, hml, hown, hts⟩ (c_X4_isMachine l za) (va_cwS 1 hts gX4_stateBefore_X4_isMachine rfl rfl rfl (by decide +kernel) ⟨Nat.le_of_ble_eq_true rfl, Nat.le_of_ble_eq_true rfl⟩) ⟨fun a U g mk h => h, fun U _ _ => ⟨rfl, trivial⟩⟩ rfl rfl hl.1 rfl (lv_room (Nat.le_of_ble_eq_true rfl)) dX4_stateBefore_2 ⟨Nat.le_of_ble_eq_true rfl, Nat.le_of_ble_eq_true rfl⟩) (fun _ _ => ?_)
  refine W.eq (g2 := F0 m 5 ls [.int (b2i (inB za 0 15)), .ref (bd 0)]) rfl ?_
  refine lv_iload_n hx hb dX4_stateBefore_5 rfl (lv_at hl 2 rfl) ?_
  refine lv_iconst (v := 0) hx hb dX4_stateBefore_6 (by decide) ?_
  refine lv_aload_n hx hb dX4_stateBefore_7 rfl (lv_at hl 0 rfl) ?_
  refine cS (W.runV (As := []) (rest := [.int 0, .int zb, .int (b2i (inB za 0 15)), .ref (bd 0)]) ⟨hx, hb, hml, hown, hts⟩ (c_X4_kept l D cy bd τ) (cwV 0 hts gX4_stateBefore_X4_kept rfl rfl rfl (by decide +kernel) ⟨Nat.le_of_ble_eq_true rfl, Nat.le_of_ble_eq_true rfl⟩) ⟨mw_bl, (mw_O hP hK), (mw_at hP hK)⟩ rfl rfl hl.1 rfl (lv_room (Nat.le_of_ble_eq_true rfl)) dX4_stateBefore_8 ⟨Nat.le_of_ble_eq_true rfl, Nat.le_of_ble_eq_true rfl⟩) (fun _ _ => ?_)
  refine W.eq (g2 := F0 m 11 ls [.int (tKept τ), .int 0, .int zb, .int (b2i (inB za 0 15)), .ref (bd 0)]) rfl ?_
  refine cS (W.runS (As := [.int zb, .int 0, .int (tKept τ)]) (rest := [.int (b2i (inB za 0 15)), .ref (bd 0)]) ⟨hx, hb, hml, hown, hts⟩ (c_X4_in l zb 0 (tKept τ)) (va_cwS 3 hts gX4_stateBefore_X4_in rfl rfl rfl (by decide +kernel) ⟨Nat.le_of_ble_eq_true rfl, Nat.le_of_ble_eq_true rfl⟩) ⟨fun a U g mk h => h, fun U _ _ => ⟨rfl, trivial⟩⟩ rfl rfl hl.1 rfl (lv_room (Nat.le_of_ble_eq_true rfl)) dX4_stateBefore_11 ⟨Nat.le_of_ble_eq_true rfl, Nat.le_of_ble_eq_true rfl⟩) (fun _ _ => ?_)
  refine W.eq (g2 := F0 m 14 ls [.int (b2i (inB zb 0 (tKept τ))), .int (b2i (inB za 0 15)), .ref (bd 0)]) rfl ?_
  refine lv_iconst (v := 1) hx hb dX4_stateBefore_14 (by decide) ?_
  refine W.eq (g2 := F0 m 15 ls [.int (b2i true), .int (b2i (inB zb 0 (tKept τ))), .int (b2i (inB za 0 15)), .ref (bd 0)]) rfl ?_
  refine cMi (va_runV (As := [.int (b2i (inB za 0 15)), .int (b2i (inB zb 0 (tKept τ))), .int (b2i true)]) (rest := []) ⟨hx, hb, hml, hown, hts⟩ (c_X4_goes l D cy bd hj τ (inB za 0 15) (inB zb 0 (tKept τ)) true) (cwV 3 hts gX4_stateBefore_X4_goes rfl rfl rfl (by decide +kernel) ⟨Nat.le_of_ble_eq_true rfl, Nat.le_of_ble_eq_true rfl⟩) ⟨mw_bl, (mw_O hP hK), (mw_at hP hK)⟩ rfl rfl hl.1 rfl (lv_room (Nat.le_of_ble_eq_true rfl)) dX4_stateBefore_15 ⟨Nat.le_of_ble_eq_true rfl, Nat.le_of_ble_eq_true rfl⟩) hS (fun H locs hP hS => ?_)
  refine W.eq (g2 := F0 m 18 ls [.int (b2i ((inB za 0 15) && (inB zb 0 (tKept τ)) && true))]) rfl ?_
  refine lv_if_ne (tgt := 23) hx hb dX4_stateBefore_18 (by decide) (fun c_1 => ?_) (fun c_1 => ?_)
  · replace c_1 := b2i_n0.mp c_1
    have g_2 : (inB za 0 15) = true := by have h9 := c_1; simp at h9; simp [h9]
    obtain ⟨i, hi, rfl⟩ := of_15 g_2
    have hl : lv_has ls 5 [(0, .ref (bd 0)), (1, .int (nI i)), (2, .int zb)] := hl
    have g_3 : (inB zb 0 (tKept τ)) = true := by have h9 := c_1; simp at h9; simp [h9]
    obtain ⟨n9, hn40, hnw, rfl⟩ := sb_of hw9 hwb g_3
    have hl : lv_has ls 5 [(0, .ref (bd 0)), (1, .int (nI i)), (2, .int (nI n9))] := hl
    refine lv_aload_n hx hb dX4_stateBefore_23 rfl (lv_at hl 0 rfl) ?_
    refine rgO5 hx hb hf4 hown hK hP (hts (.fieldLink RX4 16 "MachineFoundryModel" "state" "[I") (by decide +kernel)) dX4_stateBefore_24 ?_
    refine lv_iload_n hx hb dX4_stateBefore_27 rfl (lv_at hl 1 rfl) ?_
    refine raO5 (x := τ 5 i) hx hb hK hP hi (by simp [up2, tGo]) dX4_stateBefore_28 ?_
    refine lv_istore_n (lv' := [(3, .int (τ 5 i)), (0, .ref (bd 0)), (1, .int (nI i)), (2, .int (nI n9))]) hx hb dX4_stateBefore_29 rfl hl (by decide) rfl (fun ls hl => ?_)
    refine lv_iconst (v := 0) hx hb dX4_stateBefore_30 (by decide) ?_
    refine lv_istore (lv' := [(4, .int 0), (3, .int (τ 5 i)), (0, .ref (bd 0)), (1, .int (nI i)), (2, .int (nI n9))]) hx hb dX4_stateBefore_31 hl (by decide) rfl (fun ls hl => ?_)
    have hl0 : lv_has ls 5 [(4, .int (nI 0)), (3, .int (τ 5 i)), (0, .ref (bd 0)), (1, .int (nI i)), (2, .int (nI n9))] := lv_sub hl [0, 1, 2, 3, 4] rfl
    refine w_loop n9 (fun _ => True) (fun k => [(4, .int (nI k)), (3, .int (tSB τ i w k)), (0, .ref (bd 0)), (1, .int (nI i)), (2, .int (nI n9))]) 0 (Nat.zero_le _) trivial hl0 (fun ls hI hl => ?_) (fun k hk0 hk ls hI hl ih => ?_)
    · have hl : lv_has ls 5 [(4, .int (nI n9)), (3, .int (tSB τ i w n9)), (0, .ref (bd 0)), (1, .int (nI i)), (2, .int (nI n9))] := hl
      refine lv_iload hx hb dX4_stateBefore_33 (lv_at hl 0 rfl) ?_
      refine lv_iload_n hx hb dX4_stateBefore_35 rfl (lv_at hl 4 rfl) ?_
      refine lv_icmp_ge (tgt := 76) hx hb dX4_stateBefore_36 (by decide) (fun c_4 => ?_) (fun c_4 => absurd ((nI_le (Nat.le_refl n9) (by omega))) c_4)
      refine lv_iload_n hx hb dX4_stateBefore_76 rfl (lv_at hl 1 rfl) ?_
      have e8 : hStateBefore τ (nI i) (nI n9) = tGo τ (inB (nI i) 0 15) (inB (nI n9) 0 (tKept τ)) true := by simp [qStateBefore, hStateBefore, bSb, tGo_r, tGo_0, up2_r, c_1, g_2, g_3, c_4, inB_15 hi, ix_nI (show i < 2147483648 by omega), ix_nI (show n9 < 2147483648 by omega), ix_nI (show w < 2147483648 by omega), hw9]
      rw [← e8] at hP
      have e9 : (tSB τ i w n9) = qStateBefore τ (nI i) (nI n9) := by simp [qStateBefore, hStateBefore, bSb, tGo_r, tGo_0, up2_r, c_1, g_2, g_3, c_4, inB_15 hi, ix_nI (show i < 2147483648 by omega), ix_nI (show n9 < 2147483648 by omega), ix_nI (show w < 2147483648 by omega), hw9]
      exact W.iret (v := tSB τ i w n9) hx hb hr (fun t ht hW => ⟨⟨_, (), rfl, e9, by rw [← ht] at hP; exact hP⟩, hS.F ht⟩) hS.2.2 dX4_stateBefore_77
    · have hl : lv_has ls 5 [(4, .int (nI k)), (3, .int (tSB τ i w k)), (0, .ref (bd 0)), (1, .int (nI i)), (2, .int (nI n9))] := hl
      refine lv_iload hx hb dX4_stateBefore_33 (lv_at hl 0 rfl) ?_
      refine lv_iload_n hx hb dX4_stateBefore_35 rfl (lv_at hl 4 rfl) ?_
      refine lv_icmp_ge (tgt := 76) hx hb dX4_stateBefore_36 (by decide) (fun c_5 => absurd c_5 ((nI_ge hk (by omega)))) (fun c_5 => ?_)
      refine lv_aload_n hx hb dX4_stateBefore_39 rfl (lv_at hl 2 rfl) ?_
      refine rgO23 hx hb hf4 hown hK hP (hts (.fieldLink RX4 69 "MachineFoundryModel" "who" "[I") (by decide +kernel)) dX4_stateBefore_40 ?_
      refine lv_aload_n hx hb dX4_stateBefore_43 rfl (lv_at hl 2 rfl) ?_
      refine lv_iload hx hb dX4_stateBefore_44 (lv_at hl 0 rfl) ?_
      refine cS (W.runV (As := [.int (nI k)]) (rest := [.ref (bd 23)]) ⟨hx, hb, hml, hown, hts⟩ (c_X4_place l D cy bd (tGo τ (inB (nI i) 0 15) (inB (nI n9) 0 (tKept τ)) true) w k (by omega) (by simp [tGo, up2, hw9]) hwb) (cwV 1 hts gX4_stateBefore_X4_place rfl rfl rfl (by decide +kernel) ⟨Nat.le_of_ble_eq_true rfl, Nat.le_of_ble_eq_true rfl⟩) ⟨mw_bl, (mw_O hP hK), (mw_at hP hK)⟩ rfl rfl hl.1 rfl (lv_room (Nat.le_of_ble_eq_true rfl)) dX4_stateBefore_46 ⟨Nat.le_of_ble_eq_true rfl, Nat.le_of_ble_eq_true rfl⟩) (fun _ _ => ?_)
      refine W.eq (g2 := F0 m 49 ls [.int (nI ((w - 1 - k) % 40)), .ref (bd 23)]) rfl ?_
      refine raO23 (x := τ 23 ((w - 1 - k) % 40)) hx hb hK hP (by omega) (by simp [up2, tGo]) dX4_stateBefore_49 ?_
      refine lv_iload_n hx hb dX4_stateBefore_50 rfl (lv_at hl 3 rfl) ?_
      refine lv_icmp_ne (tgt := 68) hx hb dX4_stateBefore_51 (by decide) (fun c_6 => ?_) (fun c_6 => ?_)
      · refine lv_iload_n hx hb dX4_stateBefore_68 rfl (lv_at hl 1 rfl) ?_
        refine lv_istore_n (lv' := [(3, .int (tSB τ i w k)), (4, .int (nI k)), (0, .ref (bd 0)), (1, .int (nI i)), (2, .int (nI n9))]) hx hb dX4_stateBefore_69 rfl hl (by decide) rfl (fun ls hl => ?_)
        refine lv_iinc (v := nI (k + 1)) (lv' := [(4, .int (nI (k + 1))), (3, .int (tSB τ i w k)), (0, .ref (bd 0)), (1, .int (nI i)), (2, .int (nI n9))]) hx hb dX4_stateBefore_70 hl (k := 1) rfl (nI_1 k) (by decide) rfl (fun ls hl => ?_)
        refine lv_goto (tgt := 33) hx hb dX4_stateBefore_73 (by decide) ?_
        have e70 : tSB τ i w (k + 1) = tSB τ i w k := by simp [tSB, c_6]
        exact ih ls trivial (show lv_has ls 5 [(4, .int (nI (k + 1))), (3, .int (tSB τ i w (k + 1))), (0, .ref (bd 0)), (1, .int (nI i)), (2, .int (nI n9))] from by rw [e70]; exact lv_sub hl [0, 1, 2, 3, 4] rfl)
      · refine lv_aload_n hx hb dX4_stateBefore_54 rfl (lv_at hl 2 rfl) ?_
        refine rgO24 hx hb hf4 hown hK hP (hts (.fieldLink RX4 72 "MachineFoundryModel" "before" "[I") (by decide +kernel)) dX4_stateBefore_55 ?_
        refine lv_aload_n hx hb dX4_stateBefore_58 rfl (lv_at hl 2 rfl) ?_
        refine lv_iload hx hb dX4_stateBefore_59 (lv_at hl 0 rfl) ?_
        refine cS (W.runV (As := [.int (nI k)]) (rest := [.ref (bd 24)]) ⟨hx, hb, hml, hown, hts⟩ (c_X4_place l D cy bd (tGo τ (inB (nI i) 0 15) (inB (nI n9) 0 (tKept τ)) true) w k (by omega) (by simp [tGo, up2, hw9]) hwb) (cwV 1 hts gX4_stateBefore_X4_place rfl rfl rfl (by decide +kernel) ⟨Nat.le_of_ble_eq_true rfl, Nat.le_of_ble_eq_true rfl⟩) ⟨mw_bl, (mw_O hP hK), (mw_at hP hK)⟩ rfl rfl hl.1 rfl (lv_room (Nat.le_of_ble_eq_true rfl)) dX4_stateBefore_61 ⟨Nat.le_of_ble_eq_true rfl, Nat.le_of_ble_eq_true rfl⟩) (fun _ _ => ?_)
        refine W.eq (g2 := F0 m 64 ls [.int (nI ((w - 1 - k) % 40)), .ref (bd 24)]) rfl ?_
        refine raO24 (x := τ 24 ((w - 1 - k) % 40)) hx hb hK hP (by omega) (by simp [up2, tGo]) dX4_stateBefore_64 ?_
        refine lv_goto (tgt := 69) hx hb dX4_stateBefore_65 (by decide) ?_
        refine lv_istore_n (lv' := [(3, .int (τ 24 ((w - 1 - k) % 40))), (4, .int (nI k)), (0, .ref (bd 0)), (1, .int (nI i)), (2, .int (nI n9))]) hx hb dX4_stateBefore_69 rfl hl (by decide) rfl (fun ls hl => ?_)
        refine lv_iinc (v := nI (k + 1)) (lv' := [(4, .int (nI (k + 1))), (3, .int (τ 24 ((w - 1 - k) % 40))), (0, .ref (bd 0)), (1, .int (nI i)), (2, .int (nI n9))]) hx hb dX4_stateBefore_70 hl (k := 1) rfl (nI_1 k) (by decide) rfl (fun ls hl => ?_)
        refine lv_goto (tgt := 33) hx hb dX4_stateBefore_73 (by decide) ?_
        have e70 : tSB τ i w (k + 1) = τ 24 ((w - 1 - k) % 40) := by simp [tSB, c_6]
        exact ih ls trivial (show lv_has ls 5 [(4, .int (nI (k + 1))), (3, .int (tSB τ i w (k + 1))), (0, .ref (bd 0)), (1, .int (nI i)), (2, .int (nI n9))] from by rw [e70]; exact lv_sub hl [0, 1, 2, 3, 4] rfl)
  · replace c_1 := b2i_0.mp c_1
    have g_7 : ¬ ((inB za 0 15) = true ∧ (inB zb 0 (tKept τ)) = true) := by rintro ⟨q0, q1⟩; simp [q0, q1] at c_1
    refine lv_iconst (v := 0) hx hb dX4_stateBefore_21 (by decide) ?_
    have e8 : hStateBefore τ za zb = tGo τ (inB za 0 15) (inB zb 0 (tKept τ)) true := by simp [qStateBefore, hStateBefore, bSb, tGo_r, tGo_0, up2_r, c_1, g_7]
    rw [← e8] at hP
    have e9 : 0 = qStateBefore τ za zb := by simp [qStateBefore, hStateBefore, bSb, tGo_r, tGo_0, up2_r, c_1, g_7]
    exact W.iret (v := 0) hx hb hr (fun t ht hW => ⟨⟨_, (), rfl, e9, by rw [← ht] at hP; exact hP⟩, hS.F ht⟩) hS.2.2 dX4_stateBefore_22
