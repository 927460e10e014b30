set_option maxHeartbeats 4000000 in
set_option maxRecDepth 100000 in
/-- setImage -/
theorem c_X3_setImage (l : Launch) (hst : l.stackTraces = false) (D : va_G) (cy : Nat → ClassId) (ad : Nat → Nat) (hj : inj31 ad) (σ : Mem) (sz : Nat) (za zb zc zd ze zf : Int32) : vx_Met l yX3_setImage wsX3_setImage ({ frames := 7, cells := 6, slots := 36, locals := 114 }) (va_Pc [.ref (ad 0), .int za, .int zb, .int zc, .int zd, .int ze, .int zf] (cx D cy ad σ sz)) (QV (fun H => kSetImage za zb zc zd ze zf = 0 ∧ va_P D vwCl (wC cy ad (gSetImage σ za zb zc zd ze zf)) H) (AC ad)) (XE (ex12 (kSetImage za zb zc zd ze zf))) 6 36 (AC ad) := by
  refine vx_ofW (cc := cX3_setImage) (maxL := 8) (ret := none) (by decide) rfl ?_
  intro p e s m args below meth c s₁ B hml ht hv
  obtain ⟨rfl, ⟨hP, hK⟩, hxk⟩ := hv
  have hx := B.exec
  have hb := B.bytes
  have hr := B.returns
  have hts := atoms_spec (ws := wsX3_setImage) B.pre
  have hown : s.vm.findClass RX3 = some m.cls := findClass_of_methodNamed B.named
  have hlocks := B.notSynchronized
  have hf0 := fun (w : Cond) (h : w ∈ wsX00) => hts w ((by decide +kernel : ∀ w ∈ wsX00, w ∈ wsX3_setImage) w h)
  have hl := lv_entry ([.ref (ad 0), .int za, .int zb, .int zc, .int zd, .int ze, .int zf]) (n := 8) (Nat.le_of_ble_eq_true rfl)
  have hD := wC_D (cy := cy) hj
  have hS : va_S (AC ad) s.heap s.heap [] := va_S.rf
  rw [lg_entry_eq]
  generalize (lg_sl ([.ref (ad 0), .int za, .int zb, .int zc, .int zd, .int ze, .int zf]) ++ List.replicate (8 - (lg_sl ([.ref (ad 0), .int za, .int zb, .int zc, .int zd, .int ze, .int zf])).length) Slot.unset).toArray = ls at hl ⊢
  have hl : lv_has ls 8 [(0, .ref (ad 0)), (1, .int za), (2, .int zb), (3, .int zc), (4, .int zd), (5, .int ze), (6, .int zf)] := hl
  refine lv_aload_n hx hb dX3_setImage_0 rfl (lv_at hl 0 rfl) ?_
  refine lv_iload_n hx hb dX3_setImage_1 rfl (lv_at hl 1 rfl) ?_
  refine xS (vx_runV (As := [.int za]) (rest := []) ⟨hx, hb, hml, hown, hts⟩ (c_X3_imageRow l hst D cy ad σ sz za) (cwV 1 hts gX3_setImage_X3_imageRow rfl rfl rfl (by decide +kernel) ⟨Nat.le_of_ble_eq_true rfl, Nat.le_of_ble_eq_true rfl⟩) ⟨cx_bl, cw_F hP hK, cx_at hP hK hxk⟩ rfl rfl hl.1 rfl (lv_room (Nat.le_of_ble_eq_true rfl)) dX3_setImage_2 ⟨Nat.le_of_ble_eq_true rfl, Nat.le_of_ble_eq_true rfl⟩) (fun E ce q9 H1 hE h1 h2 h3 h4 h5 => xOut ht hlocks h1 h2 h3 h4 h5 (by obtain ⟨rfl, h9⟩ := hE; first | exact ⟨rfl, by simp [h9, kSetImage, gSetImage, sSetIm]⟩ | exact Or.inl ⟨rfl, by simp [h9, kSetImage, gSetImage, sSetIm]⟩ | exact Or.inr ⟨rfl, by simp [h9, kSetImage, gSetImage, sSetIm]⟩ | exact Or.inr (Or.inl ⟨rfl, by simp [h9, kSetImage, gSetImage, sSetIm]⟩) | exact Or.inr (Or.inr ⟨rfl, by simp [h9, kSetImage, gSetImage, sSetIm]⟩)) (Nat.le_of_ble_eq_true rfl) (Nat.le_of_ble_eq_true rfl)) (fun i h1 => ?_)
  obtain ⟨hi, rfl⟩ := h1
  refine W.eq (g2 := F0 m 5 ls [.ref (ad (i + 23))]) rfl ?_
  have hl : lv_has ls 8 [(0, .ref (ad 0)), (1, .int (nI i)), (2, .int zb), (3, .int zc), (4, .int zd), (5, .int ze), (6, .int zf)] := hl
  refine lv_astore (lv' := [(7, .ref (ad (i + 23))), (0, .ref (ad 0)), (1, .int (nI i)), (2, .int zb), (3, .int zc), (4, .int zd), (5, .int ze), (6, .int zf)]) hx hb dX3_setImage_5 hl (by decide) rfl (fun ls hl => ?_)
  refine lv_iload_n hx hb dX3_setImage_7 rfl (lv_at hl 3 rfl) ?_
  refine lv_iconst (v := 0) hx hb dX3_setImage_8 (by decide) ?_
  refine lv_bipush (v := 9) hx hb dX3_setImage_9 (by decide) ?_
  refine xS (vx_runS (As := [.int zb, .int 0, .int 9]) (rest := []) ⟨hx, hb, hml, hown, hts⟩ (c_X3_refuseOutside l hst sz zb 0 9) (va_cwS 3 hts gX3_setImage_X3_refuseOutside rfl rfl rfl (by decide +kernel) ⟨Nat.le_of_ble_eq_true rfl, Nat.le_of_ble_eq_true rfl⟩) ⟨xk_bl, xk_pre hxk⟩ rfl rfl hl.1 rfl (lv_room (Nat.le_of_ble_eq_true rfl)) dX3_setImage_11 ⟨Nat.le_of_ble_eq_true rfl, Nat.le_of_ble_eq_true rfl⟩) (fun E ce q9 H1 hE h1 h2 h3 h4 h5 => xOut ht hlocks h1 h2 h3 h4 h5 (by obtain ⟨rfl, h9⟩ := hE; first | exact ⟨rfl, by simp [h9, kSetImage, gSetImage, sSetIm, inB_7 hi, ix_nI (show i < 2147483648 by omega)]⟩ | exact Or.inl ⟨rfl, by simp [h9, kSetImage, gSetImage, sSetIm, inB_7 hi, ix_nI (show i < 2147483648 by omega)]⟩ | exact Or.inr ⟨rfl, by simp [h9, kSetImage, gSetImage, sSetIm, inB_7 hi, ix_nI (show i < 2147483648 by omega)]⟩ | exact Or.inr (Or.inl ⟨rfl, by simp [h9, kSetImage, gSetImage, sSetIm, inB_7 hi, ix_nI (show i < 2147483648 by omega)]⟩) | exact Or.inr (Or.inr ⟨rfl, by simp [h9, kSetImage, gSetImage, sSetIm, inB_7 hi, ix_nI (show i < 2147483648 by omega)]⟩)) (Nat.le_of_ble_eq_true rfl) (Nat.le_of_ble_eq_true rfl)) (fun _ h2 => ?_)
  refine W.eq (g2 := F0 m 14 ls []) rfl ?_
  refine lv_iload_n hx hb dX3_setImage_14 rfl (lv_at hl 4 rfl) ?_
  refine lv_iconst (v := 0) hx hb dX3_setImage_15 (by decide) ?_
  refine lv_bipush (v := 99) hx hb dX3_setImage_16 (by decide) ?_
  refine xS (vx_runS (As := [.int zc, .int 0, .int 99]) (rest := []) ⟨hx, hb, hml, hown, hts⟩ (c_X3_refuseOutside l hst sz zc 0 99) (va_cwS 3 hts gX3_setImage_X3_refuseOutside rfl rfl rfl (by decide +kernel) ⟨Nat.le_of_ble_eq_true rfl, Nat.le_of_ble_eq_true rfl⟩) ⟨xk_bl, xk_pre hxk⟩ rfl rfl hl.1 rfl (lv_room (Nat.le_of_ble_eq_true rfl)) dX3_setImage_18 ⟨Nat.le_of_ble_eq_true rfl, Nat.le_of_ble_eq_true rfl⟩) (fun E ce q9 H1 hE h1 h2 h3 h4 h5 => xOut ht hlocks h1 h2 h3 h4 h5 (by obtain ⟨rfl, h9⟩ := hE; first | exact ⟨rfl, by simp [h9, kSetImage, gSetImage, sSetIm, h2, inB_7 hi, ix_nI (show i < 2147483648 by omega)]⟩ | exact Or.inl ⟨rfl, by simp [h9, kSetImage, gSetImage, sSetIm, h2, inB_7 hi, ix_nI (show i < 2147483648 by omega)]⟩ | exact Or.inr ⟨rfl, by simp [h9, kSetImage, gSetImage, sSetIm, h2, inB_7 hi, ix_nI (show i < 2147483648 by omega)]⟩ | exact Or.inr (Or.inl ⟨rfl, by simp [h9, kSetImage, gSetImage, sSetIm, h2, inB_7 hi, ix_nI (show i < 2147483648 by omega)]⟩) | exact Or.inr (Or.inr ⟨rfl, by simp [h9, kSetImage, gSetImage, sSetIm, h2, inB_7 hi, ix_nI (show i < 2147483648 by omega)]⟩)) (Nat.le_of_ble_eq_true rfl) (Nat.le_of_ble_eq_true rfl)) (fun _ h3 => ?_)
  refine W.eq (g2 := F0 m 21 ls []) rfl ?_
  refine lv_iload hx hb dX3_setImage_21 (lv_at hl 5 rfl) ?_
  refine lv_iconst (v := 0) hx hb dX3_setImage_23 (by decide) ?_
  refine lv_bipush (v := 15) hx hb dX3_setImage_24 (by decide) ?_
  refine xS (vx_runS (As := [.int zd, .int 0, .int 15]) (rest := []) ⟨hx, hb, hml, hown, hts⟩ (c_X3_refuseOutside l hst sz zd 0 15) (va_cwS 3 hts gX3_setImage_X3_refuseOutside rfl rfl rfl (by decide +kernel) ⟨Nat.le_of_ble_eq_true rfl, Nat.le_of_ble_eq_true rfl⟩) ⟨xk_bl, xk_pre hxk⟩ rfl rfl hl.1 rfl (lv_room (Nat.le_of_ble_eq_true rfl)) dX3_setImage_26 ⟨Nat.le_of_ble_eq_true rfl, Nat.le_of_ble_eq_true rfl⟩) (fun E ce q9 H1 hE h1 h2 h3 h4 h5 => xOut ht hlocks h1 h2 h3 h4 h5 (by obtain ⟨rfl, h9⟩ := hE; first | exact ⟨rfl, by simp [h9, kSetImage, gSetImage, sSetIm, h2, h3, inB_7 hi, ix_nI (show i < 2147483648 by omega)]⟩ | exact Or.inl ⟨rfl, by simp [h9, kSetImage, gSetImage, sSetIm, h2, h3, inB_7 hi, ix_nI (show i < 2147483648 by omega)]⟩ | exact Or.inr ⟨rfl, by simp [h9, kSetImage, gSetImage, sSetIm, h2, h3, inB_7 hi, ix_nI (show i < 2147483648 by omega)]⟩ | exact Or.inr (Or.inl ⟨rfl, by simp [h9, kSetImage, gSetImage, sSetIm, h2, h3, inB_7 hi, ix_nI (show i < 2147483648 by omega)]⟩) | exact Or.inr (Or.inr ⟨rfl, by simp [h9, kSetImage, gSetImage, sSetIm, h2, h3, inB_7 hi, ix_nI (show i < 2147483648 by omega)]⟩)) (Nat.le_of_ble_eq_true rfl) (Nat.le_of_ble_eq_true rfl)) (fun _ h4 => ?_)
  refine W.eq (g2 := F0 m 29 ls []) rfl ?_
  refine lv_iload hx hb dX3_setImage_29 (lv_at hl 6 rfl) ?_
  refine lv_iconst (v := 0) hx hb dX3_setImage_31 (by decide) ?_
  refine lv_bipush (v := 15) hx hb dX3_setImage_32 (by decide) ?_
  refine xS (vx_runS (As := [.int ze, .int 0, .int 15]) (rest := []) ⟨hx, hb, hml, hown, hts⟩ (c_X3_refuseOutside l hst sz ze 0 15) (va_cwS 3 hts gX3_setImage_X3_refuseOutside rfl rfl rfl (by decide +kernel) ⟨Nat.le_of_ble_eq_true rfl, Nat.le_of_ble_eq_true rfl⟩) ⟨xk_bl, xk_pre hxk⟩ rfl rfl hl.1 rfl (lv_room (Nat.le_of_ble_eq_true rfl)) dX3_setImage_34 ⟨Nat.le_of_ble_eq_true rfl, Nat.le_of_ble_eq_true rfl⟩) (fun E ce q9 H1 hE h1 h2 h3 h4 h5 => xOut ht hlocks h1 h2 h3 h4 h5 (by obtain ⟨rfl, h9⟩ := hE; first | exact ⟨rfl, by simp [h9, kSetImage, gSetImage, sSetIm, h2, h3, h4, inB_7 hi, ix_nI (show i < 2147483648 by omega)]⟩ | exact Or.inl ⟨rfl, by simp [h9, kSetImage, gSetImage, sSetIm, h2, h3, h4, inB_7 hi, ix_nI (show i < 2147483648 by omega)]⟩ | exact Or.inr ⟨rfl, by simp [h9, kSetImage, gSetImage, sSetIm, h2, h3, h4, inB_7 hi, ix_nI (show i < 2147483648 by omega)]⟩ | exact Or.inr (Or.inl ⟨rfl, by simp [h9, kSetImage, gSetImage, sSetIm, h2, h3, h4, inB_7 hi, ix_nI (show i < 2147483648 by omega)]⟩) | exact Or.inr (Or.inr ⟨rfl, by simp [h9, kSetImage, gSetImage, sSetIm, h2, h3, h4, inB_7 hi, ix_nI (show i < 2147483648 by omega)]⟩)) (Nat.le_of_ble_eq_true rfl) (Nat.le_of_ble_eq_true rfl)) (fun _ h5 => ?_)
  refine W.eq (g2 := F0 m 37 ls []) rfl ?_
  refine lv_iload hx hb dX3_setImage_37 (lv_at hl 7 rfl) ?_
  refine lv_iconst (v := 0) hx hb dX3_setImage_39 (by decide) ?_
  refine lv_bipush (v := 15) hx hb dX3_setImage_40 (by decide) ?_
  refine xS (vx_runS (As := [.int zf, .int 0, .int 15]) (rest := []) ⟨hx, hb, hml, hown, hts⟩ (c_X3_refuseOutside l hst sz zf 0 15) (va_cwS 3 hts gX3_setImage_X3_refuseOutside rfl rfl rfl (by decide +kernel) ⟨Nat.le_of_ble_eq_true rfl, Nat.le_of_ble_eq_true rfl⟩) ⟨xk_bl, xk_pre hxk⟩ rfl rfl hl.1 rfl (lv_room (Nat.le_of_ble_eq_true rfl)) dX3_setImage_42 ⟨Nat.le_of_ble_eq_true rfl, Nat.le_of_ble_eq_true rfl⟩) (fun E ce q9 H1 hE h1 h2 h3 h4 h5 => xOut ht hlocks h1 h2 h3 h4 h5 (by obtain ⟨rfl, h9⟩ := hE; first | exact ⟨rfl, by simp [h9, kSetImage, gSetImage, sSetIm, h2, h3, h4, h5, inB_7 hi, ix_nI (show i < 2147483648 by omega)]⟩ | exact Or.inl ⟨rfl, by simp [h9, kSetImage, gSetImage, sSetIm, h2, h3, h4, h5, inB_7 hi, ix_nI (show i < 2147483648 by omega)]⟩ | exact Or.inr ⟨rfl, by simp [h9, kSetImage, gSetImage, sSetIm, h2, h3, h4, h5, inB_7 hi, ix_nI (show i < 2147483648 by omega)]⟩ | exact Or.inr (Or.inl ⟨rfl, by simp [h9, kSetImage, gSetImage, sSetIm, h2, h3, h4, h5, inB_7 hi, ix_nI (show i < 2147483648 by omega)]⟩) | exact Or.inr (Or.inr ⟨rfl, by simp [h9, kSetImage, gSetImage, sSetIm, h2, h3, h4, h5, inB_7 hi, ix_nI (show i < 2147483648 by omega)]⟩)) (Nat.le_of_ble_eq_true rfl) (Nat.le_of_ble_eq_true rfl)) (fun _ h6 => ?_)
  refine W.eq (g2 := F0 m 45 ls []) rfl ?_
  refine lv_aload hx hb dX3_setImage_45 (lv_at hl 0 rfl) ?_
  refine rgI1 hx hb hf0 hown hK hP hi (hts (.fieldLink RX3 60 "MachineFoundry$Image" "isSet" "Z") (by decide +kernel)) (rfl) dX3_setImage_47 ?_
  refine lv_if_ne (tgt := 59) hx hb dX3_setImage_50 (by decide) (fun c_7 => ?_) (fun c_7 => ?_)
  · refine lv_aload hx hb dX3_setImage_59 (lv_at hl 0 rfl) ?_
    refine lv_iconst (v := 1) hx hb dX3_setImage_61 (by decide) ?_
    refine rpI1 hx hb hf0 hown hK hP hD hS hi (hts (.fieldLink RX3 60 "MachineFoundry$Image" "isSet" "Z") (by decide +kernel)) dX3_setImage_62 rfl rfl (fun H locs hP hS => ?_)
    refine lv_aload hx hb dX3_setImage_65 (lv_at hl 0 rfl) ?_
    refine lv_iload_n hx hb dX3_setImage_67 rfl (lv_at hl 3 rfl) ?_
    refine rpI2 hx hb hf0 hown hK hP hD hS hi (hts (.fieldLink RX3 67 "MachineFoundry$Image" "priority" "I") (by decide +kernel)) dX3_setImage_68 (fun H locs hP hS => ?_)
    refine lv_aload hx hb dX3_setImage_71 (lv_at hl 0 rfl) ?_
    refine lv_iload_n hx hb dX3_setImage_73 rfl (lv_at hl 4 rfl) ?_
    refine rpI3 hx hb hf0 hown hK hP hD hS hi (hts (.fieldLink RX3 70 "MachineFoundry$Image" "memory" "I") (by decide +kernel)) dX3_setImage_74 (fun H locs hP hS => ?_)
    refine lv_aload hx hb dX3_setImage_77 (lv_at hl 0 rfl) ?_
    refine lv_iload hx hb dX3_setImage_79 (lv_at hl 5 rfl) ?_
    refine rpI4 hx hb hf0 hown hK hP hD hS hi (hts (.fieldLink RX3 73 "MachineFoundry$Image" "kinds" "I") (by decide +kernel)) dX3_setImage_81 (fun H locs hP hS => ?_)
    refine lv_aload hx hb dX3_setImage_84 (lv_at hl 0 rfl) ?_
    refine lv_iload hx hb dX3_setImage_86 (lv_at hl 6 rfl) ?_
    refine rpI5 hx hb hf0 hown hK hP hD hS hi (hts (.fieldLink RX3 76 "MachineFoundry$Image" "required" "I") (by decide +kernel)) dX3_setImage_88 (fun H locs hP hS => ?_)
    refine lv_aload hx hb dX3_setImage_91 (lv_at hl 0 rfl) ?_
    refine lv_iload hx hb dX3_setImage_93 (lv_at hl 7 rfl) ?_
    refine rpI6 hx hb hf0 hown hK hP hD hS hi (hts (.fieldLink RX3 79 "MachineFoundry$Image" "barred" "I") (by decide +kernel)) dX3_setImage_95 (fun H locs hP hS => ?_)
    refine lv_aload_n hx hb dX3_setImage_98 rfl (lv_at hl 1 rfl) ?_
    refine cMv (va_runV (As := []) (rest := []) ⟨hx, hb, hml, hown, hts⟩ (c_X3_beginInstallations l D cy ad hj (up2 (up2 (up2 (up2 (up2 (up2 σ 11 i 1) 12 i zb) 13 i zc) 14 i zd) 15 i ze) 16 i zf)) (cwV 0 hts gX3_setImage_X3_beginInstallations rfl rfl rfl (by decide +kernel) ⟨Nat.le_of_ble_eq_true rfl, Nat.le_of_ble_eq_true rfl⟩) ⟨cw_bl, (cw_F hP hK), (cw_at hP hK)⟩ rfl rfl hl.1 rfl (lv_room (Nat.le_of_ble_eq_true rfl)) dX3_setImage_99 ⟨Nat.le_of_ble_eq_true rfl, Nat.le_of_ble_eq_true rfl⟩) hS (fun H locs hP hS => ?_)
    refine W.eq (g2 := F0 m 102 ls []) rfl ?_
    have e7 : gSetImage σ (nI i) zb zc zd ze zf = sBegins (up2 (up2 (up2 (up2 (up2 (up2 σ 11 i 1) 12 i zb) 13 i zc) 14 i zd) 15 i ze) 16 i zf) := by simp [kSetImage, gSetImage, sSetIm, h2, h3, h4, h5, h6, c_7, inB_7 hi, ix_nI (show i < 2147483648 by omega)]
    rw [← e7] at hP
    have e8 : kSetImage (nI i) zb zc zd ze zf = 0 := by simp [kSetImage, gSetImage, sSetIm, h2, h3, h4, h5, h6, c_7, inB_7 hi, ix_nI (show i < 2147483648 by omega)]
    refine vx_ret (W.widen (k := 6) (n := 36) (Nat.le_of_ble_eq_true rfl) (Nat.le_of_ble_eq_true rfl) ?_)
    exact W.vret hx hb hr (fun t ht9 hW => ⟨⟨(), rfl, trivial, e8, by rw [← ht9] at hP; exact hP⟩, hS.F ht9⟩) hS.2.2 dX3_setImage_102
  · refine lv_aload hx hb dX3_setImage_53 (lv_at hl 0 rfl) ?_
    refine lv_iconst (v := 2) hx hb dX3_setImage_55 (by decide) ?_
    refine rpI7 hx hb hf0 hown hK hP hD hS hi (hts (.fieldLink RX3 64 "MachineFoundry$Image" "time" "I") (by decide +kernel)) dX3_setImage_56 (fun H locs hP hS => ?_)
    refine lv_aload hx hb dX3_setImage_59 (lv_at hl 0 rfl) ?_
    refine lv_iconst (v := 1) hx hb dX3_setImage_61 (by decide) ?_
    refine rpI1 hx hb hf0 hown hK hP hD hS hi (hts (.fieldLink RX3 60 "MachineFoundry$Image" "isSet" "Z") (by decide +kernel)) dX3_setImage_62 rfl rfl (fun H locs hP hS => ?_)
    refine lv_aload hx hb dX3_setImage_65 (lv_at hl 0 rfl) ?_
    refine lv_iload_n hx hb dX3_setImage_67 rfl (lv_at hl 3 rfl) ?_
    refine rpI2 hx hb hf0 hown hK hP hD hS hi (hts (.fieldLink RX3 67 "MachineFoundry$Image" "priority" "I") (by decide +kernel)) dX3_setImage_68 (fun H locs hP hS => ?_)
    refine lv_aload hx hb dX3_setImage_71 (lv_at hl 0 rfl) ?_
    refine lv_iload_n hx hb dX3_setImage_73 rfl (lv_at hl 4 rfl) ?_
    refine rpI3 hx hb hf0 hown hK hP hD hS hi (hts (.fieldLink RX3 70 "MachineFoundry$Image" "memory" "I") (by decide +kernel)) dX3_setImage_74 (fun H locs hP hS => ?_)
    refine lv_aload hx hb dX3_setImage_77 (lv_at hl 0 rfl) ?_
    refine lv_iload hx hb dX3_setImage_79 (lv_at hl 5 rfl) ?_
    refine rpI4 hx hb hf0 hown hK hP hD hS hi (hts (.fieldLink RX3 73 "MachineFoundry$Image" "kinds" "I") (by decide +kernel)) dX3_setImage_81 (fun H locs hP hS => ?_)
    refine lv_aload hx hb dX3_setImage_84 (lv_at hl 0 rfl) ?_
    refine lv_iload hx hb dX3_setImage_86 (lv_at hl 6 rfl) ?_
    refine rpI5 hx hb hf0 hown hK hP hD hS hi (hts (.fieldLink RX3 76 "MachineFoundry$Image" "required" "I") (by decide +kernel)) dX3_setImage_88 (fun H locs hP hS => ?_)
    refine lv_aload hx hb dX3_setImage_91 (lv_at hl 0 rfl) ?_
    refine lv_iload hx hb dX3_setImage_93 (lv_at hl 7 rfl) ?_
    refine rpI6 hx hb hf0 hown hK hP hD hS hi (hts (.fieldLink RX3 79 "MachineFoundry$Image" "barred" "I") (by decide +kernel)) dX3_setImage_95 (fun H locs hP hS => ?_)
    refine lv_aload_n hx hb dX3_setImage_98 rfl (lv_at hl 1 rfl) ?_
    refine cMv (va_runV (As := []) (rest := []) ⟨hx, hb, hml, hown, hts⟩ (c_X3_beginInstallations l D cy ad hj (up2 (up2 (up2 (up2 (up2 (up2 (up2 σ 17 i 2) 11 i 1) 12 i zb) 13 i zc) 14 i zd) 15 i ze) 16 i zf)) (cwV 0 hts gX3_setImage_X3_beginInstallations rfl rfl rfl (by decide +kernel) ⟨Nat.le_of_ble_eq_true rfl, Nat.le_of_ble_eq_true rfl⟩) ⟨cw_bl, (cw_F hP hK), (cw_at hP hK)⟩ rfl rfl hl.1 rfl (lv_room (Nat.le_of_ble_eq_true rfl)) dX3_setImage_99 ⟨Nat.le_of_ble_eq_true rfl, Nat.le_of_ble_eq_true rfl⟩) hS (fun H locs hP hS => ?_)
    refine W.eq (g2 := F0 m 102 ls []) rfl ?_
    have e7 : gSetImage σ (nI i) zb zc zd ze zf = sBegins (up2 (up2 (up2 (up2 (up2 (up2 (up2 σ 17 i 2) 11 i 1) 12 i zb) 13 i zc) 14 i zd) 15 i ze) 16 i zf) := by simp [kSetImage, gSetImage, sSetIm, h2, h3, h4, h5, h6, c_7, inB_7 hi, ix_nI (show i < 2147483648 by omega)]
    rw [← e7] at hP
    have e8 : kSetImage (nI i) zb zc zd ze zf = 0 := by simp [kSetImage, gSetImage, sSetIm, h2, h3, h4, h5, h6, c_7, inB_7 hi, ix_nI (show i < 2147483648 by omega)]
    refine vx_ret (W.widen (k := 6) (n := 36) (Nat.le_of_ble_eq_true rfl) (Nat.le_of_ble_eq_true rfl) ?_)
    exact W.vret hx hb hr (fun t ht9 hW => ⟨⟨(), rfl, trivial, e8, by rw [← ht9] at hP; exact hP⟩, hS.F ht9⟩) hS.2.2 dX3_setImage_102
set_option maxHeartbeats 4000000 in
set_option maxRecDepth 100000 in
/-- setTime -/
theorem c_X3_setTime (l : Launch) (hst : l.stackTraces = false) (D : va_G) (cy : Nat → ClassId) (ad : Nat → Nat) (hj : inj31 ad) (σ : Mem) (sz : Nat) (za zb : Int32) : vx_Met l yX3_setTime wsX3_setTime ({ frames := 8, cells := 3, slots := 18, locals := 125 }) (va_Pc [.ref (ad 0), .int za, .int zb] (cx D cy ad σ sz)) (QI (rSetTime σ za) (fun H => kSetTime σ za zb = 0 ∧ va_P D vwCl (wC cy ad (gSetTime σ za zb)) H) (AC ad)) (XE (ex12 (kSetTime σ za zb))) 3 18 (AC ad) := by
  refine vx_ofW (cc := cX3_setTime) (maxL := 5) (ret := (some .int)) (by decide) rfl ?_
  intro p e s m args below meth c s₁ B hml ht hv
  obtain ⟨rfl, ⟨hP, hK⟩, hxk⟩ := hv
  have hx := B.exec
  have hb := B.bytes
  have hr := B.returns
  have hts := atoms_spec (ws := wsX3_setTime) B.pre
  have hown : s.vm.findClass RX3 = some m.cls := findClass_of_methodNamed B.named
  have hlocks := B.notSynchronized
  have hf0 := fun (w : Cond) (h : w ∈ wsX00) => hts w ((by decide +kernel : ∀ w ∈ wsX00, w ∈ wsX3_setTime) w h)
  have hl := lv_entry ([.ref (ad 0), .int za, .int zb]) (n := 5) (Nat.le_of_ble_eq_true rfl)
  have hD := wC_D (cy := cy) hj
  have hS : va_S (AC ad) s.heap s.heap [] := va_S.rf
  rw [lg_entry_eq]
  generalize (lg_sl ([.ref (ad 0), .int za, .int zb]) ++ List.replicate (5 - (lg_sl ([.ref (ad 0), .int za, .int zb])).length) Slot.unset).toArray = ls at hl ⊢
  have hl : lv_has ls 5 [(0, .ref (ad 0)), (1, .int za), (2, .int zb)] := hl
  refine lv_aload_n hx hb dX3_setTime_0 rfl (lv_at hl 0 rfl) ?_
  refine lv_iload_n hx hb dX3_setTime_1 rfl (lv_at hl 1 rfl) ?_
  refine xS (vx_runV (As := [.int za]) (rest := []) ⟨hx, hb, hml, hown, hts⟩ (c_X3_setImageRow l hst D cy ad σ sz za) (cwV 1 hts gX3_setTime_X3_setImageRow rfl rfl rfl (by decide +kernel) ⟨Nat.le_of_ble_eq_true rfl, Nat.le_of_ble_eq_true rfl⟩) ⟨cx_bl, cw_F hP hK, cx_at hP hK hxk⟩ rfl rfl hl.1 rfl (lv_room (Nat.le_of_ble_eq_true rfl)) dX3_setTime_2 ⟨Nat.le_of_ble_eq_true rfl, Nat.le_of_ble_eq_true rfl⟩) (fun E ce q9 H1 hE h1 h2 h3 h4 h5 => xOut ht hlocks h1 h2 h3 h4 h5 (by obtain ⟨rfl, h9⟩ := hE; first | exact ⟨rfl, by simp [h9, kSetTime, gSetTime, rSetTime]⟩ | exact Or.inl ⟨rfl, by simp [h9, kSetTime, gSetTime, rSetTime]⟩ | exact Or.inr ⟨rfl, by simp [h9, kSetTime, gSetTime, rSetTime]⟩ | exact Or.inr (Or.inl ⟨rfl, by simp [h9, kSetTime, gSetTime, rSetTime]⟩) | exact Or.inr (Or.inr ⟨rfl, by simp [h9, kSetTime, gSetTime, rSetTime]⟩)) (Nat.le_of_ble_eq_true rfl) (Nat.le_of_ble_eq_true rfl)) (fun i h1 => ?_)
  obtain ⟨hi, rfl, hset⟩ := h1
  refine W.eq (g2 := F0 m 5 ls [.ref (ad (i + 23))]) rfl ?_
  have hl : lv_has ls 5 [(0, .ref (ad 0)), (1, .int (nI i)), (2, .int zb)] := hl
  refine lv_astore_n (lv' := [(3, .ref (ad (i + 23))), (0, .ref (ad 0)), (1, .int (nI i)), (2, .int zb)]) hx hb dX3_setTime_5 rfl hl (by decide) rfl (fun ls hl => ?_)
  refine lv_iload_n hx hb dX3_setTime_6 rfl (lv_at hl 3 rfl) ?_
  refine lv_iconst (v := 1) hx hb dX3_setTime_7 (by decide) ?_
  refine lv_bipush (v := 24) hx hb dX3_setTime_8 (by decide) ?_
  refine xS (vx_runS (As := [.int zb, .int 1, .int 24]) (rest := []) ⟨hx, hb, hml, hown, hts⟩ (c_X3_refuseOutside l hst sz zb 1 24) (va_cwS 3 hts gX3_setTime_X3_refuseOutside rfl rfl rfl (by decide +kernel) ⟨Nat.le_of_ble_eq_true rfl, Nat.le_of_ble_eq_true rfl⟩) ⟨xk_bl, xk_pre hxk⟩ rfl rfl hl.1 rfl (lv_room (Nat.le_of_ble_eq_true rfl)) dX3_setTime_10 ⟨Nat.le_of_ble_eq_true rfl, Nat.le_of_ble_eq_true rfl⟩) (fun E ce q9 H1 hE h1 h2 h3 h4 h5 => xOut ht hlocks h1 h2 h3 h4 h5 (by obtain ⟨rfl, h9⟩ := hE; first | exact ⟨rfl, by simp [h9, kSetTime, gSetTime, rSetTime, inB_7 hi, ix_nI (show i < 2147483648 by omega), hset]⟩ | exact Or.inl ⟨rfl, by simp [h9, kSetTime, gSetTime, rSetTime, inB_7 hi, ix_nI (show i < 2147483648 by omega), hset]⟩ | exact Or.inr ⟨rfl, by simp [h9, kSetTime, gSetTime, rSetTime, inB_7 hi, ix_nI (show i < 2147483648 by omega), hset]⟩ | exact Or.inr (Or.inl ⟨rfl, by simp [h9, kSetTime, gSetTime, rSetTime, inB_7 hi, ix_nI (show i < 2147483648 by omega), hset]⟩) | exact Or.inr (Or.inr ⟨rfl, by simp [h9, kSetTime, gSetTime, rSetTime, inB_7 hi, ix_nI (show i < 2147483648 by omega), hset]⟩)) (Nat.le_of_ble_eq_true rfl) (Nat.le_of_ble_eq_true rfl)) (fun _ h2 => ?_)
  refine W.eq (g2 := F0 m 13 ls []) rfl ?_
  refine lv_aload_n hx hb dX3_setTime_13 rfl (lv_at hl 0 rfl) ?_
  refine rgI7 hx hb hf0 hown hK hP hi (hts (.fieldLink RX3 64 "MachineFoundry$Image" "time" "I") (by decide +kernel)) (rfl) dX3_setTime_14 ?_
  refine lv_istore (lv' := [(4, .int (σ 17 i)), (3, .ref (ad (i + 23))), (0, .ref (ad 0)), (1, .int (nI i)), (2, .int zb)]) hx hb dX3_setTime_17 hl (by decide) rfl (fun ls hl => ?_)
  refine lv_aload_n hx hb dX3_setTime_19 rfl (lv_at hl 1 rfl) ?_
  refine lv_iload_n hx hb dX3_setTime_20 rfl (lv_at hl 4 rfl) ?_
  refine rpI7 hx hb hf0 hown hK hP hD hS hi (hts (.fieldLink RX3 64 "MachineFoundry$Image" "time" "I") (by decide +kernel)) dX3_setTime_21 (fun H locs hP hS => ?_)
  refine lv_aload_n hx hb dX3_setTime_24 rfl (lv_at hl 2 rfl) ?_
  refine cMv (va_runV (As := []) (rest := []) ⟨hx, hb, hml, hown, hts⟩ (c_X3_beginInstallations l D cy ad hj (up2 σ 17 i zb)) (cwV 0 hts gX3_setTime_X3_beginInstallations rfl rfl rfl (by decide +kernel) ⟨Nat.le_of_ble_eq_true rfl, Nat.le_of_ble_eq_true rfl⟩) ⟨cw_bl, (cw_F hP hK), (cw_at hP hK)⟩ rfl rfl hl.1 rfl (lv_room (Nat.le_of_ble_eq_true rfl)) dX3_setTime_25 ⟨Nat.le_of_ble_eq_true rfl, Nat.le_of_ble_eq_true rfl⟩) hS (fun H locs hP hS => ?_)
  refine W.eq (g2 := F0 m 28 ls []) rfl ?_
  refine lv_iload hx hb dX3_setTime_28 (lv_at hl 0 rfl) ?_
  have e7 : gSetTime σ (nI i) zb = sBegins (up2 σ 17 i zb) := by simp [kSetTime, gSetTime, rSetTime, h2, inB_7 hi, ix_nI (show i < 2147483648 by omega), hset]
  rw [← e7] at hP
  have e8 : kSetTime σ (nI i) zb = 0 := by simp [kSetTime, gSetTime, rSetTime, h2, inB_7 hi, ix_nI (show i < 2147483648 by omega), hset]
  have e9 : (σ 17 i) = rSetTime σ (nI i) := by first | (rw [← e7]; simp [kSetTime, gSetTime, rSetTime, inB_7 hi, ix_nI (show i < 2147483648 by omega), hset]; done) | (simp [kSetTime, gSetTime, rSetTime, h2, inB_7 hi, ix_nI (show i < 2147483648 by omega), hset])
  refine vx_ret (W.widen (k := 3) (n := 18) (Nat.le_of_ble_eq_true rfl) (Nat.le_of_ble_eq_true rfl) ?_)
  exact W.iret (v := σ 17 i) hx hb hr (fun t ht9 hW => ⟨⟨_, (), rfl, e9, e8, by rw [← ht9] at hP; exact hP⟩, hS.F ht9⟩) hS.2.2 dX3_setTime_30
set_option maxHeartbeats 4000000 in
set_option maxRecDepth 100000 in
/-- dropImage -/
theorem c_X3_dropImage (l : Launch) (hst : l.stackTraces = false) (D : va_G) (cy : Nat → ClassId) (ad : Nat → Nat) (hj : inj31 ad) (σ : Mem) (sz : Nat) (za : Int32) : vx_Met l yX3_dropImage wsX3_dropImage ({ frames := 8, cells := 2, slots := 12, locals := 125 }) (va_Pc [.ref (ad 0), .int za] (cx D cy ad σ sz)) (QV (fun H => kDropImage σ za = 0 ∧ va_P D vwCl (wC cy ad (gDropImage σ za)) H) (AC ad)) (XE (ex1 (kDropImage σ za))) 2 12 (AC ad) := by
  refine vx_ofW (cc := cX3_dropImage) (maxL := 3) (ret := none) (by decide) rfl ?_
  intro p e s m args below meth c s₁ B hml ht hv
  obtain ⟨rfl, ⟨hP, hK⟩, hxk⟩ := hv
  have hx := B.exec
  have hb := B.bytes
  have hr := B.returns
  have hts := atoms_spec (ws := wsX3_dropImage) B.pre
  have hown : s.vm.findClass RX3 = some m.cls := findClass_of_methodNamed B.named
  have hlocks := B.notSynchronized
  have hf0 := fun (w : Cond) (h : w ∈ wsX00) => hts w ((by decide +kernel : ∀ w ∈ wsX00, w ∈ wsX3_dropImage) w h)
  have hl := lv_entry ([.ref (ad 0), .int za]) (n := 3) (Nat.le_of_ble_eq_true rfl)
  have hD := wC_D (cy := cy) hj
  have hS : va_S (AC ad) s.heap s.heap [] := va_S.rf
  rw [lg_entry_eq]
  generalize (lg_sl ([.ref (ad 0), .int za]) ++ List.replicate (3 - (lg_sl ([.ref (ad 0), .int za])).length) Slot.unset).toArray = ls at hl ⊢
  have hl : lv_has ls 3 [(0, .ref (ad 0)), (1, .int za)] := hl
  refine lv_aload_n hx hb dX3_dropImage_0 rfl (lv_at hl 0 rfl) ?_
  refine lv_iload_n hx hb dX3_dropImage_1 rfl (lv_at hl 1 rfl) ?_
  refine xS (vx_runV (As := [.int za]) (rest := []) ⟨hx, hb, hml, hown, hts⟩ (c_X3_setImageRow l hst D cy ad σ sz za) (cwV 1 hts gX3_dropImage_X3_setImageRow rfl rfl rfl (by decide +kernel) ⟨Nat.le_of_ble_eq_true rfl, Nat.le_of_ble_eq_true rfl⟩) ⟨cx_bl, cw_F hP hK, cx_at hP hK hxk⟩ rfl rfl hl.1 rfl (lv_room (Nat.le_of_ble_eq_true rfl)) dX3_dropImage_2 ⟨Nat.le_of_ble_eq_true rfl, Nat.le_of_ble_eq_true rfl⟩) (fun E ce q9 H1 hE h1 h2 h3 h4 h5 => xOut ht hlocks h1 h2 h3 h4 h5 (by obtain ⟨rfl, h9⟩ := hE; first | exact ⟨rfl, by simp [h9, kDropImage, gDropImage]⟩ | exact Or.inl ⟨rfl, by simp [h9, kDropImage, gDropImage]⟩ | exact Or.inr ⟨rfl, by simp [h9, kDropImage, gDropImage]⟩ | exact Or.inr (Or.inl ⟨rfl, by simp [h9, kDropImage, gDropImage]⟩) | exact Or.inr (Or.inr ⟨rfl, by simp [h9, kDropImage, gDropImage]⟩)) (Nat.le_of_ble_eq_true rfl) (Nat.le_of_ble_eq_true rfl)) (fun i h1 => ?_)
  obtain ⟨hi, rfl, hset⟩ := h1
  refine W.eq (g2 := F0 m 5 ls [.ref (ad (i + 23))]) rfl ?_
  have hl : lv_has ls 3 [(0, .ref (ad 0)), (1, .int (nI i))] := hl
  refine lv_astore_n (lv' := [(2, .ref (ad (i + 23))), (0, .ref (ad 0)), (1, .int (nI i))]) hx hb dX3_dropImage_5 rfl hl (by decide) rfl (fun ls hl => ?_)
  refine lv_aload_n hx hb dX3_dropImage_6 rfl (lv_at hl 0 rfl) ?_
  refine lv_iconst (v := 0) hx hb dX3_dropImage_7 (by decide) ?_
  refine rpI1 hx hb hf0 hown hK hP hD hS hi (hts (.fieldLink RX3 60 "MachineFoundry$Image" "isSet" "Z") (by decide +kernel)) dX3_dropImage_8 rfl rfl (fun H locs hP hS => ?_)
  refine lv_aload_n hx hb dX3_dropImage_11 rfl (lv_at hl 1 rfl) ?_
  refine cMv (va_runV (As := []) (rest := []) ⟨hx, hb, hml, hown, hts⟩ (c_X3_beginInstallations l D cy ad hj (up2 σ 11 i 0)) (cwV 0 hts gX3_dropImage_X3_beginInstallations rfl rfl rfl (by decide +kernel) ⟨Nat.le_of_ble_eq_true rfl, Nat.le_of_ble_eq_true rfl⟩) ⟨cw_bl, (cw_F hP hK), (cw_at hP hK)⟩ rfl rfl hl.1 rfl (lv_room (Nat.le_of_ble_eq_true rfl)) dX3_dropImage_12 ⟨Nat.le_of_ble_eq_true rfl, Nat.le_of_ble_eq_true rfl⟩) hS (fun H locs hP hS => ?_)
  refine W.eq (g2 := F0 m 15 ls []) rfl ?_
  have e7 : gDropImage σ (nI i) = sBegins (up2 σ 11 i 0) := by simp [kDropImage, gDropImage, inB_7 hi, ix_nI (show i < 2147483648 by omega), hset]
  rw [← e7] at hP
  have e8 : kDropImage σ (nI i) = 0 := by simp [kDropImage, gDropImage, inB_7 hi, ix_nI (show i < 2147483648 by omega), hset]
  refine vx_ret (W.widen (k := 2) (n := 12) (Nat.le_of_ble_eq_true rfl) (Nat.le_of_ble_eq_true rfl) ?_)
  exact W.vret hx hb hr (fun t ht9 hW => ⟨⟨(), rfl, trivial, e8, by rw [← ht9] at hP; exact hP⟩, hS.F ht9⟩) hS.2.2 dX3_dropImage_15
set_option maxHeartbeats 4000000 in
set_option maxRecDepth 100000 in
/-- setBatch -/
theorem c_X3_setBatch (l : Launch) (hst : l.stackTraces = false) (D : va_G) (cy : Nat → ClassId) (ad : Nat → Nat) (hj : inj31 ad) (σ : Mem) (sz : Nat) (za zb : Int32) : vx_Met l yX3_setBatch wsX3_setBatch ({ frames := 7, cells := 1, slots := 6, locals := 114 }) (va_Pc [.ref (ad 0), .int za, .int zb] (cx D cy ad σ sz)) (QI (rSetBatch σ za) (fun H => kSetBatch za zb = 0 ∧ va_P D vwCl (wC cy ad (gSetBatch σ za zb)) H) (AC ad)) (XE (ex12 (kSetBatch za zb))) 1 6 (AC ad) := by
  refine vx_ofW (cc := cX3_setBatch) (maxL := 4) (ret := (some .int)) (by decide) rfl ?_
  intro p e s m args below meth c s₁ B hml ht hv
  obtain ⟨rfl, ⟨hP, hK⟩, hxk⟩ := hv
  have hx := B.exec
  have hb := B.bytes
  have hr := B.returns
  have hts := atoms_spec (ws := wsX3_setBatch) B.pre
  have hown : s.vm.findClass RX3 = some m.cls := findClass_of_methodNamed B.named
  have hlocks := B.notSynchronized
  have hf3 := fun (w : Cond) (h : w ∈ wsX30) => hts w ((by decide +kernel : ∀ w ∈ wsX30, w ∈ wsX3_setBatch) w h)
  have hl := lv_entry ([.ref (ad 0), .int za, .int zb]) (n := 4) (Nat.le_of_ble_eq_true rfl)
  have hD := wC_D (cy := cy) hj
  have hS : va_S (AC ad) s.heap s.heap [] := va_S.rf
  rw [lg_entry_eq]
  generalize (lg_sl ([.ref (ad 0), .int za, .int zb]) ++ List.replicate (4 - (lg_sl ([.ref (ad 0), .int za, .int zb])).length) Slot.unset).toArray = ls at hl ⊢
  have hl : lv_has ls 4 [(0, .ref (ad 0)), (1, .int za), (2, .int zb)] := hl
  refine lv_aload_n hx hb dX3_setBatch_0 rfl (lv_at hl 0 rfl) ?_
  refine lv_iload_n hx hb dX3_setBatch_1 rfl (lv_at hl 1 rfl) ?_
  refine cS (W.runV (As := [.int za]) (rest := []) ⟨hx, hb, hml, hown, hts⟩ (c_X3_isNoRack l D cy ad σ za) (cwV 1 hts gX3_setBatch_X3_isNoRack rfl rfl rfl (by decide +kernel) ⟨Nat.le_of_ble_eq_true rfl, Nat.le_of_ble_eq_true rfl⟩) ⟨cw_bl, (cw_F hP hK), (cw_at hP hK)⟩ rfl rfl hl.1 rfl (lv_room (Nat.le_of_ble_eq_true rfl)) dX3_setBatch_2 ⟨Nat.le_of_ble_eq_true rfl, Nat.le_of_ble_eq_true rfl⟩) (fun _ _ => ?_)
  refine W.eq (g2 := F0 m 5 ls [.int (b2i (!inB za 0 3))]) rfl ?_
  refine lv_if_eq (tgt := 18) hx hb dX3_setBatch_5 (by decide) (fun c_1 => ?_) (fun c_1 => ?_)
  · replace c_1 := b2i_0.mp c_1
    replace c_1 : inB za 0 3 = true := by simpa using c_1
    refine lv_iload_n hx hb dX3_setBatch_18 rfl (lv_at hl 2 rfl) ?_
    refine lv_iconst (v := 0) hx hb dX3_setBatch_19 (by decide) ?_
    refine lv_iconst (v := 4) hx hb dX3_setBatch_20 (by decide) ?_
    refine xS (vx_runS (As := [.int zb, .int 0, .int 4]) (rest := []) ⟨hx, hb, hml, hown, hts⟩ (c_X3_refuseOutside l hst sz zb 0 4) (va_cwS 3 hts gX3_setBatch_X3_refuseOutside rfl rfl rfl (by decide +kernel) ⟨Nat.le_of_ble_eq_true rfl, Nat.le_of_ble_eq_true rfl⟩) ⟨xk_bl, xk_pre hxk⟩ rfl rfl hl.1 rfl (lv_room (Nat.le_of_ble_eq_true rfl)) dX3_setBatch_21 ⟨Nat.le_of_ble_eq_true rfl, Nat.le_of_ble_eq_true rfl⟩) (fun E ce q9 H1 hE h1 h2 h3 h4 h5 => xOut ht hlocks h1 h2 h3 h4 h5 (by obtain ⟨rfl, h9⟩ := hE; first | exact ⟨rfl, by simp [h9, kSetBatch, gSetBatch, rSetBatch, c_1]⟩ | exact Or.inl ⟨rfl, by simp [h9, kSetBatch, gSetBatch, rSetBatch, c_1]⟩ | exact Or.inr ⟨rfl, by simp [h9, kSetBatch, gSetBatch, rSetBatch, c_1]⟩ | exact Or.inr (Or.inl ⟨rfl, by simp [h9, kSetBatch, gSetBatch, rSetBatch, c_1]⟩) | exact Or.inr (Or.inr ⟨rfl, by simp [h9, kSetBatch, gSetBatch, rSetBatch, c_1]⟩)) (Nat.le_of_ble_eq_true rfl) (Nat.le_of_ble_eq_true rfl)) (fun _ h2 => ?_)
    refine W.eq (g2 := F0 m 24 ls []) rfl ?_
    obtain ⟨i, hi, rfl⟩ := of_3 c_1
    have hl : lv_has ls 4 [(0, .ref (ad 0)), (1, .int (nI i)), (2, .int zb)] := hl
    refine lv_aload_n hx hb dX3_setBatch_24 rfl (lv_at hl 0 rfl) ?_
    refine rgF2 hx hb hf3 hown hK hP (hts (.fieldLink RX3 21 "MachineFoundry" "batches" "[I") (by decide +kernel)) dX3_setBatch_25 ?_
    refine lv_iload_n hx hb dX3_setBatch_28 rfl (lv_at hl 1 rfl) ?_
    refine raB hx hb hK hP hi (rfl) dX3_setBatch_29 ?_
    refine lv_istore_n (lv' := [(3, .int (σ 21 i)), (0, .ref (ad 0)), (1, .int (nI i)), (2, .int zb)]) hx hb dX3_setBatch_30 rfl hl (by decide) rfl (fun ls hl => ?_)
    refine lv_aload_n hx hb dX3_setBatch_31 rfl (lv_at hl 1 rfl) ?_
    refine rgF2 hx hb hf3 hown hK hP (hts (.fieldLink RX3 21 "MachineFoundry" "batches" "[I") (by decide +kernel)) dX3_setBatch_32 ?_
    refine lv_iload_n hx hb dX3_setBatch_35 rfl (lv_at hl 2 rfl) ?_
    refine lv_iload_n hx hb dX3_setBatch_36 rfl (lv_at hl 3 rfl) ?_
    refine rsB hx hb hK hP hD hS hi dX3_setBatch_37 (fun H locs hP hS => ?_)
    refine lv_aload_n hx hb dX3_setBatch_38 rfl (lv_at hl 1 rfl) ?_
    refine cMv (va_runV (As := []) (rest := []) ⟨hx, hb, hml, hown, hts⟩ (c_X3_beginInstallations l D cy ad hj (up2 σ 21 i zb)) (cwV 0 hts gX3_setBatch_X3_beginInstallations rfl rfl rfl (by decide +kernel) ⟨Nat.le_of_ble_eq_true rfl, Nat.le_of_ble_eq_true rfl⟩) ⟨cw_bl, (cw_F hP hK), (cw_at hP hK)⟩ rfl rfl hl.1 rfl (lv_room (Nat.le_of_ble_eq_true rfl)) dX3_setBatch_39 ⟨Nat.le_of_ble_eq_true rfl, Nat.le_of_ble_eq_true rfl⟩) hS (fun H locs hP hS => ?_)
    refine W.eq (g2 := F0 m 42 ls []) rfl ?_
    refine lv_iload_n hx hb dX3_setBatch_42 rfl (lv_at hl 0 rfl) ?_
    have e7 : gSetBatch σ (nI i) zb = sBegins (up2 σ 21 i zb) := by simp [kSetBatch, gSetBatch, rSetBatch, c_1, h2, inB_3 hi, ix_nI (show i < 2147483648 by omega)]
    rw [← e7] at hP
    have e8 : kSetBatch (nI i) zb = 0 := by simp [kSetBatch, gSetBatch, rSetBatch, c_1, h2, inB_3 hi, ix_nI (show i < 2147483648 by omega)]
    have e9 : (σ 21 i) = rSetBatch σ (nI i) := by first | (rw [← e7]; simp [kSetBatch, gSetBatch, rSetBatch, inB_3 hi, ix_nI (show i < 2147483648 by omega)]; done) | (simp [kSetBatch, gSetBatch, rSetBatch, c_1, h2, inB_3 hi, ix_nI (show i < 2147483648 by omega)])
    refine vx_ret (W.widen (k := 1) (n := 6) (Nat.le_of_ble_eq_true rfl) (Nat.le_of_ble_eq_true rfl) ?_)
    exact W.iret (v := σ 21 i) hx hb hr (fun t ht9 hW => ⟨⟨_, (), rfl, e9, e8, by rw [← ht9] at hP; exact hP⟩, hS.F ht9⟩) hS.2.2 dX3_setBatch_43
  · replace c_1 := b2i_n0.mp c_1
    replace c_1 : inB za 0 3 = false := by simpa using c_1
    exact xThrow (sz := sz) hx hb hst hml ht hlocks hxk "java/lang/IndexOutOfBoundsException" "there is no such rack" 92 94 96 hown (by decide +kernel) (hts (.classLink RX3 92 "java/lang/IndexOutOfBoundsException") (by decide +kernel)) (hts (.initialized "java/lang/IndexOutOfBoundsException") (by decide +kernel)) (by decide +kernel) (fun w h => hts w ((by decide +kernel : ∀ w ∈ (vx_atS RX3 96 "java/lang/IndexOutOfBoundsException" NM).filter goodWord, w ∈ wsX3_setBatch) w h)) xn1 xg1 hl.1 dX3_setBatch_8 dX3_setBatch_11 dX3_setBatch_12 dX3_setBatch_14 dX3_setBatch_17 (Nat.le_of_ble_eq_true rfl) (Nat.le_of_ble_eq_true rfl) (Nat.le_of_ble_eq_true rfl) (Nat.le_of_ble_eq_true rfl) (by first | exact ⟨rfl, by simp [kSetBatch, gSetBatch, rSetBatch, c_1]⟩ | exact Or.inl ⟨rfl, by simp [kSetBatch, gSetBatch, rSetBatch, c_1]⟩ | exact Or.inr ⟨rfl, by simp [kSetBatch, gSetBatch, rSetBatch, c_1]⟩ | exact Or.inr (Or.inl ⟨rfl, by simp [kSetBatch, gSetBatch, rSetBatch, c_1]⟩) | exact Or.inr (Or.inr ⟨rfl, by simp [kSetBatch, gSetBatch, rSetBatch, c_1]⟩)) (Nat.le_of_ble_eq_true rfl) (Nat.le_of_ble_eq_true rfl)
set_option maxHeartbeats 4000000 in
set_option maxRecDepth 100000 in
/-- setRetries -/
theorem c_X3_setRetries (l : Launch) (hst : l.stackTraces = false) (D : va_G) (cy : Nat → ClassId) (ad : Nat → Nat) (hj : inj31 ad) (σ : Mem) (sz : Nat) (za zb : Int32) : vx_Met l yX3_setRetries wsX3_setRetries ({ frames := 7, cells := 2, slots := 12, locals := 114 }) (va_Pc [.ref (ad 0), .int za, .int zb] (cx D cy ad σ sz)) (QV (fun H => kSetRetries za zb = 0 ∧ va_P D vwCl (wC cy ad (gSetRetries σ za zb)) H) (AC ad)) (XE (ex2 (kSetRetries za zb))) 2 12 (AC ad) := by
  refine vx_ofW (cc := cX3_setRetries) (maxL := 3) (ret := none) (by decide) rfl ?_
  intro p e s m args below meth c s₁ B hml ht hv
  obtain ⟨rfl, ⟨hP, hK⟩, hxk⟩ := hv
  have hx := B.exec
  have hb := B.bytes
  have hr := B.returns
  have hts := atoms_spec (ws := wsX3_setRetries) B.pre
  have hown : s.vm.findClass RX3 = some m.cls := findClass_of_methodNamed B.named
  have hlocks := B.notSynchronized
  have hf3 := fun (w : Cond) (h : w ∈ wsX30) => hts w ((by decide +kernel : ∀ w ∈ wsX30, w ∈ wsX3_setRetries) w h)
  have hl := lv_entry ([.ref (ad 0), .int za, .int zb]) (n := 3) (Nat.le_of_ble_eq_true rfl)
  have hD := wC_D (cy := cy) hj
  have hS : va_S (AC ad) s.heap s.heap [] := va_S.rf
  rw [lg_entry_eq]
  generalize (lg_sl ([.ref (ad 0), .int za, .int zb]) ++ List.replicate (3 - (lg_sl ([.ref (ad 0), .int za, .int zb])).length) Slot.unset).toArray = ls at hl ⊢
  have hl : lv_has ls 3 [(0, .ref (ad 0)), (1, .int za), (2, .int zb)] := hl
  refine lv_iload_n hx hb dX3_setRetries_0 rfl (lv_at hl 1 rfl) ?_
  refine lv_iconst (v := 1) hx hb dX3_setRetries_1 (by decide) ?_
  refine lv_bipush (v := 24) hx hb dX3_setRetries_2 (by decide) ?_
  refine xS (vx_runS (As := [.int za, .int 1, .int 24]) (rest := []) ⟨hx, hb, hml, hown, hts⟩ (c_X3_refuseOutside l hst sz za 1 24) (va_cwS 3 hts gX3_setRetries_X3_refuseOutside rfl rfl rfl (by decide +kernel) ⟨Nat.le_of_ble_eq_true rfl, Nat.le_of_ble_eq_true rfl⟩) ⟨xk_bl, xk_pre hxk⟩ rfl rfl hl.1 rfl (lv_room (Nat.le_of_ble_eq_true rfl)) dX3_setRetries_4 ⟨Nat.le_of_ble_eq_true rfl, Nat.le_of_ble_eq_true rfl⟩) (fun E ce q9 H1 hE h1 h2 h3 h4 h5 => xOut ht hlocks h1 h2 h3 h4 h5 (by obtain ⟨rfl, h9⟩ := hE; first | exact ⟨rfl, by simp [h9, kSetRetries, gSetRetries]⟩ | exact Or.inl ⟨rfl, by simp [h9, kSetRetries, gSetRetries]⟩ | exact Or.inr ⟨rfl, by simp [h9, kSetRetries, gSetRetries]⟩ | exact Or.inr (Or.inl ⟨rfl, by simp [h9, kSetRetries, gSetRetries]⟩) | exact Or.inr (Or.inr ⟨rfl, by simp [h9, kSetRetries, gSetRetries]⟩)) (Nat.le_of_ble_eq_true rfl) (Nat.le_of_ble_eq_true rfl)) (fun _ h1 => ?_)
  refine W.eq (g2 := F0 m 7 ls []) rfl ?_
  refine lv_iload_n hx hb dX3_setRetries_7 rfl (lv_at hl 2 rfl) ?_
  refine lv_iconst (v := 1) hx hb dX3_setRetries_8 (by decide) ?_
  refine lv_bipush (v := 9) hx hb dX3_setRetries_9 (by decide) ?_
  refine xS (vx_runS (As := [.int zb, .int 1, .int 9]) (rest := []) ⟨hx, hb, hml, hown, hts⟩ (c_X3_refuseOutside l hst sz zb 1 9) (va_cwS 3 hts gX3_setRetries_X3_refuseOutside rfl rfl rfl (by decide +kernel) ⟨Nat.le_of_ble_eq_true rfl, Nat.le_of_ble_eq_true rfl⟩) ⟨xk_bl, xk_pre hxk⟩ rfl rfl hl.1 rfl (lv_room (Nat.le_of_ble_eq_true rfl)) dX3_setRetries_11 ⟨Nat.le_of_ble_eq_true rfl, Nat.le_of_ble_eq_true rfl⟩) (fun E ce q9 H1 hE h1 h2 h3 h4 h5 => xOut ht hlocks h1 h2 h3 h4 h5 (by obtain ⟨rfl, h9⟩ := hE; first | exact ⟨rfl, by simp [h9, kSetRetries, gSetRetries, h1]⟩ | exact Or.inl ⟨rfl, by simp [h9, kSetRetries, gSetRetries, h1]⟩ | exact Or.inr ⟨rfl, by simp [h9, kSetRetries, gSetRetries, h1]⟩ | exact Or.inr (Or.inl ⟨rfl, by simp [h9, kSetRetries, gSetRetries, h1]⟩) | exact Or.inr (Or.inr ⟨rfl, by simp [h9, kSetRetries, gSetRetries, h1]⟩)) (Nat.le_of_ble_eq_true rfl) (Nat.le_of_ble_eq_true rfl)) (fun _ h2 => ?_)
  refine W.eq (g2 := F0 m 14 ls []) rfl ?_
  refine lv_aload_n hx hb dX3_setRetries_14 rfl (lv_at hl 0 rfl) ?_
  refine lv_iload_n hx hb dX3_setRetries_15 rfl (lv_at hl 1 rfl) ?_
  refine rpF4 hx hb hf3 hown hK hP hD hS (hts (.fieldLink RX3 32 "MachineFoundry" "firstBackoff" "I") (by decide +kernel)) dX3_setRetries_16 (fun H locs hP hS => ?_)
  refine lv_aload_n hx hb dX3_setRetries_19 rfl (lv_at hl 0 rfl) ?_
  refine lv_iload_n hx hb dX3_setRetries_20 rfl (lv_at hl 2 rfl) ?_
  refine rpF5 hx hb hf3 hown hK hP hD hS (hts (.fieldLink RX3 36 "MachineFoundry" "mostFailures" "I") (by decide +kernel)) dX3_setRetries_21 (fun H locs hP hS => ?_)
  refine lv_aload_n hx hb dX3_setRetries_24 rfl (lv_at hl 0 rfl) ?_
  refine cMv (va_runV (As := []) (rest := []) ⟨hx, hb, hml, hown, hts⟩ (c_X3_beginInstallations l D cy ad hj (up2 (up2 σ 20 4 za) 20 5 zb)) (cwV 0 hts gX3_setRetries_X3_beginInstallations rfl rfl rfl (by decide +kernel) ⟨Nat.le_of_ble_eq_true rfl, Nat.le_of_ble_eq_true rfl⟩) ⟨cw_bl, (cw_F hP hK), (cw_at hP hK)⟩ rfl rfl hl.1 rfl (lv_room (Nat.le_of_ble_eq_true rfl)) dX3_setRetries_25 ⟨Nat.le_of_ble_eq_true rfl, Nat.le_of_ble_eq_true rfl⟩) hS (fun H locs hP hS => ?_)
  refine W.eq (g2 := F0 m 28 ls []) rfl ?_
  have e7 : gSetRetries σ za zb = sBegins (up2 (up2 σ 20 4 za) 20 5 zb) := by simp [kSetRetries, gSetRetries, h1, h2]
  rw [← e7] at hP
  have e8 : kSetRetries za zb = 0 := by simp [kSetRetries, gSetRetries, h1, h2]
  refine vx_ret (W.widen (k := 2) (n := 12) (Nat.le_of_ble_eq_true rfl) (Nat.le_of_ble_eq_true rfl) ?_)
  exact W.vret hx hb hr (fun t ht9 hW => ⟨⟨(), rfl, trivial, e8, by rw [← ht9] at hP; exact hP⟩, hS.F ht9⟩) hS.2.2 dX3_setRetries_28
set_option maxHeartbeats 4000000 in
set_option maxRecDepth 100000 in
/-- report -/
theorem c_X3_report (l : Launch) (hst : l.stackTraces = false) (D : va_G) (cy : Nat → ClassId) (ad : Nat → Nat) (hj : inj31 ad) (σ : Mem) (sz : Nat) (za zb zc zd ze : Int32) : vx_Met l yX3_report wsX3_report ({ frames := 7, cells := 5, slots := 30, locals := 114 }) (va_Pc [.ref (ad 0), .int za, .int zb, .int zc, .int zd, .int ze] (cx D cy ad σ sz)) (QI (rReport σ za zb zc zd ze) (fun H => kReport za zb zc zd ze = 0 ∧ va_P D vwCl (wC cy ad (gReport σ za zb zc zd ze)) H) (AC ad)) (XE (ex12 (kReport za zb zc zd ze))) 5 30 (AC ad) := by
  refine vx_ofW (cc := cX3_report) (maxL := 8) (ret := (some .int)) (by decide) rfl ?_
  intro p e s m args below meth c s₁ B hml ht hv
  obtain ⟨rfl, ⟨hP, hK⟩, hxk⟩ := hv
  have hx := B.exec
  have hb := B.bytes
  have hr := B.returns
  have hts := atoms_spec (ws := wsX3_report) B.pre
  have hown : s.vm.findClass RX3 = some m.cls := findClass_of_methodNamed B.named
  have hlocks := B.notSynchronized
  have hf2 := fun (w : Cond) (h : w ∈ wsX20) => hts w ((by decide +kernel : ∀ w ∈ wsX20, w ∈ wsX3_report) w h)
  have hl := lv_entry ([.ref (ad 0), .int za, .int zb, .int zc, .int zd, .int ze]) (n := 8) (Nat.le_of_ble_eq_true rfl)
  have hD := wC_D (cy := cy) hj
  have hS : va_S (AC ad) s.heap s.heap [] := va_S.rf
  rw [lg_entry_eq]
  generalize (lg_sl ([.ref (ad 0), .int za, .int zb, .int zc, .int zd, .int ze]) ++ List.replicate (8 - (lg_sl ([.ref (ad 0), .int za, .int zb, .int zc, .int zd, .int ze])).length) Slot.unset).toArray = ls at hl ⊢
  have hl : lv_has ls 8 [(0, .ref (ad 0)), (1, .int za), (2, .int zb), (3, .int zc), (4, .int zd), (5, .int ze)] := hl
  refine lv_aload_n hx hb dX3_report_0 rfl (lv_at hl 0 rfl) ?_
  refine lv_iload_n hx hb dX3_report_1 rfl (lv_at hl 1 rfl) ?_
  refine xS (vx_runV (As := [.int za]) (rest := []) ⟨hx, hb, hml, hown, hts⟩ (c_X3_machineRow l hst D cy ad σ sz za) (cwV 1 hts gX3_report_X3_machineRow rfl rfl rfl (by decide +kernel) ⟨Nat.le_of_ble_eq_true rfl, Nat.le_of_ble_eq_true rfl⟩) ⟨cx_bl, cw_F hP hK, cx_at hP hK hxk⟩ rfl rfl hl.1 rfl (lv_room (Nat.le_of_ble_eq_true rfl)) dX3_report_2 ⟨Nat.le_of_ble_eq_true rfl, Nat.le_of_ble_eq_true rfl⟩) (fun E ce q9 H1 hE h1 h2 h3 h4 h5 => xOut ht hlocks h1 h2 h3 h4 h5 (by obtain ⟨rfl, h9⟩ := hE; first | exact ⟨rfl, by simp [h9, kReport, gReport, rReport]⟩ | exact Or.inl ⟨rfl, by simp [h9, kReport, gReport, rReport]⟩ | exact Or.inr ⟨rfl, by simp [h9, kReport, gReport, rReport]⟩ | exact Or.inr (Or.inl ⟨rfl, by simp [h9, kReport, gReport, rReport]⟩) | exact Or.inr (Or.inr ⟨rfl, by simp [h9, kReport, gReport, rReport]⟩)) (Nat.le_of_ble_eq_true rfl) (Nat.le_of_ble_eq_true rfl)) (fun i h1 => ?_)
  obtain ⟨hi, rfl⟩ := h1
  refine W.eq (g2 := F0 m 5 ls [.ref (ad (i + 7))]) rfl ?_
  have hl : lv_has ls 8 [(0, .ref (ad 0)), (1, .int (nI i)), (2, .int zb), (3, .int zc), (4, .int zd), (5, .int ze)] := hl
  refine lv_astore (lv' := [(6, .ref (ad (i + 7))), (0, .ref (ad 0)), (1, .int (nI i)), (2, .int zb), (3, .int zc), (4, .int zd), (5, .int ze)]) hx hb dX3_report_5 hl (by decide) rfl (fun ls hl => ?_)
  refine lv_aload_n hx hb dX3_report_7 rfl (lv_at hl 1 rfl) ?_
  refine lv_iload_n hx hb dX3_report_8 rfl (lv_at hl 3 rfl) ?_
  refine cS (W.runV (As := [.int zb]) (rest := []) ⟨hx, hb, hml, hown, hts⟩ (c_X3_isNoRack l D cy ad σ zb) (cwV 1 hts gX3_report_X3_isNoRack rfl rfl rfl (by decide +kernel) ⟨Nat.le_of_ble_eq_true rfl, Nat.le_of_ble_eq_true rfl⟩) ⟨cw_bl, (cw_F hP hK), (cw_at hP hK)⟩ rfl rfl hl.1 rfl (lv_room (Nat.le_of_ble_eq_true rfl)) dX3_report_9 ⟨Nat.le_of_ble_eq_true rfl, Nat.le_of_ble_eq_true rfl⟩) (fun _ _ => ?_)
  refine W.eq (g2 := F0 m 12 ls [.int (b2i (!inB zb 0 3))]) rfl ?_
  refine lv_if_eq (tgt := 25) hx hb dX3_report_12 (by decide) (fun c_2 => ?_) (fun c_2 => ?_)
  · replace c_2 := b2i_0.mp c_2
    replace c_2 : inB zb 0 3 = true := by simpa using c_2
    refine lv_iload_n hx hb dX3_report_25 rfl (lv_at hl 4 rfl) ?_
    refine lv_iconst (v := 0) hx hb dX3_report_26 (by decide) ?_
    refine lv_bipush (v := 99) hx hb dX3_report_27 (by decide) ?_
    refine xS (vx_runS (As := [.int zc, .int 0, .int 99]) (rest := []) ⟨hx, hb, hml, hown, hts⟩ (c_X3_refuseOutside l hst sz zc 0 99) (va_cwS 3 hts gX3_report_X3_refuseOutside rfl rfl rfl (by decide +kernel) ⟨Nat.le_of_ble_eq_true rfl, Nat.le_of_ble_eq_true rfl⟩) ⟨xk_bl, xk_pre hxk⟩ rfl rfl hl.1 rfl (lv_room (Nat.le_of_ble_eq_true rfl)) dX3_report_29 ⟨Nat.le_of_ble_eq_true rfl, Nat.le_of_ble_eq_true rfl⟩) (fun E ce q9 H1 hE h1 h2 h3 h4 h5 => xOut ht hlocks h1 h2 h3 h4 h5 (by obtain ⟨rfl, h9⟩ := hE; first | exact ⟨rfl, by simp [h9, kReport, gReport, rReport, c_2, inB_15 hi, ix_nI (show i < 2147483648 by omega)]⟩ | exact Or.inl ⟨rfl, by simp [h9, kReport, gReport, rReport, c_2, inB_15 hi, ix_nI (show i < 2147483648 by omega)]⟩ | exact Or.inr ⟨rfl, by simp [h9, kReport, gReport, rReport, c_2, inB_15 hi, ix_nI (show i < 2147483648 by omega)]⟩ | exact Or.inr (Or.inl ⟨rfl, by simp [h9, kReport, gReport, rReport, c_2, inB_15 hi, ix_nI (show i < 2147483648 by omega)]⟩) | exact Or.inr (Or.inr ⟨rfl, by simp [h9, kReport, gReport, rReport, c_2, inB_15 hi, ix_nI (show i < 2147483648 by omega)]⟩)) (Nat.le_of_ble_eq_true rfl) (Nat.le_of_ble_eq_true rfl)) (fun _ h3 => ?_)
    refine W.eq (g2 := F0 m 32 ls []) rfl ?_
    refine lv_iload hx hb dX3_report_32 (lv_at hl 5 rfl) ?_
    refine lv_iconst (v := 0) hx hb dX3_report_34 (by decide) ?_
    refine lv_iconst (v := 3) hx hb dX3_report_35 (by decide) ?_
    refine xS (vx_runS (As := [.int zd, .int 0, .int 3]) (rest := []) ⟨hx, hb, hml, hown, hts⟩ (c_X3_refuseOutside l hst sz zd 0 3) (va_cwS 3 hts gX3_report_X3_refuseOutside rfl rfl rfl (by decide +kernel) ⟨Nat.le_of_ble_eq_true rfl, Nat.le_of_ble_eq_true rfl⟩) ⟨xk_bl, xk_pre hxk⟩ rfl rfl hl.1 rfl (lv_room (Nat.le_of_ble_eq_true rfl)) dX3_report_36 ⟨Nat.le_of_ble_eq_true rfl, Nat.le_of_ble_eq_true rfl⟩) (fun E ce q9 H1 hE h1 h2 h3 h4 h5 => xOut ht hlocks h1 h2 h3 h4 h5 (by obtain ⟨rfl, h9⟩ := hE; first | exact ⟨rfl, by simp [h9, kReport, gReport, rReport, c_2, h3, inB_15 hi, ix_nI (show i < 2147483648 by omega)]⟩ | exact Or.inl ⟨rfl, by simp [h9, kReport, gReport, rReport, c_2, h3, inB_15 hi, ix_nI (show i < 2147483648 by omega)]⟩ | exact Or.inr ⟨rfl, by simp [h9, kReport, gReport, rReport, c_2, h3, inB_15 hi, ix_nI (show i < 2147483648 by omega)]⟩ | exact Or.inr (Or.inl ⟨rfl, by simp [h9, kReport, gReport, rReport, c_2, h3, inB_15 hi, ix_nI (show i < 2147483648 by omega)]⟩) | exact Or.inr (Or.inr ⟨rfl, by simp [h9, kReport, gReport, rReport, c_2, h3, inB_15 hi, ix_nI (show i < 2147483648 by omega)]⟩)) (Nat.le_of_ble_eq_true rfl) (Nat.le_of_ble_eq_true rfl)) (fun _ h4 => ?_)
    refine W.eq (g2 := F0 m 39 ls []) rfl ?_
    refine lv_iload hx hb dX3_report_39 (lv_at hl 6 rfl) ?_
    refine lv_iconst (v := 0) hx hb dX3_report_41 (by decide) ?_
    refine lv_bipush (v := 15) hx hb dX3_report_42 (by decide) ?_
    refine xS (vx_runS (As := [.int ze, .int 0, .int 15]) (rest := []) ⟨hx, hb, hml, hown, hts⟩ (c_X3_refuseOutside l hst sz ze 0 15) (va_cwS 3 hts gX3_report_X3_refuseOutside rfl rfl rfl (by decide +kernel) ⟨Nat.le_of_ble_eq_true rfl, Nat.le_of_ble_eq_true rfl⟩) ⟨xk_bl, xk_pre hxk⟩ rfl rfl hl.1 rfl (lv_room (Nat.le_of_ble_eq_true rfl)) dX3_report_44 ⟨Nat.le_of_ble_eq_true rfl, Nat.le_of_ble_eq_true rfl⟩) (fun E ce q9 H1 hE h1 h2 h3 h4 h5 => xOut ht hlocks h1 h2 h3 h4 h5 (by obtain ⟨rfl, h9⟩ := hE; first | exact ⟨rfl, by simp [h9, kReport, gReport, rReport, c_2, h3, h4, inB_15 hi, ix_nI (show i < 2147483648 by omega)]⟩ | exact Or.inl ⟨rfl, by simp [h9, kReport, gReport, rReport, c_2, h3, h4, inB_15 hi, ix_nI (show i < 2147483648 by omega)]⟩ | exact Or.inr ⟨rfl, by simp [h9, kReport, gReport, rReport, c_2, h3, h4, inB_15 hi, ix_nI (show i < 2147483648 by omega)]⟩ | exact Or.inr (Or.inl ⟨rfl, by simp [h9, kReport, gReport, rReport, c_2, h3, h4, inB_15 hi, ix_nI (show i < 2147483648 by omega)]⟩) | exact Or.inr (Or.inr ⟨rfl, by simp [h9, kReport, gReport, rReport, c_2, h3, h4, inB_15 hi, ix_nI (show i < 2147483648 by omega)]⟩)) (Nat.le_of_ble_eq_true rfl) (Nat.le_of_ble_eq_true rfl)) (fun _ h5 => ?_)
    refine W.eq (g2 := F0 m 47 ls []) rfl ?_
    refine w_have (g2 := F0 m 61 ls [.int (b2i (!decide (σ 2 i = zb)))]) ?_ (fun J => ?_)
    · refine lv_istore (lv' := [(7, .int (b2i (!decide (σ 2 i = zb)))), (6, .ref (ad (i + 7))), (0, .ref (ad 0)), (1, .int (nI i)), (2, .int zb), (3, .int zc), (4, .int zd), (5, .int ze)]) hx hb dX3_report_61 hl (by decide) rfl (fun ls hl => ?_)
      refine lv_aload hx hb dX3_report_63 (lv_at hl 1 rfl) ?_
      refine lv_iload_n hx hb dX3_report_65 rfl (lv_at hl 4 rfl) ?_
      refine rpM2 hx hb hf2 hown hK hP hD hS hi (hts (.fieldLink RX3 103 "MachineFoundry$Machine" "rack" "I") (by decide +kernel)) dX3_report_66 (fun H locs hP hS => ?_)
      refine lv_aload hx hb dX3_report_69 (lv_at hl 1 rfl) ?_
      refine lv_iload_n hx hb dX3_report_71 rfl (lv_at hl 5 rfl) ?_
      refine rpM3 hx hb hf2 hown hK hP hD hS hi (hts (.fieldLink RX3 106 "MachineFoundry$Machine" "memory" "I") (by decide +kernel)) dX3_report_72 (fun H locs hP hS => ?_)
      refine lv_aload hx hb dX3_report_75 (lv_at hl 1 rfl) ?_
      refine lv_iload hx hb dX3_report_77 (lv_at hl 6 rfl) ?_
      refine rpM4 hx hb hf2 hown hK hP hD hS hi (hts (.fieldLink RX3 107 "MachineFoundry$Machine" "kind" "I") (by decide +kernel)) dX3_report_79 (fun H locs hP hS => ?_)
      refine lv_aload hx hb dX3_report_82 (lv_at hl 1 rfl) ?_
      refine lv_iload hx hb dX3_report_84 (lv_at hl 7 rfl) ?_
      refine rpM5 hx hb hf2 hown hK hP hD hS hi (hts (.fieldLink RX3 110 "MachineFoundry$Machine" "tags" "I") (by decide +kernel)) dX3_report_86 (fun H locs hP hS => ?_)
      refine lv_aload_n hx hb dX3_report_89 rfl (lv_at hl 2 rfl) ?_
      refine lv_aload hx hb dX3_report_90 (lv_at hl 1 rfl) ?_
      refine lv_iload hx hb dX3_report_92 (lv_at hl 0 rfl) ?_
      refine cMv (va_runV (As := [.ref (ad (i + 7)), .int (b2i (!decide (σ 2 i = zb)))]) (rest := []) ⟨hx, hb, hml, hown, hts⟩ (c_X3_answerReport l D cy ad hj (up2 (up2 (up2 (up2 σ 2 i zb) 3 i zc) 4 i zd) 5 i ze) i hi (!decide (σ 2 i = zb))) (cwV 2 hts gX3_report_X3_answerReport rfl rfl rfl (by decide +kernel) ⟨Nat.le_of_ble_eq_true rfl, Nat.le_of_ble_eq_true rfl⟩) ⟨cw_bl, (cw_F hP hK), (cw_at hP hK)⟩ rfl rfl hl.1 rfl (lv_room (Nat.le_of_ble_eq_true rfl)) dX3_report_94 ⟨Nat.le_of_ble_eq_true rfl, Nat.le_of_ble_eq_true rfl⟩) hS (fun H locs hP hS => ?_)
      refine W.eq (g2 := F0 m 97 ls []) rfl ?_
      refine lv_aload_n hx hb dX3_report_97 rfl (lv_at hl 2 rfl) ?_
      refine cMv (va_runV (As := []) (rest := []) ⟨hx, hb, hml, hown, hts⟩ (c_X3_beginInstallations l D cy ad hj (sAns (up2 (up2 (up2 (up2 σ 2 i zb) 3 i zc) 4 i zd) 5 i ze) i (!decide (σ 2 i = zb)))) (cwV 0 hts gX3_report_X3_beginInstallations rfl rfl rfl (by decide +kernel) ⟨Nat.le_of_ble_eq_true rfl, Nat.le_of_ble_eq_true rfl⟩) ⟨cw_bl, (cw_F hP hK), (cw_at hP hK)⟩ rfl rfl hl.1 rfl (lv_room (Nat.le_of_ble_eq_true rfl)) dX3_report_98 ⟨Nat.le_of_ble_eq_true rfl, Nat.le_of_ble_eq_true rfl⟩) hS (fun H locs hP hS => ?_)
      refine W.eq (g2 := F0 m 101 ls []) rfl ?_
      refine lv_aload hx hb dX3_report_101 (lv_at hl 1 rfl) ?_
      refine rgM1 hx hb hf2 hown hK hP hi (hts (.fieldLink RX3 117 "MachineFoundry$Machine" "state" "I") (by decide +kernel)) (rfl) dX3_report_103 ?_
      have e7 : gReport σ (nI i) zb zc zd ze = sBegins (sAns (up2 (up2 (up2 (up2 σ 2 i zb) 3 i zc) 4 i zd) 5 i ze) i (!decide (σ 2 i = zb))) := by simp [kReport, gReport, rReport, c_2, h3, h4, h5, inB_15 hi, ix_nI (show i < 2147483648 by omega)]
      rw [← e7] at hP
      have e8 : kReport (nI i) zb zc zd ze = 0 := by simp [kReport, gReport, rReport, c_2, h3, h4, h5, inB_15 hi, ix_nI (show i < 2147483648 by omega)]
      have e9 : ((sBegins (sAns (up2 (up2 (up2 (up2 σ 2 i zb) 3 i zc) 4 i zd) 5 i ze) i (!decide (σ 2 i = zb)))) 1 i) = rReport σ (nI i) zb zc zd ze := by first | (rw [← e7]; simp [kReport, gReport, rReport, inB_15 hi, ix_nI (show i < 2147483648 by omega)]; done) | (simp [kReport, gReport, rReport, c_2, h3, h4, h5, inB_15 hi, ix_nI (show i < 2147483648 by omega)])
      refine vx_ret (W.widen (k := 5) (n := 30) (Nat.le_of_ble_eq_true rfl) (Nat.le_of_ble_eq_true rfl) ?_)
      exact W.iret (v := (sBegins (sAns (up2 (up2 (up2 (up2 σ 2 i zb) 3 i zc) 4 i zd) 5 i ze) i (!decide (σ 2 i = zb)))) 1 i) hx hb hr (fun t ht9 hW => ⟨⟨_, (), rfl, e9, e8, by rw [← ht9] at hP; exact hP⟩, hS.F ht9⟩) hS.2.2 dX3_report_106
    · refine lv_aload hx hb dX3_report_47 (lv_at hl 0 rfl) ?_
      refine rgM2 hx hb hf2 hown hK hP hi (hts (.fieldLink RX3 103 "MachineFoundry$Machine" "rack" "I") (by decide +kernel)) (rfl) dX3_report_49 ?_
      refine lv_iload_n hx hb dX3_report_52 rfl (lv_at hl 3 rfl) ?_
      refine lv_icmp_eq (tgt := 60) hx hb dX3_report_53 (by decide) (fun c_6 => ?_) (fun c_6 => ?_)
      · refine lv_iconst (v := 0) hx hb dX3_report_60 (by decide) ?_
        exact W.eq (congrArg (fun x9 => F0 m 61 ls [.int x9]) (by simp [b2i, c_2, h3, h4, h5, c_6] : (0 : Int32) = b2i (!decide (σ 2 i = zb)))) J
      · refine lv_iconst (v := 1) hx hb dX3_report_56 (by decide) ?_
        refine lv_goto (tgt := 61) hx hb dX3_report_57 (by decide) ?_
        exact W.eq (congrArg (fun x9 => F0 m 61 ls [.int x9]) (by simp [b2i, c_2, h3, h4, h5, c_6] : (1 : Int32) = b2i (!decide (σ 2 i = zb)))) J
  · replace c_2 := b2i_n0.mp c_2
    replace c_2 : inB zb 0 3 = false := by simpa using c_2
    exact xThrow (sz := sz) hx hb hst hml ht hlocks hxk "java/lang/IndexOutOfBoundsException" "there is no such rack" 92 94 96 hown (by decide +kernel) (hts (.classLink RX3 92 "java/lang/IndexOutOfBoundsException") (by decide +kernel)) (hts (.initialized "java/lang/IndexOutOfBoundsException") (by decide +kernel)) (by decide +kernel) (fun w h => hts w ((by decide +kernel : ∀ w ∈ (vx_atS RX3 96 "java/lang/IndexOutOfBoundsException" NM).filter goodWord, w ∈ wsX3_report) w h)) xn1 xg1 hl.1 dX3_report_15 dX3_report_18 dX3_report_19 dX3_report_21 dX3_report_24 (Nat.le_of_ble_eq_true rfl) (Nat.le_of_ble_eq_true rfl) (Nat.le_of_ble_eq_true rfl) (Nat.le_of_ble_eq_true rfl) (by first | exact ⟨rfl, by simp [kReport, gReport, rReport, c_2, inB_15 hi, ix_nI (show i < 2147483648 by omega)]⟩ | exact Or.inl ⟨rfl, by simp [kReport, gReport, rReport, c_2, inB_15 hi, ix_nI (show i < 2147483648 by omega)]⟩ | exact Or.inr ⟨rfl, by simp [kReport, gReport, rReport, c_2, inB_15 hi, ix_nI (show i < 2147483648 by omega)]⟩ | exact Or.inr (Or.inl ⟨rfl, by simp [kReport, gReport, rReport, c_2, inB_15 hi, ix_nI (show i < 2147483648 by omega)]⟩) | exact Or.inr (Or.inr ⟨rfl, by simp [kReport, gReport, rReport, c_2, inB_15 hi, ix_nI (show i < 2147483648 by omega)]⟩)) (Nat.le_of_ble_eq_true rfl) (Nat.le_of_ble_eq_true rfl)
set_option maxHeartbeats 4000000 in
set_option maxRecDepth 100000 in
/-- order -/
theorem c_X3_order (l : Launch) (hst : l.stackTraces = false) (D : va_G) (cy : Nat → ClassId) (ad : Nat → Nat) (hj : inj31 ad) (σ : Mem) (sz : Nat) (za : Int32) : vx_Met l yX3_order wsX3_order ({ frames := 7, cells := 2, slots := 12, locals := 114 }) (va_Pc [.ref (ad 0), .int za] (cx D cy ad σ sz)) (QI (rOrder σ za) (fun H => kOrder σ za = 0 ∧ va_P D vwCl (wC cy ad (gOrder σ za)) H) (AC ad)) (XE (ex13 (kOrder σ za))) 2 12 (AC ad) := by
  refine vx_ofW (cc := cX3_order) (maxL := 3) (ret := (some .int)) (by decide) rfl ?_
  intro p e s m args below meth c s₁ B hml ht hv
  obtain ⟨rfl, ⟨hP, hK⟩, hxk⟩ := hv
  have hx := B.exec
  have hb := B.bytes
  have hr := B.returns
  have hts := atoms_spec (ws := wsX3_order) B.pre
  have hown : s.vm.findClass RX3 = some m.cls := findClass_of_methodNamed B.named
  have hlocks := B.notSynchronized
  have hf2 := fun (w : Cond) (h : w ∈ wsX20) => hts w ((by decide +kernel : ∀ w ∈ wsX20, w ∈ wsX3_order) w h)
  have hl := lv_entry ([.ref (ad 0), .int za]) (n := 3) (Nat.le_of_ble_eq_true rfl)
  have hD := wC_D (cy := cy) hj
  have hS : va_S (AC ad) s.heap s.heap [] := va_S.rf
  rw [lg_entry_eq]
  generalize (lg_sl ([.ref (ad 0), .int za]) ++ List.replicate (3 - (lg_sl ([.ref (ad 0), .int za])).length) Slot.unset).toArray = ls at hl ⊢
  have hl : lv_has ls 3 [(0, .ref (ad 0)), (1, .int za)] := hl
  refine lv_aload_n hx hb dX3_order_0 rfl (lv_at hl 0 rfl) ?_
  refine lv_iload_n hx hb dX3_order_1 rfl (lv_at hl 1 rfl) ?_
  refine xS (vx_runV (As := [.int za]) (rest := []) ⟨hx, hb, hml, hown, hts⟩ (c_X3_machineRow l hst D cy ad σ sz za) (cwV 1 hts gX3_order_X3_machineRow rfl rfl rfl (by decide +kernel) ⟨Nat.le_of_ble_eq_true rfl, Nat.le_of_ble_eq_true rfl⟩) ⟨cx_bl, cw_F hP hK, cx_at hP hK hxk⟩ rfl rfl hl.1 rfl (lv_room (Nat.le_of_ble_eq_true rfl)) dX3_order_2 ⟨Nat.le_of_ble_eq_true rfl, Nat.le_of_ble_eq_true rfl⟩) (fun E ce q9 H1 hE h1 h2 h3 h4 h5 => xOut ht hlocks h1 h2 h3 h4 h5 (by obtain ⟨rfl, h9⟩ := hE; first | exact ⟨rfl, by simp [h9, kOrder, gOrder, rOrder]⟩ | exact Or.inl ⟨rfl, by simp [h9, kOrder, gOrder, rOrder]⟩ | exact Or.inr ⟨rfl, by simp [h9, kOrder, gOrder, rOrder]⟩ | exact Or.inr (Or.inl ⟨rfl, by simp [h9, kOrder, gOrder, rOrder]⟩) | exact Or.inr (Or.inr ⟨rfl, by simp [h9, kOrder, gOrder, rOrder]⟩)) (Nat.le_of_ble_eq_true rfl) (Nat.le_of_ble_eq_true rfl)) (fun i h1 => ?_)
  obtain ⟨hi, rfl⟩ := h1
  refine W.eq (g2 := F0 m 5 ls [.ref (ad (i + 7))]) rfl ?_
  have hl : lv_has ls 3 [(0, .ref (ad 0)), (1, .int (nI i))] := hl
  refine lv_astore_n (lv' := [(2, .ref (ad (i + 7))), (0, .ref (ad 0)), (1, .int (nI i))]) hx hb dX3_order_5 rfl hl (by decide) rfl (fun ls hl => ?_)
  refine lv_aload_n hx hb dX3_order_6 rfl (lv_at hl 0 rfl) ?_
  refine rgM1 hx hb hf2 hown hK hP hi (hts (.fieldLink RX3 117 "MachineFoundry$Machine" "state" "I") (by decide +kernel)) (rfl) dX3_order_7 ?_
  refine lv_iconst (v := 1) hx hb dX3_order_10 (by decide) ?_
  refine lv_icmp_ne (tgt := 22) hx hb dX3_order_11 (by decide) (fun c_2 => ?_) (fun c_2 => ?_)
  · exact xThrow (sz := sz) hx hb hst hml ht hlocks hxk "java/lang/IllegalStateException" "the machine is not IDLE, or has no match" 124 126 128 hown (by decide +kernel) (hts (.classLink RX3 124 "java/lang/IllegalStateException") (by decide +kernel)) (hts (.initialized "java/lang/IllegalStateException") (by decide +kernel)) (by decide +kernel) (fun w h => hts w ((by decide +kernel : ∀ w ∈ (vx_atS RX3 128 "java/lang/IllegalStateException" NM).filter goodWord, w ∈ wsX3_order) w h)) xn3 xg3 hl.1 dX3_order_22 dX3_order_25 dX3_order_26 dX3_order_28 dX3_order_31 (Nat.le_of_ble_eq_true rfl) (Nat.le_of_ble_eq_true rfl) (Nat.le_of_ble_eq_true rfl) (Nat.le_of_ble_eq_true rfl) (by first | exact ⟨rfl, by simp [kOrder, gOrder, rOrder, c_2, inB_15 hi, ix_nI (show i < 2147483648 by omega)]⟩ | exact Or.inl ⟨rfl, by simp [kOrder, gOrder, rOrder, c_2, inB_15 hi, ix_nI (show i < 2147483648 by omega)]⟩ | exact Or.inr ⟨rfl, by simp [kOrder, gOrder, rOrder, c_2, inB_15 hi, ix_nI (show i < 2147483648 by omega)]⟩ | exact Or.inr (Or.inl ⟨rfl, by simp [kOrder, gOrder, rOrder, c_2, inB_15 hi, ix_nI (show i < 2147483648 by omega)]⟩) | exact Or.inr (Or.inr ⟨rfl, by simp [kOrder, gOrder, rOrder, c_2, inB_15 hi, ix_nI (show i < 2147483648 by omega)]⟩)) (Nat.le_of_ble_eq_true rfl) (Nat.le_of_ble_eq_true rfl)
  · refine lv_aload_n hx hb dX3_order_14 rfl (lv_at hl 1 rfl) ?_
    refine lv_aload_n hx hb dX3_order_15 rfl (lv_at hl 0 rfl) ?_
    refine cS (W.runV (As := [.ref (ad (i + 7))]) (rest := []) ⟨hx, hb, hml, hown, hts⟩ (c_X3_matchFor l D cy ad σ i hi) (cwV 1 hts gX3_order_X3_matchFor rfl rfl rfl (by decide +kernel) ⟨Nat.le_of_ble_eq_true rfl, Nat.le_of_ble_eq_true rfl⟩) ⟨cw_bl, (cw_F hP hK), (cw_at hP hK)⟩ rfl rfl hl.1 rfl (lv_room (Nat.le_of_ble_eq_true rfl)) dX3_order_16 ⟨Nat.le_of_ble_eq_true rfl, Nat.le_of_ble_eq_true rfl⟩) (fun _ _ => ?_)
    rcases hob3 : sBst σ i with _ | b3
    · refine W.eq (g2 := F0 m 19 ls [.null]) rfl ?_
      refine lv_ifnonnullN hx hb dX3_order_19 ?_
      exact xThrow (sz := sz) hx hb hst hml ht hlocks hxk "java/lang/IllegalStateException" "the machine is not IDLE, or has no match" 124 126 128 hown (by decide +kernel) (hts (.classLink RX3 124 "java/lang/IllegalStateException") (by decide +kernel)) (hts (.initialized "java/lang/IllegalStateException") (by decide +kernel)) (by decide +kernel) (fun w h => hts w ((by decide +kernel : ∀ w ∈ (vx_atS RX3 128 "java/lang/IllegalStateException" NM).filter goodWord, w ∈ wsX3_order) w h)) xn3 xg3 hl.1 dX3_order_22 dX3_order_25 dX3_order_26 dX3_order_28 dX3_order_31 (Nat.le_of_ble_eq_true rfl) (Nat.le_of_ble_eq_true rfl) (Nat.le_of_ble_eq_true rfl) (Nat.le_of_ble_eq_true rfl) (by first | exact ⟨rfl, by simp [kOrder, gOrder, rOrder, c_2, hob3, inB_15 hi, ix_nI (show i < 2147483648 by omega)]⟩ | exact Or.inl ⟨rfl, by simp [kOrder, gOrder, rOrder, c_2, hob3, inB_15 hi, ix_nI (show i < 2147483648 by omega)]⟩ | exact Or.inr ⟨rfl, by simp [kOrder, gOrder, rOrder, c_2, hob3, inB_15 hi, ix_nI (show i < 2147483648 by omega)]⟩ | exact Or.inr (Or.inl ⟨rfl, by simp [kOrder, gOrder, rOrder, c_2, hob3, inB_15 hi, ix_nI (show i < 2147483648 by omega)]⟩) | exact Or.inr (Or.inr ⟨rfl, by simp [kOrder, gOrder, rOrder, c_2, hob3, inB_15 hi, ix_nI (show i < 2147483648 by omega)]⟩)) (Nat.le_of_ble_eq_true rfl) (Nat.le_of_ble_eq_true rfl)
    · have hb3 := bst_lt (n := 8) hob3
      refine W.eq (g2 := F0 m 19 ls [.ref (ad (b3 + 23))]) rfl ?_
      refine lv_ifnonnull (tgt := 32) hx hb dX3_order_19 (by decide) ?_
      refine lv_aload_n hx hb dX3_order_32 rfl (lv_at hl 1 rfl) ?_
      refine lv_aload_n hx hb dX3_order_33 rfl (lv_at hl 0 rfl) ?_
      refine cMv (va_runV (As := [.ref (ad (i + 7))]) (rest := []) ⟨hx, hb, hml, hown, hts⟩ (c_X3_enqueue l D cy ad hj σ i hi) (cwV 1 hts gX3_order_X3_enqueue rfl rfl rfl (by decide +kernel) ⟨Nat.le_of_ble_eq_true rfl, Nat.le_of_ble_eq_true rfl⟩) ⟨cw_bl, (cw_F hP hK), (cw_at hP hK)⟩ rfl rfl hl.1 rfl (lv_room (Nat.le_of_ble_eq_true rfl)) dX3_order_34 ⟨Nat.le_of_ble_eq_true rfl, Nat.le_of_ble_eq_true rfl⟩) hS (fun H locs hP hS => ?_)
      refine W.eq (g2 := F0 m 37 ls []) rfl ?_
      refine lv_aload_n hx hb dX3_order_37 rfl (lv_at hl 1 rfl) ?_
      refine cMv (va_runV (As := []) (rest := []) ⟨hx, hb, hml, hown, hts⟩ (c_X3_beginInstallations l D cy ad hj (sEnq σ i)) (cwV 0 hts gX3_order_X3_beginInstallations rfl rfl rfl (by decide +kernel) ⟨Nat.le_of_ble_eq_true rfl, Nat.le_of_ble_eq_true rfl⟩) ⟨cw_bl, (cw_F hP hK), (cw_at hP hK)⟩ rfl rfl hl.1 rfl (lv_room (Nat.le_of_ble_eq_true rfl)) dX3_order_38 ⟨Nat.le_of_ble_eq_true rfl, Nat.le_of_ble_eq_true rfl⟩) hS (fun H locs hP hS => ?_)
      refine W.eq (g2 := F0 m 41 ls []) rfl ?_
      refine lv_aload_n hx hb dX3_order_41 rfl (lv_at hl 0 rfl) ?_
      refine rgM1 hx hb hf2 hown hK hP hi (hts (.fieldLink RX3 117 "MachineFoundry$Machine" "state" "I") (by decide +kernel)) (rfl) dX3_order_42 ?_
      have e7 : gOrder σ (nI i) = sBegins (sEnq σ i) := by simp [kOrder, gOrder, rOrder, c_2, hob3, inB_15 hi, ix_nI (show i < 2147483648 by omega)]
      rw [← e7] at hP
      have e8 : kOrder σ (nI i) = 0 := by simp [kOrder, gOrder, rOrder, c_2, hob3, inB_15 hi, ix_nI (show i < 2147483648 by omega)]
      have e9 : ((sBegins (sEnq σ i)) 1 i) = rOrder σ (nI i) := by first | (rw [← e7]; simp [kOrder, gOrder, rOrder, inB_15 hi, ix_nI (show i < 2147483648 by omega)]; done) | (simp [kOrder, gOrder, rOrder, c_2, hob3, inB_15 hi, ix_nI (show i < 2147483648 by omega)])
      refine vx_ret (W.widen (k := 2) (n := 12) (Nat.le_of_ble_eq_true rfl) (Nat.le_of_ble_eq_true rfl) ?_)
      exact W.iret (v := (sBegins (sEnq σ i)) 1 i) hx hb hr (fun t ht9 hW => ⟨⟨_, (), rfl, e9, e8, by rw [← ht9] at hP; exact hP⟩, hS.F ht9⟩) hS.2.2 dX3_order_45
set_option maxHeartbeats 4000000 in
set_option maxRecDepth 100000 in
/-- cancel -/
theorem c_X3_cancel (l : Launch) (hst : l.stackTraces = false) (D : va_G) (cy : Nat → ClassId) (ad : Nat → Nat) (hj : inj31 ad) (σ : Mem) (sz : Nat) (za : Int32) : vx_Met l yX3_cancel wsX3_cancel ({ frames := 7, cells := 2, slots := 12, locals := 114 }) (va_Pc [.ref (ad 0), .int za] (cx D cy ad σ sz)) (QV (fun H => kCancel σ za = 0 ∧ va_P D vwCl (wC cy ad (gCancel σ za)) H) (AC ad)) (XE (ex13 (kCancel σ za))) 2 12 (AC ad) := by
  refine vx_ofW (cc := cX3_cancel) (maxL := 3) (ret := none) (by decide) rfl ?_
  intro p e s m args below meth c s₁ B hml ht hv
  obtain ⟨rfl, ⟨hP, hK⟩, hxk⟩ := hv
  have hx := B.exec
  have hb := B.bytes
  have hr := B.returns
  have hts := atoms_spec (ws := wsX3_cancel) B.pre
  have hown : s.vm.findClass RX3 = some m.cls := findClass_of_methodNamed B.named
  have hlocks := B.notSynchronized
  have hf2 := fun (w : Cond) (h : w ∈ wsX20) => hts w ((by decide +kernel : ∀ w ∈ wsX20, w ∈ wsX3_cancel) w h)
  have hl := lv_entry ([.ref (ad 0), .int za]) (n := 3) (Nat.le_of_ble_eq_true rfl)
  have hD := wC_D (cy := cy) hj
  have hS : va_S (AC ad) s.heap s.heap [] := va_S.rf
  rw [lg_entry_eq]
  generalize (lg_sl ([.ref (ad 0), .int za]) ++ List.replicate (3 - (lg_sl ([.ref (ad 0), .int za])).length) Slot.unset).toArray = ls at hl ⊢
  have hl : lv_has ls 3 [(0, .ref (ad 0)), (1, .int za)] := hl
  refine lv_aload_n hx hb dX3_cancel_0 rfl (lv_at hl 0 rfl) ?_
  refine lv_iload_n hx hb dX3_cancel_1 rfl (lv_at hl 1 rfl) ?_
  refine xS (vx_runV (As := [.int za]) (rest := []) ⟨hx, hb, hml, hown, hts⟩ (c_X3_machineRow l hst D cy ad σ sz za) (cwV 1 hts gX3_cancel_X3_machineRow rfl rfl rfl (by decide +kernel) ⟨Nat.le_of_ble_eq_true rfl, Nat.le_of_ble_eq_true rfl⟩) ⟨cx_bl, cw_F hP hK, cx_at hP hK hxk⟩ rfl rfl hl.1 rfl (lv_room (Nat.le_of_ble_eq_true rfl)) dX3_cancel_2 ⟨Nat.le_of_ble_eq_true rfl, Nat.le_of_ble_eq_true rfl⟩) (fun E ce q9 H1 hE h1 h2 h3 h4 h5 => xOut ht hlocks h1 h2 h3 h4 h5 (by obtain ⟨rfl, h9⟩ := hE; first | exact ⟨rfl, by simp [h9, kCancel, gCancel]⟩ | exact Or.inl ⟨rfl, by simp [h9, kCancel, gCancel]⟩ | exact Or.inr ⟨rfl, by simp [h9, kCancel, gCancel]⟩ | exact Or.inr (Or.inl ⟨rfl, by simp [h9, kCancel, gCancel]⟩) | exact Or.inr (Or.inr ⟨rfl, by simp [h9, kCancel, gCancel]⟩)) (Nat.le_of_ble_eq_true rfl) (Nat.le_of_ble_eq_true rfl)) (fun i h1 => ?_)
  obtain ⟨hi, rfl⟩ := h1
  refine W.eq (g2 := F0 m 5 ls [.ref (ad (i + 7))]) rfl ?_
  have hl : lv_has ls 3 [(0, .ref (ad 0)), (1, .int (nI i))] := hl
  refine lv_astore_n (lv' := [(2, .ref (ad (i + 7))), (0, .ref (ad 0)), (1, .int (nI i))]) hx hb dX3_cancel_5 rfl hl (by decide) rfl (fun ls hl => ?_)
  refine lv_aload_n hx hb dX3_cancel_6 rfl (lv_at hl 0 rfl) ?_
  refine rgM1 hx hb hf2 hown hK hP hi (hts (.fieldLink RX3 117 "MachineFoundry$Machine" "state" "I") (by decide +kernel)) (rfl) dX3_cancel_7 ?_
  refine lv_iconst (v := 2) hx hb dX3_cancel_10 (by decide) ?_
  refine lv_icmp_eq (tgt := 32) hx hb dX3_cancel_11 (by decide) (fun c_2 => ?_) (fun c_2 => ?_)
  · refine lv_aload_n hx hb dX3_cancel_32 rfl (lv_at hl 1 rfl) ?_
    refine lv_aload_n hx hb dX3_cancel_33 rfl (lv_at hl 0 rfl) ?_
    refine lv_iconst (v := 1) hx hb dX3_cancel_34 (by decide) ?_
    refine cMv (va_runV (As := [.ref (ad (i + 7)), .int 1]) (rest := []) ⟨hx, hb, hml, hown, hts⟩ (c_X3_change l D cy ad hj σ i hi 1) (cwV 2 hts gX3_cancel_X3_change rfl rfl rfl (by decide +kernel) ⟨Nat.le_of_ble_eq_true rfl, Nat.le_of_ble_eq_true rfl⟩) ⟨cw_bl, (cw_F hP hK), (cw_at hP hK)⟩ rfl rfl hl.1 rfl (lv_room (Nat.le_of_ble_eq_true rfl)) dX3_cancel_35 ⟨Nat.le_of_ble_eq_true rfl, Nat.le_of_ble_eq_true rfl⟩) hS (fun H locs hP hS => ?_)
    refine W.eq (g2 := F0 m 38 ls []) rfl ?_
    refine lv_aload_n hx hb dX3_cancel_38 rfl (lv_at hl 1 rfl) ?_
    refine cMv (va_runV (As := []) (rest := []) ⟨hx, hb, hml, hown, hts⟩ (c_X3_beginInstallations l D cy ad hj (sChg σ i 1)) (cwV 0 hts gX3_cancel_X3_beginInstallations rfl rfl rfl (by decide +kernel) ⟨Nat.le_of_ble_eq_true rfl, Nat.le_of_ble_eq_true rfl⟩) ⟨cw_bl, (cw_F hP hK), (cw_at hP hK)⟩ rfl rfl hl.1 rfl (lv_room (Nat.le_of_ble_eq_true rfl)) dX3_cancel_39 ⟨Nat.le_of_ble_eq_true rfl, Nat.le_of_ble_eq_true rfl⟩) hS (fun H locs hP hS => ?_)
    refine W.eq (g2 := F0 m 42 ls []) rfl ?_
    have e7 : gCancel σ (nI i) = sBegins (sChg σ i 1) := by simp [kCancel, gCancel, c_2, inB_15 hi, ix_nI (show i < 2147483648 by omega)]
    rw [← e7] at hP
    have e8 : kCancel σ (nI i) = 0 := by simp [kCancel, gCancel, c_2, inB_15 hi, ix_nI (show i < 2147483648 by omega)]
    refine vx_ret (W.widen (k := 2) (n := 12) (Nat.le_of_ble_eq_true rfl) (Nat.le_of_ble_eq_true rfl) ?_)
    exact W.vret hx hb hr (fun t ht9 hW => ⟨⟨(), rfl, trivial, e8, by rw [← ht9] at hP; exact hP⟩, hS.F ht9⟩) hS.2.2 dX3_cancel_42
  · refine lv_aload_n hx hb dX3_cancel_14 rfl (lv_at hl 0 rfl) ?_
    refine rgM1 hx hb hf2 hown hK hP hi (hts (.fieldLink RX3 117 "MachineFoundry$Machine" "state" "I") (by decide +kernel)) (rfl) dX3_cancel_15 ?_
    refine lv_iconst (v := 4) hx hb dX3_cancel_18 (by decide) ?_
    refine lv_icmp_eq (tgt := 32) hx hb dX3_cancel_19 (by decide) (fun c_3 => ?_) (fun c_3 => ?_)
    · refine lv_aload_n hx hb dX3_cancel_32 rfl (lv_at hl 1 rfl) ?_
      refine lv_aload_n hx hb dX3_cancel_33 rfl (lv_at hl 0 rfl) ?_
      refine lv_iconst (v := 1) hx hb dX3_cancel_34 (by decide) ?_
      refine cMv (va_runV (As := [.ref (ad (i + 7)), .int 1]) (rest := []) ⟨hx, hb, hml, hown, hts⟩ (c_X3_change l D cy ad hj σ i hi 1) (cwV 2 hts gX3_cancel_X3_change rfl rfl rfl (by decide +kernel) ⟨Nat.le_of_ble_eq_true rfl, Nat.le_of_ble_eq_true rfl⟩) ⟨cw_bl, (cw_F hP hK), (cw_at hP hK)⟩ rfl rfl hl.1 rfl (lv_room (Nat.le_of_ble_eq_true rfl)) dX3_cancel_35 ⟨Nat.le_of_ble_eq_true rfl, Nat.le_of_ble_eq_true rfl⟩) hS (fun H locs hP hS => ?_)
      refine W.eq (g2 := F0 m 38 ls []) rfl ?_
      refine lv_aload_n hx hb dX3_cancel_38 rfl (lv_at hl 1 rfl) ?_
      refine cMv (va_runV (As := []) (rest := []) ⟨hx, hb, hml, hown, hts⟩ (c_X3_beginInstallations l D cy ad hj (sChg σ i 1)) (cwV 0 hts gX3_cancel_X3_beginInstallations rfl rfl rfl (by decide +kernel) ⟨Nat.le_of_ble_eq_true rfl, Nat.le_of_ble_eq_true rfl⟩) ⟨cw_bl, (cw_F hP hK), (cw_at hP hK)⟩ rfl rfl hl.1 rfl (lv_room (Nat.le_of_ble_eq_true rfl)) dX3_cancel_39 ⟨Nat.le_of_ble_eq_true rfl, Nat.le_of_ble_eq_true rfl⟩) hS (fun H locs hP hS => ?_)
      refine W.eq (g2 := F0 m 42 ls []) rfl ?_
      have e7 : gCancel σ (nI i) = sBegins (sChg σ i 1) := by simp [kCancel, gCancel, c_2, c_3, inB_15 hi, ix_nI (show i < 2147483648 by omega)]
      rw [← e7] at hP
      have e8 : kCancel σ (nI i) = 0 := by simp [kCancel, gCancel, c_2, c_3, inB_15 hi, ix_nI (show i < 2147483648 by omega)]
      refine vx_ret (W.widen (k := 2) (n := 12) (Nat.le_of_ble_eq_true rfl) (Nat.le_of_ble_eq_true rfl) ?_)
      exact W.vret hx hb hr (fun t ht9 hW => ⟨⟨(), rfl, trivial, e8, by rw [← ht9] at hP; exact hP⟩, hS.F ht9⟩) hS.2.2 dX3_cancel_42
    · exact xThrow (sz := sz) hx hb hst hml ht hlocks hxk "java/lang/IllegalStateException" "the machine is neither QUEUED nor WAITING" 124 133 128 hown (by decide +kernel) (hts (.classLink RX3 124 "java/lang/IllegalStateException") (by decide +kernel)) (hts (.initialized "java/lang/IllegalStateException") (by decide +kernel)) (by decide +kernel) (fun w h => hts w ((by decide +kernel : ∀ w ∈ (vx_atS RX3 128 "java/lang/IllegalStateException" NM).filter goodWord, w ∈ wsX3_cancel) w h)) xn3 xg3 hl.1 dX3_cancel_22 dX3_cancel_25 dX3_cancel_26 dX3_cancel_28 dX3_cancel_31 (Nat.le_of_ble_eq_true rfl) (Nat.le_of_ble_eq_true rfl) (Nat.le_of_ble_eq_true rfl) (Nat.le_of_ble_eq_true rfl) (by first | exact ⟨rfl, by simp [kCancel, gCancel, c_2, c_3, inB_15 hi, ix_nI (show i < 2147483648 by omega)]⟩ | exact Or.inl ⟨rfl, by simp [kCancel, gCancel, c_2, c_3, inB_15 hi, ix_nI (show i < 2147483648 by omega)]⟩ | exact Or.inr ⟨rfl, by simp [kCancel, gCancel, c_2, c_3, inB_15 hi, ix_nI (show i < 2147483648 by omega)]⟩ | exact Or.inr (Or.inl ⟨rfl, by simp [kCancel, gCancel, c_2, c_3, inB_15 hi, ix_nI (show i < 2147483648 by omega)]⟩) | exact Or.inr (Or.inr ⟨rfl, by simp [kCancel, gCancel, c_2, c_3, inB_15 hi, ix_nI (show i < 2147483648 by omega)]⟩)) (Nat.le_of_ble_eq_true rfl) (Nat.le_of_ble_eq_true rfl)
set_option maxHeartbeats 4000000 in
set_option maxRecDepth 100000 in
/-- finish -/
theorem c_X3_finish (l : Launch) (hst : l.stackTraces = false) (D : va_G) (cy : Nat → ClassId) (ad : Nat → Nat) (hj : inj31 ad) (σ : Mem) (sz : Nat) (za : Int32) (gd : Bool) : vx_Met l yX3_finish wsX3_finish ({ frames := 7, cells := 2, slots := 12, locals := 114 }) (va_Pc [.ref (ad 0), .int za, .int (b2i gd)] (cx D cy ad σ sz)) (QI (rFinish σ za gd) (fun H => kFinish σ za = 0 ∧ va_P D vwCl (wC cy ad (gFinish σ za gd)) H) (AC ad)) (XE (ex13 (kFinish σ za))) 2 12 (AC ad) := by
  refine vx_ofW (cc := cX3_finish) (maxL := 4) (ret := (some .int)) (by decide) rfl ?_
  intro p e s m args below meth c s₁ B hml ht hv
  obtain ⟨rfl, ⟨hP, hK⟩, hxk⟩ := hv
  have hx := B.exec
  have hb := B.bytes
  have hr := B.returns
  have hts := atoms_spec (ws := wsX3_finish) B.pre
  have hown : s.vm.findClass RX3 = some m.cls := findClass_of_methodNamed B.named
  have hlocks := B.notSynchronized
  have hf2 := fun (w : Cond) (h : w ∈ wsX20) => hts w ((by decide +kernel : ∀ w ∈ wsX20, w ∈ wsX3_finish) w h)
  have hl := lv_entry ([.ref (ad 0), .int za, .int (b2i gd)]) (n := 4) (Nat.le_of_ble_eq_true rfl)
  have hD := wC_D (cy := cy) hj
  have hS : va_S (AC ad) s.heap s.heap [] := va_S.rf
  rw [lg_entry_eq]
  generalize (lg_sl ([.ref (ad 0), .int za, .int (b2i gd)]) ++ List.replicate (4 - (lg_sl ([.ref (ad 0), .int za, .int (b2i gd)])).length) Slot.unset).toArray = ls at hl ⊢
  have hl : lv_has ls 4 [(0, .ref (ad 0)), (1, .int za), (2, .int (b2i gd))] := hl
  refine lv_aload_n hx hb dX3_finish_0 rfl (lv_at hl 0 rfl) ?_
  refine lv_iload_n hx hb dX3_finish_1 rfl (lv_at hl 1 rfl) ?_
  refine xS (vx_runV (As := [.int za]) (rest := []) ⟨hx, hb, hml, hown, hts⟩ (c_X3_machineRow l hst D cy ad σ sz za) (cwV 1 hts gX3_finish_X3_machineRow rfl rfl rfl (by decide +kernel) ⟨Nat.le_of_ble_eq_true rfl, Nat.le_of_ble_eq_true rfl⟩) ⟨cx_bl, cw_F hP hK, cx_at hP hK hxk⟩ rfl rfl hl.1 rfl (lv_room (Nat.le_of_ble_eq_true rfl)) dX3_finish_2 ⟨Nat.le_of_ble_eq_true rfl, Nat.le_of_ble_eq_true rfl⟩) (fun E ce q9 H1 hE h1 h2 h3 h4 h5 => xOut ht hlocks h1 h2 h3 h4 h5 (by obtain ⟨rfl, h9⟩ := hE; first | exact ⟨rfl, by simp [h9, kFinish, gFinish, rFinish]⟩ | exact Or.inl ⟨rfl, by simp [h9, kFinish, gFinish, rFinish]⟩ | exact Or.inr ⟨rfl, by simp [h9, kFinish, gFinish, rFinish]⟩ | exact Or.inr (Or.inl ⟨rfl, by simp [h9, kFinish, gFinish, rFinish]⟩) | exact Or.inr (Or.inr ⟨rfl, by simp [h9, kFinish, gFinish, rFinish]⟩)) (Nat.le_of_ble_eq_true rfl) (Nat.le_of_ble_eq_true rfl)) (fun i h1 => ?_)
  obtain ⟨hi, rfl⟩ := h1
  refine W.eq (g2 := F0 m 5 ls [.ref (ad (i + 7))]) rfl ?_
  have hl : lv_has ls 4 [(0, .ref (ad 0)), (1, .int (nI i)), (2, .int (b2i gd))] := hl
  refine lv_astore_n (lv' := [(3, .ref (ad (i + 7))), (0, .ref (ad 0)), (1, .int (nI i)), (2, .int (b2i gd))]) hx hb dX3_finish_5 rfl hl (by decide) rfl (fun ls hl => ?_)
  refine lv_aload_n hx hb dX3_finish_6 rfl (lv_at hl 0 rfl) ?_
  refine rgM1 hx hb hf2 hown hK hP hi (hts (.fieldLink RX3 117 "MachineFoundry$Machine" "state" "I") (by decide +kernel)) (rfl) dX3_finish_7 ?_
  refine lv_iconst (v := 3) hx hb dX3_finish_10 (by decide) ?_
  refine lv_icmp_eq (tgt := 24) hx hb dX3_finish_11 (by decide) (fun c_2 => ?_) (fun c_2 => ?_)
  · refine lv_iload_n hx hb dX3_finish_24 rfl (lv_at hl 3 rfl) ?_
    refine lv_if_eq (tgt := 42) hx hb dX3_finish_25 (by decide) (fun c_3 => ?_) (fun c_3 => ?_)
    · replace c_3 := b2i_0.mp c_3
      refine lv_aload_n hx hb dX3_finish_42 rfl (lv_at hl 1 rfl) ?_
      refine lv_aload_n hx hb dX3_finish_43 rfl (lv_at hl 0 rfl) ?_
      refine cMv (va_runV (As := [.ref (ad (i + 7))]) (rest := []) ⟨hx, hb, hml, hown, hts⟩ (c_X3_fail l D cy ad hj σ i hi) (cwV 1 hts gX3_finish_X3_fail rfl rfl rfl (by decide +kernel) ⟨Nat.le_of_ble_eq_true rfl, Nat.le_of_ble_eq_true rfl⟩) ⟨cw_bl, (cw_F hP hK), (cw_at hP hK)⟩ rfl rfl hl.1 rfl (lv_room (Nat.le_of_ble_eq_true rfl)) dX3_finish_44 ⟨Nat.le_of_ble_eq_true rfl, Nat.le_of_ble_eq_true rfl⟩) hS (fun H locs hP hS => ?_)
      refine W.eq (g2 := F0 m 47 ls []) rfl ?_
      refine lv_aload_n hx hb dX3_finish_47 rfl (lv_at hl 1 rfl) ?_
      refine cMv (va_runV (As := []) (rest := []) ⟨hx, hb, hml, hown, hts⟩ (c_X3_beginInstallations l D cy ad hj (sFail σ i)) (cwV 0 hts gX3_finish_X3_beginInstallations rfl rfl rfl (by decide +kernel) ⟨Nat.le_of_ble_eq_true rfl, Nat.le_of_ble_eq_true rfl⟩) ⟨cw_bl, (cw_F hP hK), (cw_at hP hK)⟩ rfl rfl hl.1 rfl (lv_room (Nat.le_of_ble_eq_true rfl)) dX3_finish_48 ⟨Nat.le_of_ble_eq_true rfl, Nat.le_of_ble_eq_true rfl⟩) hS (fun H locs hP hS => ?_)
      refine W.eq (g2 := F0 m 51 ls []) rfl ?_
      refine lv_aload_n hx hb dX3_finish_51 rfl (lv_at hl 0 rfl) ?_
      refine rgM1 hx hb hf2 hown hK hP hi (hts (.fieldLink RX3 117 "MachineFoundry$Machine" "state" "I") (by decide +kernel)) (rfl) dX3_finish_52 ?_
      have e7 : gFinish σ (nI i) gd = sBegins (sFail σ i) := by simp [kFinish, gFinish, rFinish, c_2, c_3, inB_15 hi, ix_nI (show i < 2147483648 by omega)]
      rw [← e7] at hP
      have e8 : kFinish σ (nI i) = 0 := by simp [kFinish, gFinish, rFinish, c_2, c_3, inB_15 hi, ix_nI (show i < 2147483648 by omega)]
      have e9 : ((sBegins (sFail σ i)) 1 i) = rFinish σ (nI i) gd := by first | (rw [← e7]; simp [kFinish, gFinish, rFinish, inB_15 hi, ix_nI (show i < 2147483648 by omega)]; done) | (simp [kFinish, gFinish, rFinish, c_2, c_3, inB_15 hi, ix_nI (show i < 2147483648 by omega)])
      refine vx_ret (W.widen (k := 2) (n := 12) (Nat.le_of_ble_eq_true rfl) (Nat.le_of_ble_eq_true rfl) ?_)
      exact W.iret (v := (sBegins (sFail σ i)) 1 i) hx hb hr (fun t ht9 hW => ⟨⟨_, (), rfl, e9, e8, by rw [← ht9] at hP; exact hP⟩, hS.F ht9⟩) hS.2.2 dX3_finish_55
    · replace c_3 := b2i_n0.mp c_3
      refine lv_aload_n hx hb dX3_finish_28 rfl (lv_at hl 0 rfl) ?_
      refine lv_iconst (v := 0) hx hb dX3_finish_29 (by decide) ?_
      refine rpM6 hx hb hf2 hown hK hP hD hS hi (hts (.fieldLink RX3 141 "MachineFoundry$Machine" "failures" "I") (by decide +kernel)) dX3_finish_30 (fun H locs hP hS => ?_)
      refine lv_aload_n hx hb dX3_finish_33 rfl (lv_at hl 1 rfl) ?_
      refine lv_aload_n hx hb dX3_finish_34 rfl (lv_at hl 0 rfl) ?_
      refine lv_iconst (v := 5) hx hb dX3_finish_35 (by decide) ?_
      refine cMv (va_runV (As := [.ref (ad (i + 7)), .int 5]) (rest := []) ⟨hx, hb, hml, hown, hts⟩ (c_X3_change l D cy ad hj (up2 σ 6 i 0) i hi 5) (cwV 2 hts gX3_finish_X3_change rfl rfl rfl (by decide +kernel) ⟨Nat.le_of_ble_eq_true rfl, Nat.le_of_ble_eq_true rfl⟩) ⟨cw_bl, (cw_F hP hK), (cw_at hP hK)⟩ rfl rfl hl.1 rfl (lv_room (Nat.le_of_ble_eq_true rfl)) dX3_finish_36 ⟨Nat.le_of_ble_eq_true rfl, Nat.le_of_ble_eq_true rfl⟩) hS (fun H locs hP hS => ?_)
      refine W.eq (g2 := F0 m 39 ls []) rfl ?_
      refine lv_goto (tgt := 47) hx hb dX3_finish_39 (by decide) ?_
      refine lv_aload_n hx hb dX3_finish_47 rfl (lv_at hl 1 rfl) ?_
      refine cMv (va_runV (As := []) (rest := []) ⟨hx, hb, hml, hown, hts⟩ (c_X3_beginInstallations l D cy ad hj (sChg (up2 σ 6 i 0) i 5)) (cwV 0 hts gX3_finish_X3_beginInstallations rfl rfl rfl (by decide +kernel) ⟨Nat.le_of_ble_eq_true rfl, Nat.le_of_ble_eq_true rfl⟩) ⟨cw_bl, (cw_F hP hK), (cw_at hP hK)⟩ rfl rfl hl.1 rfl (lv_room (Nat.le_of_ble_eq_true rfl)) dX3_finish_48 ⟨Nat.le_of_ble_eq_true rfl, Nat.le_of_ble_eq_true rfl⟩) hS (fun H locs hP hS => ?_)
      refine W.eq (g2 := F0 m 51 ls []) rfl ?_
      refine lv_aload_n hx hb dX3_finish_51 rfl (lv_at hl 0 rfl) ?_
      refine rgM1 hx hb hf2 hown hK hP hi (hts (.fieldLink RX3 117 "MachineFoundry$Machine" "state" "I") (by decide +kernel)) (rfl) dX3_finish_52 ?_
      have e7 : gFinish σ (nI i) gd = sBegins (sChg (up2 σ 6 i 0) i 5) := by simp [kFinish, gFinish, rFinish, c_2, c_3, inB_15 hi, ix_nI (show i < 2147483648 by omega)]
      rw [← e7] at hP
      have e8 : kFinish σ (nI i) = 0 := by simp [kFinish, gFinish, rFinish, c_2, c_3, inB_15 hi, ix_nI (show i < 2147483648 by omega)]
      have e9 : ((sBegins (sChg (up2 σ 6 i 0) i 5)) 1 i) = rFinish σ (nI i) gd := by first | (rw [← e7]; simp [kFinish, gFinish, rFinish, inB_15 hi, ix_nI (show i < 2147483648 by omega)]; done) | (simp [kFinish, gFinish, rFinish, c_2, c_3, inB_15 hi, ix_nI (show i < 2147483648 by omega)])
      refine vx_ret (W.widen (k := 2) (n := 12) (Nat.le_of_ble_eq_true rfl) (Nat.le_of_ble_eq_true rfl) ?_)
      exact W.iret (v := (sBegins (sChg (up2 σ 6 i 0) i 5)) 1 i) hx hb hr (fun t ht9 hW => ⟨⟨_, (), rfl, e9, e8, by rw [← ht9] at hP; exact hP⟩, hS.F ht9⟩) hS.2.2 dX3_finish_55
  · exact xThrow (sz := sz) hx hb hst hml ht hlocks hxk "java/lang/IllegalStateException" "the machine is not INSTALLING" 124 139 128 hown (by decide +kernel) (hts (.classLink RX3 124 "java/lang/IllegalStateException") (by decide +kernel)) (hts (.initialized "java/lang/IllegalStateException") (by decide +kernel)) (by decide +kernel) (fun w h => hts w ((by decide +kernel : ∀ w ∈ (vx_atS RX3 128 "java/lang/IllegalStateException" NM).filter goodWord, w ∈ wsX3_finish) w h)) xn3 xg3 hl.1 dX3_finish_14 dX3_finish_17 dX3_finish_18 dX3_finish_20 dX3_finish_23 (Nat.le_of_ble_eq_true rfl) (Nat.le_of_ble_eq_true rfl) (Nat.le_of_ble_eq_true rfl) (Nat.le_of_ble_eq_true rfl) (by first | exact ⟨rfl, by simp [kFinish, gFinish, rFinish, c_2, inB_15 hi, ix_nI (show i < 2147483648 by omega)]⟩ | exact Or.inl ⟨rfl, by simp [kFinish, gFinish, rFinish, c_2, inB_15 hi, ix_nI (show i < 2147483648 by omega)]⟩ | exact Or.inr ⟨rfl, by simp [kFinish, gFinish, rFinish, c_2, inB_15 hi, ix_nI (show i < 2147483648 by omega)]⟩ | exact Or.inr (Or.inl ⟨rfl, by simp [kFinish, gFinish, rFinish, c_2, inB_15 hi, ix_nI (show i < 2147483648 by omega)]⟩) | exact Or.inr (Or.inr ⟨rfl, by simp [kFinish, gFinish, rFinish, c_2, inB_15 hi, ix_nI (show i < 2147483648 by omega)]⟩)) (Nat.le_of_ble_eq_true rfl) (Nat.le_of_ble_eq_true rfl)
set_option maxHeartbeats 4000000 in
set_option maxRecDepth 100000 in
/-- retire -/
theorem c_X3_retire (l : Launch) (hst : l.stackTraces = false) (D : va_G) (cy : Nat → ClassId) (ad : Nat → Nat) (hj : inj31 ad) (σ : Mem) (sz : Nat) (za zb : Int32) : vx_Met l yX3_retire wsX3_retire ({ frames := 7, cells := 3, slots := 18, locals := 114 }) (va_Pc [.ref (ad 0), .int za, .int zb] (cx D cy ad σ sz)) (QV (fun H => kRetire σ za zb = 0 ∧ va_P D vwCl (wC cy ad (gRetire σ za zb)) H) (AC ad)) (XE (ex123 (kRetire σ za zb))) 3 18 (AC ad) := by
  refine vx_ofW (cc := cX3_retire) (maxL := 4) (ret := none) (by decide) rfl ?_
  intro p e s m args below meth c s₁ B hml ht hv
  obtain ⟨rfl, ⟨hP, hK⟩, hxk⟩ := hv
  have hx := B.exec
  have hb := B.bytes
  have hr := B.returns
  have hts := atoms_spec (ws := wsX3_retire) B.pre
  have hown : s.vm.findClass RX3 = some m.cls := findClass_of_methodNamed B.named
  have hlocks := B.notSynchronized
  have hf2 := fun (w : Cond) (h : w ∈ wsX20) => hts w ((by decide +kernel : ∀ w ∈ wsX20, w ∈ wsX3_retire) w h)
  have hf3 := fun (w : Cond) (h : w ∈ wsX30) => hts w ((by decide +kernel : ∀ w ∈ wsX30, w ∈ wsX3_retire) w h)
  have hl := lv_entry ([.ref (ad 0), .int za, .int zb]) (n := 4) (Nat.le_of_ble_eq_true rfl)
  have hD := wC_D (cy := cy) hj
  have hS : va_S (AC ad) s.heap s.heap [] := va_S.rf
  rw [lg_entry_eq]
  generalize (lg_sl ([.ref (ad 0), .int za, .int zb]) ++ List.replicate (4 - (lg_sl ([.ref (ad 0), .int za, .int zb])).length) Slot.unset).toArray = ls at hl ⊢
  have hl : lv_has ls 4 [(0, .ref (ad 0)), (1, .int za), (2, .int zb)] := hl
  refine lv_aload_n hx hb dX3_retire_0 rfl (lv_at hl 0 rfl) ?_
  refine lv_iload_n hx hb dX3_retire_1 rfl (lv_at hl 1 rfl) ?_
  refine xS (vx_runV (As := [.int za]) (rest := []) ⟨hx, hb, hml, hown, hts⟩ (c_X3_machineRow l hst D cy ad σ sz za) (cwV 1 hts gX3_retire_X3_machineRow rfl rfl rfl (by decide +kernel) ⟨Nat.le_of_ble_eq_true rfl, Nat.le_of_ble_eq_true rfl⟩) ⟨cx_bl, cw_F hP hK, cx_at hP hK hxk⟩ rfl rfl hl.1 rfl (lv_room (Nat.le_of_ble_eq_true rfl)) dX3_retire_2 ⟨Nat.le_of_ble_eq_true rfl, Nat.le_of_ble_eq_true rfl⟩) (fun E ce q9 H1 hE h1 h2 h3 h4 h5 => xOut ht hlocks h1 h2 h3 h4 h5 (by obtain ⟨rfl, h9⟩ := hE; first | exact ⟨rfl, by simp [h9, kRetire, gRetire, (by decide : inB 0 0 48 = true)]⟩ | exact Or.inl ⟨rfl, by simp [h9, kRetire, gRetire, (by decide : inB 0 0 48 = true)]⟩ | exact Or.inr ⟨rfl, by simp [h9, kRetire, gRetire, (by decide : inB 0 0 48 = true)]⟩ | exact Or.inr (Or.inl ⟨rfl, by simp [h9, kRetire, gRetire, (by decide : inB 0 0 48 = true)]⟩) | exact Or.inr (Or.inr ⟨rfl, by simp [h9, kRetire, gRetire, (by decide : inB 0 0 48 = true)]⟩)) (Nat.le_of_ble_eq_true rfl) (Nat.le_of_ble_eq_true rfl)) (fun i h1 => ?_)
  obtain ⟨hi, rfl⟩ := h1
  refine W.eq (g2 := F0 m 5 ls [.ref (ad (i + 7))]) rfl ?_
  have hl : lv_has ls 4 [(0, .ref (ad 0)), (1, .int (nI i)), (2, .int zb)] := hl
  refine lv_astore_n (lv' := [(3, .ref (ad (i + 7))), (0, .ref (ad 0)), (1, .int (nI i)), (2, .int zb)]) hx hb dX3_retire_5 rfl hl (by decide) rfl (fun ls hl => ?_)
  refine lv_iload_n hx hb dX3_retire_6 rfl (lv_at hl 3 rfl) ?_
  refine lv_iconst (v := 0) hx hb dX3_retire_7 (by decide) ?_
  refine lv_bipush (v := 48) hx hb dX3_retire_8 (by decide) ?_
  refine xS (vx_runS (As := [.int zb, .int 0, .int 48]) (rest := []) ⟨hx, hb, hml, hown, hts⟩ (c_X3_refuseOutside l hst sz zb 0 48) (va_cwS 3 hts gX3_retire_X3_refuseOutside rfl rfl rfl (by decide +kernel) ⟨Nat.le_of_ble_eq_true rfl, Nat.le_of_ble_eq_true rfl⟩) ⟨xk_bl, xk_pre hxk⟩ rfl rfl hl.1 rfl (lv_room (Nat.le_of_ble_eq_true rfl)) dX3_retire_10 ⟨Nat.le_of_ble_eq_true rfl, Nat.le_of_ble_eq_true rfl⟩) (fun E ce q9 H1 hE h1 h2 h3 h4 h5 => xOut ht hlocks h1 h2 h3 h4 h5 (by obtain ⟨rfl, h9⟩ := hE; first | exact ⟨rfl, by simp [h9, kRetire, gRetire, (by decide : inB 0 0 48 = true), inB_15 hi, ix_nI (show i < 2147483648 by omega)]⟩ | exact Or.inl ⟨rfl, by simp [h9, kRetire, gRetire, (by decide : inB 0 0 48 = true), inB_15 hi, ix_nI (show i < 2147483648 by omega)]⟩ | exact Or.inr ⟨rfl, by simp [h9, kRetire, gRetire, (by decide : inB 0 0 48 = true), inB_15 hi, ix_nI (show i < 2147483648 by omega)]⟩ | exact Or.inr (Or.inl ⟨rfl, by simp [h9, kRetire, gRetire, (by decide : inB 0 0 48 = true), inB_15 hi, ix_nI (show i < 2147483648 by omega)]⟩) | exact Or.inr (Or.inr ⟨rfl, by simp [h9, kRetire, gRetire, (by decide : inB 0 0 48 = true), inB_15 hi, ix_nI (show i < 2147483648 by omega)]⟩)) (Nat.le_of_ble_eq_true rfl) (Nat.le_of_ble_eq_true rfl)) (fun _ h2 => ?_)
  refine W.eq (g2 := F0 m 13 ls []) rfl ?_
  refine lv_aload_n hx hb dX3_retire_13 rfl (lv_at hl 0 rfl) ?_
  refine rgM1 hx hb hf2 hown hK hP hi (hts (.fieldLink RX3 117 "MachineFoundry$Machine" "state" "I") (by decide +kernel)) (rfl) dX3_retire_14 ?_
  refine lv_iconst (v := 5) hx hb dX3_retire_17 (by decide) ?_
  refine lv_icmp_eq (tgt := 31) hx hb dX3_retire_18 (by decide) (fun c_3 => ?_) (fun c_3 => ?_)
  · refine lv_iload_n hx hb dX3_retire_31 rfl (lv_at hl 3 rfl) ?_
    refine lv_if_ne (tgt := 43) hx hb dX3_retire_32 (by decide) (fun c_4 => ?_) (fun c_4 => ?_)
    · refine lv_aload_n hx hb dX3_retire_43 rfl (lv_at hl 0 rfl) ?_
      refine lv_aload_n hx hb dX3_retire_44 rfl (lv_at hl 1 rfl) ?_
      refine rgF6 hx hb hf3 hown hK hP (hts (.fieldLink RX3 39 "MachineFoundry" "hour" "I") (by decide +kernel)) (rfl) dX3_retire_45 ?_
      refine lv_iload_n hx hb dX3_retire_48 rfl (lv_at hl 3 rfl) ?_
      refine lv_iadd hx hb dX3_retire_49 ?_
      refine rpM8 hx hb hf2 hown hK hP hD hS hi (hts (.fieldLink RX3 152 "MachineFoundry$Machine" "end" "I") (by decide +kernel)) dX3_retire_50 (fun H locs hP hS => ?_)
      refine lv_aload_n hx hb dX3_retire_53 rfl (lv_at hl 1 rfl) ?_
      refine lv_aload_n hx hb dX3_retire_54 rfl (lv_at hl 0 rfl) ?_
      refine lv_bipush (v := 6) hx hb dX3_retire_55 (by decide) ?_
      refine cMv (va_runV (As := [.ref (ad (i + 7)), .int 6]) (rest := []) ⟨hx, hb, hml, hown, hts⟩ (c_X3_change l D cy ad hj (up2 σ 8 i ((σ 20 6) + zb)) i hi 6) (cwV 2 hts gX3_retire_X3_change rfl rfl rfl (by decide +kernel) ⟨Nat.le_of_ble_eq_true rfl, Nat.le_of_ble_eq_true rfl⟩) ⟨cw_bl, (cw_F hP hK), (cw_at hP hK)⟩ rfl rfl hl.1 rfl (lv_room (Nat.le_of_ble_eq_true rfl)) dX3_retire_57 ⟨Nat.le_of_ble_eq_true rfl, Nat.le_of_ble_eq_true rfl⟩) hS (fun H locs hP hS => ?_)
      refine W.eq (g2 := F0 m 60 ls []) rfl ?_
      refine lv_aload_n hx hb dX3_retire_60 rfl (lv_at hl 1 rfl) ?_
      refine cMv (va_runV (As := []) (rest := []) ⟨hx, hb, hml, hown, hts⟩ (c_X3_beginInstallations l D cy ad hj (sChg (up2 σ 8 i ((σ 20 6) + zb)) i 6)) (cwV 0 hts gX3_retire_X3_beginInstallations rfl rfl rfl (by decide +kernel) ⟨Nat.le_of_ble_eq_true rfl, Nat.le_of_ble_eq_true rfl⟩) ⟨cw_bl, (cw_F hP hK), (cw_at hP hK)⟩ rfl rfl hl.1 rfl (lv_room (Nat.le_of_ble_eq_true rfl)) dX3_retire_61 ⟨Nat.le_of_ble_eq_true rfl, Nat.le_of_ble_eq_true rfl⟩) hS (fun H locs hP hS => ?_)
      refine W.eq (g2 := F0 m 64 ls []) rfl ?_
      have e7 : gRetire σ (nI i) zb = sBegins (sChg (up2 σ 8 i ((σ 20 6) + zb)) i 6) := by simp [kRetire, gRetire, (by decide : inB 0 0 48 = true), h2, c_3, c_4, inB_15 hi, ix_nI (show i < 2147483648 by omega)]
      rw [← e7] at hP
      have e8 : kRetire σ (nI i) zb = 0 := by simp [kRetire, gRetire, (by decide : inB 0 0 48 = true), h2, c_3, c_4, inB_15 hi, ix_nI (show i < 2147483648 by omega)]
      refine vx_ret (W.widen (k := 3) (n := 18) (Nat.le_of_ble_eq_true rfl) (Nat.le_of_ble_eq_true rfl) ?_)
      exact W.vret hx hb hr (fun t ht9 hW => ⟨⟨(), rfl, trivial, e8, by rw [← ht9] at hP; exact hP⟩, hS.F ht9⟩) hS.2.2 dX3_retire_64
    · refine lv_aload_n hx hb dX3_retire_35 rfl (lv_at hl 1 rfl) ?_
      refine lv_aload_n hx hb dX3_retire_36 rfl (lv_at hl 0 rfl) ?_
      refine cMv (va_runV (As := [.ref (ad (i + 7))]) (rest := []) ⟨hx, hb, hml, hown, hts⟩ (c_X3_wipe l D cy ad hj σ i hi) (cwV 1 hts gX3_retire_X3_wipe rfl rfl rfl (by decide +kernel) ⟨Nat.le_of_ble_eq_true rfl, Nat.le_of_ble_eq_true rfl⟩) ⟨cw_bl, (cw_F hP hK), (cw_at hP hK)⟩ rfl rfl hl.1 rfl (lv_room (Nat.le_of_ble_eq_true rfl)) dX3_retire_37 ⟨Nat.le_of_ble_eq_true rfl, Nat.le_of_ble_eq_true rfl⟩) hS (fun H locs hP hS => ?_)
      refine W.eq (g2 := F0 m 40 ls []) rfl ?_
      refine lv_goto (tgt := 60) hx hb dX3_retire_40 (by decide) ?_
      refine lv_aload_n hx hb dX3_retire_60 rfl (lv_at hl 1 rfl) ?_
      refine cMv (va_runV (As := []) (rest := []) ⟨hx, hb, hml, hown, hts⟩ (c_X3_beginInstallations l D cy ad hj (sWipe σ i)) (cwV 0 hts gX3_retire_X3_beginInstallations rfl rfl rfl (by decide +kernel) ⟨Nat.le_of_ble_eq_true rfl, Nat.le_of_ble_eq_true rfl⟩) ⟨cw_bl, (cw_F hP hK), (cw_at hP hK)⟩ rfl rfl hl.1 rfl (lv_room (Nat.le_of_ble_eq_true rfl)) dX3_retire_61 ⟨Nat.le_of_ble_eq_true rfl, Nat.le_of_ble_eq_true rfl⟩) hS (fun H locs hP hS => ?_)
      refine W.eq (g2 := F0 m 64 ls []) rfl ?_
      have e7 : gRetire σ (nI i) zb = sBegins (sWipe σ i) := by simp [kRetire, gRetire, (by decide : inB 0 0 48 = true), h2, c_3, c_4, inB_15 hi, ix_nI (show i < 2147483648 by omega)]
      rw [← e7] at hP
      have e8 : kRetire σ (nI i) zb = 0 := by simp [kRetire, gRetire, (by decide : inB 0 0 48 = true), h2, c_3, c_4, inB_15 hi, ix_nI (show i < 2147483648 by omega)]
      refine vx_ret (W.widen (k := 3) (n := 18) (Nat.le_of_ble_eq_true rfl) (Nat.le_of_ble_eq_true rfl) ?_)
      exact W.vret hx hb hr (fun t ht9 hW => ⟨⟨(), rfl, trivial, e8, by rw [← ht9] at hP; exact hP⟩, hS.F ht9⟩) hS.2.2 dX3_retire_64
  · exact xThrow (sz := sz) hx hb hst hml ht hlocks hxk "java/lang/IllegalStateException" "the machine is not IN_USE" 124 147 128 hown (by decide +kernel) (hts (.classLink RX3 124 "java/lang/IllegalStateException") (by decide +kernel)) (hts (.initialized "java/lang/IllegalStateException") (by decide +kernel)) (by decide +kernel) (fun w h => hts w ((by decide +kernel : ∀ w ∈ (vx_atS RX3 128 "java/lang/IllegalStateException" NM).filter goodWord, w ∈ wsX3_retire) w h)) xn3 xg3 hl.1 dX3_retire_21 dX3_retire_24 dX3_retire_25 dX3_retire_27 dX3_retire_30 (Nat.le_of_ble_eq_true rfl) (Nat.le_of_ble_eq_true rfl) (Nat.le_of_ble_eq_true rfl) (Nat.le_of_ble_eq_true rfl) (by first | exact ⟨rfl, by simp [kRetire, gRetire, (by decide : inB 0 0 48 = true), h2, c_3, inB_15 hi, ix_nI (show i < 2147483648 by omega)]⟩ | exact Or.inl ⟨rfl, by simp [kRetire, gRetire, (by decide : inB 0 0 48 = true), h2, c_3, inB_15 hi, ix_nI (show i < 2147483648 by omega)]⟩ | exact Or.inr ⟨rfl, by simp [kRetire, gRetire, (by decide : inB 0 0 48 = true), h2, c_3, inB_15 hi, ix_nI (show i < 2147483648 by omega)]⟩ | exact Or.inr (Or.inl ⟨rfl, by simp [kRetire, gRetire, (by decide : inB 0 0 48 = true), h2, c_3, inB_15 hi, ix_nI (show i < 2147483648 by omega)]⟩) | exact Or.inr (Or.inr ⟨rfl, by simp [kRetire, gRetire, (by decide : inB 0 0 48 = true), h2, c_3, inB_15 hi, ix_nI (show i < 2147483648 by omega)]⟩)) (Nat.le_of_ble_eq_true rfl) (Nat.le_of_ble_eq_true rfl)
set_option maxHeartbeats 4000000 in
set_option maxRecDepth 100000 in
/-- keep -/
theorem c_X3_keep (l : Launch) (hst : l.stackTraces = false) (D : va_G) (cy : Nat → ClassId) (ad : Nat → Nat) (hj : inj31 ad) (σ : Mem) (sz : Nat) (za : Int32) : vx_Met l yX3_keep wsX3_keep ({ frames := 7, cells := 2, slots := 12, locals := 114 }) (va_Pc [.ref (ad 0), .int za] (cx D cy ad σ sz)) (QV (fun H => kKeep σ za = 0 ∧ va_P D vwCl (wC cy ad (gKeep σ za)) H) (AC ad)) (XE (ex13 (kKeep σ za))) 2 12 (AC ad) := by
  refine vx_ofW (cc := cX3_keep) (maxL := 3) (ret := none) (by decide) rfl ?_
  intro p e s m args below meth c s₁ B hml ht hv
  obtain ⟨rfl, ⟨hP, hK⟩, hxk⟩ := hv
  have hx := B.exec
  have hb := B.bytes
  have hr := B.returns
  have hts := atoms_spec (ws := wsX3_keep) B.pre
  have hown : s.vm.findClass RX3 = some m.cls := findClass_of_methodNamed B.named
  have hlocks := B.notSynchronized
  have hf2 := fun (w : Cond) (h : w ∈ wsX20) => hts w ((by decide +kernel : ∀ w ∈ wsX20, w ∈ wsX3_keep) w h)
  have hl := lv_entry ([.ref (ad 0), .int za]) (n := 3) (Nat.le_of_ble_eq_true rfl)
  have hD := wC_D (cy := cy) hj
  have hS : va_S (AC ad) s.heap s.heap [] := va_S.rf
  rw [lg_entry_eq]
  generalize (lg_sl ([.ref (ad 0), .int za]) ++ List.replicate (3 - (lg_sl ([.ref (ad 0), .int za])).length) Slot.unset).toArray = ls at hl ⊢
  have hl : lv_has ls 3 [(0, .ref (ad 0)), (1, .int za)] := hl
  refine lv_aload_n hx hb dX3_keep_0 rfl (lv_at hl 0 rfl) ?_
  refine lv_iload_n hx hb dX3_keep_1 rfl (lv_at hl 1 rfl) ?_
  refine xS (vx_runV (As := [.int za]) (rest := []) ⟨hx, hb, hml, hown, hts⟩ (c_X3_machineRow l hst D cy ad σ sz za) (cwV 1 hts gX3_keep_X3_machineRow rfl rfl rfl (by decide +kernel) ⟨Nat.le_of_ble_eq_true rfl, Nat.le_of_ble_eq_true rfl⟩) ⟨cx_bl, cw_F hP hK, cx_at hP hK hxk⟩ rfl rfl hl.1 rfl (lv_room (Nat.le_of_ble_eq_true rfl)) dX3_keep_2 ⟨Nat.le_of_ble_eq_true rfl, Nat.le_of_ble_eq_true rfl⟩) (fun E ce q9 H1 hE h1 h2 h3 h4 h5 => xOut ht hlocks h1 h2 h3 h4 h5 (by obtain ⟨rfl, h9⟩ := hE; first | exact ⟨rfl, by simp [h9, kKeep, gKeep]⟩ | exact Or.inl ⟨rfl, by simp [h9, kKeep, gKeep]⟩ | exact Or.inr ⟨rfl, by simp [h9, kKeep, gKeep]⟩ | exact Or.inr (Or.inl ⟨rfl, by simp [h9, kKeep, gKeep]⟩) | exact Or.inr (Or.inr ⟨rfl, by simp [h9, kKeep, gKeep]⟩)) (Nat.le_of_ble_eq_true rfl) (Nat.le_of_ble_eq_true rfl)) (fun i h1 => ?_)
  obtain ⟨hi, rfl⟩ := h1
  refine W.eq (g2 := F0 m 5 ls [.ref (ad (i + 7))]) rfl ?_
  have hl : lv_has ls 3 [(0, .ref (ad 0)), (1, .int (nI i))] := hl
  refine lv_astore_n (lv' := [(2, .ref (ad (i + 7))), (0, .ref (ad 0)), (1, .int (nI i))]) hx hb dX3_keep_5 rfl hl (by decide) rfl (fun ls hl => ?_)
  refine lv_aload_n hx hb dX3_keep_6 rfl (lv_at hl 0 rfl) ?_
  refine rgM1 hx hb hf2 hown hK hP hi (hts (.fieldLink RX3 117 "MachineFoundry$Machine" "state" "I") (by decide +kernel)) (rfl) dX3_keep_7 ?_
  refine lv_bipush (v := 6) hx hb dX3_keep_10 (by decide) ?_
  refine lv_icmp_eq (tgt := 25) hx hb dX3_keep_12 (by decide) (fun c_2 => ?_) (fun c_2 => ?_)
  · refine lv_aload_n hx hb dX3_keep_25 rfl (lv_at hl 1 rfl) ?_
    refine lv_aload_n hx hb dX3_keep_26 rfl (lv_at hl 0 rfl) ?_
    refine lv_iconst (v := 5) hx hb dX3_keep_27 (by decide) ?_
    refine cMv (va_runV (As := [.ref (ad (i + 7)), .int 5]) (rest := []) ⟨hx, hb, hml, hown, hts⟩ (c_X3_change l D cy ad hj σ i hi 5) (cwV 2 hts gX3_keep_X3_change rfl rfl rfl (by decide +kernel) ⟨Nat.le_of_ble_eq_true rfl, Nat.le_of_ble_eq_true rfl⟩) ⟨cw_bl, (cw_F hP hK), (cw_at hP hK)⟩ rfl rfl hl.1 rfl (lv_room (Nat.le_of_ble_eq_true rfl)) dX3_keep_28 ⟨Nat.le_of_ble_eq_true rfl, Nat.le_of_ble_eq_true rfl⟩) hS (fun H locs hP hS => ?_)
    refine W.eq (g2 := F0 m 31 ls []) rfl ?_
    refine lv_aload_n hx hb dX3_keep_31 rfl (lv_at hl 1 rfl) ?_
    refine cMv (va_runV (As := []) (rest := []) ⟨hx, hb, hml, hown, hts⟩ (c_X3_beginInstallations l D cy ad hj (sChg σ i 5)) (cwV 0 hts gX3_keep_X3_beginInstallations rfl rfl rfl (by decide +kernel) ⟨Nat.le_of_ble_eq_true rfl, Nat.le_of_ble_eq_true rfl⟩) ⟨cw_bl, (cw_F hP hK), (cw_at hP hK)⟩ rfl rfl hl.1 rfl (lv_room (Nat.le_of_ble_eq_true rfl)) dX3_keep_32 ⟨Nat.le_of_ble_eq_true rfl, Nat.le_of_ble_eq_true rfl⟩) hS (fun H locs hP hS => ?_)
    refine W.eq (g2 := F0 m 35 ls []) rfl ?_
    have e7 : gKeep σ (nI i) = sBegins (sChg σ i 5) := by simp [kKeep, gKeep, c_2, inB_15 hi, ix_nI (show i < 2147483648 by omega)]
    rw [← e7] at hP
    have e8 : kKeep σ (nI i) = 0 := by simp [kKeep, gKeep, c_2, inB_15 hi, ix_nI (show i < 2147483648 by omega)]
    refine vx_ret (W.widen (k := 2) (n := 12) (Nat.le_of_ble_eq_true rfl) (Nat.le_of_ble_eq_true rfl) ?_)
    exact W.vret hx hb hr (fun t ht9 hW => ⟨⟨(), rfl, trivial, e8, by rw [← ht9] at hP; exact hP⟩, hS.F ht9⟩) hS.2.2 dX3_keep_35
  · exact xThrow (sz := sz) hx hb hst hml ht hlocks hxk "java/lang/IllegalStateException" "the machine is not DRAINING" 124 155 128 hown (by decide +kernel) (hts (.classLink RX3 124 "java/lang/IllegalStateException") (by decide +kernel)) (hts (.initialized "java/lang/IllegalStateException") (by decide +kernel)) (by decide +kernel) (fun w h => hts w ((by decide +kernel : ∀ w ∈ (vx_atS RX3 128 "java/lang/IllegalStateException" NM).filter goodWord, w ∈ wsX3_keep) w h)) xn3 xg3 hl.1 dX3_keep_15 dX3_keep_18 dX3_keep_19 dX3_keep_21 dX3_keep_24 (Nat.le_of_ble_eq_true rfl) (Nat.le_of_ble_eq_true rfl) (Nat.le_of_ble_eq_true rfl) (Nat.le_of_ble_eq_true rfl) (by first | exact ⟨rfl, by simp [kKeep, gKeep, c_2, inB_15 hi, ix_nI (show i < 2147483648 by omega)]⟩ | exact Or.inl ⟨rfl, by simp [kKeep, gKeep, c_2, inB_15 hi, ix_nI (show i < 2147483648 by omega)]⟩ | exact Or.inr ⟨rfl, by simp [kKeep, gKeep, c_2, inB_15 hi, ix_nI (show i < 2147483648 by omega)]⟩ | exact Or.inr (Or.inl ⟨rfl, by simp [kKeep, gKeep, c_2, inB_15 hi, ix_nI (show i < 2147483648 by omega)]⟩) | exact Or.inr (Or.inr ⟨rfl, by simp [kKeep, gKeep, c_2, inB_15 hi, ix_nI (show i < 2147483648 by omega)]⟩)) (Nat.le_of_ble_eq_true rfl) (Nat.le_of_ble_eq_true rfl)
set_option maxHeartbeats 4000000 in
set_option maxRecDepth 100000 in
/-- release -/
theorem c_X3_release (l : Launch) (hst : l.stackTraces = false) (D : va_G) (cy : Nat → ClassId) (ad : Nat → Nat) (hj : inj31 ad) (σ : Mem) (sz : Nat) (za : Int32) : vx_Met l yX3_release wsX3_release ({ frames := 7, cells := 2, slots := 12, locals := 114 }) (va_Pc [.ref (ad 0), .int za] (cx D cy ad σ sz)) (QV (fun H => kRelease σ za = 0 ∧ va_P D vwCl (wC cy ad (gRelease σ za)) H) (AC ad)) (XE (ex13 (kRelease σ za))) 2 12 (AC ad) := by
  refine vx_ofW (cc := cX3_release) (maxL := 3) (ret := none) (by decide) rfl ?_
  intro p e s m args below meth c s₁ B hml ht hv
  obtain ⟨rfl, ⟨hP, hK⟩, hxk⟩ := hv
  have hx := B.exec
  have hb := B.bytes
  have hr := B.returns
  have hts := atoms_spec (ws := wsX3_release) B.pre
  have hown : s.vm.findClass RX3 = some m.cls := findClass_of_methodNamed B.named
  have hlocks := B.notSynchronized
  have hf2 := fun (w : Cond) (h : w ∈ wsX20) => hts w ((by decide +kernel : ∀ w ∈ wsX20, w ∈ wsX3_release) w h)
  have hl := lv_entry ([.ref (ad 0), .int za]) (n := 3) (Nat.le_of_ble_eq_true rfl)
  have hD := wC_D (cy := cy) hj
  have hS : va_S (AC ad) s.heap s.heap [] := va_S.rf
  rw [lg_entry_eq]
  generalize (lg_sl ([.ref (ad 0), .int za]) ++ List.replicate (3 - (lg_sl ([.ref (ad 0), .int za])).length) Slot.unset).toArray = ls at hl ⊢
  have hl : lv_has ls 3 [(0, .ref (ad 0)), (1, .int za)] := hl
  refine lv_aload_n hx hb dX3_release_0 rfl (lv_at hl 0 rfl) ?_
  refine lv_iload_n hx hb dX3_release_1 rfl (lv_at hl 1 rfl) ?_
  refine xS (vx_runV (As := [.int za]) (rest := []) ⟨hx, hb, hml, hown, hts⟩ (c_X3_machineRow l hst D cy ad σ sz za) (cwV 1 hts gX3_release_X3_machineRow rfl rfl rfl (by decide +kernel) ⟨Nat.le_of_ble_eq_true rfl, Nat.le_of_ble_eq_true rfl⟩) ⟨cx_bl, cw_F hP hK, cx_at hP hK hxk⟩ rfl rfl hl.1 rfl (lv_room (Nat.le_of_ble_eq_true rfl)) dX3_release_2 ⟨Nat.le_of_ble_eq_true rfl, Nat.le_of_ble_eq_true rfl⟩) (fun E ce q9 H1 hE h1 h2 h3 h4 h5 => xOut ht hlocks h1 h2 h3 h4 h5 (by obtain ⟨rfl, h9⟩ := hE; first | exact ⟨rfl, by simp [h9, kRelease, gRelease]⟩ | exact Or.inl ⟨rfl, by simp [h9, kRelease, gRelease]⟩ | exact Or.inr ⟨rfl, by simp [h9, kRelease, gRelease]⟩ | exact Or.inr (Or.inl ⟨rfl, by simp [h9, kRelease, gRelease]⟩) | exact Or.inr (Or.inr ⟨rfl, by simp [h9, kRelease, gRelease]⟩)) (Nat.le_of_ble_eq_true rfl) (Nat.le_of_ble_eq_true rfl)) (fun i h1 => ?_)
  obtain ⟨hi, rfl⟩ := h1
  refine W.eq (g2 := F0 m 5 ls [.ref (ad (i + 7))]) rfl ?_
  have hl : lv_has ls 3 [(0, .ref (ad 0)), (1, .int (nI i))] := hl
  refine lv_astore_n (lv' := [(2, .ref (ad (i + 7))), (0, .ref (ad 0)), (1, .int (nI i))]) hx hb dX3_release_5 rfl hl (by decide) rfl (fun ls hl => ?_)
  refine lv_aload_n hx hb dX3_release_6 rfl (lv_at hl 0 rfl) ?_
  refine rgM1 hx hb hf2 hown hK hP hi (hts (.fieldLink RX3 117 "MachineFoundry$Machine" "state" "I") (by decide +kernel)) (rfl) dX3_release_7 ?_
  refine lv_bipush (v := 7) hx hb dX3_release_10 (by decide) ?_
  refine lv_icmp_eq (tgt := 25) hx hb dX3_release_12 (by decide) (fun c_2 => ?_) (fun c_2 => ?_)
  · refine lv_aload_n hx hb dX3_release_25 rfl (lv_at hl 0 rfl) ?_
    refine lv_iconst (v := 0) hx hb dX3_release_26 (by decide) ?_
    refine rpM6 hx hb hf2 hown hK hP hD hS hi (hts (.fieldLink RX3 141 "MachineFoundry$Machine" "failures" "I") (by decide +kernel)) dX3_release_27 (fun H locs hP hS => ?_)
    refine lv_aload_n hx hb dX3_release_30 rfl (lv_at hl 1 rfl) ?_
    refine lv_aload_n hx hb dX3_release_31 rfl (lv_at hl 0 rfl) ?_
    refine lv_iconst (v := 1) hx hb dX3_release_32 (by decide) ?_
    refine cMv (va_runV (As := [.ref (ad (i + 7)), .int 1]) (rest := []) ⟨hx, hb, hml, hown, hts⟩ (c_X3_change l D cy ad hj (up2 σ 6 i 0) i hi 1) (cwV 2 hts gX3_release_X3_change rfl rfl rfl (by decide +kernel) ⟨Nat.le_of_ble_eq_true rfl, Nat.le_of_ble_eq_true rfl⟩) ⟨cw_bl, (cw_F hP hK), (cw_at hP hK)⟩ rfl rfl hl.1 rfl (lv_room (Nat.le_of_ble_eq_true rfl)) dX3_release_33 ⟨Nat.le_of_ble_eq_true rfl, Nat.le_of_ble_eq_true rfl⟩) hS (fun H locs hP hS => ?_)
    refine W.eq (g2 := F0 m 36 ls []) rfl ?_
    refine lv_aload_n hx hb dX3_release_36 rfl (lv_at hl 1 rfl) ?_
    refine cMv (va_runV (As := []) (rest := []) ⟨hx, hb, hml, hown, hts⟩ (c_X3_beginInstallations l D cy ad hj (sChg (up2 σ 6 i 0) i 1)) (cwV 0 hts gX3_release_X3_beginInstallations rfl rfl rfl (by decide +kernel) ⟨Nat.le_of_ble_eq_true rfl, Nat.le_of_ble_eq_true rfl⟩) ⟨cw_bl, (cw_F hP hK), (cw_at hP hK)⟩ rfl rfl hl.1 rfl (lv_room (Nat.le_of_ble_eq_true rfl)) dX3_release_37 ⟨Nat.le_of_ble_eq_true rfl, Nat.le_of_ble_eq_true rfl⟩) hS (fun H locs hP hS => ?_)
    refine W.eq (g2 := F0 m 40 ls []) rfl ?_
    have e7 : gRelease σ (nI i) = sBegins (sChg (up2 σ 6 i 0) i 1) := by simp [kRelease, gRelease, c_2, inB_15 hi, ix_nI (show i < 2147483648 by omega)]
    rw [← e7] at hP
    have e8 : kRelease σ (nI i) = 0 := by simp [kRelease, gRelease, c_2, inB_15 hi, ix_nI (show i < 2147483648 by omega)]
    refine vx_ret (W.widen (k := 2) (n := 12) (Nat.le_of_ble_eq_true rfl) (Nat.le_of_ble_eq_true rfl) ?_)
    exact W.vret hx hb hr (fun t ht9 hW => ⟨⟨(), rfl, trivial, e8, by rw [← ht9] at hP; exact hP⟩, hS.F ht9⟩) hS.2.2 dX3_release_40
  · exact xThrow (sz := sz) hx hb hst hml ht hlocks hxk "java/lang/IllegalStateException" "the machine is not QUARANTINED" 124 157 128 hown (by decide +kernel) (hts (.classLink RX3 124 "java/lang/IllegalStateException") (by decide +kernel)) (hts (.initialized "java/lang/IllegalStateException") (by decide +kernel)) (by decide +kernel) (fun w h => hts w ((by decide +kernel : ∀ w ∈ (vx_atS RX3 128 "java/lang/IllegalStateException" NM).filter goodWord, w ∈ wsX3_release) w h)) xn3 xg3 hl.1 dX3_release_15 dX3_release_18 dX3_release_19 dX3_release_21 dX3_release_24 (Nat.le_of_ble_eq_true rfl) (Nat.le_of_ble_eq_true rfl) (Nat.le_of_ble_eq_true rfl) (Nat.le_of_ble_eq_true rfl) (by first | exact ⟨rfl, by simp [kRelease, gRelease, c_2, inB_15 hi, ix_nI (show i < 2147483648 by omega)]⟩ | exact Or.inl ⟨rfl, by simp [kRelease, gRelease, c_2, inB_15 hi, ix_nI (show i < 2147483648 by omega)]⟩ | exact Or.inr ⟨rfl, by simp [kRelease, gRelease, c_2, inB_15 hi, ix_nI (show i < 2147483648 by omega)]⟩ | exact Or.inr (Or.inl ⟨rfl, by simp [kRelease, gRelease, c_2, inB_15 hi, ix_nI (show i < 2147483648 by omega)]⟩) | exact Or.inr (Or.inr ⟨rfl, by simp [kRelease, gRelease, c_2, inB_15 hi, ix_nI (show i < 2147483648 by omega)]⟩)) (Nat.le_of_ble_eq_true rfl) (Nat.le_of_ble_eq_true rfl)
set_option maxHeartbeats 4000000 in
set_option maxRecDepth 100000 in
/-- advance -/
theorem c_X3_advance (l : Launch) (hst : l.stackTraces = false) (D : va_G) (cy : Nat → ClassId) (ad : Nat → Nat) (hj : inj31 ad) (σ : Mem) (sz : Nat) (za : Int32) : vx_Met l yX3_advance wsX3_advance ({ frames := 7, cells := 1, slots := 6, locals := 134 }) (va_Pc [.ref (ad 0), .int za] (cx D cy ad σ sz)) (QI (rAdvance σ za) (fun H => kAdvance za = 0 ∧ va_P D vwCl (wC cy ad (gAdvance σ za)) H) (AC ad)) (XE (ex2 (kAdvance za))) 1 6 (AC ad) := by
  refine vx_ofW (cc := cX3_advance) (maxL := 4) (ret := (some .int)) (by decide) rfl ?_
  intro p e s m args below meth c s₁ B hml ht hv
  obtain ⟨rfl, ⟨hP, hK⟩, hxk⟩ := hv
  have hx := B.exec
  have hb := B.bytes
  have hr := B.returns
  have hts := atoms_spec (ws := wsX3_advance) B.pre
  have hown : s.vm.findClass RX3 = some m.cls := findClass_of_methodNamed B.named
  have hlocks := B.notSynchronized
  have hf1 := fun (w : Cond) (h : w ∈ wsX10) => hts w ((by decide +kernel : ∀ w ∈ wsX10, w ∈ wsX3_advance) w h)
  have hf3 := fun (w : Cond) (h : w ∈ wsX30) => hts w ((by decide +kernel : ∀ w ∈ wsX30, w ∈ wsX3_advance) w h)
  have hl := lv_entry ([.ref (ad 0), .int za]) (n := 4) (Nat.le_of_ble_eq_true rfl)
  have hD := wC_D (cy := cy) hj
  have hS : va_S (AC ad) s.heap s.heap [] := va_S.rf
  rw [lg_entry_eq]
  generalize (lg_sl ([.ref (ad 0), .int za]) ++ List.replicate (4 - (lg_sl ([.ref (ad 0), .int za])).length) Slot.unset).toArray = ls at hl ⊢
  have hl : lv_has ls 4 [(0, .ref (ad 0)), (1, .int za)] := hl
  refine lv_iload_n hx hb dX3_advance_0 rfl (lv_at hl 1 rfl) ?_
  refine lv_iconst (v := 1) hx hb dX3_advance_1 (by decide) ?_
  refine lv_sipush (v := 200) hx hb dX3_advance_2 (by decide) ?_
  refine xS (vx_runS (As := [.int za, .int 1, .int 200]) (rest := []) ⟨hx, hb, hml, hown, hts⟩ (c_X3_refuseOutside l hst sz za 1 200) (va_cwS 3 hts gX3_advance_X3_refuseOutside rfl rfl rfl (by decide +kernel) ⟨Nat.le_of_ble_eq_true rfl, Nat.le_of_ble_eq_true rfl⟩) ⟨xk_bl, xk_pre hxk⟩ rfl rfl hl.1 rfl (lv_room (Nat.le_of_ble_eq_true rfl)) dX3_advance_5 ⟨Nat.le_of_ble_eq_true rfl, Nat.le_of_ble_eq_true rfl⟩) (fun E ce q9 H1 hE h1 h2 h3 h4 h5 => xOut ht hlocks h1 h2 h3 h4 h5 (by obtain ⟨rfl, h9⟩ := hE; first | exact ⟨rfl, by simp [h9, kAdvance, gAdvance, rAdvance]⟩ | exact Or.inl ⟨rfl, by simp [h9, kAdvance, gAdvance, rAdvance]⟩ | exact Or.inr ⟨rfl, by simp [h9, kAdvance, gAdvance, rAdvance]⟩ | exact Or.inr (Or.inl ⟨rfl, by simp [h9, kAdvance, gAdvance, rAdvance]⟩) | exact Or.inr (Or.inr ⟨rfl, by simp [h9, kAdvance, gAdvance, rAdvance]⟩)) (Nat.le_of_ble_eq_true rfl) (Nat.le_of_ble_eq_true rfl)) (fun _ h1 => ?_)
  refine W.eq (g2 := F0 m 8 ls []) rfl ?_
  obtain ⟨n9, hn9, rfl⟩ := inB_le 200 (by decide) (by decide : (0 : Int32) ≤ 1) (by decide : (200 : Int32) ≤ nI 200) h1
  have hl : lv_has ls 4 [(0, .ref (ad 0)), (1, .int (nI n9))] := hl
  refine lv_aload_n hx hb dX3_advance_8 rfl (lv_at hl 0 rfl) ?_
  refine rgF3 hx hb hf3 hown hK hP (hts (.fieldLink RX3 28 "MachineFoundry" "journal" "LMachineFoundry$Journal;") (by decide +kernel)) dX3_advance_9 ?_
  refine rgJ2 hx hb hf1 hown hK hP (hts (.fieldLink RX3 159 "MachineFoundry$Journal" "added" "I") (by decide +kernel)) (rfl) dX3_advance_12 ?_
  refine lv_istore_n (lv' := [(2, .int (σ 20 9)), (0, .ref (ad 0)), (1, .int (nI n9))]) hx hb dX3_advance_15 rfl hl (by decide) rfl (fun ls hl => ?_)
  refine lv_iconst (v := 0) hx hb dX3_advance_16 (by decide) ?_
  refine lv_istore_n (lv' := [(3, .int 0), (2, .int (σ 20 9)), (0, .ref (ad 0)), (1, .int (nI n9))]) hx hb dX3_advance_17 rfl hl (by decide) rfl (fun ls hl => ?_)
  have hl0 : lv_has ls 4 [(3, .int (nI 0)), (0, .ref (ad 0)), (1, .int (nI n9)), (2, .int (σ 20 9))] := lv_sub hl [0, 2, 3, 1] rfl
  have hP0 : va_P D vwCl (wC cy ad (sAdv σ 0)) _ := hP
  refine w_loopM n9 (fun k => [(3, .int (nI k)), (0, .ref (ad 0)), (1, .int (nI n9)), (2, .int (σ 20 9))]) (fun k => va_P D vwCl (wC cy ad (sAdv σ k))) 0 (Nat.zero_le _) hl0 hP0 hS (fun H locs ls hl hP hS => ?_) (fun k hk0 hk H locs ls hl hP hS ih => ?_)
  · have hl : lv_has ls 4 [(3, .int (nI n9)), (0, .ref (ad 0)), (1, .int (nI n9)), (2, .int (σ 20 9))] := hl
    have hP : va_P D vwCl (wC cy ad (sAdv σ n9)) H := hP
    refine lv_iload_n hx hb dX3_advance_18 rfl (lv_at hl 0 rfl) ?_
    refine lv_iload_n hx hb dX3_advance_19 rfl (lv_at hl 2 rfl) ?_
    refine lv_icmp_ge (tgt := 33) hx hb dX3_advance_20 (by decide) (fun c_2 => ?_) (fun c_2 => absurd ((nI_le (Nat.le_refl n9) (by omega))) c_2)
    refine lv_aload_n hx hb dX3_advance_33 rfl (lv_at hl 1 rfl) ?_
    refine rgF3 hx hb hf3 hown hK hP (hts (.fieldLink RX3 28 "MachineFoundry" "journal" "LMachineFoundry$Journal;") (by decide +kernel)) dX3_advance_34 ?_
    refine rgJ2 hx hb hf1 hown hK hP (hts (.fieldLink RX3 159 "MachineFoundry$Journal" "added" "I") (by decide +kernel)) (rfl) dX3_advance_37 ?_
    refine lv_iload_n hx hb dX3_advance_40 rfl (lv_at hl 3 rfl) ?_
    refine lv_isub hx hb dX3_advance_41 ?_
    have e7 : gAdvance σ (nI n9) = sAdv σ n9 := by simp [kAdvance, gAdvance, rAdvance, h1, c_2, h1, ix_nI (show n9 < 2147483648 by omega)]
    rw [← e7] at hP
    have e8 : kAdvance (nI n9) = 0 := by simp [kAdvance, gAdvance, rAdvance, h1, c_2, h1, ix_nI (show n9 < 2147483648 by omega)]
    have e9 : (((sAdv σ n9) 20 9) - (σ 20 9)) = rAdvance σ (nI n9) := by first | (rw [← e7]; simp [kAdvance, gAdvance, rAdvance, h1, ix_nI (show n9 < 2147483648 by omega)]; done) | (simp [kAdvance, gAdvance, rAdvance, h1, c_2, h1, ix_nI (show n9 < 2147483648 by omega)])
    refine vx_ret (W.widen (k := 1) (n := 6) (Nat.le_of_ble_eq_true rfl) (Nat.le_of_ble_eq_true rfl) ?_)
    exact W.iret (v := ((sAdv σ n9) 20 9) - (σ 20 9)) hx hb hr (fun t ht9 hW => ⟨⟨_, (), rfl, e9, e8, by rw [← ht9] at hP; exact hP⟩, hS.F ht9⟩) hS.2.2 dX3_advance_42
  · have hl : lv_has ls 4 [(3, .int (nI k)), (0, .ref (ad 0)), (1, .int (nI n9)), (2, .int (σ 20 9))] := hl
    have hP : va_P D vwCl (wC cy ad (sAdv σ k)) H := hP
    refine lv_iload_n hx hb dX3_advance_18 rfl (lv_at hl 0 rfl) ?_
    refine lv_iload_n hx hb dX3_advance_19 rfl (lv_at hl 2 rfl) ?_
    refine lv_icmp_ge (tgt := 33) hx hb dX3_advance_20 (by decide) (fun c_3 => absurd c_3 ((nI_ge hk (by omega)))) (fun c_3 => ?_)
    refine lv_aload_n hx hb dX3_advance_23 rfl (lv_at hl 1 rfl) ?_
    refine cMv (va_runV (As := []) (rest := []) ⟨hx, hb, hml, hown, hts⟩ (c_X3_passHour l D cy ad hj (sAdv σ k)) (cwV 0 hts gX3_advance_X3_passHour rfl rfl rfl (by decide +kernel) ⟨Nat.le_of_ble_eq_true rfl, Nat.le_of_ble_eq_true rfl⟩) ⟨cw_bl, (cw_F hP hK), (cw_at hP hK)⟩ rfl rfl hl.1 rfl (lv_room (Nat.le_of_ble_eq_true rfl)) dX3_advance_24 ⟨Nat.le_of_ble_eq_true rfl, Nat.le_of_ble_eq_true rfl⟩) hS (fun H locs hP hS => ?_)
    refine W.eq (g2 := F0 m 27 ls []) rfl ?_
    refine lv_iinc (v := nI (k + 1)) (lv' := [(3, .int (nI (k + 1))), (0, .ref (ad 0)), (1, .int (nI n9)), (2, .int (σ 20 9))]) hx hb dX3_advance_27 hl (k := 0) rfl (nI_1 k) (by decide) rfl (fun ls hl => ?_)
    refine lv_goto (tgt := 18) hx hb dX3_advance_30 (by decide) ?_
    have e6 : sAdv σ (k + 1) = sPass (sAdv σ k) := by rfl
    exact ih H locs ls (lv_sub hl [0, 1, 2, 3] rfl) (by rw [e6]; exact hP) hS
