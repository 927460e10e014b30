set_option maxHeartbeats 4000000 in
set_option maxRecDepth 100000 in
theorem c_X4_in (l : Launch) (zv zl zh : Int32) : Met l yX4_in wsX4_in ({ frames := 0, cells := 0, slots := 0, locals := 0 }) (va_Pc [.int zv, .int zl, .int zh] (fun _ => True)) (SI (b2i (inB zv zl zh))) 0 0 NoA := by
  refine Met.ofW (cc := cX4_in) (maxL := 3) (ret := (some .boolean)) (by decide) rfl ?_
  intro p e s m args below meth c s₁ B hml hv
  obtain ⟨rfl, -⟩ := hv
  have hx := B.exec
  have hb := B.bytes
  have hr := B.returns
  have hts := atoms_spec (ws := wsX4_in) B.pre
  have hown : s.vm.findClass RX4 = some m.cls := findClass_of_methodNamed B.named
  have hlocks := B.notSynchronized
  have hl := lv_entry ([.int zv, .int zl, .int zh]) (n := 3) (Nat.le_of_ble_eq_true rfl)
  rw [lg_entry_eq]
  generalize (lg_sl ([.int zv, .int zl, .int zh]) ++ List.replicate (3 - (lg_sl ([.int zv, .int zl, .int zh])).length) Slot.unset).toArray = ls at hl ⊢
  have hl : lv_has ls 3 [(0, .int zv), (1, .int zl), (2, .int zh)] := hl
  refine lv_iload_n hx hb dX4_in_0 rfl (lv_at hl 0 rfl) ?_
  refine lv_iload_n hx hb dX4_in_1 rfl (lv_at hl 1 rfl) ?_
  refine lv_icmp_lt (tgt := 14) hx hb dX4_in_2 (by decide) (fun c_1 => ?_) (fun c_1 => ?_)
  · have d_1 := Int32.not_le.mpr c_1
    refine lv_iconst (v := 0) hx hb dX4_in_14 (by decide) ?_
    have e9 : b2i (inB zv zl zh) = 0 := by simp [b2i, inB, c_1, d_1]
    exact W.zret (v := 0) hx hb hr rfl (fun t ht hW => ⟨(), by rw [e9], trivial, ht⟩) (fun q h => nomatch h) dX4_in_15
  · have d_1 := Int32.not_lt.mp c_1
    refine lv_iload_n hx hb dX4_in_5 rfl (lv_at hl 0 rfl) ?_
    refine lv_iload_n hx hb dX4_in_6 rfl (lv_at hl 2 rfl) ?_
    refine lv_icmp_gt (tgt := 14) hx hb dX4_in_7 (by decide) (fun c_2 => ?_) (fun c_2 => ?_)
    · have d_2 := Int32.not_le.mpr c_2
      refine lv_iconst (v := 0) hx hb dX4_in_14 (by decide) ?_
      have e9 : b2i (inB zv zl zh) = 0 := by simp [b2i, inB, c_1, d_1, c_2, d_2]
      exact W.zret (v := 0) hx hb hr rfl (fun t ht hW => ⟨(), by rw [e9], trivial, ht⟩) (fun q h => nomatch h) dX4_in_15
    · have d_2 := Int32.not_lt.mp c_2
      refine lv_iconst (v := 1) hx hb dX4_in_10 (by decide) ?_
      refine lv_goto (tgt := 15) hx hb dX4_in_11 (by decide) ?_
      have e9 : b2i (inB zv zl zh) = 1 := by simp [b2i, inB, c_1, d_1, c_2, d_2]
      exact W.zret (v := 1) hx hb hr rfl (fun t ht hW => ⟨(), by rw [e9], trivial, ht⟩) (fun q h => nomatch h) dX4_in_15
set_option maxHeartbeats 4000000 in
set_option maxRecDepth 100000 in
theorem c_X4_isMachine (l : Launch) (za : Int32) : Met l yX4_isMachine wsX4_isMachine ({ frames := 1, cells := 0, slots := 0, locals := 22 }) (va_Pc [.int za] (fun _ => True)) (SI (b2i (inB za 0 15))) 0 0 NoA := by
  refine Met.ofW (cc := cX4_isMachine) (maxL := 1) (ret := (some .boolean)) (by decide) rfl ?_
  intro p e s m args below meth c s₁ B hml hv
  obtain ⟨rfl, -⟩ := hv
  have hx := B.exec
  have hb := B.bytes
  have hr := B.returns
  have hts := atoms_spec (ws := wsX4_isMachine) B.pre
  have hown : s.vm.findClass RX4 = some m.cls := findClass_of_methodNamed B.named
  have hlocks := B.notSynchronized
  have hl := lv_entry ([.int za]) (n := 1) (Nat.le_of_ble_eq_true rfl)
  rw [lg_entry_eq]
  generalize (lg_sl ([.int za]) ++ List.replicate (1 - (lg_sl ([.int za])).length) Slot.unset).toArray = ls at hl ⊢
  have hl : lv_has ls 1 [(0, .int za)] := hl
  refine lv_iload_n hx hb dX4_isMachine_0 rfl (lv_at hl 0 rfl) ?_
  refine lv_iconst (v := 0) hx hb dX4_isMachine_1 (by decide) ?_
  refine lv_bipush (v := 15) hx hb dX4_isMachine_2 (by decide) ?_
  refine cS (W.runS (As := [.int za, .int 0, .int 15]) (rest := []) ⟨hx, hb, hml, hown, hts⟩ (c_X4_in l za 0 15) (va_cwS 3 hts gX4_isMachine_X4_in rfl rfl rfl (by decide +kernel) ⟨Nat.le_of_ble_eq_true rfl, Nat.le_of_ble_eq_true rfl⟩) ⟨fun a U g mk h => h, fun U _ _ => ⟨rfl, trivial⟩⟩ rfl rfl hl.1 rfl (lv_room (Nat.le_of_ble_eq_true rfl)) dX4_isMachine_4 ⟨Nat.le_of_ble_eq_true rfl, Nat.le_of_ble_eq_true rfl⟩) (fun _ _ => ?_)
  refine W.eq (g2 := F0 m 7 ls [.int (b2i (inB za 0 15))]) rfl ?_
  have e9 : b2i (inB za 0 15) = (b2i (inB za 0 15)) := rfl
  exact W.zret (v := b2i (inB za 0 15)) hx hb hr (by cases (inB za 0 15) <;> rfl) (fun t ht hW => ⟨(), by rw [e9], trivial, ht⟩) (fun q h => nomatch h) dX4_isMachine_7
set_option maxHeartbeats 4000000 in
set_option maxRecDepth 100000 in
theorem c_X4_isRack (l : Launch) (za : Int32) : Met l yX4_isRack wsX4_isRack ({ frames := 1, cells := 0, slots := 0, locals := 22 }) (va_Pc [.int za] (fun _ => True)) (SI (b2i (inB za 0 3))) 0 0 NoA := by
  refine Met.ofW (cc := cX4_isRack) (maxL := 1) (ret := (some .boolean)) (by decide) rfl ?_
  intro p e s m args below meth c s₁ B hml hv
  obtain ⟨rfl, -⟩ := hv
  have hx := B.exec
  have hb := B.bytes
  have hr := B.returns
  have hts := atoms_spec (ws := wsX4_isRack) B.pre
  have hown : s.vm.findClass RX4 = some m.cls := findClass_of_methodNamed B.named
  have hlocks := B.notSynchronized
  have hl := lv_entry ([.int za]) (n := 1) (Nat.le_of_ble_eq_true rfl)
  rw [lg_entry_eq]
  generalize (lg_sl ([.int za]) ++ List.replicate (1 - (lg_sl ([.int za])).length) Slot.unset).toArray = ls at hl ⊢
  have hl : lv_has ls 1 [(0, .int za)] := hl
  refine lv_iload_n hx hb dX4_isRack_0 rfl (lv_at hl 0 rfl) ?_
  refine lv_iconst (v := 0) hx hb dX4_isRack_1 (by decide) ?_
  refine lv_iconst (v := 3) hx hb dX4_isRack_2 (by decide) ?_
  refine cS (W.runS (As := [.int za, .int 0, .int 3]) (rest := []) ⟨hx, hb, hml, hown, hts⟩ (c_X4_in l za 0 3) (va_cwS 3 hts gX4_isRack_X4_in rfl rfl rfl (by decide +kernel) ⟨Nat.le_of_ble_eq_true rfl, Nat.le_of_ble_eq_true rfl⟩) ⟨fun a U g mk h => h, fun U _ _ => ⟨rfl, trivial⟩⟩ rfl rfl hl.1 rfl (lv_room (Nat.le_of_ble_eq_true rfl)) dX4_isRack_3 ⟨Nat.le_of_ble_eq_true rfl, Nat.le_of_ble_eq_true rfl⟩) (fun _ _ => ?_)
  refine W.eq (g2 := F0 m 6 ls [.int (b2i (inB za 0 3))]) rfl ?_
  have e9 : b2i (inB za 0 3) = (b2i (inB za 0 3)) := rfl
  exact W.zret (v := b2i (inB za 0 3)) hx hb hr (by cases (inB za 0 3) <;> rfl) (fun t ht hW => ⟨(), by rw [e9], trivial, ht⟩) (fun q h => nomatch h) dX4_isRack_6
set_option maxHeartbeats 4000000 in
set_option maxRecDepth 100000 in
/-- goes -/
theorem c_X4_goes (l : Launch) (D : va_G) (cy : Nat → ClassId) (bd : Nat → Nat) (hj : injM bd) (τ : Mem) (ba bb bc : Bool) : Met l yX4_goes wsX4_goes ({ frames := 0, cells := 0, slots := 0, locals := 0 }) (va_Pc [.ref (bd 0), .int (b2i ba), .int (b2i bb), .int (b2i bc)] (mw D cy bd τ)) (QI (b2i (ba && bb && bc)) (va_P D vwCl (wM cy bd (tGo τ ba bb bc))) (AM bd)) 0 0 (AM bd) := by
  refine Met.ofW (cc := cX4_goes) (maxL := 4) (ret := (some .boolean)) (by decide) rfl ?_
  intro p e s m args below meth c s₁ B hml hv
  obtain ⟨rfl, hP, hK⟩ := hv
  have hx := B.exec
  have hb := B.bytes
  have hr := B.returns
  have hts := atoms_spec (ws := wsX4_goes) B.pre
  have hown : s.vm.findClass RX4 = some m.cls := findClass_of_methodNamed B.named
  have hlocks := B.notSynchronized
  have hf4 := fun (w : Cond) (h : w ∈ wsX40) => hts w ((by decide +kernel : ∀ w ∈ wsX40, w ∈ wsX4_goes) w h)
  have hD := wM_D (cy := cy) hj
  have hS : va_S (AM bd) s.heap s.heap [] := va_S.rf
  have hl := lv_entry ([.ref (bd 0), .int (b2i ba), .int (b2i bb), .int (b2i bc)]) (n := 4) (Nat.le_of_ble_eq_true rfl)
  rw [lg_entry_eq]
  generalize (lg_sl ([.ref (bd 0), .int (b2i ba), .int (b2i bb), .int (b2i bc)]) ++ List.replicate (4 - (lg_sl ([.ref (bd 0), .int (b2i ba), .int (b2i bb), .int (b2i bc)])).length) Slot.unset).toArray = ls at hl ⊢
  have hl : lv_has ls 4 [(0, .ref (bd 0)), (1, .int (b2i ba)), (2, .int (b2i bb)), (3, .int (b2i bc))] := hl
  refine lv_aload_n hx hb dX4_goes_0 rfl (lv_at hl 0 rfl) ?_
  refine lv_iload_n hx hb dX4_goes_1 rfl (lv_at hl 1 rfl) ?_
  refine lv_if_ne (tgt := 9) hx hb dX4_goes_2 (by decide) (fun c_1 => ?_) (fun c_1 => ?_)
  · replace c_1 := b2i_n0.mp c_1
    refine lv_iload_n hx hb dX4_goes_9 rfl (lv_at hl 2 rfl) ?_
    refine lv_if_ne (tgt := 17) hx hb dX4_goes_10 (by decide) (fun c_2 => ?_) (fun c_2 => ?_)
    · replace c_2 := b2i_n0.mp c_2
      refine lv_iload_n hx hb dX4_goes_17 rfl (lv_at hl 3 rfl) ?_
      refine lv_if_ne (tgt := 25) hx hb dX4_goes_18 (by decide) (fun c_3 => ?_) (fun c_3 => ?_)
      · replace c_3 := b2i_n0.mp c_3
        refine lv_iconst (v := 0) hx hb dX4_goes_25 (by decide) ?_
        refine rpO25 hx hb hf4 hown hK hP hD hS (hts (.fieldLink RX4 75 "MachineFoundryModel" "thrown" "I") (by decide +kernel)) dX4_goes_26 (fun H locs hP hS => ?_)
        refine lv_aload_n hx hb dX4_goes_29 rfl (lv_at hl 0 rfl) ?_
        refine rgO25 (x := 0) hx hb hf4 hown hK hP (hts (.fieldLink RX4 75 "MachineFoundryModel" "thrown" "I") (by decide +kernel)) (by simp [up2]) dX4_goes_30 ?_
        refine lv_if_ne (tgt := 40) hx hb dX4_goes_33 (by decide) (fun c_4 => absurd ((by decide : (0 : Int32) = 0)) c_4) (fun c_4 => ?_)
        refine lv_iconst (v := 1) hx hb dX4_goes_36 (by decide) ?_
        refine lv_goto (tgt := 41) hx hb dX4_goes_37 (by decide) ?_
        have e8 : tGo τ ba bb bc = up2 τ 0 25 0 := by simp [tGo, gC, b2i, c_1, c_2, c_3, c_4]
        rw [← e8] at hP
        have e9 : 1 = b2i (ba && bb && bc) := by simp [tGo, gC, b2i, c_1, c_2, c_3, c_4]
        exact W.zret (v := 1) hx hb hr rfl (fun t ht hW => ⟨⟨_, (), rfl, e9, by rw [← ht] at hP; exact hP⟩, hS.F ht⟩) hS.2.2 dX4_goes_41
      · replace c_3 := b2i_0.mp c_3
        refine lv_iconst (v := 3) hx hb dX4_goes_21 (by decide) ?_
        refine lv_goto (tgt := 26) hx hb dX4_goes_22 (by decide) ?_
        refine rpO25 hx hb hf4 hown hK hP hD hS (hts (.fieldLink RX4 75 "MachineFoundryModel" "thrown" "I") (by decide +kernel)) dX4_goes_26 (fun H locs hP hS => ?_)
        refine lv_aload_n hx hb dX4_goes_29 rfl (lv_at hl 0 rfl) ?_
        refine rgO25 (x := 3) hx hb hf4 hown hK hP (hts (.fieldLink RX4 75 "MachineFoundryModel" "thrown" "I") (by decide +kernel)) (by simp [up2]) dX4_goes_30 ?_
        refine lv_if_ne (tgt := 40) hx hb dX4_goes_33 (by decide) (fun c_5 => ?_) (fun c_5 => absurd c_5 ((by decide : ¬ (3 : Int32) = 0)))
        refine lv_iconst (v := 0) hx hb dX4_goes_40 (by decide) ?_
        have e8 : tGo τ ba bb bc = up2 τ 0 25 3 := by simp [tGo, gC, b2i, c_1, c_2, c_3, c_5]
        rw [← e8] at hP
        have e9 : 0 = b2i (ba && bb && bc) := by simp [tGo, gC, b2i, c_1, c_2, c_3, c_5]
        exact W.zret (v := 0) hx hb hr rfl (fun t ht hW => ⟨⟨_, (), rfl, e9, by rw [← ht] at hP; exact hP⟩, hS.F ht⟩) hS.2.2 dX4_goes_41
    · replace c_2 := b2i_0.mp c_2
      refine lv_iconst (v := 2) hx hb dX4_goes_13 (by decide) ?_
      refine lv_goto (tgt := 26) hx hb dX4_goes_14 (by decide) ?_
      refine rpO25 hx hb hf4 hown hK hP hD hS (hts (.fieldLink RX4 75 "MachineFoundryModel" "thrown" "I") (by decide +kernel)) dX4_goes_26 (fun H locs hP hS => ?_)
      refine lv_aload_n hx hb dX4_goes_29 rfl (lv_at hl 0 rfl) ?_
      refine rgO25 (x := 2) hx hb hf4 hown hK hP (hts (.fieldLink RX4 75 "MachineFoundryModel" "thrown" "I") (by decide +kernel)) (by simp [up2]) dX4_goes_30 ?_
      refine lv_if_ne (tgt := 40) hx hb dX4_goes_33 (by decide) (fun c_6 => ?_) (fun c_6 => absurd c_6 ((by decide : ¬ (2 : Int32) = 0)))
      refine lv_iconst (v := 0) hx hb dX4_goes_40 (by decide) ?_
      have e8 : tGo τ ba bb bc = up2 τ 0 25 2 := by simp [tGo, gC, b2i, c_1, c_2, c_6]
      rw [← e8] at hP
      have e9 : 0 = b2i (ba && bb && bc) := by simp [tGo, gC, b2i, c_1, c_2, c_6]
      exact W.zret (v := 0) hx hb hr rfl (fun t ht hW => ⟨⟨_, (), rfl, e9, by rw [← ht] at hP; exact hP⟩, hS.F ht⟩) hS.2.2 dX4_goes_41
  · replace c_1 := b2i_0.mp c_1
    refine lv_iconst (v := 1) hx hb dX4_goes_5 (by decide) ?_
    refine lv_goto (tgt := 26) hx hb dX4_goes_6 (by decide) ?_
    refine rpO25 hx hb hf4 hown hK hP hD hS (hts (.fieldLink RX4 75 "MachineFoundryModel" "thrown" "I") (by decide +kernel)) dX4_goes_26 (fun H locs hP hS => ?_)
    refine lv_aload_n hx hb dX4_goes_29 rfl (lv_at hl 0 rfl) ?_
    refine rgO25 (x := 1) hx hb hf4 hown hK hP (hts (.fieldLink RX4 75 "MachineFoundryModel" "thrown" "I") (by decide +kernel)) (by simp [up2]) dX4_goes_30 ?_
    refine lv_if_ne (tgt := 40) hx hb dX4_goes_33 (by decide) (fun c_7 => ?_) (fun c_7 => absurd c_7 ((by decide : ¬ (1 : Int32) = 0)))
    refine lv_iconst (v := 0) hx hb dX4_goes_40 (by decide) ?_
    have e8 : tGo τ ba bb bc = up2 τ 0 25 1 := by simp [tGo, gC, b2i, c_1, c_7]
    rw [← e8] at hP
    have e9 : 0 = b2i (ba && bb && bc) := by simp [tGo, gC, b2i, c_1, c_7]
    exact W.zret (v := 0) hx hb hr rfl (fun t ht hW => ⟨⟨_, (), rfl, e9, by rw [← ht] at hP; exact hP⟩, hS.F ht⟩) hS.2.2 dX4_goes_41
set_option maxHeartbeats 4000000 in
set_option maxRecDepth 100000 in
/-- told -/
theorem c_X4_told (l : Launch) (D : va_G) (cy : Nat → ClassId) (bd : Nat → Nat) (hj : injM bd) (τ : Mem) (zv : Int32) : Met l yX4_told wsX4_told ({ frames := 0, cells := 0, slots := 0, locals := 0 }) (va_Pc [.ref (bd 0), .int zv] (mw D cy bd τ)) (QI zv (va_P D vwCl (wM cy bd (tTold τ))) (AM bd)) 0 0 (AM bd) := by
  refine Met.ofW (cc := cX4_told) (maxL := 2) (ret := (some .int)) (by decide) rfl ?_
  intro p e s m args below meth c s₁ B hml hv
  obtain ⟨rfl, hP, hK⟩ := hv
  have hx := B.exec
  have hb := B.bytes
  have hr := B.returns
  have hts := atoms_spec (ws := wsX4_told) B.pre
  have hown : s.vm.findClass RX4 = some m.cls := findClass_of_methodNamed B.named
  have hlocks := B.notSynchronized
  have hf4 := fun (w : Cond) (h : w ∈ wsX40) => hts w ((by decide +kernel : ∀ w ∈ wsX40, w ∈ wsX4_told) w h)
  have hD := wM_D (cy := cy) hj
  have hS : va_S (AM bd) s.heap s.heap [] := va_S.rf
  have hl := lv_entry ([.ref (bd 0), .int zv]) (n := 2) (Nat.le_of_ble_eq_true rfl)
  rw [lg_entry_eq]
  generalize (lg_sl ([.ref (bd 0), .int zv]) ++ List.replicate (2 - (lg_sl ([.ref (bd 0), .int zv])).length) Slot.unset).toArray = ls at hl ⊢
  have hl : lv_has ls 2 [(0, .ref (bd 0)), (1, .int zv)] := hl
  refine lv_aload_n hx hb dX4_told_0 rfl (lv_at hl 0 rfl) ?_
  refine lv_iconst (v := 0) hx hb dX4_told_1 (by decide) ?_
  refine rpO25 hx hb hf4 hown hK hP hD hS (hts (.fieldLink RX4 75 "MachineFoundryModel" "thrown" "I") (by decide +kernel)) dX4_told_2 (fun H locs hP hS => ?_)
  refine lv_iload_n hx hb dX4_told_5 rfl (lv_at hl 1 rfl) ?_
  have e8 : tTold τ = up2 τ 0 25 0 := by rfl
  rw [← e8] at hP
  have e9 : zv = zv := rfl
  exact W.iret (v := zv) hx hb hr (fun t ht hW => ⟨⟨_, (), rfl, e9, by rw [← ht] at hP; exact hP⟩, hS.F ht⟩) hS.2.2 dX4_told_6
set_option maxHeartbeats 4000000 in
set_option maxRecDepth 100000 in
/-- turns -/
theorem c_X4_turns (l : Launch) (D : va_G) (cy : Nat → ClassId) (bd : Nat → Nat) (hj : injM bd) (τ : Mem) (i : Nat) (hi : i < 16) (st : Int32) (hw : ¬ τ 0 22 < 0) : Met l yX4_turns wsX4_turns ({ frames := 0, cells := 0, slots := 0, locals := 0 }) (va_Pc [.ref (bd 0), .int (nI i), .int st] (mw D cy bd τ)) (QV (va_P D vwCl (wM cy bd (tTurn τ i st))) (AM bd)) 0 0 (AM bd) := by
  refine Met.ofW (cc := cX4_turns) (maxL := 3) (ret := none) (by decide) rfl ?_
  intro p e s m args below meth c s₁ B hml hv
  obtain ⟨rfl, hP, hK⟩ := hv
  have hx := B.exec
  have hb := B.bytes
  have hr := B.returns
  have hts := atoms_spec (ws := wsX4_turns) B.pre
  have hown : s.vm.findClass RX4 = some m.cls := findClass_of_methodNamed B.named
  have hlocks := B.notSynchronized
  have hf4 := fun (w : Cond) (h : w ∈ wsX40) => hts w ((by decide +kernel : ∀ w ∈ wsX40, w ∈ wsX4_turns) w h)
  have hD := wM_D (cy := cy) hj
  have hS : va_S (AM bd) s.heap s.heap [] := va_S.rf
  have hl := lv_entry ([.ref (bd 0), .int (nI i), .int st]) (n := 3) (Nat.le_of_ble_eq_true rfl)
  rw [lg_entry_eq]
  generalize (lg_sl ([.ref (bd 0), .int (nI i), .int st]) ++ List.replicate (3 - (lg_sl ([.ref (bd 0), .int (nI i), .int st])).length) Slot.unset).toArray = ls at hl ⊢
  have hl : lv_has ls 3 [(0, .ref (bd 0)), (1, .int (nI i)), (2, .int st)] := hl
  refine lv_aload_n hx hb dX4_turns_0 rfl (lv_at hl 0 rfl) ?_
  refine rgO23 hx hb hf4 hown hK hP (hts (.fieldLink RX4 69 "MachineFoundryModel" "who" "[I") (by decide +kernel)) dX4_turns_1 ?_
  refine lv_aload_n hx hb dX4_turns_4 rfl (lv_at hl 0 rfl) ?_
  refine rgO22 hx hb hf4 hown hK hP (hts (.fieldLink RX4 82 "MachineFoundryModel" "written" "I") (by decide +kernel)) (rfl) dX4_turns_5 ?_
  refine lv_bipush (v := 40) hx hb dX4_turns_8 (by decide) ?_
  refine lv_irem hx hb dX4_turns_10 (by decide) ?_
  refine W.eq (g2 := F0 m 11 ls [.int (nI (ix (τ 0 22) % 40)), .ref (bd 23)]) (by rw [rem40 hw]) ?_
  refine lv_iload_n hx hb dX4_turns_11 rfl (lv_at hl 1 rfl) ?_
  refine rsO23 hx hb hK hP hD hS (Nat.mod_lt _ (by decide)) dX4_turns_12 (fun H locs hP hS => ?_)
  refine lv_aload_n hx hb dX4_turns_13 rfl (lv_at hl 0 rfl) ?_
  refine rgO24 hx hb hf4 hown hK hP (hts (.fieldLink RX4 72 "MachineFoundryModel" "before" "[I") (by decide +kernel)) dX4_turns_14 ?_
  refine lv_aload_n hx hb dX4_turns_17 rfl (lv_at hl 0 rfl) ?_
  refine rgO22 (x := τ 0 22) hx hb hf4 hown hK hP (hts (.fieldLink RX4 82 "MachineFoundryModel" "written" "I") (by decide +kernel)) (by simp [up2]) dX4_turns_18 ?_
  refine lv_bipush (v := 40) hx hb dX4_turns_21 (by decide) ?_
  refine lv_irem hx hb dX4_turns_23 (by decide) ?_
  refine W.eq (g2 := F0 m 24 ls [.int (nI (ix (τ 0 22) % 40)), .ref (bd 24)]) (by rw [rem40 hw]) ?_
  refine lv_aload_n hx hb dX4_turns_24 rfl (lv_at hl 0 rfl) ?_
  refine rgO5 hx hb hf4 hown hK hP (hts (.fieldLink RX4 16 "MachineFoundryModel" "state" "[I") (by decide +kernel)) dX4_turns_25 ?_
  refine lv_iload_n hx hb dX4_turns_28 rfl (lv_at hl 1 rfl) ?_
  refine raO5 (x := τ 5 i) hx hb hK hP hi (by simp [up2]) dX4_turns_29 ?_
  refine rsO24 hx hb hK hP hD hS (Nat.mod_lt _ (by decide)) dX4_turns_30 (fun H locs hP hS => ?_)
  refine lv_aload_n hx hb dX4_turns_31 rfl (lv_at hl 0 rfl) ?_
  refine lv_dup hx hb dX4_turns_32 rfl ?_
  refine rgO22 (x := τ 0 22) hx hb hf4 hown hK hP (hts (.fieldLink RX4 82 "MachineFoundryModel" "written" "I") (by decide +kernel)) (by simp [up2]) dX4_turns_33 ?_
  refine lv_iconst (v := 1) hx hb dX4_turns_36 (by decide) ?_
  refine lv_iadd hx hb dX4_turns_37 ?_
  refine rpO22 hx hb hf4 hown hK hP hD hS (hts (.fieldLink RX4 82 "MachineFoundryModel" "written" "I") (by decide +kernel)) dX4_turns_38 (fun H locs hP hS => ?_)
  refine lv_aload_n hx hb dX4_turns_41 rfl (lv_at hl 0 rfl) ?_
  refine rgO5 hx hb hf4 hown hK hP (hts (.fieldLink RX4 16 "MachineFoundryModel" "state" "[I") (by decide +kernel)) dX4_turns_42 ?_
  refine lv_iload_n hx hb dX4_turns_45 rfl (lv_at hl 1 rfl) ?_
  refine lv_iload_n hx hb dX4_turns_46 rfl (lv_at hl 2 rfl) ?_
  refine rsO5 hx hb hK hP hD hS hi dX4_turns_47 (fun H locs hP hS => ?_)
  have e8 : tTurn τ i st = up2 (up2 (up2 (up2 τ 23 (ix (τ 0 22) % 40) (nI i)) 24 (ix (τ 0 22) % 40) (τ 5 i)) 0 22 ((τ 0 22) + 1)) 5 i st := by rfl
  rw [← e8] at hP
  exact W.vret hx hb hr (fun t ht hW => ⟨⟨(), rfl, trivial, by rw [← ht] at hP; exact hP⟩, hS.F ht⟩) hS.2.2 dX4_turns_48
set_option maxHeartbeats 4000000 in
set_option maxRecDepth 100000 in
/-- stands -/
theorem c_X4_stands (l : Launch) (D : va_G) (cy : Nat → ClassId) (bd : Nat → Nat) (hj : injM bd) (τ : Mem) (i : Nat) (hi : i < 16) : Met l yX4_stands wsX4_stands ({ frames := 0, cells := 0, slots := 0, locals := 0 }) (va_Pc [.ref (bd 0), .int (nI i)] (mw D cy bd τ)) (QV (va_P D vwCl (wM cy bd (tStand τ i))) (AM bd)) 0 0 (AM bd) := by
  refine Met.ofW (cc := cX4_stands) (maxL := 2) (ret := none) (by decide) rfl ?_
  intro p e s m args below meth c s₁ B hml hv
  obtain ⟨rfl, hP, hK⟩ := hv
  have hx := B.exec
  have hb := B.bytes
  have hr := B.returns
  have hts := atoms_spec (ws := wsX4_stands) B.pre
  have hown : s.vm.findClass RX4 = some m.cls := findClass_of_methodNamed B.named
  have hlocks := B.notSynchronized
  have hf4 := fun (w : Cond) (h : w ∈ wsX40) => hts w ((by decide +kernel : ∀ w ∈ wsX40, w ∈ wsX4_stands) w h)
  have hD := wM_D (cy := cy) hj
  have hS : va_S (AM bd) s.heap s.heap [] := va_S.rf
  have hl := lv_entry ([.ref (bd 0), .int (nI i)]) (n := 2) (Nat.le_of_ble_eq_true rfl)
  rw [lg_entry_eq]
  generalize (lg_sl ([.ref (bd 0), .int (nI i)]) ++ List.replicate (2 - (lg_sl ([.ref (bd 0), .int (nI i)])).length) Slot.unset).toArray = ls at hl ⊢
  have hl : lv_has ls 2 [(0, .ref (bd 0)), (1, .int (nI i))] := hl
  refine lv_aload_n hx hb dX4_stands_0 rfl (lv_at hl 0 rfl) ?_
  refine rgO10 hx hb hf4 hown hK hP (hts (.fieldLink RX4 32 "MachineFoundryModel" "ticket" "[I") (by decide +kernel)) dX4_stands_1 ?_
  refine lv_iload_n hx hb dX4_stands_4 rfl (lv_at hl 1 rfl) ?_
  refine lv_aload_n hx hb dX4_stands_5 rfl (lv_at hl 0 rfl) ?_
  refine rgO3 hx hb hf4 hown hK hP (hts (.fieldLink RX4 85 "MachineFoundryModel" "tickets" "I") (by decide +kernel)) (rfl) dX4_stands_6 ?_
  refine rsO10 hx hb hK hP hD hS hi dX4_stands_9 (fun H locs hP hS => ?_)
  refine lv_aload_n hx hb dX4_stands_10 rfl (lv_at hl 0 rfl) ?_
  refine lv_dup hx hb dX4_stands_11 rfl ?_
  refine rgO3 (x := τ 0 3) hx hb hf4 hown hK hP (hts (.fieldLink RX4 85 "MachineFoundryModel" "tickets" "I") (by decide +kernel)) (by simp [up2]) dX4_stands_12 ?_
  refine lv_iconst (v := 1) hx hb dX4_stands_15 (by decide) ?_
  refine lv_iadd hx hb dX4_stands_16 ?_
  refine rpO3 hx hb hf4 hown hK hP hD hS (hts (.fieldLink RX4 85 "MachineFoundryModel" "tickets" "I") (by decide +kernel)) dX4_stands_17 (fun H locs hP hS => ?_)
  have e8 : tStand τ i = up2 (up2 τ 10 i (τ 0 3)) 0 3 ((τ 0 3) + 1) := by rfl
  rw [← e8] at hP
  exact W.vret hx hb hr (fun t ht hW => ⟨⟨(), rfl, trivial, by rw [← ht] at hP; exact hP⟩, hS.F ht⟩) hS.2.2 dX4_stands_20
set_option maxHeartbeats 4000000 in
set_option maxRecDepth 100000 in
/-- queues -/
theorem c_X4_queues (l : Launch) (D : va_G) (cy : Nat → ClassId) (bd : Nat → Nat) (hj : injM bd) (τ : Mem) (i : Nat) (hi : i < 16) (hw : ¬ τ 0 22 < 0) : Met l yX4_queues wsX4_queues ({ frames := 1, cells := 0, slots := 0, locals := 22 }) (va_Pc [.ref (bd 0), .int (nI i)] (mw D cy bd τ)) (QV (va_P D vwCl (wM cy bd (tQueue τ i))) (AM bd)) 0 0 (AM bd) := by
  refine Met.ofW (cc := cX4_queues) (maxL := 2) (ret := none) (by decide) rfl ?_
  intro p e s m args below meth c s₁ B hml hv
  obtain ⟨rfl, hP, hK⟩ := hv
  have hx := B.exec
  have hb := B.bytes
  have hr := B.returns
  have hts := atoms_spec (ws := wsX4_queues) B.pre
  have hown : s.vm.findClass RX4 = some m.cls := findClass_of_methodNamed B.named
  have hlocks := B.notSynchronized
  have hD := wM_D (cy := cy) hj
  have hS : va_S (AM bd) s.heap s.heap [] := va_S.rf
  have hl := lv_entry ([.ref (bd 0), .int (nI i)]) (n := 2) (Nat.le_of_ble_eq_true rfl)
  rw [lg_entry_eq]
  generalize (lg_sl ([.ref (bd 0), .int (nI i)]) ++ List.replicate (2 - (lg_sl ([.ref (bd 0), .int (nI i)])).length) Slot.unset).toArray = ls at hl ⊢
  have hl : lv_has ls 2 [(0, .ref (bd 0)), (1, .int (nI i))] := hl
  refine lv_aload_n hx hb dX4_queues_0 rfl (lv_at hl 0 rfl) ?_
  refine lv_iload_n hx hb dX4_queues_1 rfl (lv_at hl 1 rfl) ?_
  refine lv_iconst (v := 2) hx hb dX4_queues_2 (by decide) ?_
  refine cMv (va_runV (As := [.int (nI i), .int 2]) (rest := []) ⟨hx, hb, hml, hown, hts⟩ (c_X4_turns l D cy bd hj τ i hi 2 (by first | exact hw | (simp [up2]; exact hw))) (cwV 2 hts gX4_queues_X4_turns rfl rfl rfl (by decide +kernel) ⟨Nat.le_of_ble_eq_true rfl, Nat.le_of_ble_eq_true rfl⟩) ⟨mw_bl, (mw_O hP hK), (mw_at hP hK)⟩ rfl rfl hl.1 rfl (lv_room (Nat.le_of_ble_eq_true rfl)) dX4_queues_3 ⟨Nat.le_of_ble_eq_true rfl, Nat.le_of_ble_eq_true rfl⟩) hS (fun H locs hP hS => ?_)
  refine W.eq (g2 := F0 m 6 ls []) rfl ?_
  refine lv_aload_n hx hb dX4_queues_6 rfl (lv_at hl 0 rfl) ?_
  refine lv_iload_n hx hb dX4_queues_7 rfl (lv_at hl 1 rfl) ?_
  refine cMv (va_runV (As := [.int (nI i)]) (rest := []) ⟨hx, hb, hml, hown, hts⟩ (c_X4_stands l D cy bd hj (tTurn τ i 2) i hi) (cwV 1 hts gX4_queues_X4_stands rfl rfl rfl (by decide +kernel) ⟨Nat.le_of_ble_eq_true rfl, Nat.le_of_ble_eq_true rfl⟩) ⟨mw_bl, (mw_O hP hK), (mw_at hP hK)⟩ rfl rfl hl.1 rfl (lv_room (Nat.le_of_ble_eq_true rfl)) dX4_queues_8 ⟨Nat.le_of_ble_eq_true rfl, Nat.le_of_ble_eq_true rfl⟩) hS (fun H locs hP hS => ?_)
  refine W.eq (g2 := F0 m 11 ls []) rfl ?_
  have e8 : tQueue τ i = tStand (tTurn τ i 2) i := by rfl
  rw [← e8] at hP
  exact W.vret hx hb hr (fun t ht hW => ⟨⟨(), rfl, trivial, by rw [← ht] at hP; exact hP⟩, hS.F ht⟩) hS.2.2 dX4_queues_11
set_option maxHeartbeats 4000000 in
set_option maxRecDepth 100000 in
/-- wiped -/
theorem c_X4_wiped (l : Launch) (D : va_G) (cy : Nat → ClassId) (bd : Nat → Nat) (hj : injM bd) (τ : Mem) (i : Nat) (hi : i < 16) (hw : ¬ τ 0 22 < 0) : Met l yX4_wiped wsX4_wiped ({ frames := 1, cells := 0, slots := 0, locals := 22 }) (va_Pc [.ref (bd 0), .int (nI i)] (mw D cy bd τ)) (QV (va_P D vwCl (wM cy bd (tWiped τ i))) (AM bd)) 0 0 (AM bd) := by
  refine Met.ofW (cc := cX4_wiped) (maxL := 2) (ret := none) (by decide) rfl ?_
  intro p e s m args below meth c s₁ B hml hv
  obtain ⟨rfl, hP, hK⟩ := hv
  have hx := B.exec
  have hb := B.bytes
  have hr := B.returns
  have hts := atoms_spec (ws := wsX4_wiped) B.pre
  have hown : s.vm.findClass RX4 = some m.cls := findClass_of_methodNamed B.named
  have hlocks := B.notSynchronized
  have hf4 := fun (w : Cond) (h : w ∈ wsX40) => hts w ((by decide +kernel : ∀ w ∈ wsX40, w ∈ wsX4_wiped) w h)
  have hD := wM_D (cy := cy) hj
  have hS : va_S (AM bd) s.heap s.heap [] := va_S.rf
  have hl := lv_entry ([.ref (bd 0), .int (nI i)]) (n := 2) (Nat.le_of_ble_eq_true rfl)
  rw [lg_entry_eq]
  generalize (lg_sl ([.ref (bd 0), .int (nI i)]) ++ List.replicate (2 - (lg_sl ([.ref (bd 0), .int (nI i)])).length) Slot.unset).toArray = ls at hl ⊢
  have hl : lv_has ls 2 [(0, .ref (bd 0)), (1, .int (nI i))] := hl
  refine lv_aload_n hx hb dX4_wiped_0 rfl (lv_at hl 0 rfl) ?_
  refine lv_iload_n hx hb dX4_wiped_1 rfl (lv_at hl 1 rfl) ?_
  refine lv_iconst (v := 1) hx hb dX4_wiped_2 (by decide) ?_
  refine cMv (va_runV (As := [.int (nI i), .int 1]) (rest := []) ⟨hx, hb, hml, hown, hts⟩ (c_X4_turns l D cy bd hj τ i hi 1 (by first | exact hw | (simp [up2]; exact hw))) (cwV 2 hts gX4_wiped_X4_turns rfl rfl rfl (by decide +kernel) ⟨Nat.le_of_ble_eq_true rfl, Nat.le_of_ble_eq_true rfl⟩) ⟨mw_bl, (mw_O hP hK), (mw_at hP hK)⟩ rfl rfl hl.1 rfl (lv_room (Nat.le_of_ble_eq_true rfl)) dX4_wiped_3 ⟨Nat.le_of_ble_eq_true rfl, Nat.le_of_ble_eq_true rfl⟩) hS (fun H locs hP hS => ?_)
  refine W.eq (g2 := F0 m 6 ls []) rfl ?_
  refine lv_aload_n hx hb dX4_wiped_6 rfl (lv_at hl 0 rfl) ?_
  refine lv_dup hx hb dX4_wiped_7 rfl ?_
  refine rgO4 hx hb hf4 hown hK hP (hts (.fieldLink RX4 99 "MachineFoundryModel" "wipes" "I") (by decide +kernel)) (rfl) dX4_wiped_8 ?_
  refine lv_iconst (v := 1) hx hb dX4_wiped_11 (by decide) ?_
  refine lv_iadd hx hb dX4_wiped_12 ?_
  refine rpO4 hx hb hf4 hown hK hP hD hS (hts (.fieldLink RX4 99 "MachineFoundryModel" "wipes" "I") (by decide +kernel)) dX4_wiped_13 (fun H locs hP hS => ?_)
  have e8 : tWiped τ i = up2 (tTurn τ i 1) 0 4 (((tTurn τ i 1) 0 4) + 1) := by rfl
  rw [← e8] at hP
  exact W.vret hx hb hr (fun t ht hW => ⟨⟨(), rfl, trivial, by rw [← ht] at hP; exact hP⟩, hS.F ht⟩) hS.2.2 dX4_wiped_16
set_option maxHeartbeats 4000000 in
set_option maxRecDepth 100000 in
/-- fails -/
theorem c_X4_fails (l : Launch) (D : va_G) (cy : Nat → ClassId) (bd : Nat → Nat) (hj : injM bd) (τ : Mem) (i : Nat) (hi : i < 16) (hw : ¬ τ 0 22 < 0) (n : Nat) (hn : n < 100) (hf : τ 13 i = nI n) : Met l yX4_fails wsX4_fails ({ frames := 1, cells := 0, slots := 0, locals := 22 }) (va_Pc [.ref (bd 0), .int (nI i)] (mw D cy bd τ)) (QV (va_P D vwCl (wM cy bd (tFail τ i))) (AM bd)) 0 0 (AM bd) := by
  refine Met.ofW (cc := cX4_fails) (maxL := 5) (ret := none) (by decide) rfl ?_
  intro p e s m args below meth c s₁ B hml hv
  obtain ⟨rfl, hP, hK⟩ := hv
  have hx := B.exec
  have hb := B.bytes
  have hr := B.returns
  have hts := atoms_spec (ws := wsX4_fails) B.pre
  have hown : s.vm.findClass RX4 = some m.cls := findClass_of_methodNamed B.named
  have hlocks := B.notSynchronized
  have hf4 := fun (w : Cond) (h : w ∈ wsX40) => hts w ((by decide +kernel : ∀ w ∈ wsX40, w ∈ wsX4_fails) w h)
  have hD := wM_D (cy := cy) hj
  have hS : va_S (AM bd) s.heap s.heap [] := va_S.rf
  have hl := lv_entry ([.ref (bd 0), .int (nI i)]) (n := 5) (Nat.le_of_ble_eq_true rfl)
  rw [lg_entry_eq]
  generalize (lg_sl ([.ref (bd 0), .int (nI i)]) ++ List.replicate (5 - (lg_sl ([.ref (bd 0), .int (nI i)])).length) Slot.unset).toArray = ls at hl ⊢
  have hl : lv_has ls 5 [(0, .ref (bd 0)), (1, .int (nI i))] := hl
  refine lv_aload_n hx hb dX4_fails_0 rfl (lv_at hl 0 rfl) ?_
  refine rgO13 hx hb hf4 hown hK hP (hts (.fieldLink RX4 41 "MachineFoundryModel" "failures" "[I") (by decide +kernel)) dX4_fails_1 ?_
  refine lv_iload_n hx hb dX4_fails_4 rfl (lv_at hl 1 rfl) ?_
  refine lv_dup2_11 hx hb dX4_fails_5 rfl rfl ?_
  refine raO13 hx hb hK hP hi (rfl) dX4_fails_6 ?_
  refine lv_iconst (v := 1) hx hb dX4_fails_7 (by decide) ?_
  refine lv_iadd hx hb dX4_fails_8 ?_
  refine rsO13 hx hb hK hP hD hS hi dX4_fails_9 (fun H locs hP hS => ?_)
  refine lv_aload_n hx hb dX4_fails_10 rfl (lv_at hl 0 rfl) ?_
  refine rgO13 hx hb hf4 hown hK hP (hts (.fieldLink RX4 41 "MachineFoundryModel" "failures" "[I") (by decide +kernel)) dX4_fails_11 ?_
  refine lv_iload_n hx hb dX4_fails_14 rfl (lv_at hl 1 rfl) ?_
  refine raO13 (x := (τ 13 i) + 1) hx hb hK hP hi (by simp [up2]) dX4_fails_15 ?_
  refine lv_aload_n hx hb dX4_fails_16 rfl (lv_at hl 0 rfl) ?_
  refine rgO2 (x := τ 0 2) hx hb hf4 hown hK hP (hts (.fieldLink RX4 13 "MachineFoundryModel" "mostFailures" "I") (by decide +kernel)) (by simp [up2]) dX4_fails_17 ?_
  refine lv_icmp_lt (tgt := 27) hx hb dX4_fails_20 (by decide) (fun c_1 => ?_) (fun c_1 => ?_)
  · have d_1 := Int32.not_le.mpr c_1
    refine lv_iconst (v := 0) hx hb dX4_fails_27 (by decide) ?_
    refine lv_istore_n (lv' := [(2, .int 0), (0, .ref (bd 0)), (1, .int (nI i))]) hx hb dX4_fails_28 rfl hl (by decide) rfl (fun ls hl => ?_)
    refine lv_aload_n hx hb dX4_fails_29 rfl (lv_at hl 1 rfl) ?_
    refine lv_iload_n hx hb dX4_fails_30 rfl (lv_at hl 2 rfl) ?_
    refine lv_iload_n hx hb dX4_fails_31 rfl (lv_at hl 0 rfl) ?_
    refine lv_if_eq (tgt := 40) hx hb dX4_fails_32 (by decide) (fun c_2 => ?_) (fun c_2 => absurd ((by decide : (0 : Int32) = 0)) c_2)
    refine lv_iconst (v := 4) hx hb dX4_fails_40 (by decide) ?_
    refine cMv (va_runV (As := [.int (nI i), .int 4]) (rest := []) ⟨hx, hb, hml, hown, hts⟩ (c_X4_turns l D cy bd hj (up2 τ 13 i ((τ 13 i) + 1)) i hi 4 (by first | exact hw | (simp [up2]; exact hw))) (cwV 2 hts gX4_fails_X4_turns rfl rfl rfl (by decide +kernel) ⟨Nat.le_of_ble_eq_true rfl, Nat.le_of_ble_eq_true rfl⟩) ⟨mw_bl, (mw_O hP hK), (mw_at hP hK)⟩ rfl rfl hl.1 rfl (lv_room (Nat.le_of_ble_eq_true rfl)) dX4_fails_41 ⟨Nat.le_of_ble_eq_true rfl, Nat.le_of_ble_eq_true rfl⟩) hS (fun H locs hP hS => ?_)
    refine W.eq (g2 := F0 m 44 ls []) rfl ?_
    refine lv_iload_n hx hb dX4_fails_44 rfl (lv_at hl 0 rfl) ?_
    refine lv_if_ne (tgt := 89) hx hb dX4_fails_45 (by decide) (fun c_3 => absurd ((by decide : (0 : Int32) = 0)) c_3) (fun c_3 => ?_)
    refine lv_aload_n hx hb dX4_fails_48 rfl (lv_at hl 1 rfl) ?_
    refine rgO1 hx hb hf4 hown hK hP (hts (.fieldLink RX4 7 "MachineFoundryModel" "first" "I") (by decide +kernel)) (rfl) dX4_fails_49 ?_
    refine lv_istore_n (lv' := [(3, .int ((tTurn (up2 τ 13 i ((τ 13 i) + 1)) i 4) 0 1)), (2, .int 0), (0, .ref (bd 0)), (1, .int (nI i))]) hx hb dX4_fails_52 rfl hl (by decide) rfl (fun ls hl => ?_)
    refine lv_iconst (v := 1) hx hb dX4_fails_53 (by decide) ?_
    refine lv_istore (lv' := [(4, .int 1), (3, .int ((tTurn (up2 τ 13 i ((τ 13 i) + 1)) i 4) 0 1)), (2, .int 0), (0, .ref (bd 0)), (1, .int (nI i))]) hx hb dX4_fails_54 hl (by decide) rfl (fun ls hl => ?_)
    have hfe : (tTurn (up2 τ 13 i ((τ 13 i) + 1)) i 4) 13 i = nI (n + 1) := by simp [tTurn, up2, hf, nI_1]
    have hl0 : lv_has ls 5 [(3, .int ((tTurn (up2 τ 13 i ((τ 13 i) + 1)) i 4) 0 1)), (4, .int (nI 1)), (0, .ref (bd 0)), (1, .int (nI i)), (2, .int 0)] := lv_sub hl [1, 0, 3, 4, 2] rfl
    refine w_loop (n + 1) (fun _ => True) (fun k => [(3, .int (dbl ((tTurn (up2 τ 13 i ((τ 13 i) + 1)) i 4) 0 1) (k - 1))), (4, .int (nI k)), (0, .ref (bd 0)), (1, .int (nI i)), (2, .int 0)]) 1 (by omega) trivial hl0 (fun ls hI hl => ?_) (fun k hk0 hk ls hI hl ih => ?_)
    · have hl : lv_has ls 5 [(3, .int (dbl ((tTurn (up2 τ 13 i ((τ 13 i) + 1)) i 4) 0 1) ((n + 1) - 1))), (4, .int (nI (n + 1))), (0, .ref (bd 0)), (1, .int (nI i)), (2, .int 0)] := hl
      refine lv_iload hx hb dX4_fails_56 (lv_at hl 1 rfl) ?_
      refine lv_aload_n hx hb dX4_fails_58 rfl (lv_at hl 2 rfl) ?_
      refine rgO13 hx hb hf4 hown hK hP (hts (.fieldLink RX4 41 "MachineFoundryModel" "failures" "[I") (by decide +kernel)) dX4_fails_59 ?_
      refine lv_iload_n hx hb dX4_fails_62 rfl (lv_at hl 3 rfl) ?_
      refine raO13 (x := nI (n + 1)) hx hb hK hP hi (hfe) dX4_fails_63 ?_
      refine lv_icmp_ge (tgt := 77) hx hb dX4_fails_64 (by decide) (fun c_4 => ?_) (fun c_4 => absurd ((nI_le (Nat.le_refl (n + 1)) (by omega))) c_4)
      refine lv_aload_n hx hb dX4_fails_77 rfl (lv_at hl 2 rfl) ?_
      refine rgO12 hx hb hf4 hown hK hP (hts (.fieldLink RX4 38 "MachineFoundryModel" "end" "[I") (by decide +kernel)) dX4_fails_78 ?_
      refine lv_iload_n hx hb dX4_fails_81 rfl (lv_at hl 3 rfl) ?_
      refine lv_aload_n hx hb dX4_fails_82 rfl (lv_at hl 2 rfl) ?_
      refine rgO0 hx hb hf4 hown hK hP (hts (.fieldLink RX4 96 "MachineFoundryModel" "now" "I") (by decide +kernel)) (rfl) dX4_fails_83 ?_
      refine lv_iload_n hx hb dX4_fails_86 rfl (lv_at hl 0 rfl) ?_
      refine lv_iadd hx hb dX4_fails_87 ?_
      refine rsO12 hx hb hK hP hD hS hi dX4_fails_88 (fun H locs hP hS => ?_)
      have e8 : tFail τ i = up2 (tTurn (up2 τ 13 i ((τ 13 i) + 1)) i 4) 12 i (((tTurn (up2 τ 13 i ((τ 13 i) + 1)) i 4) 0 0) + (dbl ((tTurn (up2 τ 13 i ((τ 13 i) + 1)) i 4) 0 1) ((n + 1) - 1))) := by unfold tFail; rw [if_neg d_1, hf, nI_1, ix_nI (show n + 1 < 2147483648 by omega)]; simp only [tFl, hf, nI_1]
      rw [← e8] at hP
      exact W.vret hx hb hr (fun t ht hW => ⟨⟨(), rfl, trivial, by rw [← ht] at hP; exact hP⟩, hS.F ht⟩) hS.2.2 dX4_fails_89
    · have hl : lv_has ls 5 [(3, .int (dbl ((tTurn (up2 τ 13 i ((τ 13 i) + 1)) i 4) 0 1) (k - 1))), (4, .int (nI k)), (0, .ref (bd 0)), (1, .int (nI i)), (2, .int 0)] := hl
      refine lv_iload hx hb dX4_fails_56 (lv_at hl 1 rfl) ?_
      refine lv_aload_n hx hb dX4_fails_58 rfl (lv_at hl 2 rfl) ?_
      refine rgO13 hx hb hf4 hown hK hP (hts (.fieldLink RX4 41 "MachineFoundryModel" "failures" "[I") (by decide +kernel)) dX4_fails_59 ?_
      refine lv_iload_n hx hb dX4_fails_62 rfl (lv_at hl 3 rfl) ?_
      refine raO13 (x := nI (n + 1)) hx hb hK hP hi (hfe) dX4_fails_63 ?_
      refine lv_icmp_ge (tgt := 77) hx hb dX4_fails_64 (by decide) (fun c_5 => absurd c_5 ((nI_ge hk (by omega)))) (fun c_5 => ?_)
      refine lv_iload_n hx hb dX4_fails_67 rfl (lv_at hl 0 rfl) ?_
      refine lv_iconst (v := 2) hx hb dX4_fails_68 (by decide) ?_
      refine lv_imul hx hb dX4_fails_69 ?_
      refine lv_istore_n (lv' := [(3, .int ((dbl ((tTurn (up2 τ 13 i ((τ 13 i) + 1)) i 4) 0 1) (k - 1)) * 2)), (4, .int (nI k)), (0, .ref (bd 0)), (1, .int (nI i)), (2, .int 0)]) hx hb dX4_fails_70 rfl hl (by decide) rfl (fun ls hl => ?_)
      refine lv_iinc (v := nI (k + 1)) (lv' := [(4, .int (nI (k + 1))), (3, .int ((dbl ((tTurn (up2 τ 13 i ((τ 13 i) + 1)) i 4) 0 1) (k - 1)) * 2)), (0, .ref (bd 0)), (1, .int (nI i)), (2, .int 0)]) hx hb dX4_fails_71 hl (k := 1) rfl (nI_1 k) (by decide) rfl (fun ls hl => ?_)
      refine lv_goto (tgt := 56) hx hb dX4_fails_74 (by decide) ?_
      have e7 : dbl ((tTurn (up2 τ 13 i ((τ 13 i) + 1)) i 4) 0 1) (k + 1 - 1) = dbl ((tTurn (up2 τ 13 i ((τ 13 i) + 1)) i 4) 0 1) (k - 1) * 2 := by rw [show k + 1 - 1 = (k - 1) + 1 by omega]; rfl
      exact ih ls trivial (show lv_has ls 5 [(3, .int (dbl ((tTurn (up2 τ 13 i ((τ 13 i) + 1)) i 4) 0 1) ((k + 1) - 1))), (4, .int (nI (k + 1))), (0, .ref (bd 0)), (1, .int (nI i)), (2, .int 0)] from by rw [e7]; exact lv_sub hl [1, 0, 2, 3, 4] rfl)
  · have d_1 := Int32.not_lt.mp c_1
    refine lv_iconst (v := 1) hx hb dX4_fails_23 (by decide) ?_
    refine lv_goto (tgt := 28) hx hb dX4_fails_24 (by decide) ?_
    refine lv_istore_n (lv' := [(2, .int 1), (0, .ref (bd 0)), (1, .int (nI i))]) hx hb dX4_fails_28 rfl hl (by decide) rfl (fun ls hl => ?_)
    refine lv_aload_n hx hb dX4_fails_29 rfl (lv_at hl 1 rfl) ?_
    refine lv_iload_n hx hb dX4_fails_30 rfl (lv_at hl 2 rfl) ?_
    refine lv_iload_n hx hb dX4_fails_31 rfl (lv_at hl 0 rfl) ?_
    refine lv_if_eq (tgt := 40) hx hb dX4_fails_32 (by decide) (fun c_6 => absurd c_6 ((by decide : ¬ (1 : Int32) = 0))) (fun c_6 => ?_)
    refine lv_bipush (v := 7) hx hb dX4_fails_35 (by decide) ?_
    refine lv_goto (tgt := 41) hx hb dX4_fails_37 (by decide) ?_
    refine cMv (va_runV (As := [.int (nI i), .int 7]) (rest := []) ⟨hx, hb, hml, hown, hts⟩ (c_X4_turns l D cy bd hj (up2 τ 13 i ((τ 13 i) + 1)) i hi 7 (by first | exact hw | (simp [up2]; exact hw))) (cwV 2 hts gX4_fails_X4_turns rfl rfl rfl (by decide +kernel) ⟨Nat.le_of_ble_eq_true rfl, Nat.le_of_ble_eq_true rfl⟩) ⟨mw_bl, (mw_O hP hK), (mw_at hP hK)⟩ rfl rfl hl.1 rfl (lv_room (Nat.le_of_ble_eq_true rfl)) dX4_fails_41 ⟨Nat.le_of_ble_eq_true rfl, Nat.le_of_ble_eq_true rfl⟩) hS (fun H locs hP hS => ?_)
    refine W.eq (g2 := F0 m 44 ls []) rfl ?_
    refine lv_iload_n hx hb dX4_fails_44 rfl (lv_at hl 0 rfl) ?_
    refine lv_if_ne (tgt := 89) hx hb dX4_fails_45 (by decide) (fun c_7 => ?_) (fun c_7 => absurd c_7 ((by decide : ¬ (1 : Int32) = 0)))
    have e8 : tFail τ i = tTurn (up2 τ 13 i ((τ 13 i) + 1)) i 7 := by unfold tFail; rw [if_pos d_1]
    rw [← e8] at hP
    exact W.vret hx hb hr (fun t ht hW => ⟨⟨(), rfl, trivial, by rw [← ht] at hP; exact hP⟩, hS.F ht⟩) hS.2.2 dX4_fails_89
set_option maxHeartbeats 4000000 in
set_option maxRecDepth 100000 in
/-- matches -/
theorem c_X4_matches (l : Launch) (D : va_G) (cy : Nat → ClassId) (bd : Nat → Nat) (τ : Mem) (k i : Nat) (hk : k < 8) (hi : i < 16) : Met l yX4_matches wsX4_matches ({ frames := 0, cells := 0, slots := 0, locals := 0 }) (va_Pc [.ref (bd 0), .int (nI k), .int (nI i)] (mw D cy bd τ)) (SI (b2i (tMt τ k i))) 0 0 NoA := by
  refine Met.ofW (cc := cX4_matches) (maxL := 4) (ret := (some .boolean)) (by decide) rfl ?_
  intro p e s m args below meth c s₁ B hml hv
  obtain ⟨rfl, hP, hK⟩ := hv
  have hx := B.exec
  have hb := B.bytes
  have hr := B.returns
  have hts := atoms_spec (ws := wsX4_matches) B.pre
  have hown : s.vm.findClass RX4 = some m.cls := findClass_of_methodNamed B.named
  have hlocks := B.notSynchronized
  have hf4 := fun (w : Cond) (h : w ∈ wsX40) => hts w ((by decide +kernel : ∀ w ∈ wsX40, w ∈ wsX4_matches) w h)
  have hl := lv_entry ([.ref (bd 0), .int (nI k), .int (nI i)]) (n := 4) (Nat.le_of_ble_eq_true rfl)
  rw [lg_entry_eq]
  generalize (lg_sl ([.ref (bd 0), .int (nI k), .int (nI i)]) ++ List.replicate (4 - (lg_sl ([.ref (bd 0), .int (nI k), .int (nI i)])).length) Slot.unset).toArray = ls at hl ⊢
  have hl : lv_has ls 4 [(0, .ref (bd 0)), (1, .int (nI k)), (2, .int (nI i))] := hl
  refine lv_aload_n hx hb dX4_matches_0 rfl (lv_at hl 0 rfl) ?_
  refine rgO14 hx hb hf4 hown hK hP (hts (.fieldLink RX4 44 "MachineFoundryModel" "isSet" "[Z") (by decide +kernel)) dX4_matches_1 ?_
  refine lv_iload_n hx hb dX4_matches_4 rfl (lv_at hl 1 rfl) ?_
  refine raO14 hx hb hK hP hk (rfl) dX4_matches_5 ?_
  refine lv_if_eq (tgt := 56) hx hb dX4_matches_6 (by decide) (fun c_1 => ?_) (fun c_1 => ?_)
  · refine lv_iconst (v := 0) hx hb dX4_matches_56 (by decide) ?_
    refine lv_istore_n (lv' := [(3, .int 0), (0, .ref (bd 0)), (1, .int (nI k)), (2, .int (nI i))]) hx hb dX4_matches_57 rfl hl (by decide) rfl (fun ls hl => ?_)
    refine lv_iload_n hx hb dX4_matches_58 rfl (lv_at hl 0 rfl) ?_
    refine lv_if_eq (tgt := 104) hx hb dX4_matches_59 (by decide) (fun c_2 => ?_) (fun c_2 => absurd ((by decide : (0 : Int32) = 0)) c_2)
    refine lv_iconst (v := 0) hx hb dX4_matches_104 (by decide) ?_
    have e9 : b2i (tMt τ k i) = 0 := by simp [b2i, tMt, c_1, c_2]
    exact W.zret (v := 0) hx hb hr rfl (fun t ht hW => ⟨(), by rw [e9], trivial, ht⟩) (fun q h => nomatch h) dX4_matches_105
  · refine lv_aload_n hx hb dX4_matches_9 rfl (lv_at hl 0 rfl) ?_
    refine rgO5 hx hb hf4 hown hK hP (hts (.fieldLink RX4 16 "MachineFoundryModel" "state" "[I") (by decide +kernel)) dX4_matches_10 ?_
    refine lv_iload_n hx hb dX4_matches_13 rfl (lv_at hl 2 rfl) ?_
    refine raO5 hx hb hK hP hi (rfl) dX4_matches_14 ?_
    refine lv_if_eq (tgt := 56) hx hb dX4_matches_15 (by decide) (fun c_3 => ?_) (fun c_3 => ?_)
    · refine lv_iconst (v := 0) hx hb dX4_matches_56 (by decide) ?_
      refine lv_istore_n (lv' := [(3, .int 0), (0, .ref (bd 0)), (1, .int (nI k)), (2, .int (nI i))]) hx hb dX4_matches_57 rfl hl (by decide) rfl (fun ls hl => ?_)
      refine lv_iload_n hx hb dX4_matches_58 rfl (lv_at hl 0 rfl) ?_
      refine lv_if_eq (tgt := 104) hx hb dX4_matches_59 (by decide) (fun c_4 => ?_) (fun c_4 => absurd ((by decide : (0 : Int32) = 0)) c_4)
      refine lv_iconst (v := 0) hx hb dX4_matches_104 (by decide) ?_
      have e9 : b2i (tMt τ k i) = 0 := by simp [b2i, tMt, c_1, c_3, c_4]
      exact W.zret (v := 0) hx hb hr rfl (fun t ht hW => ⟨(), by rw [e9], trivial, ht⟩) (fun q h => nomatch h) dX4_matches_105
    · refine lv_aload_n hx hb dX4_matches_18 rfl (lv_at hl 0 rfl) ?_
      refine rgO7 hx hb hf4 hown hK hP (hts (.fieldLink RX4 23 "MachineFoundryModel" "memory" "[I") (by decide +kernel)) dX4_matches_19 ?_
      refine lv_iload_n hx hb dX4_matches_22 rfl (lv_at hl 2 rfl) ?_
      refine raO7 hx hb hK hP hi (rfl) dX4_matches_23 ?_
      refine lv_aload_n hx hb dX4_matches_24 rfl (lv_at hl 0 rfl) ?_
      refine rgO16 hx hb hf4 hown hK hP (hts (.fieldLink RX4 51 "MachineFoundryModel" "least" "[I") (by decide +kernel)) dX4_matches_25 ?_
      refine lv_iload_n hx hb dX4_matches_28 rfl (lv_at hl 1 rfl) ?_
      refine raO16 hx hb hK hP hk (rfl) dX4_matches_29 ?_
      refine lv_icmp_lt (tgt := 56) hx hb dX4_matches_30 (by decide) (fun c_5 => ?_) (fun c_5 => ?_)
      · have d_5 := Int32.not_le.mpr c_5
        refine lv_iconst (v := 0) hx hb dX4_matches_56 (by decide) ?_
        refine lv_istore_n (lv' := [(3, .int 0), (0, .ref (bd 0)), (1, .int (nI k)), (2, .int (nI i))]) hx hb dX4_matches_57 rfl hl (by decide) rfl (fun ls hl => ?_)
        refine lv_iload_n hx hb dX4_matches_58 rfl (lv_at hl 0 rfl) ?_
        refine lv_if_eq (tgt := 104) hx hb dX4_matches_59 (by decide) (fun c_6 => ?_) (fun c_6 => absurd ((by decide : (0 : Int32) = 0)) c_6)
        refine lv_iconst (v := 0) hx hb dX4_matches_104 (by decide) ?_
        have e9 : b2i (tMt τ k i) = 0 := by simp [b2i, tMt, c_1, c_3, c_5, d_5, c_6]
        exact W.zret (v := 0) hx hb hr rfl (fun t ht hW => ⟨(), by rw [e9], trivial, ht⟩) (fun q h => nomatch h) dX4_matches_105
      · have d_5 := Int32.not_lt.mp c_5
        refine lv_aload_n hx hb dX4_matches_33 rfl (lv_at hl 0 rfl) ?_
        refine rgO17 hx hb hf4 hown hK hP (hts (.fieldLink RX4 54 "MachineFoundryModel" "kinds" "[I") (by decide +kernel)) dX4_matches_34 ?_
        refine lv_iload_n hx hb dX4_matches_37 rfl (lv_at hl 1 rfl) ?_
        refine raO17 hx hb hK hP hk (rfl) dX4_matches_38 ?_
        refine lv_aload_n hx hb dX4_matches_39 rfl (lv_at hl 0 rfl) ?_
        refine rgO8 hx hb hf4 hown hK hP (hts (.fieldLink RX4 26 "MachineFoundryModel" "kind" "[I") (by decide +kernel)) dX4_matches_40 ?_
        refine lv_iload_n hx hb dX4_matches_43 rfl (lv_at hl 2 rfl) ?_
        refine raO8 hx hb hK hP hi (rfl) dX4_matches_44 ?_
        refine lv_ishr hx hb dX4_matches_45 ?_
        refine lv_iconst (v := 1) hx hb dX4_matches_46 (by decide) ?_
        refine lv_iand hx hb dX4_matches_47 ?_
        refine lv_iconst (v := 1) hx hb dX4_matches_48 (by decide) ?_
        refine lv_icmp_ne (tgt := 56) hx hb dX4_matches_49 (by decide) (fun c_7 => ?_) (fun c_7 => ?_)
        · refine lv_iconst (v := 0) hx hb dX4_matches_56 (by decide) ?_
          refine lv_istore_n (lv' := [(3, .int 0), (0, .ref (bd 0)), (1, .int (nI k)), (2, .int (nI i))]) hx hb dX4_matches_57 rfl hl (by decide) rfl (fun ls hl => ?_)
          refine lv_iload_n hx hb dX4_matches_58 rfl (lv_at hl 0 rfl) ?_
          refine lv_if_eq (tgt := 104) hx hb dX4_matches_59 (by decide) (fun c_8 => ?_) (fun c_8 => absurd ((by decide : (0 : Int32) = 0)) c_8)
          refine lv_iconst (v := 0) hx hb dX4_matches_104 (by decide) ?_
          have e9 : b2i (tMt τ k i) = 0 := by simp [b2i, tMt, c_1, c_3, c_5, d_5, c_7, c_8]
          exact W.zret (v := 0) hx hb hr rfl (fun t ht hW => ⟨(), by rw [e9], trivial, ht⟩) (fun q h => nomatch h) dX4_matches_105
        · refine lv_iconst (v := 1) hx hb dX4_matches_52 (by decide) ?_
          refine lv_goto (tgt := 57) hx hb dX4_matches_53 (by decide) ?_
          refine lv_istore_n (lv' := [(3, .int 1), (0, .ref (bd 0)), (1, .int (nI k)), (2, .int (nI i))]) hx hb dX4_matches_57 rfl hl (by decide) rfl (fun ls hl => ?_)
          refine lv_iload_n hx hb dX4_matches_58 rfl (lv_at hl 0 rfl) ?_
          refine lv_if_eq (tgt := 104) hx hb dX4_matches_59 (by decide) (fun c_9 => absurd c_9 ((by decide : ¬ (1 : Int32) = 0))) (fun c_9 => ?_)
          refine lv_aload_n hx hb dX4_matches_62 rfl (lv_at hl 1 rfl) ?_
          refine rgO9 hx hb hf4 hown hK hP (hts (.fieldLink RX4 29 "MachineFoundryModel" "tags" "[I") (by decide +kernel)) dX4_matches_63 ?_
          refine lv_iload_n hx hb dX4_matches_66 rfl (lv_at hl 3 rfl) ?_
          refine raO9 hx hb hK hP hi (rfl) dX4_matches_67 ?_
          refine lv_aload_n hx hb dX4_matches_68 rfl (lv_at hl 1 rfl) ?_
          refine rgO18 hx hb hf4 hown hK hP (hts (.fieldLink RX4 57 "MachineFoundryModel" "required" "[I") (by decide +kernel)) dX4_matches_69 ?_
          refine lv_iload_n hx hb dX4_matches_72 rfl (lv_at hl 2 rfl) ?_
          refine raO18 hx hb hK hP hk (rfl) dX4_matches_73 ?_
          refine lv_iand hx hb dX4_matches_74 ?_
          refine lv_aload_n hx hb dX4_matches_75 rfl (lv_at hl 1 rfl) ?_
          refine rgO18 hx hb hf4 hown hK hP (hts (.fieldLink RX4 57 "MachineFoundryModel" "required" "[I") (by decide +kernel)) dX4_matches_76 ?_
          refine lv_iload_n hx hb dX4_matches_79 rfl (lv_at hl 2 rfl) ?_
          refine raO18 hx hb hK hP hk (rfl) dX4_matches_80 ?_
          refine lv_icmp_ne (tgt := 104) hx hb dX4_matches_81 (by decide) (fun c_10 => ?_) (fun c_10 => ?_)
          · refine lv_iconst (v := 0) hx hb dX4_matches_104 (by decide) ?_
            have e9 : b2i (tMt τ k i) = 0 := by simp [b2i, tMt, c_1, c_3, c_5, d_5, c_7, c_9, c_10]
            exact W.zret (v := 0) hx hb hr rfl (fun t ht hW => ⟨(), by rw [e9], trivial, ht⟩) (fun q h => nomatch h) dX4_matches_105
          · refine lv_aload_n hx hb dX4_matches_84 rfl (lv_at hl 1 rfl) ?_
            refine rgO9 hx hb hf4 hown hK hP (hts (.fieldLink RX4 29 "MachineFoundryModel" "tags" "[I") (by decide +kernel)) dX4_matches_85 ?_
            refine lv_iload_n hx hb dX4_matches_88 rfl (lv_at hl 3 rfl) ?_
            refine raO9 hx hb hK hP hi (rfl) dX4_matches_89 ?_
            refine lv_aload_n hx hb dX4_matches_90 rfl (lv_at hl 1 rfl) ?_
            refine rgO19 hx hb hf4 hown hK hP (hts (.fieldLink RX4 60 "MachineFoundryModel" "barred" "[I") (by decide +kernel)) dX4_matches_91 ?_
            refine lv_iload_n hx hb dX4_matches_94 rfl (lv_at hl 2 rfl) ?_
            refine raO19 hx hb hK hP hk (rfl) dX4_matches_95 ?_
            refine lv_iand hx hb dX4_matches_96 ?_
            refine lv_if_ne (tgt := 104) hx hb dX4_matches_97 (by decide) (fun c_11 => ?_) (fun c_11 => ?_)
            · refine lv_iconst (v := 0) hx hb dX4_matches_104 (by decide) ?_
              have e9 : b2i (tMt τ k i) = 0 := by simp [b2i, tMt, c_1, c_3, c_5, d_5, c_7, c_9, c_10, c_11]
              exact W.zret (v := 0) hx hb hr rfl (fun t ht hW => ⟨(), by rw [e9], trivial, ht⟩) (fun q h => nomatch h) dX4_matches_105
            · refine lv_iconst (v := 1) hx hb dX4_matches_100 (by decide) ?_
              refine lv_goto (tgt := 105) hx hb dX4_matches_101 (by decide) ?_
              have e9 : b2i (tMt τ k i) = 1 := by simp [b2i, tMt, c_1, c_3, c_5, d_5, c_7, c_9, c_10, c_11]
              exact W.zret (v := 1) hx hb hr rfl (fun t ht hW => ⟨(), by rw [e9], trivial, ht⟩) (fun q h => nomatch h) dX4_matches_105
set_option maxHeartbeats 4000000 in
set_option maxRecDepth 100000 in
/-- match -/
theorem c_X4_match (l : Launch) (D : va_G) (cy : Nat → ClassId) (bd : Nat → Nat) (τ : Mem) (i : Nat) (hi : i < 16) : Met l yX4_match wsX4_match ({ frames := 1, cells := 0, slots := 0, locals := 23 }) (va_Pc [.ref (bd 0), .int (nI i)] (mw D cy bd τ)) (SI (oI (tBst τ i))) 0 0 NoA := by
  refine Met.ofW (cc := cX4_match) (maxL := 4) (ret := (some .int)) (by decide) rfl ?_
  intro p e s m args below meth c s₁ B hml hv
  obtain ⟨rfl, hP, hK⟩ := hv
  have hx := B.exec
  have hb := B.bytes
  have hr := B.returns
  have hts := atoms_spec (ws := wsX4_match) B.pre
  have hown : s.vm.findClass RX4 = some m.cls := findClass_of_methodNamed B.named
  have hlocks := B.notSynchronized
  have hf4 := fun (w : Cond) (h : w ∈ wsX40) => hts w ((by decide +kernel : ∀ w ∈ wsX40, w ∈ wsX4_match) w h)
  have hl := lv_entry ([.ref (bd 0), .int (nI i)]) (n := 4) (Nat.le_of_ble_eq_true rfl)
  rw [lg_entry_eq]
  generalize (lg_sl ([.ref (bd 0), .int (nI i)]) ++ List.replicate (4 - (lg_sl ([.ref (bd 0), .int (nI i)])).length) Slot.unset).toArray = ls at hl ⊢
  have hl : lv_has ls 4 [(0, .ref (bd 0)), (1, .int (nI i))] := hl
  refine lv_iconst (v := (-1)) hx hb dX4_match_0 (by decide) ?_
  refine lv_istore_n (lv' := [(2, .int (-1)), (0, .ref (bd 0)), (1, .int (nI i))]) hx hb dX4_match_1 rfl hl (by decide) rfl (fun ls hl => ?_)
  refine lv_iconst (v := 0) hx hb dX4_match_2 (by decide) ?_
  refine lv_istore_n (lv' := [(3, .int 0), (2, .int (-1)), (0, .ref (bd 0)), (1, .int (nI i))]) hx hb dX4_match_3 rfl hl (by decide) rfl (fun ls hl => ?_)
  have hl0 : lv_has ls 4 [(2, .int (-1)), (3, .int (nI 0)), (0, .ref (bd 0)), (1, .int (nI i))] := lv_sub hl [1, 0, 2, 3] rfl
  refine w_loop 8 (fun _ => True) (fun k => [(2, .int (oI (bst (fun k => tMt τ k i) (τ 15) k))), (3, .int (nI k)), (0, .ref (bd 0)), (1, .int (nI i))]) 0 (Nat.zero_le _) trivial hl0 (fun ls hI hl => ?_) (fun k hk0 hk ls hI hl ih => ?_)
  · have hl : lv_has ls 4 [(2, .int (oI (bst (fun k => tMt τ k i) (τ 15) 8))), (3, .int (nI 8)), (0, .ref (bd 0)), (1, .int (nI i))] := hl
    rcases hbs : bst (fun k => tMt τ k i) (τ 15) 8 with _ | b
    · rw [hbs] at hl
      have hl : lv_has ls 4 [(2, .int (-1)), (3, .int (nI 8)), (0, .ref (bd 0)), (1, .int (nI i))] := hl
      refine lv_iload_n hx hb dX4_match_4 rfl (lv_at hl 1 rfl) ?_
      refine lv_bipush (v := 8) hx hb dX4_match_5 (by decide) ?_
      refine lv_icmp_ge (tgt := 51) hx hb dX4_match_7 (by decide) (fun c_1 => ?_) (fun c_1 => absurd ((show (8 : Int32) ≤ nI 8 from nI_le (a := 8) (b := 8) (Nat.le_refl 8) (by decide))) c_1)
      refine lv_iload_n hx hb dX4_match_51 rfl (lv_at hl 0 rfl) ?_
      have e9 : oI (tBst τ i) = (-1) := by show oI (bst _ _ 8) = _; rw [hbs]; rfl
      exact W.iret (v := (-1)) hx hb hr (fun t ht hW => ⟨(), by rw [e9], trivial, ht⟩) (fun q h => nomatch h) dX4_match_52
    · have hb8 : b < 8 := Nat.lt_of_lt_of_le (bst_lt hbs) (by omega)
      rw [hbs] at hl
      have hl : lv_has ls 4 [(2, .int (nI b)), (3, .int (nI 8)), (0, .ref (bd 0)), (1, .int (nI i))] := hl
      refine lv_iload_n hx hb dX4_match_4 rfl (lv_at hl 1 rfl) ?_
      refine lv_bipush (v := 8) hx hb dX4_match_5 (by decide) ?_
      refine lv_icmp_ge (tgt := 51) hx hb dX4_match_7 (by decide) (fun c_2 => ?_) (fun c_2 => absurd ((show (8 : Int32) ≤ nI 8 from nI_le (a := 8) (b := 8) (Nat.le_refl 8) (by decide))) c_2)
      refine lv_iload_n hx hb dX4_match_51 rfl (lv_at hl 0 rfl) ?_
      have e9 : oI (tBst τ i) = (nI b) := by show oI (bst _ _ 8) = _; rw [hbs]; rfl
      exact W.iret (v := nI b) hx hb hr (fun t ht hW => ⟨(), by rw [e9], trivial, ht⟩) (fun q h => nomatch h) dX4_match_52
  · have hl : lv_has ls 4 [(2, .int (oI (bst (fun k => tMt τ k i) (τ 15) k))), (3, .int (nI k)), (0, .ref (bd 0)), (1, .int (nI i))] := hl
    rcases hbs : bst (fun k => tMt τ k i) (τ 15) k with _ | b
    · rw [hbs] at hl
      have hl : lv_has ls 4 [(2, .int (-1)), (3, .int (nI k)), (0, .ref (bd 0)), (1, .int (nI i))] := hl
      refine lv_iload_n hx hb dX4_match_4 rfl (lv_at hl 1 rfl) ?_
      refine lv_bipush (v := 8) hx hb dX4_match_5 (by decide) ?_
      refine lv_icmp_ge (tgt := 51) hx hb dX4_match_7 (by decide) (fun c_3 => absurd c_3 ((show ¬ (8 : Int32) ≤ nI k from nI_ge (a := k) (b := 8) hk (by decide)))) (fun c_3 => ?_)
      refine lv_aload_n hx hb dX4_match_10 rfl (lv_at hl 2 rfl) ?_
      refine lv_iload_n hx hb dX4_match_11 rfl (lv_at hl 1 rfl) ?_
      refine lv_iload_n hx hb dX4_match_12 rfl (lv_at hl 3 rfl) ?_
      refine cS (W.runV (As := [.int (nI k), .int (nI i)]) (rest := []) ⟨hx, hb, hml, hown, hts⟩ (c_X4_matches l D cy bd τ k i hk hi) (cwV 2 hts gX4_match_X4_matches rfl rfl rfl (by decide +kernel) ⟨Nat.le_of_ble_eq_true rfl, Nat.le_of_ble_eq_true rfl⟩) ⟨mw_bl, (mw_O hP hK), (mw_at hP hK)⟩ rfl rfl hl.1 rfl (lv_room (Nat.le_of_ble_eq_true rfl)) dX4_match_13 ⟨Nat.le_of_ble_eq_true rfl, Nat.le_of_ble_eq_true rfl⟩) (fun _ _ => ?_)
      refine W.eq (g2 := F0 m 16 ls [.int (b2i (tMt τ k i))]) rfl ?_
      refine lv_if_eq (tgt := 43) hx hb dX4_match_16 (by decide) (fun c_4 => ?_) (fun c_4 => ?_)
      · replace c_4 := b2i_0.mp c_4
        refine lv_iload_n hx hb dX4_match_43 rfl (lv_at hl 0 rfl) ?_
        refine lv_istore_n (lv' := [(2, .int (-1)), (3, .int (nI k)), (0, .ref (bd 0)), (1, .int (nI i))]) hx hb dX4_match_44 rfl hl (by decide) rfl (fun ls hl => ?_)
        refine lv_iinc (v := nI (k + 1)) (lv' := [(3, .int (nI (k + 1))), (2, .int (-1)), (0, .ref (bd 0)), (1, .int (nI i))]) hx hb dX4_match_45 hl (k := 1) rfl (nI_1 k) (by decide) rfl (fun ls hl => ?_)
        refine lv_goto (tgt := 4) hx hb dX4_match_48 (by decide) ?_
        have e70 : bst (fun k => tMt τ k i) (τ 15) (k + 1) = none := by simp [bst, hbs, c_4]
        exact ih ls trivial (show lv_has ls 4 [(2, .int (oI (bst (fun k => tMt τ k i) (τ 15) (k + 1)))), (3, .int (nI (k + 1))), (0, .ref (bd 0)), (1, .int (nI i))] from by rw [e70]; exact lv_sub hl [1, 0, 2, 3] rfl)
      · replace c_4 := b2i_n0.mp c_4
        refine lv_iload_n hx hb dX4_match_19 rfl (lv_at hl 0 rfl) ?_
        refine lv_iconst (v := (-1)) hx hb dX4_match_20 (by decide) ?_
        refine lv_icmp_eq (tgt := 39) hx hb dX4_match_21 (by decide) (fun c_5 => ?_) (fun c_5 => absurd ((by decide : (-1 : Int32) = -1)) c_5)
        refine lv_iload_n hx hb dX4_match_39 rfl (lv_at hl 1 rfl) ?_
        refine lv_goto (tgt := 44) hx hb dX4_match_40 (by decide) ?_
        refine lv_istore_n (lv' := [(2, .int (nI k)), (3, .int (nI k)), (0, .ref (bd 0)), (1, .int (nI i))]) hx hb dX4_match_44 rfl hl (by decide) rfl (fun ls hl => ?_)
        refine lv_iinc (v := nI (k + 1)) (lv' := [(3, .int (nI (k + 1))), (2, .int (nI k)), (0, .ref (bd 0)), (1, .int (nI i))]) hx hb dX4_match_45 hl (k := 1) rfl (nI_1 k) (by decide) rfl (fun ls hl => ?_)
        refine lv_goto (tgt := 4) hx hb dX4_match_48 (by decide) ?_
        have e70 : bst (fun k => tMt τ k i) (τ 15) (k + 1) = some k := by simp [bst, hbs, c_4, c_5]
        exact ih ls trivial (show lv_has ls 4 [(2, .int (oI (bst (fun k => tMt τ k i) (τ 15) (k + 1)))), (3, .int (nI (k + 1))), (0, .ref (bd 0)), (1, .int (nI i))] from by rw [e70]; exact lv_sub hl [1, 0, 2, 3] rfl)
    · have hb8 : b < 8 := Nat.lt_of_lt_of_le (bst_lt hbs) (by omega)
      rw [hbs] at hl
      have hl : lv_has ls 4 [(2, .int (nI b)), (3, .int (nI k)), (0, .ref (bd 0)), (1, .int (nI i))] := hl
      refine lv_iload_n hx hb dX4_match_4 rfl (lv_at hl 1 rfl) ?_
      refine lv_bipush (v := 8) hx hb dX4_match_5 (by decide) ?_
      refine lv_icmp_ge (tgt := 51) hx hb dX4_match_7 (by decide) (fun c_6 => absurd c_6 ((show ¬ (8 : Int32) ≤ nI k from nI_ge (a := k) (b := 8) hk (by decide)))) (fun c_6 => ?_)
      refine lv_aload_n hx hb dX4_match_10 rfl (lv_at hl 2 rfl) ?_
      refine lv_iload_n hx hb dX4_match_11 rfl (lv_at hl 1 rfl) ?_
      refine lv_iload_n hx hb dX4_match_12 rfl (lv_at hl 3 rfl) ?_
      refine cS (W.runV (As := [.int (nI k), .int (nI i)]) (rest := []) ⟨hx, hb, hml, hown, hts⟩ (c_X4_matches l D cy bd τ k i hk hi) (cwV 2 hts gX4_match_X4_matches rfl rfl rfl (by decide +kernel) ⟨Nat.le_of_ble_eq_true rfl, Nat.le_of_ble_eq_true rfl⟩) ⟨mw_bl, (mw_O hP hK), (mw_at hP hK)⟩ rfl rfl hl.1 rfl (lv_room (Nat.le_of_ble_eq_true rfl)) dX4_match_13 ⟨Nat.le_of_ble_eq_true rfl, Nat.le_of_ble_eq_true rfl⟩) (fun _ _ => ?_)
      refine W.eq (g2 := F0 m 16 ls [.int (b2i (tMt τ k i))]) rfl ?_
      refine lv_if_eq (tgt := 43) hx hb dX4_match_16 (by decide) (fun c_7 => ?_) (fun c_7 => ?_)
      · replace c_7 := b2i_0.mp c_7
        refine lv_iload_n hx hb dX4_match_43 rfl (lv_at hl 0 rfl) ?_
        refine lv_istore_n (lv' := [(2, .int (nI b)), (3, .int (nI k)), (0, .ref (bd 0)), (1, .int (nI i))]) hx hb dX4_match_44 rfl hl (by decide) rfl (fun ls hl => ?_)
        refine lv_iinc (v := nI (k + 1)) (lv' := [(3, .int (nI (k + 1))), (2, .int (nI b)), (0, .ref (bd 0)), (1, .int (nI i))]) hx hb dX4_match_45 hl (k := 1) rfl (nI_1 k) (by decide) rfl (fun ls hl => ?_)
        refine lv_goto (tgt := 4) hx hb dX4_match_48 (by decide) ?_
        have e70 : bst (fun k => tMt τ k i) (τ 15) (k + 1) = some b := by simp [bst, hbs, c_7]
        exact ih ls trivial (show lv_has ls 4 [(2, .int (oI (bst (fun k => tMt τ k i) (τ 15) (k + 1)))), (3, .int (nI (k + 1))), (0, .ref (bd 0)), (1, .int (nI i))] from by rw [e70]; exact lv_sub hl [1, 0, 2, 3] rfl)
      · replace c_7 := b2i_n0.mp c_7
        refine lv_iload_n hx hb dX4_match_19 rfl (lv_at hl 0 rfl) ?_
        refine lv_iconst (v := (-1)) hx hb dX4_match_20 (by decide) ?_
        refine lv_icmp_eq (tgt := 39) hx hb dX4_match_21 (by decide) (fun c_8 => absurd c_8 ((nI_ne_m1 (by omega) : ¬ nI b = -1))) (fun c_8 => ?_)
        refine lv_aload_n hx hb dX4_match_24 rfl (lv_at hl 2 rfl) ?_
        refine rgO15 hx hb hf4 hown hK hP (hts (.fieldLink RX4 48 "MachineFoundryModel" "priority" "[I") (by decide +kernel)) dX4_match_25 ?_
        refine lv_iload_n hx hb dX4_match_28 rfl (lv_at hl 1 rfl) ?_
        refine raO15 hx hb hK hP hk (rfl) dX4_match_29 ?_
        refine lv_aload_n hx hb dX4_match_30 rfl (lv_at hl 2 rfl) ?_
        refine rgO15 hx hb hf4 hown hK hP (hts (.fieldLink RX4 48 "MachineFoundryModel" "priority" "[I") (by decide +kernel)) dX4_match_31 ?_
        refine lv_iload_n hx hb dX4_match_34 rfl (lv_at hl 0 rfl) ?_
        refine raO15 hx hb hK hP hb8 (rfl) dX4_match_35 ?_
        refine lv_icmp_le (tgt := 43) hx hb dX4_match_36 (by decide) (fun c_9 => ?_) (fun c_9 => ?_)
        · have d_9 := Int32.not_lt.mpr c_9
          refine lv_iload_n hx hb dX4_match_43 rfl (lv_at hl 0 rfl) ?_
          refine lv_istore_n (lv' := [(2, .int (nI b)), (3, .int (nI k)), (0, .ref (bd 0)), (1, .int (nI i))]) hx hb dX4_match_44 rfl hl (by decide) rfl (fun ls hl => ?_)
          refine lv_iinc (v := nI (k + 1)) (lv' := [(3, .int (nI (k + 1))), (2, .int (nI b)), (0, .ref (bd 0)), (1, .int (nI i))]) hx hb dX4_match_45 hl (k := 1) rfl (nI_1 k) (by decide) rfl (fun ls hl => ?_)
          refine lv_goto (tgt := 4) hx hb dX4_match_48 (by decide) ?_
          have e70 : bst (fun k => tMt τ k i) (τ 15) (k + 1) = some b := by simp [bst, hbs, c_7, c_8, c_9, d_9]
          exact ih ls trivial (show lv_has ls 4 [(2, .int (oI (bst (fun k => tMt τ k i) (τ 15) (k + 1)))), (3, .int (nI (k + 1))), (0, .ref (bd 0)), (1, .int (nI i))] from by rw [e70]; exact lv_sub hl [1, 0, 2, 3] rfl)
        · have d_9 := Int32.not_le.mp c_9
          refine lv_iload_n hx hb dX4_match_39 rfl (lv_at hl 1 rfl) ?_
          refine lv_goto (tgt := 44) hx hb dX4_match_40 (by decide) ?_
          refine lv_istore_n (lv' := [(2, .int (nI k)), (3, .int (nI k)), (0, .ref (bd 0)), (1, .int (nI i))]) hx hb dX4_match_44 rfl hl (by decide) rfl (fun ls hl => ?_)
          refine lv_iinc (v := nI (k + 1)) (lv' := [(3, .int (nI (k + 1))), (2, .int (nI k)), (0, .ref (bd 0)), (1, .int (nI i))]) hx hb dX4_match_45 hl (k := 1) rfl (nI_1 k) (by decide) rfl (fun ls hl => ?_)
          refine lv_goto (tgt := 4) hx hb dX4_match_48 (by decide) ?_
          have e70 : bst (fun k => tMt τ k i) (τ 15) (k + 1) = some k := by simp [bst, hbs, c_7, c_8, c_9, d_9]
          exact ih ls trivial (show lv_has ls 4 [(2, .int (oI (bst (fun k => tMt τ k i) (τ 15) (k + 1)))), (3, .int (nI (k + 1))), (0, .ref (bd 0)), (1, .int (nI i))] from by rw [e70]; exact lv_sub hl [1, 0, 2, 3] rfl)
set_option maxHeartbeats 4000000 in
set_option maxRecDepth 100000 in
/-- atWork -/
theorem c_X4_atWork (l : Launch) (D : va_G) (cy : Nat → ClassId) (bd : Nat → Nat) (τ : Mem) (r : Int32) : Met l yX4_atWork wsX4_atWork ({ frames := 0, cells := 0, slots := 0, locals := 0 }) (va_Pc [.ref (bd 0), .int r] (mw D cy bd τ)) (SI (tAW τ r)) 0 0 NoA := by
  refine Met.ofW (cc := cX4_atWork) (maxL := 4) (ret := (some .int)) (by decide) rfl ?_
  intro p e s m args below meth c s₁ B hml hv
  obtain ⟨rfl, hP, hK⟩ := hv
  have hx := B.exec
  have hb := B.bytes
  have hr := B.returns
  have hts := atoms_spec (ws := wsX4_atWork) B.pre
  have hown : s.vm.findClass RX4 = some m.cls := findClass_of_methodNamed B.named
  have hlocks := B.notSynchronized
  have hf4 := fun (w : Cond) (h : w ∈ wsX40) => hts w ((by decide +kernel : ∀ w ∈ wsX40, w ∈ wsX4_atWork) w h)
  have hl := lv_entry ([.ref (bd 0), .int r]) (n := 4) (Nat.le_of_ble_eq_true rfl)
  rw [lg_entry_eq]
  generalize (lg_sl ([.ref (bd 0), .int r]) ++ List.replicate (4 - (lg_sl ([.ref (bd 0), .int r])).length) Slot.unset).toArray = ls at hl ⊢
  have hl : lv_has ls 4 [(0, .ref (bd 0)), (1, .int r)] := hl
  refine lv_iconst (v := 0) hx hb dX4_atWork_0 (by decide) ?_
  refine lv_istore_n (lv' := [(2, .int 0), (0, .ref (bd 0)), (1, .int r)]) hx hb dX4_atWork_1 rfl hl (by decide) rfl (fun ls hl => ?_)
  refine lv_iconst (v := 0) hx hb dX4_atWork_2 (by decide) ?_
  refine lv_istore_n (lv' := [(3, .int 0), (2, .int 0), (0, .ref (bd 0)), (1, .int r)]) hx hb dX4_atWork_3 rfl hl (by decide) rfl (fun ls hl => ?_)
  have hl0 : lv_has ls 4 [(2, .int (nI (ct (tAWP τ r) 0))), (3, .int (nI 0)), (0, .ref (bd 0)), (1, .int r)] := lv_sub hl [1, 0, 2, 3] rfl
  refine w_loop 16 (fun _ => True) (fun k => [(2, .int (nI (ct (tAWP τ r) k))), (3, .int (nI k)), (0, .ref (bd 0)), (1, .int r)]) 0 (Nat.zero_le _) trivial hl0 (fun ls hI hl => ?_) (fun k hk0 hk ls hI hl ih => ?_)
  · have hl : lv_has ls 4 [(2, .int (nI (ct (tAWP τ r) 16))), (3, .int (nI 16)), (0, .ref (bd 0)), (1, .int r)] := hl
    refine lv_iload_n hx hb dX4_atWork_4 rfl (lv_at hl 1 rfl) ?_
    refine lv_bipush (v := 16) hx hb dX4_atWork_5 (by decide) ?_
    refine lv_icmp_ge (tgt := 44) hx hb dX4_atWork_7 (by decide) (fun c_1 => ?_) (fun c_1 => absurd ((show (16 : Int32) ≤ nI 16 from nI_le (a := 16) (b := 16) (Nat.le_refl 16) (by decide))) c_1)
    refine lv_iload_n hx hb dX4_atWork_44 rfl (lv_at hl 0 rfl) ?_
    have e9 : tAW τ r = (nI (ct (tAWP τ r) 16)) := by simp [tAW, c_1]
    exact W.iret (v := nI (ct (tAWP τ r) 16)) hx hb hr (fun t ht hW => ⟨(), by rw [e9], trivial, ht⟩) (fun q h => nomatch h) dX4_atWork_45
  · have hl : lv_has ls 4 [(2, .int (nI (ct (tAWP τ r) k))), (3, .int (nI k)), (0, .ref (bd 0)), (1, .int r)] := hl
    refine lv_iload_n hx hb dX4_atWork_4 rfl (lv_at hl 1 rfl) ?_
    refine lv_bipush (v := 16) hx hb dX4_atWork_5 (by decide) ?_
    refine lv_icmp_ge (tgt := 44) hx hb dX4_atWork_7 (by decide) (fun c_2 => absurd c_2 ((show ¬ (16 : Int32) ≤ nI k from nI_ge (a := k) (b := 16) hk (by decide)))) (fun c_2 => ?_)
    refine lv_iload_n hx hb dX4_atWork_10 rfl (lv_at hl 0 rfl) ?_
    refine lv_aload_n hx hb dX4_atWork_11 rfl (lv_at hl 2 rfl) ?_
    refine rgO5 hx hb hf4 hown hK hP (hts (.fieldLink RX4 16 "MachineFoundryModel" "state" "[I") (by decide +kernel)) dX4_atWork_12 ?_
    refine lv_iload_n hx hb dX4_atWork_15 rfl (lv_at hl 1 rfl) ?_
    refine raO5 hx hb hK hP hk (rfl) dX4_atWork_16 ?_
    refine lv_iconst (v := 3) hx hb dX4_atWork_17 (by decide) ?_
    refine lv_icmp_ne (tgt := 35) hx hb dX4_atWork_18 (by decide) (fun c_3 => ?_) (fun c_3 => ?_)
    · refine lv_iconst (v := 0) hx hb dX4_atWork_35 (by decide) ?_
      refine lv_iadd hx hb dX4_atWork_36 ?_
      refine W.eq (g2 := F0 m 37 ls [.int (nI (ct (tAWP τ r) k))]) (by rw [Int32.add_zero]) ?_
      refine lv_istore_n (lv' := [(2, .int (nI (ct (tAWP τ r) k))), (3, .int (nI k)), (0, .ref (bd 0)), (1, .int r)]) hx hb dX4_atWork_37 rfl hl (by decide) rfl (fun ls hl => ?_)
      refine lv_iinc (v := nI (k + 1)) (lv' := [(3, .int (nI (k + 1))), (2, .int (nI (ct (tAWP τ r) k))), (0, .ref (bd 0)), (1, .int r)]) hx hb dX4_atWork_38 hl (k := 1) rfl (nI_1 k) (by decide) rfl (fun ls hl => ?_)
      refine lv_goto (tgt := 4) hx hb dX4_atWork_41 (by decide) ?_
      have e70 : ct (tAWP τ r) (k + 1) = ct (tAWP τ r) k := by exact ct_n (by simp [tAWP, tAhP, c_3])
      exact ih ls trivial (show lv_has ls 4 [(2, .int (nI (ct (tAWP τ r) (k + 1)))), (3, .int (nI (k + 1))), (0, .ref (bd 0)), (1, .int r)] from by rw [e70]; exact lv_sub hl [1, 0, 2, 3] rfl)
    · refine lv_aload_n hx hb dX4_atWork_21 rfl (lv_at hl 2 rfl) ?_
      refine rgO6 hx hb hf4 hown hK hP (hts (.fieldLink RX4 20 "MachineFoundryModel" "rack" "[I") (by decide +kernel)) dX4_atWork_22 ?_
      refine lv_iload_n hx hb dX4_atWork_25 rfl (lv_at hl 1 rfl) ?_
      refine raO6 hx hb hK hP hk (rfl) dX4_atWork_26 ?_
      refine lv_iload_n hx hb dX4_atWork_27 rfl (lv_at hl 3 rfl) ?_
      refine lv_icmp_ne (tgt := 35) hx hb dX4_atWork_28 (by decide) (fun c_4 => ?_) (fun c_4 => ?_)
      · refine lv_iconst (v := 0) hx hb dX4_atWork_35 (by decide) ?_
        refine lv_iadd hx hb dX4_atWork_36 ?_
        refine W.eq (g2 := F0 m 37 ls [.int (nI (ct (tAWP τ r) k))]) (by rw [Int32.add_zero]) ?_
        refine lv_istore_n (lv' := [(2, .int (nI (ct (tAWP τ r) k))), (3, .int (nI k)), (0, .ref (bd 0)), (1, .int r)]) hx hb dX4_atWork_37 rfl hl (by decide) rfl (fun ls hl => ?_)
        refine lv_iinc (v := nI (k + 1)) (lv' := [(3, .int (nI (k + 1))), (2, .int (nI (ct (tAWP τ r) k))), (0, .ref (bd 0)), (1, .int r)]) hx hb dX4_atWork_38 hl (k := 1) rfl (nI_1 k) (by decide) rfl (fun ls hl => ?_)
        refine lv_goto (tgt := 4) hx hb dX4_atWork_41 (by decide) ?_
        have e70 : ct (tAWP τ r) (k + 1) = ct (tAWP τ r) k := by exact ct_n (by simp [tAWP, tAhP, c_3, c_4])
        exact ih ls trivial (show lv_has ls 4 [(2, .int (nI (ct (tAWP τ r) (k + 1)))), (3, .int (nI (k + 1))), (0, .ref (bd 0)), (1, .int r)] from by rw [e70]; exact lv_sub hl [1, 0, 2, 3] rfl)
      · refine lv_iconst (v := 1) hx hb dX4_atWork_31 (by decide) ?_
        refine lv_goto (tgt := 36) hx hb dX4_atWork_32 (by decide) ?_
        refine lv_iadd hx hb dX4_atWork_36 ?_
        refine W.eq (g2 := F0 m 37 ls [.int (nI (ct (tAWP τ r) k + 1))]) (by rw [nI_1]) ?_
        refine lv_istore_n (lv' := [(2, .int (nI (ct (tAWP τ r) k + 1))), (3, .int (nI k)), (0, .ref (bd 0)), (1, .int r)]) hx hb dX4_atWork_37 rfl hl (by decide) rfl (fun ls hl => ?_)
        refine lv_iinc (v := nI (k + 1)) (lv' := [(3, .int (nI (k + 1))), (2, .int (nI (ct (tAWP τ r) k + 1))), (0, .ref (bd 0)), (1, .int r)]) hx hb dX4_atWork_38 hl (k := 1) rfl (nI_1 k) (by decide) rfl (fun ls hl => ?_)
        refine lv_goto (tgt := 4) hx hb dX4_atWork_41 (by decide) ?_
        have e70 : ct (tAWP τ r) (k + 1) = ct (tAWP τ r) k + 1 := by exact ct_y (by simp [tAWP, tAhP, c_3, c_4])
        exact ih ls trivial (show lv_has ls 4 [(2, .int (nI (ct (tAWP τ r) (k + 1)))), (3, .int (nI (k + 1))), (0, .ref (bd 0)), (1, .int r)] from by rw [e70]; exact lv_sub hl [1, 0, 2, 3] rfl)
set_option maxHeartbeats 4000000 in
set_option maxRecDepth 100000 in
/-- queued -/
theorem c_X4_queued (l : Launch) (D : va_G) (cy : Nat → ClassId) (bd : Nat → Nat) (τ : Mem) (r pl : Int32) : Met l yX4_queued wsX4_queued ({ frames := 0, cells := 0, slots := 0, locals := 0 }) (va_Pc [.ref (bd 0), .int r, .int pl] (mw D cy bd τ)) (SI (tQu τ r pl)) 0 0 NoA := by
  refine Met.ofW (cc := cX4_queued) (maxL := 7) (ret := (some .int)) (by decide) rfl ?_
  intro p e s m args below meth c s₁ B hml hv
  obtain ⟨rfl, hP, hK⟩ := hv
  have hx := B.exec
  have hb := B.bytes
  have hr := B.returns
  have hts := atoms_spec (ws := wsX4_queued) B.pre
  have hown : s.vm.findClass RX4 = some m.cls := findClass_of_methodNamed B.named
  have hlocks := B.notSynchronized
  have hf4 := fun (w : Cond) (h : w ∈ wsX40) => hts w ((by decide +kernel : ∀ w ∈ wsX40, w ∈ wsX4_queued) w h)
  have hl := lv_entry ([.ref (bd 0), .int r, .int pl]) (n := 7) (Nat.le_of_ble_eq_true rfl)
  rw [lg_entry_eq]
  generalize (lg_sl ([.ref (bd 0), .int r, .int pl]) ++ List.replicate (7 - (lg_sl ([.ref (bd 0), .int r, .int pl])).length) Slot.unset).toArray = ls at hl ⊢
  have hl : lv_has ls 7 [(0, .ref (bd 0)), (1, .int r), (2, .int pl)] := hl
  refine lv_iconst (v := (-1)) hx hb dX4_queued_0 (by decide) ?_
  refine lv_istore_n (lv' := [(3, .int (-1)), (0, .ref (bd 0)), (1, .int r), (2, .int pl)]) hx hb dX4_queued_1 rfl hl (by decide) rfl (fun ls hl => ?_)
  refine lv_iconst (v := 0) hx hb dX4_queued_2 (by decide) ?_
  refine lv_istore (lv' := [(4, .int 0), (3, .int (-1)), (0, .ref (bd 0)), (1, .int r), (2, .int pl)]) hx hb dX4_queued_3 hl (by decide) rfl (fun ls hl => ?_)
  have hl0 : lv_has ls 7 [(3, .int (-1)), (4, .int (nI 0)), (0, .ref (bd 0)), (1, .int r), (2, .int pl)] := lv_sub hl [1, 0, 2, 3, 4] rfl
  refine w_loop 16 (fun _ => True) (fun k => [(3, .int (tQd (tQdP τ r pl) k)), (4, .int (nI k)), (0, .ref (bd 0)), (1, .int r), (2, .int pl)]) 0 (Nat.zero_le _) trivial hl0 (fun ls hI hl => ?_) (fun k hk0 hk ls hI hl ih => ?_)
  · have hl : lv_has ls 7 [(3, .int (tQd (tQdP τ r pl) 16)), (4, .int (nI 16)), (0, .ref (bd 0)), (1, .int r), (2, .int pl)] := hl
    refine lv_iload hx hb dX4_queued_5 (lv_at hl 1 rfl) ?_
    refine lv_bipush (v := 16) hx hb dX4_queued_7 (by decide) ?_
    refine lv_icmp_ge (tgt := 121) hx hb dX4_queued_9 (by decide) (fun c_1 => ?_) (fun c_1 => absurd ((show (16 : Int32) ≤ nI 16 from nI_le (a := 16) (b := 16) (Nat.le_refl 16) (by decide))) c_1)
    refine lv_iload_n hx hb dX4_queued_121 rfl (lv_at hl 0 rfl) ?_
    have e9 : tQu τ r pl = (tQd (tQdP τ r pl) 16) := by simp [tQu, c_1]
    exact W.iret (v := tQd (tQdP τ r pl) 16) hx hb hr (fun t ht hW => ⟨(), by rw [e9], trivial, ht⟩) (fun q h => nomatch h) dX4_queued_122
  · have hl : lv_has ls 7 [(3, .int (tQd (tQdP τ r pl) k)), (4, .int (nI k)), (0, .ref (bd 0)), (1, .int r), (2, .int pl)] := hl
    refine lv_iload hx hb dX4_queued_5 (lv_at hl 1 rfl) ?_
    refine lv_bipush (v := 16) hx hb dX4_queued_7 (by decide) ?_
    refine lv_icmp_ge (tgt := 121) hx hb dX4_queued_9 (by decide) (fun c_2 => absurd c_2 ((show ¬ (16 : Int32) ≤ nI k from nI_ge (a := k) (b := 16) hk (by decide)))) (fun c_2 => ?_)
    refine lv_iconst (v := 0) hx hb dX4_queued_12 (by decide) ?_
    refine lv_istore (lv' := [(5, .int 0), (3, .int (tQd (tQdP τ r pl) k)), (4, .int (nI k)), (0, .ref (bd 0)), (1, .int r), (2, .int pl)]) hx hb dX4_queued_13 hl (by decide) rfl (fun ls hl => ?_)
    refine lv_iconst (v := 0) hx hb dX4_queued_15 (by decide) ?_
    refine lv_istore (lv' := [(6, .int 0), (5, .int 0), (3, .int (tQd (tQdP τ r pl) k)), (4, .int (nI k)), (0, .ref (bd 0)), (1, .int r), (2, .int pl)]) hx hb dX4_queued_16 hl (by decide) rfl (fun ls hl => ?_)
    have hl0 : lv_has ls 7 [(5, .int (nI (ct (tAhP τ r k) 0))), (6, .int (nI 0)), (3, .int (tQd (tQdP τ r pl) k)), (4, .int (nI k)), (0, .ref (bd 0)), (1, .int r), (2, .int pl)] := lv_sub hl [1, 0, 2, 3, 4, 5, 6] rfl
    refine w_loop 16 (fun _ => True) (fun n => [(5, .int (nI (ct (tAhP τ r k) n))), (6, .int (nI n)), (3, .int (tQd (tQdP τ r pl) k)), (4, .int (nI k)), (0, .ref (bd 0)), (1, .int r), (2, .int pl)]) 0 (Nat.zero_le _) trivial hl0 (fun ls hI hl => ?_) (fun n hk0 hn ls hI hl ih => ?_)
    · have hl : lv_has ls 7 [(5, .int (nI (ct (tAhP τ r k) 16))), (6, .int (nI 16)), (3, .int (tQd (tQdP τ r pl) k)), (4, .int (nI k)), (0, .ref (bd 0)), (1, .int r), (2, .int pl)] := hl
      refine lv_iload hx hb dX4_queued_18 (lv_at hl 1 rfl) ?_
      refine lv_bipush (v := 16) hx hb dX4_queued_20 (by decide) ?_
      refine lv_icmp_ge (tgt := 80) hx hb dX4_queued_22 (by decide) (fun c_3 => ?_) (fun c_3 => absurd ((show (16 : Int32) ≤ nI 16 from nI_le (a := 16) (b := 16) (Nat.le_refl 16) (by decide))) c_3)
      refine lv_aload_n hx hb dX4_queued_80 rfl (lv_at hl 4 rfl) ?_
      refine rgO5 hx hb hf4 hown hK hP (hts (.fieldLink RX4 16 "MachineFoundryModel" "state" "[I") (by decide +kernel)) dX4_queued_81 ?_
      refine lv_iload hx hb dX4_queued_84 (lv_at hl 3 rfl) ?_
      refine raO5 hx hb hK hP hk (rfl) dX4_queued_86 ?_
      refine lv_iconst (v := 2) hx hb dX4_queued_87 (by decide) ?_
      refine lv_icmp_ne (tgt := 113) hx hb dX4_queued_88 (by decide) (fun c_4 => ?_) (fun c_4 => ?_)
      · refine lv_iload_n hx hb dX4_queued_113 rfl (lv_at hl 2 rfl) ?_
        refine lv_istore_n (lv' := [(3, .int (tQd (tQdP τ r pl) k)), (5, .int (nI (ct (tAhP τ r k) 16))), (6, .int (nI 16)), (4, .int (nI k)), (0, .ref (bd 0)), (1, .int r), (2, .int pl)]) hx hb dX4_queued_114 rfl hl (by decide) rfl (fun ls hl => ?_)
        refine lv_iinc (v := nI (k + 1)) (lv' := [(4, .int (nI (k + 1))), (3, .int (tQd (tQdP τ r pl) k)), (5, .int (nI (ct (tAhP τ r k) 16))), (6, .int (nI 16)), (0, .ref (bd 0)), (1, .int r), (2, .int pl)]) hx hb dX4_queued_115 hl (k := 3) rfl (nI_1 k) (by decide) rfl (fun ls hl => ?_)
        refine lv_goto (tgt := 5) hx hb dX4_queued_118 (by decide) ?_
        have e70 : tQd (tQdP τ r pl) (k + 1) = tQd (tQdP τ r pl) k := by simp [tQd, tQdP, c_3, c_4]
        exact ih ls trivial (show lv_has ls 7 [(3, .int (tQd (tQdP τ r pl) (k + 1))), (4, .int (nI (k + 1))), (0, .ref (bd 0)), (1, .int r), (2, .int pl)] from by rw [e70]; exact lv_sub hl [1, 0, 4, 5, 6] rfl)
      · refine lv_aload_n hx hb dX4_queued_91 rfl (lv_at hl 4 rfl) ?_
        refine rgO6 hx hb hf4 hown hK hP (hts (.fieldLink RX4 20 "MachineFoundryModel" "rack" "[I") (by decide +kernel)) dX4_queued_92 ?_
        refine lv_iload hx hb dX4_queued_95 (lv_at hl 3 rfl) ?_
        refine raO6 hx hb hK hP hk (rfl) dX4_queued_97 ?_
        refine lv_iload_n hx hb dX4_queued_98 rfl (lv_at hl 5 rfl) ?_
        refine lv_icmp_ne (tgt := 113) hx hb dX4_queued_99 (by decide) (fun c_5 => ?_) (fun c_5 => ?_)
        · refine lv_iload_n hx hb dX4_queued_113 rfl (lv_at hl 2 rfl) ?_
          refine lv_istore_n (lv' := [(3, .int (tQd (tQdP τ r pl) k)), (5, .int (nI (ct (tAhP τ r k) 16))), (6, .int (nI 16)), (4, .int (nI k)), (0, .ref (bd 0)), (1, .int r), (2, .int pl)]) hx hb dX4_queued_114 rfl hl (by decide) rfl (fun ls hl => ?_)
          refine lv_iinc (v := nI (k + 1)) (lv' := [(4, .int (nI (k + 1))), (3, .int (tQd (tQdP τ r pl) k)), (5, .int (nI (ct (tAhP τ r k) 16))), (6, .int (nI 16)), (0, .ref (bd 0)), (1, .int r), (2, .int pl)]) hx hb dX4_queued_115 hl (k := 3) rfl (nI_1 k) (by decide) rfl (fun ls hl => ?_)
          refine lv_goto (tgt := 5) hx hb dX4_queued_118 (by decide) ?_
          have e70 : tQd (tQdP τ r pl) (k + 1) = tQd (tQdP τ r pl) k := by simp [tQd, tQdP, c_3, c_4, c_5]
          exact ih ls trivial (show lv_has ls 7 [(3, .int (tQd (tQdP τ r pl) (k + 1))), (4, .int (nI (k + 1))), (0, .ref (bd 0)), (1, .int r), (2, .int pl)] from by rw [e70]; exact lv_sub hl [1, 0, 4, 5, 6] rfl)
        · refine lv_iload hx hb dX4_queued_102 (lv_at hl 0 rfl) ?_
          refine lv_iload_n hx hb dX4_queued_104 rfl (lv_at hl 6 rfl) ?_
          refine lv_icmp_ne (tgt := 113) hx hb dX4_queued_105 (by decide) (fun c_6 => ?_) (fun c_6 => ?_)
          · refine lv_iload_n hx hb dX4_queued_113 rfl (lv_at hl 2 rfl) ?_
            refine lv_istore_n (lv' := [(3, .int (tQd (tQdP τ r pl) k)), (5, .int (nI (ct (tAhP τ r k) 16))), (6, .int (nI 16)), (4, .int (nI k)), (0, .ref (bd 0)), (1, .int r), (2, .int pl)]) hx hb dX4_queued_114 rfl hl (by decide) rfl (fun ls hl => ?_)
            refine lv_iinc (v := nI (k + 1)) (lv' := [(4, .int (nI (k + 1))), (3, .int (tQd (tQdP τ r pl) k)), (5, .int (nI (ct (tAhP τ r k) 16))), (6, .int (nI 16)), (0, .ref (bd 0)), (1, .int r), (2, .int pl)]) hx hb dX4_queued_115 hl (k := 3) rfl (nI_1 k) (by decide) rfl (fun ls hl => ?_)
            refine lv_goto (tgt := 5) hx hb dX4_queued_118 (by decide) ?_
            have e70 : tQd (tQdP τ r pl) (k + 1) = tQd (tQdP τ r pl) k := by simp [tQd, tQdP, c_3, c_4, c_5, c_6]
            exact ih ls trivial (show lv_has ls 7 [(3, .int (tQd (tQdP τ r pl) (k + 1))), (4, .int (nI (k + 1))), (0, .ref (bd 0)), (1, .int r), (2, .int pl)] from by rw [e70]; exact lv_sub hl [1, 0, 4, 5, 6] rfl)
          · refine lv_iload hx hb dX4_queued_108 (lv_at hl 3 rfl) ?_
            refine lv_goto (tgt := 114) hx hb dX4_queued_110 (by decide) ?_
            refine lv_istore_n (lv' := [(3, .int (nI k)), (5, .int (nI (ct (tAhP τ r k) 16))), (6, .int (nI 16)), (4, .int (nI k)), (0, .ref (bd 0)), (1, .int r), (2, .int pl)]) hx hb dX4_queued_114 rfl hl (by decide) rfl (fun ls hl => ?_)
            refine lv_iinc (v := nI (k + 1)) (lv' := [(4, .int (nI (k + 1))), (3, .int (nI k)), (5, .int (nI (ct (tAhP τ r k) 16))), (6, .int (nI 16)), (0, .ref (bd 0)), (1, .int r), (2, .int pl)]) hx hb dX4_queued_115 hl (k := 3) rfl (nI_1 k) (by decide) rfl (fun ls hl => ?_)
            refine lv_goto (tgt := 5) hx hb dX4_queued_118 (by decide) ?_
            have e70 : tQd (tQdP τ r pl) (k + 1) = nI k := by simp [tQd, tQdP, c_3, c_4, c_5, c_6]
            exact ih ls trivial (show lv_has ls 7 [(3, .int (tQd (tQdP τ r pl) (k + 1))), (4, .int (nI (k + 1))), (0, .ref (bd 0)), (1, .int r), (2, .int pl)] from by rw [e70]; exact lv_sub hl [1, 0, 4, 5, 6] rfl)
    · have hl : lv_has ls 7 [(5, .int (nI (ct (tAhP τ r k) n))), (6, .int (nI n)), (3, .int (tQd (tQdP τ r pl) k)), (4, .int (nI k)), (0, .ref (bd 0)), (1, .int r), (2, .int pl)] := hl
      refine lv_iload hx hb dX4_queued_18 (lv_at hl 1 rfl) ?_
      refine lv_bipush (v := 16) hx hb dX4_queued_20 (by decide) ?_
      refine lv_icmp_ge (tgt := 80) hx hb dX4_queued_22 (by decide) (fun c_7 => absurd c_7 ((show ¬ (16 : Int32) ≤ nI n from nI_ge (a := n) (b := 16) hn (by decide)))) (fun c_7 => ?_)
      refine lv_iload hx hb dX4_queued_25 (lv_at hl 0 rfl) ?_
      refine lv_aload_n hx hb dX4_queued_27 rfl (lv_at hl 4 rfl) ?_
      refine rgO5 hx hb hf4 hown hK hP (hts (.fieldLink RX4 16 "MachineFoundryModel" "state" "[I") (by decide +kernel)) dX4_queued_28 ?_
      refine lv_iload hx hb dX4_queued_31 (lv_at hl 1 rfl) ?_
      refine raO5 hx hb hK hP hn (rfl) dX4_queued_33 ?_
      refine lv_iconst (v := 2) hx hb dX4_queued_34 (by decide) ?_
      refine lv_icmp_ne (tgt := 70) hx hb dX4_queued_35 (by decide) (fun c_8 => ?_) (fun c_8 => ?_)
      · refine lv_iconst (v := 0) hx hb dX4_queued_70 (by decide) ?_
        refine lv_iadd hx hb dX4_queued_71 ?_
        refine W.eq (g2 := F0 m 72 ls [.int (nI (ct (tAhP τ r k) n))]) (by rw [Int32.add_zero]) ?_
        refine lv_istore (lv' := [(5, .int (nI (ct (tAhP τ r k) n))), (6, .int (nI n)), (3, .int (tQd (tQdP τ r pl) k)), (4, .int (nI k)), (0, .ref (bd 0)), (1, .int r), (2, .int pl)]) hx hb dX4_queued_72 hl (by decide) rfl (fun ls hl => ?_)
        refine lv_iinc (v := nI (n + 1)) (lv' := [(6, .int (nI (n + 1))), (5, .int (nI (ct (tAhP τ r k) n))), (3, .int (tQd (tQdP τ r pl) k)), (4, .int (nI k)), (0, .ref (bd 0)), (1, .int r), (2, .int pl)]) hx hb dX4_queued_74 hl (k := 1) rfl (nI_1 n) (by decide) rfl (fun ls hl => ?_)
        refine lv_goto (tgt := 18) hx hb dX4_queued_77 (by decide) ?_
        have e70 : ct (tAhP τ r k) (n + 1) = ct (tAhP τ r k) n := by exact ct_n (by simp [tAWP, tAhP, c_8])
        exact ih ls trivial (show lv_has ls 7 [(5, .int (nI (ct (tAhP τ r k) (n + 1)))), (6, .int (nI (n + 1))), (3, .int (tQd (tQdP τ r pl) k)), (4, .int (nI k)), (0, .ref (bd 0)), (1, .int r), (2, .int pl)] from by rw [e70]; exact lv_sub hl [1, 0, 2, 3, 4, 5, 6] rfl)
      · refine lv_aload_n hx hb dX4_queued_38 rfl (lv_at hl 4 rfl) ?_
        refine rgO6 hx hb hf4 hown hK hP (hts (.fieldLink RX4 20 "MachineFoundryModel" "rack" "[I") (by decide +kernel)) dX4_queued_39 ?_
        refine lv_iload hx hb dX4_queued_42 (lv_at hl 1 rfl) ?_
        refine raO6 hx hb hK hP hn (rfl) dX4_queued_44 ?_
        refine lv_iload_n hx hb dX4_queued_45 rfl (lv_at hl 5 rfl) ?_
        refine lv_icmp_ne (tgt := 70) hx hb dX4_queued_46 (by decide) (fun c_9 => ?_) (fun c_9 => ?_)
        · refine lv_iconst (v := 0) hx hb dX4_queued_70 (by decide) ?_
          refine lv_iadd hx hb dX4_queued_71 ?_
          refine W.eq (g2 := F0 m 72 ls [.int (nI (ct (tAhP τ r k) n))]) (by rw [Int32.add_zero]) ?_
          refine lv_istore (lv' := [(5, .int (nI (ct (tAhP τ r k) n))), (6, .int (nI n)), (3, .int (tQd (tQdP τ r pl) k)), (4, .int (nI k)), (0, .ref (bd 0)), (1, .int r), (2, .int pl)]) hx hb dX4_queued_72 hl (by decide) rfl (fun ls hl => ?_)
          refine lv_iinc (v := nI (n + 1)) (lv' := [(6, .int (nI (n + 1))), (5, .int (nI (ct (tAhP τ r k) n))), (3, .int (tQd (tQdP τ r pl) k)), (4, .int (nI k)), (0, .ref (bd 0)), (1, .int r), (2, .int pl)]) hx hb dX4_queued_74 hl (k := 1) rfl (nI_1 n) (by decide) rfl (fun ls hl => ?_)
          refine lv_goto (tgt := 18) hx hb dX4_queued_77 (by decide) ?_
          have e70 : ct (tAhP τ r k) (n + 1) = ct (tAhP τ r k) n := by exact ct_n (by simp [tAWP, tAhP, c_8, c_9])
          exact ih ls trivial (show lv_has ls 7 [(5, .int (nI (ct (tAhP τ r k) (n + 1)))), (6, .int (nI (n + 1))), (3, .int (tQd (tQdP τ r pl) k)), (4, .int (nI k)), (0, .ref (bd 0)), (1, .int r), (2, .int pl)] from by rw [e70]; exact lv_sub hl [1, 0, 2, 3, 4, 5, 6] rfl)
        · refine lv_aload_n hx hb dX4_queued_49 rfl (lv_at hl 4 rfl) ?_
          refine rgO10 hx hb hf4 hown hK hP (hts (.fieldLink RX4 32 "MachineFoundryModel" "ticket" "[I") (by decide +kernel)) dX4_queued_50 ?_
          refine lv_iload hx hb dX4_queued_53 (lv_at hl 1 rfl) ?_
          refine raO10 hx hb hK hP hn (rfl) dX4_queued_55 ?_
          refine lv_aload_n hx hb dX4_queued_56 rfl (lv_at hl 4 rfl) ?_
          refine rgO10 hx hb hf4 hown hK hP (hts (.fieldLink RX4 32 "MachineFoundryModel" "ticket" "[I") (by decide +kernel)) dX4_queued_57 ?_
          refine lv_iload hx hb dX4_queued_60 (lv_at hl 3 rfl) ?_
          refine raO10 hx hb hK hP hk (rfl) dX4_queued_62 ?_
          refine lv_icmp_ge (tgt := 70) hx hb dX4_queued_63 (by decide) (fun c_10 => ?_) (fun c_10 => ?_)
          · have d_10 := Int32.not_lt.mpr c_10
            refine lv_iconst (v := 0) hx hb dX4_queued_70 (by decide) ?_
            refine lv_iadd hx hb dX4_queued_71 ?_
            refine W.eq (g2 := F0 m 72 ls [.int (nI (ct (tAhP τ r k) n))]) (by rw [Int32.add_zero]) ?_
            refine lv_istore (lv' := [(5, .int (nI (ct (tAhP τ r k) n))), (6, .int (nI n)), (3, .int (tQd (tQdP τ r pl) k)), (4, .int (nI k)), (0, .ref (bd 0)), (1, .int r), (2, .int pl)]) hx hb dX4_queued_72 hl (by decide) rfl (fun ls hl => ?_)
            refine lv_iinc (v := nI (n + 1)) (lv' := [(6, .int (nI (n + 1))), (5, .int (nI (ct (tAhP τ r k) n))), (3, .int (tQd (tQdP τ r pl) k)), (4, .int (nI k)), (0, .ref (bd 0)), (1, .int r), (2, .int pl)]) hx hb dX4_queued_74 hl (k := 1) rfl (nI_1 n) (by decide) rfl (fun ls hl => ?_)
            refine lv_goto (tgt := 18) hx hb dX4_queued_77 (by decide) ?_
            have e70 : ct (tAhP τ r k) (n + 1) = ct (tAhP τ r k) n := by exact ct_n (by simp [tAWP, tAhP, c_8, c_9, c_10, d_10])
            exact ih ls trivial (show lv_has ls 7 [(5, .int (nI (ct (tAhP τ r k) (n + 1)))), (6, .int (nI (n + 1))), (3, .int (tQd (tQdP τ r pl) k)), (4, .int (nI k)), (0, .ref (bd 0)), (1, .int r), (2, .int pl)] from by rw [e70]; exact lv_sub hl [1, 0, 2, 3, 4, 5, 6] rfl)
          · have d_10 := Int32.not_le.mp c_10
            refine lv_iconst (v := 1) hx hb dX4_queued_66 (by decide) ?_
            refine lv_goto (tgt := 71) hx hb dX4_queued_67 (by decide) ?_
            refine lv_iadd hx hb dX4_queued_71 ?_
            refine W.eq (g2 := F0 m 72 ls [.int (nI (ct (tAhP τ r k) n + 1))]) (by rw [nI_1]) ?_
            refine lv_istore (lv' := [(5, .int (nI (ct (tAhP τ r k) n + 1))), (6, .int (nI n)), (3, .int (tQd (tQdP τ r pl) k)), (4, .int (nI k)), (0, .ref (bd 0)), (1, .int r), (2, .int pl)]) hx hb dX4_queued_72 hl (by decide) rfl (fun ls hl => ?_)
            refine lv_iinc (v := nI (n + 1)) (lv' := [(6, .int (nI (n + 1))), (5, .int (nI (ct (tAhP τ r k) n + 1))), (3, .int (tQd (tQdP τ r pl) k)), (4, .int (nI k)), (0, .ref (bd 0)), (1, .int r), (2, .int pl)]) hx hb dX4_queued_74 hl (k := 1) rfl (nI_1 n) (by decide) rfl (fun ls hl => ?_)
            refine lv_goto (tgt := 18) hx hb dX4_queued_77 (by decide) ?_
            have e70 : ct (tAhP τ r k) (n + 1) = ct (tAhP τ r k) n + 1 := by exact ct_y (by simp [tAWP, tAhP, c_8, c_9, c_10, d_10])
            exact ih ls trivial (show lv_has ls 7 [(5, .int (nI (ct (tAhP τ r k) (n + 1)))), (6, .int (nI (n + 1))), (3, .int (tQd (tQdP τ r pl) k)), (4, .int (nI k)), (0, .ref (bd 0)), (1, .int r), (2, .int pl)] from by rw [e70]; exact lv_sub hl [1, 0, 2, 3, 4, 5, 6] rfl)
set_option maxHeartbeats 4000000 in
set_option maxRecDepth 100000 in
/-- isOver -/
theorem c_X4_isOver (l : Launch) (D : va_G) (cy : Nat → ClassId) (bd : Nat → Nat) (τ : Mem) (i : Nat) (hi : i < 16) (st : Int32) : Met l yX4_isOver wsX4_isOver ({ frames := 0, cells := 0, slots := 0, locals := 0 }) (va_Pc [.ref (bd 0), .int (nI i), .int st] (mw D cy bd τ)) (SI (b2i (tOv τ i st))) 0 0 NoA := by
  refine Met.ofW (cc := cX4_isOver) (maxL := 3) (ret := (some .boolean)) (by decide) rfl ?_
  intro p e s m args below meth c s₁ B hml hv
  obtain ⟨rfl, hP, hK⟩ := hv
  have hx := B.exec
  have hb := B.bytes
  have hr := B.returns
  have hts := atoms_spec (ws := wsX4_isOver) B.pre
  have hown : s.vm.findClass RX4 = some m.cls := findClass_of_methodNamed B.named
  have hlocks := B.notSynchronized
  have hf4 := fun (w : Cond) (h : w ∈ wsX40) => hts w ((by decide +kernel : ∀ w ∈ wsX40, w ∈ wsX4_isOver) w h)
  have hl := lv_entry ([.ref (bd 0), .int (nI i), .int st]) (n := 3) (Nat.le_of_ble_eq_true rfl)
  rw [lg_entry_eq]
  generalize (lg_sl ([.ref (bd 0), .int (nI i), .int st]) ++ List.replicate (3 - (lg_sl ([.ref (bd 0), .int (nI i), .int st])).length) Slot.unset).toArray = ls at hl ⊢
  have hl : lv_has ls 3 [(0, .ref (bd 0)), (1, .int (nI i)), (2, .int st)] := hl
  refine lv_aload_n hx hb dX4_isOver_0 rfl (lv_at hl 0 rfl) ?_
  refine rgO5 hx hb hf4 hown hK hP (hts (.fieldLink RX4 16 "MachineFoundryModel" "state" "[I") (by decide +kernel)) dX4_isOver_1 ?_
  refine lv_iload_n hx hb dX4_isOver_4 rfl (lv_at hl 1 rfl) ?_
  refine raO5 hx hb hK hP hi (rfl) dX4_isOver_5 ?_
  refine lv_iload_n hx hb dX4_isOver_6 rfl (lv_at hl 2 rfl) ?_
  refine lv_icmp_ne (tgt := 27) hx hb dX4_isOver_7 (by decide) (fun c_1 => ?_) (fun c_1 => ?_)
  · refine lv_iconst (v := 0) hx hb dX4_isOver_27 (by decide) ?_
    have e9 : b2i (tOv τ i st) = 0 := by simp [b2i, tOv, c_1]
    exact W.zret (v := 0) hx hb hr rfl (fun t ht hW => ⟨(), by rw [e9], trivial, ht⟩) (fun q h => nomatch h) dX4_isOver_28
  · refine lv_aload_n hx hb dX4_isOver_10 rfl (lv_at hl 0 rfl) ?_
    refine rgO12 hx hb hf4 hown hK hP (hts (.fieldLink RX4 38 "MachineFoundryModel" "end" "[I") (by decide +kernel)) dX4_isOver_11 ?_
    refine lv_iload_n hx hb dX4_isOver_14 rfl (lv_at hl 1 rfl) ?_
    refine raO12 hx hb hK hP hi (rfl) dX4_isOver_15 ?_
    refine lv_aload_n hx hb dX4_isOver_16 rfl (lv_at hl 0 rfl) ?_
    refine rgO0 hx hb hf4 hown hK hP (hts (.fieldLink RX4 96 "MachineFoundryModel" "now" "I") (by decide +kernel)) (rfl) dX4_isOver_17 ?_
    refine lv_icmp_gt (tgt := 27) hx hb dX4_isOver_20 (by decide) (fun c_2 => ?_) (fun c_2 => ?_)
    · have d_2 := Int32.not_le.mpr c_2
      refine lv_iconst (v := 0) hx hb dX4_isOver_27 (by decide) ?_
      have e9 : b2i (tOv τ i st) = 0 := by simp [b2i, tOv, c_1, c_2, d_2]
      exact W.zret (v := 0) hx hb hr rfl (fun t ht hW => ⟨(), by rw [e9], trivial, ht⟩) (fun q h => nomatch h) dX4_isOver_28
    · have d_2 := Int32.not_lt.mp c_2
      refine lv_iconst (v := 1) hx hb dX4_isOver_23 (by decide) ?_
      refine lv_goto (tgt := 28) hx hb dX4_isOver_24 (by decide) ?_
      have e9 : b2i (tOv τ i st) = 1 := by simp [b2i, tOv, c_1, c_2, d_2]
      exact W.zret (v := 1) hx hb hr rfl (fun t ht hW => ⟨(), by rw [e9], trivial, ht⟩) (fun q h => nomatch h) dX4_isOver_28
set_option maxHeartbeats 4000000 in
set_option maxRecDepth 100000 in
/-- isEnding -/
theorem c_X4_isEnding (l : Launch) (D : va_G) (cy : Nat → ClassId) (bd : Nat → Nat) (τ : Mem) (i : Nat) (hi : i < 16) : Met l yX4_isEnding wsX4_isEnding ({ frames := 0, cells := 0, slots := 0, locals := 0 }) (va_Pc [.ref (bd 0), .int (nI i)] (mw D cy bd τ)) (SI (b2i (tEnds τ i))) 0 0 NoA := by
  refine Met.ofW (cc := cX4_isEnding) (maxL := 2) (ret := (some .boolean)) (by decide) rfl ?_
  intro p e s m args below meth c s₁ B hml hv
  obtain ⟨rfl, hP, hK⟩ := hv
  have hx := B.exec
  have hb := B.bytes
  have hr := B.returns
  have hts := atoms_spec (ws := wsX4_isEnding) B.pre
  have hown : s.vm.findClass RX4 = some m.cls := findClass_of_methodNamed B.named
  have hlocks := B.notSynchronized
  have hf4 := fun (w : Cond) (h : w ∈ wsX40) => hts w ((by decide +kernel : ∀ w ∈ wsX40, w ∈ wsX4_isEnding) w h)
  have hl := lv_entry ([.ref (bd 0), .int (nI i)]) (n := 2) (Nat.le_of_ble_eq_true rfl)
  rw [lg_entry_eq]
  generalize (lg_sl ([.ref (bd 0), .int (nI i)]) ++ List.replicate (2 - (lg_sl ([.ref (bd 0), .int (nI i)])).length) Slot.unset).toArray = ls at hl ⊢
  have hl : lv_has ls 2 [(0, .ref (bd 0)), (1, .int (nI i))] := hl
  refine lv_aload_n hx hb dX4_isEnding_0 rfl (lv_at hl 0 rfl) ?_
  refine rgO5 hx hb hf4 hown hK hP (hts (.fieldLink RX4 16 "MachineFoundryModel" "state" "[I") (by decide +kernel)) dX4_isEnding_1 ?_
  refine lv_iload_n hx hb dX4_isEnding_4 rfl (lv_at hl 1 rfl) ?_
  refine raO5 hx hb hK hP hi (rfl) dX4_isEnding_5 ?_
  refine lv_iconst (v := 3) hx hb dX4_isEnding_6 (by decide) ?_
  refine lv_icmp_eq (tgt := 31) hx hb dX4_isEnding_7 (by decide) (fun c_1 => ?_) (fun c_1 => ?_)
  · refine lv_iconst (v := 1) hx hb dX4_isEnding_31 (by decide) ?_
    refine lv_goto (tgt := 36) hx hb dX4_isEnding_32 (by decide) ?_
    have e9 : b2i (tEnds τ i) = 1 := by simp [b2i, tEnds, c_1]
    exact W.zret (v := 1) hx hb hr rfl (fun t ht hW => ⟨(), by rw [e9], trivial, ht⟩) (fun q h => nomatch h) dX4_isEnding_36
  · refine lv_aload_n hx hb dX4_isEnding_10 rfl (lv_at hl 0 rfl) ?_
    refine rgO5 hx hb hf4 hown hK hP (hts (.fieldLink RX4 16 "MachineFoundryModel" "state" "[I") (by decide +kernel)) dX4_isEnding_11 ?_
    refine lv_iload_n hx hb dX4_isEnding_14 rfl (lv_at hl 1 rfl) ?_
    refine raO5 hx hb hK hP hi (rfl) dX4_isEnding_15 ?_
    refine lv_iconst (v := 4) hx hb dX4_isEnding_16 (by decide) ?_
    refine lv_icmp_eq (tgt := 31) hx hb dX4_isEnding_17 (by decide) (fun c_2 => ?_) (fun c_2 => ?_)
    · refine lv_iconst (v := 1) hx hb dX4_isEnding_31 (by decide) ?_
      refine lv_goto (tgt := 36) hx hb dX4_isEnding_32 (by decide) ?_
      have e9 : b2i (tEnds τ i) = 1 := by simp [b2i, tEnds, c_1, c_2]
      exact W.zret (v := 1) hx hb hr rfl (fun t ht hW => ⟨(), by rw [e9], trivial, ht⟩) (fun q h => nomatch h) dX4_isEnding_36
    · refine lv_aload_n hx hb dX4_isEnding_20 rfl (lv_at hl 0 rfl) ?_
      refine rgO5 hx hb hf4 hown hK hP (hts (.fieldLink RX4 16 "MachineFoundryModel" "state" "[I") (by decide +kernel)) dX4_isEnding_21 ?_
      refine lv_iload_n hx hb dX4_isEnding_24 rfl (lv_at hl 1 rfl) ?_
      refine raO5 hx hb hK hP hi (rfl) dX4_isEnding_25 ?_
      refine lv_bipush (v := 6) hx hb dX4_isEnding_26 (by decide) ?_
      refine lv_icmp_ne (tgt := 35) hx hb dX4_isEnding_28 (by decide) (fun c_3 => ?_) (fun c_3 => ?_)
      · refine lv_iconst (v := 0) hx hb dX4_isEnding_35 (by decide) ?_
        have e9 : b2i (tEnds τ i) = 0 := by simp [b2i, tEnds, c_1, c_2, c_3]
        exact W.zret (v := 0) hx hb hr rfl (fun t ht hW => ⟨(), by rw [e9], trivial, ht⟩) (fun q h => nomatch h) dX4_isEnding_36
      · refine lv_iconst (v := 1) hx hb dX4_isEnding_31 (by decide) ?_
        refine lv_goto (tgt := 36) hx hb dX4_isEnding_32 (by decide) ?_
        have e9 : b2i (tEnds τ i) = 1 := by simp [b2i, tEnds, c_1, c_2, c_3]
        exact W.zret (v := 1) hx hb hr rfl (fun t ht hW => ⟨(), by rw [e9], trivial, ht⟩) (fun q h => nomatch h) dX4_isEnding_36
set_option maxHeartbeats 4000000 in
set_option maxRecDepth 100000 in
/-- kept -/
theorem c_X4_kept (l : Launch) (D : va_G) (cy : Nat → ClassId) (bd : Nat → Nat) (τ : Mem) : Met l yX4_kept wsX4_kept ({ frames := 0, cells := 0, slots := 0, locals := 0 }) (va_Pc [.ref (bd 0)] (mw D cy bd τ)) (SI (tKept τ)) 0 0 NoA := by
  refine Met.ofW (cc := cX4_kept) (maxL := 1) (ret := (some .int)) (by decide) rfl ?_
  intro p e s m args below meth c s₁ B hml hv
  obtain ⟨rfl, hP, hK⟩ := hv
  have hx := B.exec
  have hb := B.bytes
  have hr := B.returns
  have hts := atoms_spec (ws := wsX4_kept) B.pre
  have hown : s.vm.findClass RX4 = some m.cls := findClass_of_methodNamed B.named
  have hlocks := B.notSynchronized
  have hf4 := fun (w : Cond) (h : w ∈ wsX40) => hts w ((by decide +kernel : ∀ w ∈ wsX40, w ∈ wsX4_kept) w h)
  have hl := lv_entry ([.ref (bd 0)]) (n := 1) (Nat.le_of_ble_eq_true rfl)
  rw [lg_entry_eq]
  generalize (lg_sl ([.ref (bd 0)]) ++ List.replicate (1 - (lg_sl ([.ref (bd 0)])).length) Slot.unset).toArray = ls at hl ⊢
  have hl : lv_has ls 1 [(0, .ref (bd 0))] := hl
  refine lv_aload_n hx hb dX4_kept_0 rfl (lv_at hl 0 rfl) ?_
  refine rgO22 hx hb hf4 hown hK hP (hts (.fieldLink RX4 82 "MachineFoundryModel" "written" "I") (by decide +kernel)) (rfl) dX4_kept_1 ?_
  refine lv_bipush (v := 40) hx hb dX4_kept_4 (by decide) ?_
  refine lv_icmp_ge (tgt := 16) hx hb dX4_kept_6 (by decide) (fun c_1 => ?_) (fun c_1 => ?_)
  · have d_1 := Int32.not_lt.mpr c_1
    refine lv_bipush (v := 40) hx hb dX4_kept_16 (by decide) ?_
    have e9 : tKept τ = 40 := by simp [tKept, c_1, d_1]
    exact W.iret (v := 40) hx hb hr (fun t ht hW => ⟨(), by rw [e9], trivial, ht⟩) (fun q h => nomatch h) dX4_kept_18
  · have d_1 := Int32.not_le.mp c_1
    refine lv_aload_n hx hb dX4_kept_9 rfl (lv_at hl 0 rfl) ?_
    refine rgO22 hx hb hf4 hown hK hP (hts (.fieldLink RX4 82 "MachineFoundryModel" "written" "I") (by decide +kernel)) (rfl) dX4_kept_10 ?_
    refine lv_goto (tgt := 18) hx hb dX4_kept_13 (by decide) ?_
    have e9 : tKept τ = (τ 0 22) := by simp [tKept, c_1, d_1]
    exact W.iret (v := τ 0 22) hx hb hr (fun t ht hW => ⟨(), by rw [e9], trivial, ht⟩) (fun q h => nomatch h) dX4_kept_18
set_option maxHeartbeats 4000000 in
set_option maxRecDepth 100000 in
/-- thrown -/
theorem c_X4_thrown (l : Launch) (D : va_G) (cy : Nat → ClassId) (bd : Nat → Nat) (τ : Mem) : Met l yX4_thrown wsX4_thrown ({ frames := 0, cells := 0, slots := 0, locals := 0 }) (va_Pc [.ref (bd 0)] (mw D cy bd τ)) (SI (τ 0 25)) 0 0 NoA := by
  refine Met.ofW (cc := cX4_thrown) (maxL := 1) (ret := (some .int)) (by decide) rfl ?_
  intro p e s m args below meth c s₁ B hml hv
  obtain ⟨rfl, hP, hK⟩ := hv
  have hx := B.exec
  have hb := B.bytes
  have hr := B.returns
  have hts := atoms_spec (ws := wsX4_thrown) B.pre
  have hown : s.vm.findClass RX4 = some m.cls := findClass_of_methodNamed B.named
  have hlocks := B.notSynchronized
  have hf4 := fun (w : Cond) (h : w ∈ wsX40) => hts w ((by decide +kernel : ∀ w ∈ wsX40, w ∈ wsX4_thrown) w h)
  have hl := lv_entry ([.ref (bd 0)]) (n := 1) (Nat.le_of_ble_eq_true rfl)
  rw [lg_entry_eq]
  generalize (lg_sl ([.ref (bd 0)]) ++ List.replicate (1 - (lg_sl ([.ref (bd 0)])).length) Slot.unset).toArray = ls at hl ⊢
  have hl : lv_has ls 1 [(0, .ref (bd 0))] := hl
  refine lv_aload_n hx hb dX4_thrown_0 rfl (lv_at hl 0 rfl) ?_
  refine rgO25 hx hb hf4 hown hK hP (hts (.fieldLink RX4 75 "MachineFoundryModel" "thrown" "I") (by decide +kernel)) (rfl) dX4_thrown_1 ?_
  have e9 : τ 0 25 = (τ 0 25) := rfl
  exact W.iret (v := τ 0 25) hx hb hr (fun t ht hW => ⟨(), by rw [e9], trivial, ht⟩) (fun q h => nomatch h) dX4_thrown_4
