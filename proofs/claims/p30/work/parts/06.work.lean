set_option maxHeartbeats 4000000 in
set_option maxRecDepth 100000 in
/-- change -/
theorem c_X3_change (l : Launch) (D : va_G) (cy : Nat → ClassId) (ad : Nat → Nat) (hj : inj31 ad) (σ : Mem) (i : Nat) (hi : i < 16) (st : Int32) : Met l yX3_change wsX3_change ({ frames := 1, cells := 0, slots := 0, locals := 23 }) (va_Pc [.ref (ad 0), .ref (ad (i + 7)), .int st] (cw D cy ad σ)) (QV (va_P D vwCl (wC cy ad (sChg σ i st))) (AC ad)) 0 0 (AC ad) := by
  refine Met.ofW (cc := cX3_change) (maxL := 3) (ret := none) (by decide) rfl ?_
  intro p e s m args below meth c s₁ B hml hv
  obtain ⟨rfl, hP, hK⟩ := hv
  have hx := B.exec
  have hb := B.bytes
  have hr := B.returns
  have hts := atoms_spec (ws := wsX3_change) B.pre
  have hown : s.vm.findClass RX3 = some m.cls := findClass_of_methodNamed B.named
  have hlocks := B.notSynchronized
  have hf2 := fun (w : Cond) (h : w ∈ wsX20) => hts w ((by decide +kernel : ∀ w ∈ wsX20, w ∈ wsX3_change) w h)
  have hf3 := fun (w : Cond) (h : w ∈ wsX30) => hts w ((by decide +kernel : ∀ w ∈ wsX30, w ∈ wsX3_change) w h)
  have hD := wC_D (cy := cy) hj
  have hS : va_S (AC ad) s.heap s.heap [] := va_S.rf
  have hl := lv_entry ([.ref (ad 0), .ref (ad (i + 7)), .int st]) (n := 3) (Nat.le_of_ble_eq_true rfl)
  rw [lg_entry_eq]
  generalize (lg_sl ([.ref (ad 0), .ref (ad (i + 7)), .int st]) ++ List.replicate (3 - (lg_sl ([.ref (ad 0), .ref (ad (i + 7)), .int st])).length) Slot.unset).toArray = ls at hl ⊢
  have hl : lv_has ls 3 [(0, .ref (ad 0)), (1, .ref (ad (i + 7))), (2, .int st)] := hl
  refine lv_aload_n hx hb dX3_change_0 rfl (lv_at hl 0 rfl) ?_
  refine rgF3 hx hb hf3 hown hK hP (hts (.fieldLink RX3 28 "MachineFoundry" "journal" "LMachineFoundry$Journal;") (by decide +kernel)) dX3_change_1 ?_
  refine lv_aload_n hx hb dX3_change_4 rfl (lv_at hl 1 rfl) ?_
  refine rgM0 hx hb hf2 hown hK hP hi (hts (.fieldLink RX3 191 "MachineFoundry$Machine" "number" "I") (by decide +kernel)) dX3_change_5 ?_
  refine lv_aload_n hx hb dX3_change_8 rfl (lv_at hl 1 rfl) ?_
  refine rgM1 hx hb hf2 hown hK hP hi (hts (.fieldLink RX3 117 "MachineFoundry$Machine" "state" "I") (by decide +kernel)) (rfl) dX3_change_9 ?_
  refine cMv (va_runV (As := [.int (nI i), .int (σ 1 i)]) (rest := []) ⟨hx, hb, hml, hown, hts⟩ (c_X1_add l D cy ad hj σ (nI i) (σ 1 i)) (cwV 2 hts gX3_change_X1_add rfl rfl rfl (by decide +kernel) ⟨Nat.le_of_ble_eq_true rfl, Nat.le_of_ble_eq_true rfl⟩) ⟨cw_bl, (cw_J hP hK), (cw_at hP hK)⟩ rfl rfl hl.1 rfl (lv_room (Nat.le_of_ble_eq_true rfl)) dX3_change_12 ⟨Nat.le_of_ble_eq_true rfl, Nat.le_of_ble_eq_true rfl⟩) hS (fun H locs hP hS => ?_)
  refine W.eq (g2 := F0 m 15 ls []) rfl ?_
  refine lv_aload_n hx hb dX3_change_15 rfl (lv_at hl 1 rfl) ?_
  refine lv_iload_n hx hb dX3_change_16 rfl (lv_at hl 2 rfl) ?_
  refine rpM1 hx hb hf2 hown hK hP hD hS hi (hts (.fieldLink RX3 117 "MachineFoundry$Machine" "state" "I") (by decide +kernel)) dX3_change_17 (fun H locs hP hS => ?_)
  have e8 : sChg σ i st = up2 (sAdd σ (nI i) (σ 1 i)) 1 i st := by simp [sChg, sAdd, up2, sh]
  rw [← e8] at hP
  exact W.vret hx hb hr (fun t ht hW => ⟨⟨(), rfl, trivial, by rw [← ht] at hP; exact hP⟩, hS.F ht⟩) hS.2.2 dX3_change_20
set_option maxHeartbeats 4000000 in
set_option maxRecDepth 100000 in
/-- drawTicket -/
theorem c_X3_drawTicket (l : Launch) (D : va_G) (cy : Nat → ClassId) (ad : Nat → Nat) (hj : inj31 ad) (σ : Mem) : Met l yX3_drawTicket wsX3_drawTicket ({ frames := 0, cells := 0, slots := 0, locals := 0 }) (va_Pc [.ref (ad 0)] (cw D cy ad σ)) (QI (σ 20 8 + 1) (va_P D vwCl (wC cy ad (sDraw σ))) (AC ad)) 0 0 (AC ad) := by
  refine Met.ofW (cc := cX3_drawTicket) (maxL := 1) (ret := (some .int)) (by decide) rfl ?_
  intro p e s m args below meth c s₁ B hml hv
  obtain ⟨rfl, hP, hK⟩ := hv
  have hx := B.exec
  have hb := B.bytes
  have hr := B.returns
  have hts := atoms_spec (ws := wsX3_drawTicket) B.pre
  have hown : s.vm.findClass RX3 = some m.cls := findClass_of_methodNamed B.named
  have hlocks := B.notSynchronized
  have hf3 := fun (w : Cond) (h : w ∈ wsX30) => hts w ((by decide +kernel : ∀ w ∈ wsX30, w ∈ wsX3_drawTicket) w h)
  have hD := wC_D (cy := cy) hj
  have hS : va_S (AC ad) s.heap s.heap [] := va_S.rf
  have hl := lv_entry ([.ref (ad 0)]) (n := 1) (Nat.le_of_ble_eq_true rfl)
  rw [lg_entry_eq]
  generalize (lg_sl ([.ref (ad 0)]) ++ List.replicate (1 - (lg_sl ([.ref (ad 0)])).length) Slot.unset).toArray = ls at hl ⊢
  have hl : lv_has ls 1 [(0, .ref (ad 0))] := hl
  refine lv_aload_n hx hb dX3_drawTicket_0 rfl (lv_at hl 0 rfl) ?_
  refine lv_dup hx hb dX3_drawTicket_1 rfl ?_
  refine rgF8 hx hb hf3 hown hK hP (hts (.fieldLink RX3 45 "MachineFoundry" "lastTicket" "I") (by decide +kernel)) (rfl) dX3_drawTicket_2 ?_
  refine lv_iconst (v := 1) hx hb dX3_drawTicket_5 (by decide) ?_
  refine lv_iadd hx hb dX3_drawTicket_6 ?_
  refine rpF8 hx hb hf3 hown hK hP hD hS (hts (.fieldLink RX3 45 "MachineFoundry" "lastTicket" "I") (by decide +kernel)) dX3_drawTicket_7 (fun H locs hP hS => ?_)
  refine lv_aload_n hx hb dX3_drawTicket_10 rfl (lv_at hl 0 rfl) ?_
  refine rgF8 (x := (σ 20 8) + 1) hx hb hf3 hown hK hP (hts (.fieldLink RX3 45 "MachineFoundry" "lastTicket" "I") (by decide +kernel)) (by simp [up2]) dX3_drawTicket_11 ?_
  have e8 : sDraw σ = up2 σ 20 8 ((σ 20 8) + 1) := by simp [sDraw, up2]
  rw [← e8] at hP
  have e9 : ((σ 20 8) + 1) = σ 20 8 + 1 := by simp [sDraw, up2]
  exact W.iret (v := (σ 20 8) + 1) hx hb hr (fun t ht hW => ⟨⟨_, (), rfl, e9, by rw [← ht] at hP; exact hP⟩, hS.F ht⟩) hS.2.2 dX3_drawTicket_14
set_option maxHeartbeats 4000000 in
set_option maxRecDepth 100000 in
/-- enqueue -/
theorem c_X3_enqueue (l : Launch) (D : va_G) (cy : Nat → ClassId) (ad : Nat → Nat) (hj : inj31 ad) (σ : Mem) (i : Nat) (hi : i < 16) : Met l yX3_enqueue wsX3_enqueue ({ frames := 2, cells := 0, slots := 0, locals := 45 }) (va_Pc [.ref (ad 0), .ref (ad (i + 7))] (cw D cy ad σ)) (QV (va_P D vwCl (wC cy ad (sEnq σ i))) (AC ad)) 0 0 (AC ad) := by
  refine Met.ofW (cc := cX3_enqueue) (maxL := 2) (ret := none) (by decide) rfl ?_
  intro p e s m args below meth c s₁ B hml hv
  obtain ⟨rfl, hP, hK⟩ := hv
  have hx := B.exec
  have hb := B.bytes
  have hr := B.returns
  have hts := atoms_spec (ws := wsX3_enqueue) B.pre
  have hown : s.vm.findClass RX3 = some m.cls := findClass_of_methodNamed B.named
  have hlocks := B.notSynchronized
  have hf2 := fun (w : Cond) (h : w ∈ wsX20) => hts w ((by decide +kernel : ∀ w ∈ wsX20, w ∈ wsX3_enqueue) w h)
  have hD := wC_D (cy := cy) hj
  have hS : va_S (AC ad) s.heap s.heap [] := va_S.rf
  have hl := lv_entry ([.ref (ad 0), .ref (ad (i + 7))]) (n := 2) (Nat.le_of_ble_eq_true rfl)
  rw [lg_entry_eq]
  generalize (lg_sl ([.ref (ad 0), .ref (ad (i + 7))]) ++ List.replicate (2 - (lg_sl ([.ref (ad 0), .ref (ad (i + 7))])).length) Slot.unset).toArray = ls at hl ⊢
  have hl : lv_has ls 2 [(0, .ref (ad 0)), (1, .ref (ad (i + 7)))] := hl
  refine lv_aload_n hx hb dX3_enqueue_0 rfl (lv_at hl 1 rfl) ?_
  refine lv_aload_n hx hb dX3_enqueue_1 rfl (lv_at hl 0 rfl) ?_
  refine cMi (va_runV (As := []) (rest := [.ref (ad (i + 7))]) ⟨hx, hb, hml, hown, hts⟩ (c_X3_drawTicket l D cy ad hj σ) (cwV 0 hts gX3_enqueue_X3_drawTicket rfl rfl rfl (by decide +kernel) ⟨Nat.le_of_ble_eq_true rfl, Nat.le_of_ble_eq_true rfl⟩) ⟨cw_bl, (cw_F hP hK), (cw_at hP hK)⟩ rfl rfl hl.1 rfl (lv_room (Nat.le_of_ble_eq_true rfl)) dX3_enqueue_2 ⟨Nat.le_of_ble_eq_true rfl, Nat.le_of_ble_eq_true rfl⟩) hS (fun H locs hP hS => ?_)
  refine W.eq (g2 := F0 m 5 ls [.int (σ 20 8 + 1), .ref (ad (i + 7))]) rfl ?_
  refine rpM9 hx hb hf2 hown hK hP hD hS hi (hts (.fieldLink RX3 222 "MachineFoundry$Machine" "ticket" "I") (by decide +kernel)) dX3_enqueue_5 (fun H locs hP hS => ?_)
  refine lv_aload_n hx hb dX3_enqueue_8 rfl (lv_at hl 0 rfl) ?_
  refine lv_aload_n hx hb dX3_enqueue_9 rfl (lv_at hl 1 rfl) ?_
  refine lv_iconst (v := 2) hx hb dX3_enqueue_10 (by decide) ?_
  refine cMv (va_runV (As := [.ref (ad (i + 7)), .int 2]) (rest := []) ⟨hx, hb, hml, hown, hts⟩ (c_X3_change l D cy ad hj (up2 (sDraw σ) 9 i (σ 20 8 + 1)) i hi 2) (cwV 2 hts gX3_enqueue_X3_change rfl rfl rfl (by decide +kernel) ⟨Nat.le_of_ble_eq_true rfl, Nat.le_of_ble_eq_true rfl⟩) ⟨cw_bl, (cw_F hP hK), (cw_at hP hK)⟩ rfl rfl hl.1 rfl (lv_room (Nat.le_of_ble_eq_true rfl)) dX3_enqueue_11 ⟨Nat.le_of_ble_eq_true rfl, Nat.le_of_ble_eq_true rfl⟩) hS (fun H locs hP hS => ?_)
  refine W.eq (g2 := F0 m 14 ls []) rfl ?_
  have e8 : sEnq σ i = sChg (up2 (sDraw σ) 9 i (σ 20 8 + 1)) i 2 := by rfl
  rw [← e8] at hP
  exact W.vret hx hb hr (fun t ht hW => ⟨⟨(), rfl, trivial, by rw [← ht] at hP; exact hP⟩, hS.F ht⟩) hS.2.2 dX3_enqueue_14
set_option maxHeartbeats 4000000 in
set_option maxRecDepth 100000 in
/-- fail -/
theorem c_X3_fail (l : Launch) (D : va_G) (cy : Nat → ClassId) (ad : Nat → Nat) (hj : inj31 ad) (σ : Mem) (i : Nat) (hi : i < 16) : Met l yX3_fail wsX3_fail ({ frames := 2, cells := 0, slots := 0, locals := 45 }) (va_Pc [.ref (ad 0), .ref (ad (i + 7))] (cw D cy ad σ)) (QV (va_P D vwCl (wC cy ad (sFail σ i))) (AC ad)) 0 0 (AC ad) := by
  refine Met.ofW (cc := cX3_fail) (maxL := 2) (ret := none) (by decide) rfl ?_
  intro p e s m args below meth c s₁ B hml hv
  obtain ⟨rfl, hP, hK⟩ := hv
  have hx := B.exec
  have hb := B.bytes
  have hr := B.returns
  have hts := atoms_spec (ws := wsX3_fail) B.pre
  have hown : s.vm.findClass RX3 = some m.cls := findClass_of_methodNamed B.named
  have hlocks := B.notSynchronized
  have hf2 := fun (w : Cond) (h : w ∈ wsX20) => hts w ((by decide +kernel : ∀ w ∈ wsX20, w ∈ wsX3_fail) w h)
  have hf3 := fun (w : Cond) (h : w ∈ wsX30) => hts w ((by decide +kernel : ∀ w ∈ wsX30, w ∈ wsX3_fail) w h)
  have hD := wC_D (cy := cy) hj
  have hS : va_S (AC ad) s.heap s.heap [] := va_S.rf
  have hl := lv_entry ([.ref (ad 0), .ref (ad (i + 7))]) (n := 2) (Nat.le_of_ble_eq_true rfl)
  rw [lg_entry_eq]
  generalize (lg_sl ([.ref (ad 0), .ref (ad (i + 7))]) ++ List.replicate (2 - (lg_sl ([.ref (ad 0), .ref (ad (i + 7))])).length) Slot.unset).toArray = ls at hl ⊢
  have hl : lv_has ls 2 [(0, .ref (ad 0)), (1, .ref (ad (i + 7)))] := hl
  refine lv_aload_n hx hb dX3_fail_0 rfl (lv_at hl 1 rfl) ?_
  refine lv_dup hx hb dX3_fail_1 rfl ?_
  refine rgM6 hx hb hf2 hown hK hP hi (hts (.fieldLink RX3 141 "MachineFoundry$Machine" "failures" "I") (by decide +kernel)) (rfl) dX3_fail_2 ?_
  refine lv_iconst (v := 1) hx hb dX3_fail_5 (by decide) ?_
  refine lv_iadd hx hb dX3_fail_6 ?_
  refine rpM6 hx hb hf2 hown hK hP hD hS hi (hts (.fieldLink RX3 141 "MachineFoundry$Machine" "failures" "I") (by decide +kernel)) dX3_fail_7 (fun H locs hP hS => ?_)
  refine lv_aload_n hx hb dX3_fail_10 rfl (lv_at hl 1 rfl) ?_
  refine rgM6 (x := (σ 6 i) + 1) hx hb hf2 hown hK hP hi (hts (.fieldLink RX3 141 "MachineFoundry$Machine" "failures" "I") (by decide +kernel)) (by simp [up2]) dX3_fail_11 ?_
  refine lv_aload_n hx hb dX3_fail_14 rfl (lv_at hl 0 rfl) ?_
  refine rgF5 (x := σ 20 5) hx hb hf3 hown hK hP (hts (.fieldLink RX3 36 "MachineFoundry" "mostFailures" "I") (by decide +kernel)) (by simp [up2]) dX3_fail_15 ?_
  refine lv_icmp_lt (tgt := 31) hx hb dX3_fail_18 (by decide) (fun c_1 => ?_) (fun c_1 => ?_)
  · have d_1 := Int32.not_le.mpr c_1
    refine lv_aload_n hx hb dX3_fail_31 rfl (lv_at hl 1 rfl) ?_
    refine lv_aload_n hx hb dX3_fail_32 rfl (lv_at hl 0 rfl) ?_
    refine rgF6 (x := σ 20 6) hx hb hf3 hown hK hP (hts (.fieldLink RX3 39 "MachineFoundry" "hour" "I") (by decide +kernel)) (by simp [up2]) dX3_fail_33 ?_
    refine lv_aload_n hx hb dX3_fail_36 rfl (lv_at hl 0 rfl) ?_
    refine rgF4 (x := σ 20 4) hx hb hf3 hown hK hP (hts (.fieldLink RX3 32 "MachineFoundry" "firstBackoff" "I") (by decide +kernel)) (by simp [up2]) dX3_fail_37 ?_
    refine lv_aload_n hx hb dX3_fail_40 rfl (lv_at hl 1 rfl) ?_
    refine rgM6 (x := (σ 6 i) + 1) hx hb hf2 hown hK hP hi (hts (.fieldLink RX3 141 "MachineFoundry$Machine" "failures" "I") (by decide +kernel)) (by simp [up2]) dX3_fail_41 ?_
    refine lv_iconst (v := 1) hx hb dX3_fail_44 (by decide) ?_
    refine lv_isub hx hb dX3_fail_45 ?_
    refine lv_ishl hx hb dX3_fail_46 ?_
    refine lv_iadd hx hb dX3_fail_47 ?_
    refine rpM8 hx hb hf2 hown hK hP hD hS hi (hts (.fieldLink RX3 152 "MachineFoundry$Machine" "end" "I") (by decide +kernel)) dX3_fail_48 (fun H locs hP hS => ?_)
    refine lv_aload_n hx hb dX3_fail_51 rfl (lv_at hl 0 rfl) ?_
    refine lv_aload_n hx hb dX3_fail_52 rfl (lv_at hl 1 rfl) ?_
    refine lv_iconst (v := 4) hx hb dX3_fail_53 (by decide) ?_
    refine cMv (va_runV (As := [.ref (ad (i + 7)), .int 4]) (rest := []) ⟨hx, hb, hml, hown, hts⟩ (c_X3_change l D cy ad hj (up2 (up2 σ 6 i ((σ 6 i) + 1)) 8 i ((σ 20 6) + ((σ 20 4) <<< ((((σ 6 i) + 1) - 1) &&& 31)))) i hi 4) (cwV 2 hts gX3_fail_X3_change rfl rfl rfl (by decide +kernel) ⟨Nat.le_of_ble_eq_true rfl, Nat.le_of_ble_eq_true rfl⟩) ⟨cw_bl, (cw_F hP hK), (cw_at hP hK)⟩ rfl rfl hl.1 rfl (lv_room (Nat.le_of_ble_eq_true rfl)) dX3_fail_54 ⟨Nat.le_of_ble_eq_true rfl, Nat.le_of_ble_eq_true rfl⟩) hS (fun H locs hP hS => ?_)
    refine W.eq (g2 := F0 m 57 ls []) rfl ?_
    have e8 : sFail σ i = sChg (up2 (up2 σ 6 i ((σ 6 i) + 1)) 8 i ((σ 20 6) + ((σ 20 4) <<< ((((σ 6 i) + 1) - 1) &&& 31)))) i 4 := by simp [sFail, c_1, d_1]
    rw [← e8] at hP
    exact W.vret hx hb hr (fun t ht hW => ⟨⟨(), rfl, trivial, by rw [← ht] at hP; exact hP⟩, hS.F ht⟩) hS.2.2 dX3_fail_57
  · have d_1 := Int32.not_lt.mp c_1
    refine lv_aload_n hx hb dX3_fail_21 rfl (lv_at hl 0 rfl) ?_
    refine lv_aload_n hx hb dX3_fail_22 rfl (lv_at hl 1 rfl) ?_
    refine lv_bipush (v := 7) hx hb dX3_fail_23 (by decide) ?_
    refine cMv (va_runV (As := [.ref (ad (i + 7)), .int 7]) (rest := []) ⟨hx, hb, hml, hown, hts⟩ (c_X3_change l D cy ad hj (up2 σ 6 i ((σ 6 i) + 1)) i hi 7) (cwV 2 hts gX3_fail_X3_change rfl rfl rfl (by decide +kernel) ⟨Nat.le_of_ble_eq_true rfl, Nat.le_of_ble_eq_true rfl⟩) ⟨cw_bl, (cw_F hP hK), (cw_at hP hK)⟩ rfl rfl hl.1 rfl (lv_room (Nat.le_of_ble_eq_true rfl)) dX3_fail_25 ⟨Nat.le_of_ble_eq_true rfl, Nat.le_of_ble_eq_true rfl⟩) hS (fun H locs hP hS => ?_)
    refine W.eq (g2 := F0 m 28 ls []) rfl ?_
    refine lv_goto (tgt := 57) hx hb dX3_fail_28 (by decide) ?_
    have e8 : sFail σ i = sChg (up2 σ 6 i ((σ 6 i) + 1)) i 7 := by simp [sFail, c_1, d_1]
    rw [← e8] at hP
    exact W.vret hx hb hr (fun t ht hW => ⟨⟨(), rfl, trivial, by rw [← ht] at hP; exact hP⟩, hS.F ht⟩) hS.2.2 dX3_fail_57
set_option maxHeartbeats 4000000 in
set_option maxRecDepth 100000 in
/-- wipe -/
theorem c_X3_wipe (l : Launch) (D : va_G) (cy : Nat → ClassId) (ad : Nat → Nat) (hj : inj31 ad) (σ : Mem) (i : Nat) (hi : i < 16) : Met l yX3_wipe wsX3_wipe ({ frames := 2, cells := 0, slots := 0, locals := 45 }) (va_Pc [.ref (ad 0), .ref (ad (i + 7))] (cw D cy ad σ)) (QV (va_P D vwCl (wC cy ad (sWipe σ i))) (AC ad)) 0 0 (AC ad) := by
  refine Met.ofW (cc := cX3_wipe) (maxL := 2) (ret := none) (by decide) rfl ?_
  intro p e s m args below meth c s₁ B hml hv
  obtain ⟨rfl, hP, hK⟩ := hv
  have hx := B.exec
  have hb := B.bytes
  have hr := B.returns
  have hts := atoms_spec (ws := wsX3_wipe) B.pre
  have hown : s.vm.findClass RX3 = some m.cls := findClass_of_methodNamed B.named
  have hlocks := B.notSynchronized
  have hf3 := fun (w : Cond) (h : w ∈ wsX30) => hts w ((by decide +kernel : ∀ w ∈ wsX30, w ∈ wsX3_wipe) w h)
  have hD := wC_D (cy := cy) hj
  have hS : va_S (AC ad) s.heap s.heap [] := va_S.rf
  have hl := lv_entry ([.ref (ad 0), .ref (ad (i + 7))]) (n := 2) (Nat.le_of_ble_eq_true rfl)
  rw [lg_entry_eq]
  generalize (lg_sl ([.ref (ad 0), .ref (ad (i + 7))]) ++ List.replicate (2 - (lg_sl ([.ref (ad 0), .ref (ad (i + 7))])).length) Slot.unset).toArray = ls at hl ⊢
  have hl : lv_has ls 2 [(0, .ref (ad 0)), (1, .ref (ad (i + 7)))] := hl
  refine lv_aload_n hx hb dX3_wipe_0 rfl (lv_at hl 0 rfl) ?_
  refine lv_dup hx hb dX3_wipe_1 rfl ?_
  refine rgF7 hx hb hf3 hown hK hP (hts (.fieldLink RX3 42 "MachineFoundry" "wipeCount" "I") (by decide +kernel)) (rfl) dX3_wipe_2 ?_
  refine lv_iconst (v := 1) hx hb dX3_wipe_5 (by decide) ?_
  refine lv_iadd hx hb dX3_wipe_6 ?_
  refine rpF7 hx hb hf3 hown hK hP hD hS (hts (.fieldLink RX3 42 "MachineFoundry" "wipeCount" "I") (by decide +kernel)) dX3_wipe_7 (fun H locs hP hS => ?_)
  refine lv_aload_n hx hb dX3_wipe_10 rfl (lv_at hl 0 rfl) ?_
  refine lv_aload_n hx hb dX3_wipe_11 rfl (lv_at hl 1 rfl) ?_
  refine lv_iconst (v := 1) hx hb dX3_wipe_12 (by decide) ?_
  refine cMv (va_runV (As := [.ref (ad (i + 7)), .int 1]) (rest := []) ⟨hx, hb, hml, hown, hts⟩ (c_X3_change l D cy ad hj (up2 σ 20 7 ((σ 20 7) + 1)) i hi 1) (cwV 2 hts gX3_wipe_X3_change rfl rfl rfl (by decide +kernel) ⟨Nat.le_of_ble_eq_true rfl, Nat.le_of_ble_eq_true rfl⟩) ⟨cw_bl, (cw_F hP hK), (cw_at hP hK)⟩ rfl rfl hl.1 rfl (lv_room (Nat.le_of_ble_eq_true rfl)) dX3_wipe_13 ⟨Nat.le_of_ble_eq_true rfl, Nat.le_of_ble_eq_true rfl⟩) hS (fun H locs hP hS => ?_)
  refine W.eq (g2 := F0 m 16 ls []) rfl ?_
  have e8 : sWipe σ i = sChg (up2 σ 20 7 ((σ 20 7) + 1)) i 1 := by rfl
  rw [← e8] at hP
  exact W.vret hx hb hr (fun t ht hW => ⟨⟨(), rfl, trivial, by rw [← ht] at hP; exact hP⟩, hS.F ht⟩) hS.2.2 dX3_wipe_16
set_option maxHeartbeats 4000000 in
set_option maxRecDepth 100000 in
/-- begin -/
theorem c_X3_begin (l : Launch) (D : va_G) (cy : Nat → ClassId) (ad : Nat → Nat) (hj : inj31 ad) (σ : Mem) (i : Nat) (hi : i < 16) : Met l yX3_begin wsX3_begin ({ frames := 2, cells := 0, slots := 0, locals := 45 }) (va_Pc [.ref (ad 0), .ref (ad (i + 7))] (cw D cy ad σ)) (QV (va_P D vwCl (wC cy ad (sBeg σ i))) (AC ad)) 0 0 (AC ad) := by
  refine Met.ofW (cc := cX3_begin) (maxL := 3) (ret := none) (by decide) rfl ?_
  intro p e s m args below meth c s₁ B hml hv
  obtain ⟨rfl, hP, hK⟩ := hv
  have hx := B.exec
  have hb := B.bytes
  have hr := B.returns
  have hts := atoms_spec (ws := wsX3_begin) B.pre
  have hown : s.vm.findClass RX3 = some m.cls := findClass_of_methodNamed B.named
  have hlocks := B.notSynchronized
  have hf0 := fun (w : Cond) (h : w ∈ wsX00) => hts w ((by decide +kernel : ∀ w ∈ wsX00, w ∈ wsX3_begin) w h)
  have hf2 := fun (w : Cond) (h : w ∈ wsX20) => hts w ((by decide +kernel : ∀ w ∈ wsX20, w ∈ wsX3_begin) w h)
  have hf3 := fun (w : Cond) (h : w ∈ wsX30) => hts w ((by decide +kernel : ∀ w ∈ wsX30, w ∈ wsX3_begin) w h)
  have hD := wC_D (cy := cy) hj
  have hS : va_S (AC ad) s.heap s.heap [] := va_S.rf
  have hl := lv_entry ([.ref (ad 0), .ref (ad (i + 7))]) (n := 3) (Nat.le_of_ble_eq_true rfl)
  rw [lg_entry_eq]
  generalize (lg_sl ([.ref (ad 0), .ref (ad (i + 7))]) ++ List.replicate (3 - (lg_sl ([.ref (ad 0), .ref (ad (i + 7))])).length) Slot.unset).toArray = ls at hl ⊢
  have hl : lv_has ls 3 [(0, .ref (ad 0)), (1, .ref (ad (i + 7)))] := hl
  refine lv_aload_n hx hb dX3_begin_0 rfl (lv_at hl 0 rfl) ?_
  refine lv_aload_n hx hb dX3_begin_1 rfl (lv_at hl 1 rfl) ?_
  refine cS (W.runV (As := [.ref (ad (i + 7))]) (rest := []) ⟨hx, hb, hml, hown, hts⟩ (c_X3_matchFor l D cy ad σ i hi) (cwV 1 hts gX3_begin_X3_matchFor rfl rfl rfl (by decide +kernel) ⟨Nat.le_of_ble_eq_true rfl, Nat.le_of_ble_eq_true rfl⟩) ⟨cw_bl, (cw_F hP hK), (cw_at hP hK)⟩ rfl rfl hl.1 rfl (lv_room (Nat.le_of_ble_eq_true rfl)) dX3_begin_2 ⟨Nat.le_of_ble_eq_true rfl, Nat.le_of_ble_eq_true rfl⟩) (fun _ _ => ?_)
  rcases hob1 : sBst σ i with _ | b1
  · refine W.eq (g2 := F0 m 5 ls [.null]) rfl ?_
    refine lv_astore_nN (lv' := [(2, .null), (0, .ref (ad 0)), (1, .ref (ad (i + 7)))]) hx hb dX3_begin_5 rfl hl (by decide) rfl (fun ls hl => ?_)
    refine lv_aload_nN hx hb dX3_begin_6 rfl (lv_at hl 0 rfl) ?_
    refine lv_ifnonnullN hx hb dX3_begin_7 ?_
    refine lv_aload_n hx hb dX3_begin_10 rfl (lv_at hl 1 rfl) ?_
    refine lv_aload_n hx hb dX3_begin_11 rfl (lv_at hl 2 rfl) ?_
    refine lv_iconst (v := 1) hx hb dX3_begin_12 (by decide) ?_
    refine cMv (va_runV (As := [.ref (ad (i + 7)), .int 1]) (rest := []) ⟨hx, hb, hml, hown, hts⟩ (c_X3_change l D cy ad hj σ i hi 1) (cwV 2 hts gX3_begin_X3_change rfl rfl rfl (by decide +kernel) ⟨Nat.le_of_ble_eq_true rfl, Nat.le_of_ble_eq_true rfl⟩) ⟨cw_bl, (cw_F hP hK), (cw_at hP hK)⟩ rfl rfl hl.1 rfl (lv_room (Nat.le_of_ble_eq_true rfl)) dX3_begin_13 ⟨Nat.le_of_ble_eq_true rfl, Nat.le_of_ble_eq_true rfl⟩) hS (fun H locs hP hS => ?_)
    refine W.eq (g2 := F0 m 16 ls []) rfl ?_
    refine lv_goto (tgt := 46) hx hb dX3_begin_16 (by decide) ?_
    have e8 : sBeg σ i = sChg σ i 1 := by exact sBeg_none hob1
    rw [← e8] at hP
    exact W.vret hx hb hr (fun t ht hW => ⟨⟨(), rfl, trivial, by rw [← ht] at hP; exact hP⟩, hS.F ht⟩) hS.2.2 dX3_begin_46
  · have hb1 := bst_lt (n := 8) hob1
    refine W.eq (g2 := F0 m 5 ls [.ref (ad (b1 + 23))]) rfl ?_
    refine lv_astore_n (lv' := [(2, .ref (ad (b1 + 23))), (0, .ref (ad 0)), (1, .ref (ad (i + 7)))]) hx hb dX3_begin_5 rfl hl (by decide) rfl (fun ls hl => ?_)
    refine lv_aload_n hx hb dX3_begin_6 rfl (lv_at hl 0 rfl) ?_
    refine lv_ifnonnull (tgt := 19) hx hb dX3_begin_7 (by decide) ?_
    refine lv_aload_n hx hb dX3_begin_19 rfl (lv_at hl 2 rfl) ?_
    refine lv_aload_n hx hb dX3_begin_20 rfl (lv_at hl 0 rfl) ?_
    refine rgI0 hx hb hf0 hown hK hP hb1 (hts (.fieldLink RX3 169 "MachineFoundry$Image" "number" "I") (by decide +kernel)) dX3_begin_21 ?_
    refine rpM7 hx hb hf2 hown hK hP hD hS hi (hts (.fieldLink RX3 176 "MachineFoundry$Machine" "image" "I") (by decide +kernel)) dX3_begin_24 (fun H locs hP hS => ?_)
    refine lv_aload_n hx hb dX3_begin_27 rfl (lv_at hl 2 rfl) ?_
    refine lv_aload_n hx hb dX3_begin_28 rfl (lv_at hl 1 rfl) ?_
    refine rgF6 (x := σ 20 6) hx hb hf3 hown hK hP (hts (.fieldLink RX3 39 "MachineFoundry" "hour" "I") (by decide +kernel)) (by simp [up2]) dX3_begin_29 ?_
    refine lv_aload_n hx hb dX3_begin_32 rfl (lv_at hl 0 rfl) ?_
    refine rgI7 (x := σ 17 b1) hx hb hf0 hown hK hP hb1 (hts (.fieldLink RX3 64 "MachineFoundry$Image" "time" "I") (by decide +kernel)) (by simp [up2]) dX3_begin_33 ?_
    refine lv_iadd hx hb dX3_begin_36 ?_
    refine rpM8 hx hb hf2 hown hK hP hD hS hi (hts (.fieldLink RX3 152 "MachineFoundry$Machine" "end" "I") (by decide +kernel)) dX3_begin_37 (fun H locs hP hS => ?_)
    refine lv_aload_n hx hb dX3_begin_40 rfl (lv_at hl 1 rfl) ?_
    refine lv_aload_n hx hb dX3_begin_41 rfl (lv_at hl 2 rfl) ?_
    refine lv_iconst (v := 3) hx hb dX3_begin_42 (by decide) ?_
    refine cMv (va_runV (As := [.ref (ad (i + 7)), .int 3]) (rest := []) ⟨hx, hb, hml, hown, hts⟩ (c_X3_change l D cy ad hj (up2 (up2 σ 7 i (nI b1)) 8 i ((σ 20 6) + (σ 17 b1))) i hi 3) (cwV 2 hts gX3_begin_X3_change rfl rfl rfl (by decide +kernel) ⟨Nat.le_of_ble_eq_true rfl, Nat.le_of_ble_eq_true rfl⟩) ⟨cw_bl, (cw_F hP hK), (cw_at hP hK)⟩ rfl rfl hl.1 rfl (lv_room (Nat.le_of_ble_eq_true rfl)) dX3_begin_43 ⟨Nat.le_of_ble_eq_true rfl, Nat.le_of_ble_eq_true rfl⟩) hS (fun H locs hP hS => ?_)
    refine W.eq (g2 := F0 m 46 ls []) rfl ?_
    have e8 : sBeg σ i = sChg (up2 (up2 σ 7 i (nI b1)) 8 i ((σ 20 6) + (σ 17 b1))) i 3 := by exact sBeg_some hob1
    rw [← e8] at hP
    exact W.vret hx hb hr (fun t ht hW => ⟨⟨(), rfl, trivial, by rw [← ht] at hP; exact hP⟩, hS.F ht⟩) hS.2.2 dX3_begin_46
set_option maxHeartbeats 4000000 in
set_option maxRecDepth 100000 in
/-- answerReport -/
theorem c_X3_answerReport (l : Launch) (D : va_G) (cy : Nat → ClassId) (ad : Nat → Nat) (hj : inj31 ad) (σ : Mem) (i : Nat) (hi : i < 16) (mv : Bool) : Met l yX3_answerReport wsX3_answerReport ({ frames := 3, cells := 0, slots := 0, locals := 66 }) (va_Pc [.ref (ad 0), .ref (ad (i + 7)), .int (b2i mv)] (cw D cy ad σ)) (QV (va_P D vwCl (wC cy ad (sAns σ i mv))) (AC ad)) 0 0 (AC ad) := by
  refine Met.ofW (cc := cX3_answerReport) (maxL := 3) (ret := none) (by decide) rfl ?_
  intro p e s m args below meth c s₁ B hml hv
  obtain ⟨rfl, hP, hK⟩ := hv
  have hx := B.exec
  have hb := B.bytes
  have hr := B.returns
  have hts := atoms_spec (ws := wsX3_answerReport) B.pre
  have hown : s.vm.findClass RX3 = some m.cls := findClass_of_methodNamed B.named
  have hlocks := B.notSynchronized
  have hf2 := fun (w : Cond) (h : w ∈ wsX20) => hts w ((by decide +kernel : ∀ w ∈ wsX20, w ∈ wsX3_answerReport) w h)
  have hD := wC_D (cy := cy) hj
  have hS : va_S (AC ad) s.heap s.heap [] := va_S.rf
  have hl := lv_entry ([.ref (ad 0), .ref (ad (i + 7)), .int (b2i mv)]) (n := 3) (Nat.le_of_ble_eq_true rfl)
  rw [lg_entry_eq]
  generalize (lg_sl ([.ref (ad 0), .ref (ad (i + 7)), .int (b2i mv)]) ++ List.replicate (3 - (lg_sl ([.ref (ad 0), .ref (ad (i + 7)), .int (b2i mv)])).length) Slot.unset).toArray = ls at hl ⊢
  have hl : lv_has ls 3 [(0, .ref (ad 0)), (1, .ref (ad (i + 7))), (2, .int (b2i mv))] := hl
  refine lv_aload_n hx hb dX3_answerReport_0 rfl (lv_at hl 1 rfl) ?_
  refine rgM1 hx hb hf2 hown hK hP hi (hts (.fieldLink RX3 117 "MachineFoundry$Machine" "state" "I") (by decide +kernel)) (rfl) dX3_answerReport_1 ?_
  refine lv_if_ne (tgt := 16) hx hb dX3_answerReport_4 (by decide) (fun c_1 => ?_) (fun c_1 => ?_)
  · refine lv_aload_n hx hb dX3_answerReport_16 rfl (lv_at hl 1 rfl) ?_
    refine rgM1 hx hb hf2 hown hK hP hi (hts (.fieldLink RX3 117 "MachineFoundry$Machine" "state" "I") (by decide +kernel)) (rfl) dX3_answerReport_17 ?_
    refine lv_iconst (v := 3) hx hb dX3_answerReport_20 (by decide) ?_
    refine lv_icmp_ne (tgt := 32) hx hb dX3_answerReport_21 (by decide) (fun c_2 => ?_) (fun c_2 => ?_)
    · refine lv_aload_n hx hb dX3_answerReport_32 rfl (lv_at hl 1 rfl) ?_
      refine rgM1 hx hb hf2 hown hK hP hi (hts (.fieldLink RX3 117 "MachineFoundry$Machine" "state" "I") (by decide +kernel)) (rfl) dX3_answerReport_33 ?_
      refine lv_iconst (v := 2) hx hb dX3_answerReport_36 (by decide) ?_
      refine lv_icmp_ne (tgt := 52) hx hb dX3_answerReport_37 (by decide) (fun c_3 => ?_) (fun c_3 => ?_)
      · have e8 : sAns σ i mv = σ := by simp [sAns, c_1, c_2, c_3]
        rw [← e8] at hP
        exact W.vret hx hb hr (fun t ht hW => ⟨⟨(), rfl, trivial, by rw [← ht] at hP; exact hP⟩, hS.F ht⟩) hS.2.2 dX3_answerReport_52
      · refine lv_iload_n hx hb dX3_answerReport_40 rfl (lv_at hl 2 rfl) ?_
        refine lv_if_eq (tgt := 52) hx hb dX3_answerReport_41 (by decide) (fun c_4 => ?_) (fun c_4 => ?_)
        · replace c_4 := b2i_0.mp c_4
          have e8 : sAns σ i mv = σ := by simp [sAns, c_1, c_2, c_3, c_4]
          rw [← e8] at hP
          exact W.vret hx hb hr (fun t ht hW => ⟨⟨(), rfl, trivial, by rw [← ht] at hP; exact hP⟩, hS.F ht⟩) hS.2.2 dX3_answerReport_52
        · replace c_4 := b2i_n0.mp c_4
          refine lv_aload_n hx hb dX3_answerReport_44 rfl (lv_at hl 1 rfl) ?_
          refine lv_aload_n hx hb dX3_answerReport_45 rfl (lv_at hl 0 rfl) ?_
          refine cMi (va_runV (As := []) (rest := [.ref (ad (i + 7))]) ⟨hx, hb, hml, hown, hts⟩ (c_X3_drawTicket l D cy ad hj σ) (cwV 0 hts gX3_answerReport_X3_drawTicket rfl rfl rfl (by decide +kernel) ⟨Nat.le_of_ble_eq_true rfl, Nat.le_of_ble_eq_true rfl⟩) ⟨cw_bl, (cw_F hP hK), (cw_at hP hK)⟩ rfl rfl hl.1 rfl (lv_room (Nat.le_of_ble_eq_true rfl)) dX3_answerReport_46 ⟨Nat.le_of_ble_eq_true rfl, Nat.le_of_ble_eq_true rfl⟩) hS (fun H locs hP hS => ?_)
          refine W.eq (g2 := F0 m 49 ls [.int (σ 20 8 + 1), .ref (ad (i + 7))]) rfl ?_
          refine rpM9 hx hb hf2 hown hK hP hD hS hi (hts (.fieldLink RX3 222 "MachineFoundry$Machine" "ticket" "I") (by decide +kernel)) dX3_answerReport_49 (fun H locs hP hS => ?_)
          have e8 : sAns σ i mv = up2 (sDraw σ) 9 i (σ 20 8 + 1) := by simp [sAns, c_1, c_2, c_3, c_4]
          rw [← e8] at hP
          exact W.vret hx hb hr (fun t ht hW => ⟨⟨(), rfl, trivial, by rw [← ht] at hP; exact hP⟩, hS.F ht⟩) hS.2.2 dX3_answerReport_52
    · refine lv_aload_n hx hb dX3_answerReport_24 rfl (lv_at hl 0 rfl) ?_
      refine lv_aload_n hx hb dX3_answerReport_25 rfl (lv_at hl 1 rfl) ?_
      refine cMv (va_runV (As := [.ref (ad (i + 7))]) (rest := []) ⟨hx, hb, hml, hown, hts⟩ (c_X3_fail l D cy ad hj σ i hi) (cwV 1 hts gX3_answerReport_X3_fail rfl rfl rfl (by decide +kernel) ⟨Nat.le_of_ble_eq_true rfl, Nat.le_of_ble_eq_true rfl⟩) ⟨cw_bl, (cw_F hP hK), (cw_at hP hK)⟩ rfl rfl hl.1 rfl (lv_room (Nat.le_of_ble_eq_true rfl)) dX3_answerReport_26 ⟨Nat.le_of_ble_eq_true rfl, Nat.le_of_ble_eq_true rfl⟩) hS (fun H locs hP hS => ?_)
      refine W.eq (g2 := F0 m 29 ls []) rfl ?_
      refine lv_goto (tgt := 52) hx hb dX3_answerReport_29 (by decide) ?_
      have e8 : sAns σ i mv = sFail σ i := by simp [sAns, c_1, c_2]
      rw [← e8] at hP
      exact W.vret hx hb hr (fun t ht hW => ⟨⟨(), rfl, trivial, by rw [← ht] at hP; exact hP⟩, hS.F ht⟩) hS.2.2 dX3_answerReport_52
  · refine lv_aload_n hx hb dX3_answerReport_7 rfl (lv_at hl 0 rfl) ?_
    refine lv_aload_n hx hb dX3_answerReport_8 rfl (lv_at hl 1 rfl) ?_
    refine lv_iconst (v := 1) hx hb dX3_answerReport_9 (by decide) ?_
    refine cMv (va_runV (As := [.ref (ad (i + 7)), .int 1]) (rest := []) ⟨hx, hb, hml, hown, hts⟩ (c_X3_change l D cy ad hj σ i hi 1) (cwV 2 hts gX3_answerReport_X3_change rfl rfl rfl (by decide +kernel) ⟨Nat.le_of_ble_eq_true rfl, Nat.le_of_ble_eq_true rfl⟩) ⟨cw_bl, (cw_F hP hK), (cw_at hP hK)⟩ rfl rfl hl.1 rfl (lv_room (Nat.le_of_ble_eq_true rfl)) dX3_answerReport_10 ⟨Nat.le_of_ble_eq_true rfl, Nat.le_of_ble_eq_true rfl⟩) hS (fun H locs hP hS => ?_)
    refine W.eq (g2 := F0 m 13 ls []) rfl ?_
    refine lv_goto (tgt := 52) hx hb dX3_answerReport_13 (by decide) ?_
    have e8 : sAns σ i mv = sChg σ i 1 := by simp [sAns, c_1]
    rw [← e8] at hP
    exact W.vret hx hb hr (fun t ht hW => ⟨⟨(), rfl, trivial, by rw [← ht] at hP; exact hP⟩, hS.F ht⟩) hS.2.2 dX3_answerReport_52
set_option maxHeartbeats 4000000 in
set_option maxRecDepth 100000 in
/-- fillBatch -/
theorem c_X3_fillBatch (l : Launch) (D : va_G) (cy : Nat → ClassId) (ad : Nat → Nat) (hj : inj31 ad) (σ : Mem) (r b : Int32) : Met l yX3_fillBatch wsX3_fillBatch ({ frames := 3, cells := 0, slots := 0, locals := 69 }) (va_Pc [.ref (ad 0), .int r, .int b] (cw D cy ad σ)) (QV (va_P D vwCl (wC cy ad (sFill r b 16 σ))) (AC ad)) 0 0 (AC ad) := by
  refine Met.ofW (cc := cX3_fillBatch) (maxL := 5) (ret := none) (by decide) rfl ?_
  intro p e s m args below meth c s₁ B hml hv
  obtain ⟨rfl, hP, hK⟩ := hv
  have hx := B.exec
  have hb := B.bytes
  have hr := B.returns
  have hts := atoms_spec (ws := wsX3_fillBatch) B.pre
  have hown : s.vm.findClass RX3 = some m.cls := findClass_of_methodNamed B.named
  have hlocks := B.notSynchronized
  have hD := wC_D (cy := cy) hj
  have hS : va_S (AC ad) s.heap s.heap [] := va_S.rf
  have hl := lv_entry ([.ref (ad 0), .int r, .int b]) (n := 5) (Nat.le_of_ble_eq_true rfl)
  rw [lg_entry_eq]
  generalize (lg_sl ([.ref (ad 0), .int r, .int b]) ++ List.replicate (5 - (lg_sl ([.ref (ad 0), .int r, .int b])).length) Slot.unset).toArray = ls at hl ⊢
  have hl : lv_has ls 5 [(0, .ref (ad 0)), (1, .int r), (2, .int b)] := hl
  refine lv_iconst (v := 0) hx hb dX3_fillBatch_0 (by decide) ?_
  refine lv_istore_n (lv' := [(3, .int 0), (0, .ref (ad 0)), (1, .int r), (2, .int b)]) hx hb dX3_fillBatch_1 rfl hl (by decide) rfl (fun ls hl => ?_)
  have hl0 : lv_has ls 5 [(3, .int (nI 0)), (0, .ref (ad 0)), (1, .int r), (2, .int b)] := lv_sub hl [0, 1, 2, 3] rfl
  refine w_loopM 16 (fun k => [(3, .int (nI k)), (0, .ref (ad 0)), (1, .int r), (2, .int b)]) (fun k H => ∃ σk : Mem, va_P D vwCl (wC cy ad σk) H ∧ sFill r b (16 - k) σk = sFill r b 16 σ) 0 (by decide) hl0 ⟨σ, hP, rfl⟩ hS (fun H locs ls hl hP hS => ?_) (fun k hk0 hk H locs ls hl hP hS ih => ?_)
  · obtain ⟨σk, hP, hE⟩ := hP
    have hl : lv_has ls 5 [(3, .int (nI 16)), (0, .ref (ad 0)), (1, .int r), (2, .int b)] := hl
    refine lv_iload_n hx hb dX3_fillBatch_2 rfl (lv_at hl 0 rfl) ?_
    refine lv_bipush (v := 16) hx hb dX3_fillBatch_3 (by decide) ?_
    refine lv_icmp_ge (tgt := 47) hx hb dX3_fillBatch_5 (by decide) (fun c_1 => ?_) (fun c_1 => absurd ((show (16 : Int32) ≤ nI 16 from nI_le (a := 16) (b := 16) (Nat.le_refl 16) (by decide))) c_1)
    have e8 : sFill r b 16 σ = σk := by rw [Nat.sub_self, sFill_0] at hE; exact hE.symm
    rw [← e8] at hP
    exact W.vret hx hb hr (fun t ht hW => ⟨⟨(), rfl, trivial, by rw [← ht] at hP; exact hP⟩, hS.F ht⟩) hS.2.2 dX3_fillBatch_47
  · obtain ⟨σk, hP, hE⟩ := hP
    have hl : lv_has ls 5 [(3, .int (nI k)), (0, .ref (ad 0)), (1, .int r), (2, .int b)] := hl
    rw [show 16 - k = (15 - k) + 1 by omega] at hE
    refine lv_iload_n hx hb dX3_fillBatch_2 rfl (lv_at hl 0 rfl) ?_
    refine lv_bipush (v := 16) hx hb dX3_fillBatch_3 (by decide) ?_
    refine lv_icmp_ge (tgt := 47) hx hb dX3_fillBatch_5 (by decide) (fun c_2 => absurd c_2 ((show ¬ (16 : Int32) ≤ nI k from nI_ge (a := k) (b := 16) hk (by decide)))) (fun c_2 => ?_)
    refine lv_aload_n hx hb dX3_fillBatch_8 rfl (lv_at hl 1 rfl) ?_
    refine lv_iload_n hx hb dX3_fillBatch_9 rfl (lv_at hl 2 rfl) ?_
    refine cS (W.runV (As := [.int r]) (rest := []) ⟨hx, hb, hml, hown, hts⟩ (c_X3_countInstalling l D cy ad σk r) (cwV 1 hts gX3_fillBatch_X3_countInstalling rfl rfl rfl (by decide +kernel) ⟨Nat.le_of_ble_eq_true rfl, Nat.le_of_ble_eq_true rfl⟩) ⟨cw_bl, (cw_F hP hK), (cw_at hP hK)⟩ rfl rfl hl.1 rfl (lv_room (Nat.le_of_ble_eq_true rfl)) dX3_fillBatch_10 ⟨Nat.le_of_ble_eq_true rfl, Nat.le_of_ble_eq_true rfl⟩) (fun _ _ => ?_)
    refine W.eq (g2 := F0 m 13 ls [.int (sIn σk r)]) rfl ?_
    refine lv_iload_n hx hb dX3_fillBatch_13 rfl (lv_at hl 3 rfl) ?_
    refine lv_icmp_ge (tgt := 26) hx hb dX3_fillBatch_14 (by decide) (fun c_3 => ?_) (fun c_3 => ?_)
    · have d_3 := Int32.not_lt.mpr c_3
      refine lv_null hx hb dX3_fillBatch_26 ?_
      refine lv_astoreN (lv' := [(4, .null), (3, .int (nI k)), (0, .ref (ad 0)), (1, .int r), (2, .int b)]) hx hb dX3_fillBatch_27 hl (by decide) rfl (fun ls hl => ?_)
      refine lv_aloadN hx hb dX3_fillBatch_29 (lv_at hl 0 rfl) ?_
      refine lv_ifnonnullN hx hb dX3_fillBatch_31 ?_
      have e8 : sFill r b 16 σ = σk := by rw [sFill_full _ c_3] at hE; exact hE.symm
      rw [← e8] at hP
      exact W.vret hx hb hr (fun t ht hW => ⟨⟨(), rfl, trivial, by rw [← ht] at hP; exact hP⟩, hS.F ht⟩) hS.2.2 dX3_fillBatch_34
    · have d_3 := Int32.not_le.mp c_3
      refine lv_aload_n hx hb dX3_fillBatch_17 rfl (lv_at hl 1 rfl) ?_
      refine lv_iload_n hx hb dX3_fillBatch_18 rfl (lv_at hl 2 rfl) ?_
      refine lv_iconst (v := 0) hx hb dX3_fillBatch_19 (by decide) ?_
      refine cS (W.runV (As := [.int r, .int 0]) (rest := []) ⟨hx, hb, hml, hown, hts⟩ (c_X3_queuedAt l D cy ad σk r 0) (cwV 2 hts gX3_fillBatch_X3_queuedAt rfl rfl rfl (by decide +kernel) ⟨Nat.le_of_ble_eq_true rfl, Nat.le_of_ble_eq_true rfl⟩) ⟨cw_bl, (cw_F hP hK), (cw_at hP hK)⟩ rfl rfl hl.1 rfl (lv_room (Nat.le_of_ble_eq_true rfl)) dX3_fillBatch_20 ⟨Nat.le_of_ble_eq_true rfl, Nat.le_of_ble_eq_true rfl⟩) (fun _ _ => ?_)
      rcases hob4 : sQA σk r 0 with _ | b4
      · refine W.eq (g2 := F0 m 23 ls [.null]) rfl ?_
        refine lv_goto (tgt := 27) hx hb dX3_fillBatch_23 (by decide) ?_
        refine lv_astoreN (lv' := [(4, .null), (3, .int (nI k)), (0, .ref (ad 0)), (1, .int r), (2, .int b)]) hx hb dX3_fillBatch_27 hl (by decide) rfl (fun ls hl => ?_)
        refine lv_aloadN hx hb dX3_fillBatch_29 (lv_at hl 0 rfl) ?_
        refine lv_ifnonnullN hx hb dX3_fillBatch_31 ?_
        have e8 : sFill r b 16 σ = σk := by rw [sFill_none _ hob4] at hE; exact hE.symm
        rw [← e8] at hP
        exact W.vret hx hb hr (fun t ht hW => ⟨⟨(), rfl, trivial, by rw [← ht] at hP; exact hP⟩, hS.F ht⟩) hS.2.2 dX3_fillBatch_34
      · have hb4 := (fnd_some (n := 16) hob4).1
        refine W.eq (g2 := F0 m 23 ls [.ref (ad (b4 + 7))]) rfl ?_
        refine lv_goto (tgt := 27) hx hb dX3_fillBatch_23 (by decide) ?_
        refine lv_astore (lv' := [(4, .ref (ad (b4 + 7))), (3, .int (nI k)), (0, .ref (ad 0)), (1, .int r), (2, .int b)]) hx hb dX3_fillBatch_27 hl (by decide) rfl (fun ls hl => ?_)
        refine lv_aload hx hb dX3_fillBatch_29 (lv_at hl 0 rfl) ?_
        refine lv_ifnonnull (tgt := 35) hx hb dX3_fillBatch_31 (by decide) ?_
        refine lv_aload_n hx hb dX3_fillBatch_35 rfl (lv_at hl 2 rfl) ?_
        refine lv_aload hx hb dX3_fillBatch_36 (lv_at hl 0 rfl) ?_
        refine cMv (va_runV (As := [.ref (ad (b4 + 7))]) (rest := []) ⟨hx, hb, hml, hown, hts⟩ (c_X3_begin l D cy ad hj σk b4 hb4) (cwV 1 hts gX3_fillBatch_X3_begin rfl rfl rfl (by decide +kernel) ⟨Nat.le_of_ble_eq_true rfl, Nat.le_of_ble_eq_true rfl⟩) ⟨cw_bl, (cw_F hP hK), (cw_at hP hK)⟩ rfl rfl hl.1 rfl (lv_room (Nat.le_of_ble_eq_true rfl)) dX3_fillBatch_38 ⟨Nat.le_of_ble_eq_true rfl, Nat.le_of_ble_eq_true rfl⟩) hS (fun H locs hP hS => ?_)
        refine W.eq (g2 := F0 m 41 ls []) rfl ?_
        refine lv_iinc (v := nI (k + 1)) (lv' := [(3, .int (nI (k + 1))), (4, .ref (ad (b4 + 7))), (0, .ref (ad 0)), (1, .int r), (2, .int b)]) hx hb dX3_fillBatch_41 hl (k := 1) rfl (nI_1 k) (by decide) rfl (fun ls hl => ?_)
        refine lv_goto (tgt := 2) hx hb dX3_fillBatch_44 (by decide) ?_
        rw [sFill_go _ hob4 c_3] at hE
        exact ih H locs ls (lv_sub hl [0, 2, 3, 4] rfl) ⟨_, hP, by rw [show 16 - (k + 1) = 15 - k by omega]; exact hE⟩ hS
set_option maxHeartbeats 4000000 in
set_option maxRecDepth 100000 in
/-- beginInstallations -/
theorem c_X3_beginInstallations (l : Launch) (D : va_G) (cy : Nat → ClassId) (ad : Nat → Nat) (hj : inj31 ad) (σ : Mem) : Met l yX3_beginInstallations wsX3_beginInstallations ({ frames := 4, cells := 0, slots := 0, locals := 93 }) (va_Pc [.ref (ad 0)] (cw D cy ad σ)) (QV (va_P D vwCl (wC cy ad (sBegins σ))) (AC ad)) 0 0 (AC ad) := by
  refine Met.ofW (cc := cX3_beginInstallations) (maxL := 2) (ret := none) (by decide) rfl ?_
  intro p e s m args below meth c s₁ B hml hv
  obtain ⟨rfl, hP, hK⟩ := hv
  have hx := B.exec
  have hb := B.bytes
  have hr := B.returns
  have hts := atoms_spec (ws := wsX3_beginInstallations) B.pre
  have hown : s.vm.findClass RX3 = some m.cls := findClass_of_methodNamed B.named
  have hlocks := B.notSynchronized
  have hf3 := fun (w : Cond) (h : w ∈ wsX30) => hts w ((by decide +kernel : ∀ w ∈ wsX30, w ∈ wsX3_beginInstallations) w h)
  have hD := wC_D (cy := cy) hj
  have hS : va_S (AC ad) s.heap s.heap [] := va_S.rf
  have hl := lv_entry ([.ref (ad 0)]) (n := 2) (Nat.le_of_ble_eq_true rfl)
  rw [lg_entry_eq]
  generalize (lg_sl ([.ref (ad 0)]) ++ List.replicate (2 - (lg_sl ([.ref (ad 0)])).length) Slot.unset).toArray = ls at hl ⊢
  have hl : lv_has ls 2 [(0, .ref (ad 0))] := hl
  refine lv_iconst (v := 0) hx hb dX3_beginInstallations_0 (by decide) ?_
  refine lv_istore_n (lv' := [(1, .int 0), (0, .ref (ad 0))]) hx hb dX3_beginInstallations_1 rfl hl (by decide) rfl (fun ls hl => ?_)
  have hl0 : lv_has ls 2 [(1, .int (nI 0)), (0, .ref (ad 0))] := lv_sub hl [0, 1] rfl
  have hP0 : va_P D vwCl (wC cy ad (sBI σ 0)) _ := hP
  refine w_loopM 4 (fun k => [(1, .int (nI k)), (0, .ref (ad 0))]) (fun k => va_P D vwCl (wC cy ad (sBI σ k))) 0 (Nat.zero_le _) hl0 hP0 hS (fun H locs ls hl hP hS => ?_) (fun k hk0 hk H locs ls hl hP hS ih => ?_)
  · have hl : lv_has ls 2 [(1, .int (nI 4)), (0, .ref (ad 0))] := hl
    have hP : va_P D vwCl (wC cy ad (sBI σ 4)) H := hP
    refine lv_iload_n hx hb dX3_beginInstallations_2 rfl (lv_at hl 0 rfl) ?_
    refine lv_aload_n hx hb dX3_beginInstallations_3 rfl (lv_at hl 1 rfl) ?_
    refine rgF2 hx hb hf3 hown hK hP (hts (.fieldLink RX3 21 "MachineFoundry" "batches" "[I") (by decide +kernel)) dX3_beginInstallations_4 ?_
    refine rlB hx hb hK hP dX3_beginInstallations_7 ?_
    refine lv_icmp_ge (tgt := 28) hx hb dX3_beginInstallations_8 (by decide) (fun c_1 => ?_) (fun c_1 => absurd ((show (4 : Int32) ≤ nI 4 from nI_le (a := 4) (b := 4) (Nat.le_refl 4) (by decide))) c_1)
    have e8 : sBegins σ = sBI σ 4 := by rfl
    rw [← e8] at hP
    exact W.vret hx hb hr (fun t ht hW => ⟨⟨(), rfl, trivial, by rw [← ht] at hP; exact hP⟩, hS.F ht⟩) hS.2.2 dX3_beginInstallations_28
  · have hl : lv_has ls 2 [(1, .int (nI k)), (0, .ref (ad 0))] := hl
    have hP : va_P D vwCl (wC cy ad (sBI σ k)) H := hP
    refine lv_iload_n hx hb dX3_beginInstallations_2 rfl (lv_at hl 0 rfl) ?_
    refine lv_aload_n hx hb dX3_beginInstallations_3 rfl (lv_at hl 1 rfl) ?_
    refine rgF2 hx hb hf3 hown hK hP (hts (.fieldLink RX3 21 "MachineFoundry" "batches" "[I") (by decide +kernel)) dX3_beginInstallations_4 ?_
    refine rlB hx hb hK hP dX3_beginInstallations_7 ?_
    refine lv_icmp_ge (tgt := 28) hx hb dX3_beginInstallations_8 (by decide) (fun c_2 => absurd c_2 ((show ¬ (4 : Int32) ≤ nI k from nI_ge (a := k) (b := 4) hk (by decide)))) (fun c_2 => ?_)
    refine lv_aload_n hx hb dX3_beginInstallations_11 rfl (lv_at hl 1 rfl) ?_
    refine lv_iload_n hx hb dX3_beginInstallations_12 rfl (lv_at hl 0 rfl) ?_
    refine lv_aload_n hx hb dX3_beginInstallations_13 rfl (lv_at hl 1 rfl) ?_
    refine rgF2 hx hb hf3 hown hK hP (hts (.fieldLink RX3 21 "MachineFoundry" "batches" "[I") (by decide +kernel)) dX3_beginInstallations_14 ?_
    refine lv_iload_n hx hb dX3_beginInstallations_17 rfl (lv_at hl 0 rfl) ?_
    refine raB hx hb hK hP hk (rfl) dX3_beginInstallations_18 ?_
    refine cMv (va_runV (As := [.int (nI k), .int ((sBI σ k) 21 k)]) (rest := []) ⟨hx, hb, hml, hown, hts⟩ (c_X3_fillBatch l D cy ad hj (sBI σ k) (nI k) ((sBI σ k) 21 k)) (cwV 2 hts gX3_beginInstallations_X3_fillBatch rfl rfl rfl (by decide +kernel) ⟨Nat.le_of_ble_eq_true rfl, Nat.le_of_ble_eq_true rfl⟩) ⟨cw_bl, (cw_F hP hK), (cw_at hP hK)⟩ rfl rfl hl.1 rfl (lv_room (Nat.le_of_ble_eq_true rfl)) dX3_beginInstallations_19 ⟨Nat.le_of_ble_eq_true rfl, Nat.le_of_ble_eq_true rfl⟩) hS (fun H locs hP hS => ?_)
    refine W.eq (g2 := F0 m 22 ls []) rfl ?_
    refine lv_iinc (v := nI (k + 1)) (lv' := [(1, .int (nI (k + 1))), (0, .ref (ad 0))]) hx hb dX3_beginInstallations_22 hl (k := 0) rfl (nI_1 k) (by decide) rfl (fun ls hl => ?_)
    refine lv_goto (tgt := 2) hx hb dX3_beginInstallations_25 (by decide) ?_
    have e6 : sBI σ (k + 1) = sFill (nI k) ((sBI σ k) 21 k) 16 (sBI σ k) := by rfl
    exact ih H locs ls (lv_sub hl [0, 1] rfl) (by rw [e6]; exact hP) hS
set_option maxHeartbeats 4000000 in
set_option maxRecDepth 100000 in
/-- failOverdueInstallations -/
theorem c_X3_failOverdueInstallations (l : Launch) (D : va_G) (cy : Nat → ClassId) (ad : Nat → Nat) (hj : inj31 ad) (σ : Mem) : Met l yX3_failOverdueInstallations wsX3_failOverdueInstallations ({ frames := 3, cells := 0, slots := 0, locals := 66 }) (va_Pc [.ref (ad 0)] (cw D cy ad σ)) (QV (va_P D vwCl (wC cy ad (sFO σ 16))) (AC ad)) 0 0 (AC ad) := by
  refine Met.ofW (cc := cX3_failOverdueInstallations) (maxL := 2) (ret := none) (by decide) rfl ?_
  intro p e s m args below meth c s₁ B hml hv
  obtain ⟨rfl, hP, hK⟩ := hv
  have hx := B.exec
  have hb := B.bytes
  have hr := B.returns
  have hts := atoms_spec (ws := wsX3_failOverdueInstallations) B.pre
  have hown : s.vm.findClass RX3 = some m.cls := findClass_of_methodNamed B.named
  have hlocks := B.notSynchronized
  have hf3 := fun (w : Cond) (h : w ∈ wsX30) => hts w ((by decide +kernel : ∀ w ∈ wsX30, w ∈ wsX3_failOverdueInstallations) w h)
  have hD := wC_D (cy := cy) hj
  have hS : va_S (AC ad) s.heap s.heap [] := va_S.rf
  have hl := lv_entry ([.ref (ad 0)]) (n := 2) (Nat.le_of_ble_eq_true rfl)
  rw [lg_entry_eq]
  generalize (lg_sl ([.ref (ad 0)]) ++ List.replicate (2 - (lg_sl ([.ref (ad 0)])).length) Slot.unset).toArray = ls at hl ⊢
  have hl : lv_has ls 2 [(0, .ref (ad 0))] := hl
  refine lv_iconst (v := 0) hx hb dX3_failOverdueInstallations_0 (by decide) ?_
  refine lv_istore_n (lv' := [(1, .int 0), (0, .ref (ad 0))]) hx hb dX3_failOverdueInstallations_1 rfl hl (by decide) rfl (fun ls hl => ?_)
  have hl0 : lv_has ls 2 [(1, .int (nI 0)), (0, .ref (ad 0))] := lv_sub hl [0, 1] rfl
  have hP0 : va_P D vwCl (wC cy ad (sFO σ 0)) _ := hP
  refine w_loopM 16 (fun k => [(1, .int (nI k)), (0, .ref (ad 0))]) (fun k => va_P D vwCl (wC cy ad (sFO σ k))) 0 (Nat.zero_le _) hl0 hP0 hS (fun H locs ls hl hP hS => ?_) (fun k hk0 hk H locs ls hl hP hS ih => ?_)
  · have hl : lv_has ls 2 [(1, .int (nI 16)), (0, .ref (ad 0))] := hl
    have hP : va_P D vwCl (wC cy ad (sFO σ 16)) H := hP
    refine lv_iload_n hx hb dX3_failOverdueInstallations_2 rfl (lv_at hl 0 rfl) ?_
    refine lv_aload_n hx hb dX3_failOverdueInstallations_3 rfl (lv_at hl 1 rfl) ?_
    refine rgF0 hx hb hf3 hown hK hP (hts (.fieldLink RX3 11 "MachineFoundry" "machines" "[LMachineFoundry$Machine;") (by decide +kernel)) dX3_failOverdueInstallations_4 ?_
    refine rlM hx hb hK hP dX3_failOverdueInstallations_7 ?_
    refine lv_icmp_ge (tgt := 44) hx hb dX3_failOverdueInstallations_8 (by decide) (fun c_1 => ?_) (fun c_1 => absurd ((show (16 : Int32) ≤ nI 16 from nI_le (a := 16) (b := 16) (Nat.le_refl 16) (by decide))) c_1)
    exact W.vret hx hb hr (fun t ht hW => ⟨⟨(), rfl, trivial, by rw [← ht] at hP; exact hP⟩, hS.F ht⟩) hS.2.2 dX3_failOverdueInstallations_44
  · have hl : lv_has ls 2 [(1, .int (nI k)), (0, .ref (ad 0))] := hl
    have hP : va_P D vwCl (wC cy ad (sFO σ k)) H := hP
    refine lv_iload_n hx hb dX3_failOverdueInstallations_2 rfl (lv_at hl 0 rfl) ?_
    refine lv_aload_n hx hb dX3_failOverdueInstallations_3 rfl (lv_at hl 1 rfl) ?_
    refine rgF0 hx hb hf3 hown hK hP (hts (.fieldLink RX3 11 "MachineFoundry" "machines" "[LMachineFoundry$Machine;") (by decide +kernel)) dX3_failOverdueInstallations_4 ?_
    refine rlM hx hb hK hP dX3_failOverdueInstallations_7 ?_
    refine lv_icmp_ge (tgt := 44) hx hb dX3_failOverdueInstallations_8 (by decide) (fun c_2 => absurd c_2 ((show ¬ (16 : Int32) ≤ nI k from nI_ge (a := k) (b := 16) hk (by decide)))) (fun c_2 => ?_)
    refine lv_aload_n hx hb dX3_failOverdueInstallations_11 rfl (lv_at hl 1 rfl) ?_
    refine rgF0 hx hb hf3 hown hK hP (hts (.fieldLink RX3 11 "MachineFoundry" "machines" "[LMachineFoundry$Machine;") (by decide +kernel)) dX3_failOverdueInstallations_12 ?_
    refine lv_iload_n hx hb dX3_failOverdueInstallations_15 rfl (lv_at hl 0 rfl) ?_
    refine raM hx hb hK hP hk dX3_failOverdueInstallations_16 ?_
    refine lv_iconst (v := 3) hx hb dX3_failOverdueInstallations_17 (by decide) ?_
    refine lv_aload_n hx hb dX3_failOverdueInstallations_18 rfl (lv_at hl 1 rfl) ?_
    refine rgF6 hx hb hf3 hown hK hP (hts (.fieldLink RX3 39 "MachineFoundry" "hour" "I") (by decide +kernel)) (rfl) dX3_failOverdueInstallations_19 ?_
    refine cS (W.runV (As := [.int 3, .int ((sFO σ k) 20 6)]) (rest := []) ⟨hx, hb, hml, hown, hts⟩ (c_X2_isOver l D cy ad (sFO σ k) k hk 3 ((sFO σ k) 20 6)) (cwV 2 hts gX3_failOverdueInstallations_X2_isOver rfl rfl rfl (by decide +kernel) ⟨Nat.le_of_ble_eq_true rfl, Nat.le_of_ble_eq_true rfl⟩) ⟨cw_bl, (cw_M hP hK hk), (cw_at hP hK)⟩ rfl rfl hl.1 rfl (lv_room (Nat.le_of_ble_eq_true rfl)) dX3_failOverdueInstallations_22 ⟨Nat.le_of_ble_eq_true rfl, Nat.le_of_ble_eq_true rfl⟩) (fun _ _ => ?_)
    refine W.eq (g2 := F0 m 25 ls [.int (b2i (sOv (sFO σ k) k 3 ((sFO σ k) 20 6)))]) rfl ?_
    refine lv_if_eq (tgt := 38) hx hb dX3_failOverdueInstallations_25 (by decide) (fun c_3 => ?_) (fun c_3 => ?_)
    · replace c_3 := b2i_0.mp c_3
      refine lv_iinc (v := nI (k + 1)) (lv' := [(1, .int (nI (k + 1))), (0, .ref (ad 0))]) hx hb dX3_failOverdueInstallations_38 hl (k := 0) rfl (nI_1 k) (by decide) rfl (fun ls hl => ?_)
      refine lv_goto (tgt := 2) hx hb dX3_failOverdueInstallations_41 (by decide) ?_
      have e6 : sFO σ (k + 1) = sFO σ k := by simp [sFO, c_3]
      exact ih H locs ls (lv_sub hl [0, 1] rfl) (by rw [e6]; exact hP) hS
    · replace c_3 := b2i_n0.mp c_3
      refine lv_aload_n hx hb dX3_failOverdueInstallations_28 rfl (lv_at hl 1 rfl) ?_
      refine lv_aload_n hx hb dX3_failOverdueInstallations_29 rfl (lv_at hl 1 rfl) ?_
      refine rgF0 hx hb hf3 hown hK hP (hts (.fieldLink RX3 11 "MachineFoundry" "machines" "[LMachineFoundry$Machine;") (by decide +kernel)) dX3_failOverdueInstallations_30 ?_
      refine lv_iload_n hx hb dX3_failOverdueInstallations_33 rfl (lv_at hl 0 rfl) ?_
      refine raM hx hb hK hP hk dX3_failOverdueInstallations_34 ?_
      refine cMv (va_runV (As := [.ref (ad (k + 7))]) (rest := []) ⟨hx, hb, hml, hown, hts⟩ (c_X3_fail l D cy ad hj (sFO σ k) k hk) (cwV 1 hts gX3_failOverdueInstallations_X3_fail rfl rfl rfl (by decide +kernel) ⟨Nat.le_of_ble_eq_true rfl, Nat.le_of_ble_eq_true rfl⟩) ⟨cw_bl, (cw_F hP hK), (cw_at hP hK)⟩ rfl rfl hl.1 rfl (lv_room (Nat.le_of_ble_eq_true rfl)) dX3_failOverdueInstallations_35 ⟨Nat.le_of_ble_eq_true rfl, Nat.le_of_ble_eq_true rfl⟩) hS (fun H locs hP hS => ?_)
      refine W.eq (g2 := F0 m 38 ls []) rfl ?_
      refine lv_iinc (v := nI (k + 1)) (lv' := [(1, .int (nI (k + 1))), (0, .ref (ad 0))]) hx hb dX3_failOverdueInstallations_38 hl (k := 0) rfl (nI_1 k) (by decide) rfl (fun ls hl => ?_)
      refine lv_goto (tgt := 2) hx hb dX3_failOverdueInstallations_41 (by decide) ?_
      have e6 : sFO σ (k + 1) = sFail (sFO σ k) k := by simp [sFO, c_3]
      exact ih H locs ls (lv_sub hl [0, 1] rfl) (by rw [e6]; exact hP) hS
set_option maxHeartbeats 4000000 in
set_option maxRecDepth 100000 in
/-- wipeDrainedMachines -/
theorem c_X3_wipeDrainedMachines (l : Launch) (D : va_G) (cy : Nat → ClassId) (ad : Nat → Nat) (hj : inj31 ad) (σ : Mem) : Met l yX3_wipeDrainedMachines wsX3_wipeDrainedMachines ({ frames := 3, cells := 0, slots := 0, locals := 66 }) (va_Pc [.ref (ad 0)] (cw D cy ad σ)) (QV (va_P D vwCl (wC cy ad (sWD σ 16))) (AC ad)) 0 0 (AC ad) := by
  refine Met.ofW (cc := cX3_wipeDrainedMachines) (maxL := 2) (ret := none) (by decide) rfl ?_
  intro p e s m args below meth c s₁ B hml hv
  obtain ⟨rfl, hP, hK⟩ := hv
  have hx := B.exec
  have hb := B.bytes
  have hr := B.returns
  have hts := atoms_spec (ws := wsX3_wipeDrainedMachines) B.pre
  have hown : s.vm.findClass RX3 = some m.cls := findClass_of_methodNamed B.named
  have hlocks := B.notSynchronized
  have hf3 := fun (w : Cond) (h : w ∈ wsX30) => hts w ((by decide +kernel : ∀ w ∈ wsX30, w ∈ wsX3_wipeDrainedMachines) w h)
  have hD := wC_D (cy := cy) hj
  have hS : va_S (AC ad) s.heap s.heap [] := va_S.rf
  have hl := lv_entry ([.ref (ad 0)]) (n := 2) (Nat.le_of_ble_eq_true rfl)
  rw [lg_entry_eq]
  generalize (lg_sl ([.ref (ad 0)]) ++ List.replicate (2 - (lg_sl ([.ref (ad 0)])).length) Slot.unset).toArray = ls at hl ⊢
  have hl : lv_has ls 2 [(0, .ref (ad 0))] := hl
  refine lv_iconst (v := 0) hx hb dX3_wipeDrainedMachines_0 (by decide) ?_
  refine lv_istore_n (lv' := [(1, .int 0), (0, .ref (ad 0))]) hx hb dX3_wipeDrainedMachines_1 rfl hl (by decide) rfl (fun ls hl => ?_)
  have hl0 : lv_has ls 2 [(1, .int (nI 0)), (0, .ref (ad 0))] := lv_sub hl [0, 1] rfl
  have hP0 : va_P D vwCl (wC cy ad (sWD σ 0)) _ := hP
  refine w_loopM 16 (fun k => [(1, .int (nI k)), (0, .ref (ad 0))]) (fun k => va_P D vwCl (wC cy ad (sWD σ k))) 0 (Nat.zero_le _) hl0 hP0 hS (fun H locs ls hl hP hS => ?_) (fun k hk0 hk H locs ls hl hP hS ih => ?_)
  · have hl : lv_has ls 2 [(1, .int (nI 16)), (0, .ref (ad 0))] := hl
    have hP : va_P D vwCl (wC cy ad (sWD σ 16)) H := hP
    refine lv_iload_n hx hb dX3_wipeDrainedMachines_2 rfl (lv_at hl 0 rfl) ?_
    refine lv_aload_n hx hb dX3_wipeDrainedMachines_3 rfl (lv_at hl 1 rfl) ?_
    refine rgF0 hx hb hf3 hown hK hP (hts (.fieldLink RX3 11 "MachineFoundry" "machines" "[LMachineFoundry$Machine;") (by decide +kernel)) dX3_wipeDrainedMachines_4 ?_
    refine rlM hx hb hK hP dX3_wipeDrainedMachines_7 ?_
    refine lv_icmp_ge (tgt := 45) hx hb dX3_wipeDrainedMachines_8 (by decide) (fun c_1 => ?_) (fun c_1 => absurd ((show (16 : Int32) ≤ nI 16 from nI_le (a := 16) (b := 16) (Nat.le_refl 16) (by decide))) c_1)
    exact W.vret hx hb hr (fun t ht hW => ⟨⟨(), rfl, trivial, by rw [← ht] at hP; exact hP⟩, hS.F ht⟩) hS.2.2 dX3_wipeDrainedMachines_45
  · have hl : lv_has ls 2 [(1, .int (nI k)), (0, .ref (ad 0))] := hl
    have hP : va_P D vwCl (wC cy ad (sWD σ k)) H := hP
    refine lv_iload_n hx hb dX3_wipeDrainedMachines_2 rfl (lv_at hl 0 rfl) ?_
    refine lv_aload_n hx hb dX3_wipeDrainedMachines_3 rfl (lv_at hl 1 rfl) ?_
    refine rgF0 hx hb hf3 hown hK hP (hts (.fieldLink RX3 11 "MachineFoundry" "machines" "[LMachineFoundry$Machine;") (by decide +kernel)) dX3_wipeDrainedMachines_4 ?_
    refine rlM hx hb hK hP dX3_wipeDrainedMachines_7 ?_
    refine lv_icmp_ge (tgt := 45) hx hb dX3_wipeDrainedMachines_8 (by decide) (fun c_2 => absurd c_2 ((show ¬ (16 : Int32) ≤ nI k from nI_ge (a := k) (b := 16) hk (by decide)))) (fun c_2 => ?_)
    refine lv_aload_n hx hb dX3_wipeDrainedMachines_11 rfl (lv_at hl 1 rfl) ?_
    refine rgF0 hx hb hf3 hown hK hP (hts (.fieldLink RX3 11 "MachineFoundry" "machines" "[LMachineFoundry$Machine;") (by decide +kernel)) dX3_wipeDrainedMachines_12 ?_
    refine lv_iload_n hx hb dX3_wipeDrainedMachines_15 rfl (lv_at hl 0 rfl) ?_
    refine raM hx hb hK hP hk dX3_wipeDrainedMachines_16 ?_
    refine lv_bipush (v := 6) hx hb dX3_wipeDrainedMachines_17 (by decide) ?_
    refine lv_aload_n hx hb dX3_wipeDrainedMachines_19 rfl (lv_at hl 1 rfl) ?_
    refine rgF6 hx hb hf3 hown hK hP (hts (.fieldLink RX3 39 "MachineFoundry" "hour" "I") (by decide +kernel)) (rfl) dX3_wipeDrainedMachines_20 ?_
    refine cS (W.runV (As := [.int 6, .int ((sWD σ k) 20 6)]) (rest := []) ⟨hx, hb, hml, hown, hts⟩ (c_X2_isOver l D cy ad (sWD σ k) k hk 6 ((sWD σ k) 20 6)) (cwV 2 hts gX3_wipeDrainedMachines_X2_isOver rfl rfl rfl (by decide +kernel) ⟨Nat.le_of_ble_eq_true rfl, Nat.le_of_ble_eq_true rfl⟩) ⟨cw_bl, (cw_M hP hK hk), (cw_at hP hK)⟩ rfl rfl hl.1 rfl (lv_room (Nat.le_of_ble_eq_true rfl)) dX3_wipeDrainedMachines_23 ⟨Nat.le_of_ble_eq_true rfl, Nat.le_of_ble_eq_true rfl⟩) (fun _ _ => ?_)
    refine W.eq (g2 := F0 m 26 ls [.int (b2i (sOv (sWD σ k) k 6 ((sWD σ k) 20 6)))]) rfl ?_
    refine lv_if_eq (tgt := 39) hx hb dX3_wipeDrainedMachines_26 (by decide) (fun c_3 => ?_) (fun c_3 => ?_)
    · replace c_3 := b2i_0.mp c_3
      refine lv_iinc (v := nI (k + 1)) (lv' := [(1, .int (nI (k + 1))), (0, .ref (ad 0))]) hx hb dX3_wipeDrainedMachines_39 hl (k := 0) rfl (nI_1 k) (by decide) rfl (fun ls hl => ?_)
      refine lv_goto (tgt := 2) hx hb dX3_wipeDrainedMachines_42 (by decide) ?_
      have e6 : sWD σ (k + 1) = sWD σ k := by simp [sWD, c_3]
      exact ih H locs ls (lv_sub hl [0, 1] rfl) (by rw [e6]; exact hP) hS
    · replace c_3 := b2i_n0.mp c_3
      refine lv_aload_n hx hb dX3_wipeDrainedMachines_29 rfl (lv_at hl 1 rfl) ?_
      refine lv_aload_n hx hb dX3_wipeDrainedMachines_30 rfl (lv_at hl 1 rfl) ?_
      refine rgF0 hx hb hf3 hown hK hP (hts (.fieldLink RX3 11 "MachineFoundry" "machines" "[LMachineFoundry$Machine;") (by decide +kernel)) dX3_wipeDrainedMachines_31 ?_
      refine lv_iload_n hx hb dX3_wipeDrainedMachines_34 rfl (lv_at hl 0 rfl) ?_
      refine raM hx hb hK hP hk dX3_wipeDrainedMachines_35 ?_
      refine cMv (va_runV (As := [.ref (ad (k + 7))]) (rest := []) ⟨hx, hb, hml, hown, hts⟩ (c_X3_wipe l D cy ad hj (sWD σ k) k hk) (cwV 1 hts gX3_wipeDrainedMachines_X3_wipe rfl rfl rfl (by decide +kernel) ⟨Nat.le_of_ble_eq_true rfl, Nat.le_of_ble_eq_true rfl⟩) ⟨cw_bl, (cw_F hP hK), (cw_at hP hK)⟩ rfl rfl hl.1 rfl (lv_room (Nat.le_of_ble_eq_true rfl)) dX3_wipeDrainedMachines_36 ⟨Nat.le_of_ble_eq_true rfl, Nat.le_of_ble_eq_true rfl⟩) hS (fun H locs hP hS => ?_)
      refine W.eq (g2 := F0 m 39 ls []) rfl ?_
      refine lv_iinc (v := nI (k + 1)) (lv' := [(1, .int (nI (k + 1))), (0, .ref (ad 0))]) hx hb dX3_wipeDrainedMachines_39 hl (k := 0) rfl (nI_1 k) (by decide) rfl (fun ls hl => ?_)
      refine lv_goto (tgt := 2) hx hb dX3_wipeDrainedMachines_42 (by decide) ?_
      have e6 : sWD σ (k + 1) = sWipe (sWD σ k) k := by simp [sWD, c_3]
      exact ih H locs ls (lv_sub hl [0, 1] rfl) (by rw [e6]; exact hP) hS
set_option maxHeartbeats 4000000 in
set_option maxRecDepth 100000 in
/-- enqueueRestedMachines -/
theorem c_X3_enqueueRestedMachines (l : Launch) (D : va_G) (cy : Nat → ClassId) (ad : Nat → Nat) (hj : inj31 ad) (σ : Mem) : Met l yX3_enqueueRestedMachines wsX3_enqueueRestedMachines ({ frames := 3, cells := 0, slots := 0, locals := 66 }) (va_Pc [.ref (ad 0)] (cw D cy ad σ)) (QV (va_P D vwCl (wC cy ad (sER σ 16))) (AC ad)) 0 0 (AC ad) := by
  refine Met.ofW (cc := cX3_enqueueRestedMachines) (maxL := 2) (ret := none) (by decide) rfl ?_
  intro p e s m args below meth c s₁ B hml hv
  obtain ⟨rfl, hP, hK⟩ := hv
  have hx := B.exec
  have hb := B.bytes
  have hr := B.returns
  have hts := atoms_spec (ws := wsX3_enqueueRestedMachines) B.pre
  have hown : s.vm.findClass RX3 = some m.cls := findClass_of_methodNamed B.named
  have hlocks := B.notSynchronized
  have hf3 := fun (w : Cond) (h : w ∈ wsX30) => hts w ((by decide +kernel : ∀ w ∈ wsX30, w ∈ wsX3_enqueueRestedMachines) w h)
  have hD := wC_D (cy := cy) hj
  have hS : va_S (AC ad) s.heap s.heap [] := va_S.rf
  have hl := lv_entry ([.ref (ad 0)]) (n := 2) (Nat.le_of_ble_eq_true rfl)
  rw [lg_entry_eq]
  generalize (lg_sl ([.ref (ad 0)]) ++ List.replicate (2 - (lg_sl ([.ref (ad 0)])).length) Slot.unset).toArray = ls at hl ⊢
  have hl : lv_has ls 2 [(0, .ref (ad 0))] := hl
  refine lv_iconst (v := 0) hx hb dX3_enqueueRestedMachines_0 (by decide) ?_
  refine lv_istore_n (lv' := [(1, .int 0), (0, .ref (ad 0))]) hx hb dX3_enqueueRestedMachines_1 rfl hl (by decide) rfl (fun ls hl => ?_)
  have hl0 : lv_has ls 2 [(1, .int (nI 0)), (0, .ref (ad 0))] := lv_sub hl [0, 1] rfl
  have hP0 : va_P D vwCl (wC cy ad (sER σ 0)) _ := hP
  refine w_loopM 16 (fun k => [(1, .int (nI k)), (0, .ref (ad 0))]) (fun k => va_P D vwCl (wC cy ad (sER σ k))) 0 (Nat.zero_le _) hl0 hP0 hS (fun H locs ls hl hP hS => ?_) (fun k hk0 hk H locs ls hl hP hS ih => ?_)
  · have hl : lv_has ls 2 [(1, .int (nI 16)), (0, .ref (ad 0))] := hl
    have hP : va_P D vwCl (wC cy ad (sER σ 16)) H := hP
    refine lv_iload_n hx hb dX3_enqueueRestedMachines_2 rfl (lv_at hl 0 rfl) ?_
    refine lv_aload_n hx hb dX3_enqueueRestedMachines_3 rfl (lv_at hl 1 rfl) ?_
    refine rgF0 hx hb hf3 hown hK hP (hts (.fieldLink RX3 11 "MachineFoundry" "machines" "[LMachineFoundry$Machine;") (by decide +kernel)) dX3_enqueueRestedMachines_4 ?_
    refine rlM hx hb hK hP dX3_enqueueRestedMachines_7 ?_
    refine lv_icmp_ge (tgt := 44) hx hb dX3_enqueueRestedMachines_8 (by decide) (fun c_1 => ?_) (fun c_1 => absurd ((show (16 : Int32) ≤ nI 16 from nI_le (a := 16) (b := 16) (Nat.le_refl 16) (by decide))) c_1)
    exact W.vret hx hb hr (fun t ht hW => ⟨⟨(), rfl, trivial, by rw [← ht] at hP; exact hP⟩, hS.F ht⟩) hS.2.2 dX3_enqueueRestedMachines_44
  · have hl : lv_has ls 2 [(1, .int (nI k)), (0, .ref (ad 0))] := hl
    have hP : va_P D vwCl (wC cy ad (sER σ k)) H := hP
    refine lv_iload_n hx hb dX3_enqueueRestedMachines_2 rfl (lv_at hl 0 rfl) ?_
    refine lv_aload_n hx hb dX3_enqueueRestedMachines_3 rfl (lv_at hl 1 rfl) ?_
    refine rgF0 hx hb hf3 hown hK hP (hts (.fieldLink RX3 11 "MachineFoundry" "machines" "[LMachineFoundry$Machine;") (by decide +kernel)) dX3_enqueueRestedMachines_4 ?_
    refine rlM hx hb hK hP dX3_enqueueRestedMachines_7 ?_
    refine lv_icmp_ge (tgt := 44) hx hb dX3_enqueueRestedMachines_8 (by decide) (fun c_2 => absurd c_2 ((show ¬ (16 : Int32) ≤ nI k from nI_ge (a := k) (b := 16) hk (by decide)))) (fun c_2 => ?_)
    refine lv_aload_n hx hb dX3_enqueueRestedMachines_11 rfl (lv_at hl 1 rfl) ?_
    refine rgF0 hx hb hf3 hown hK hP (hts (.fieldLink RX3 11 "MachineFoundry" "machines" "[LMachineFoundry$Machine;") (by decide +kernel)) dX3_enqueueRestedMachines_12 ?_
    refine lv_iload_n hx hb dX3_enqueueRestedMachines_15 rfl (lv_at hl 0 rfl) ?_
    refine raM hx hb hK hP hk dX3_enqueueRestedMachines_16 ?_
    refine lv_iconst (v := 4) hx hb dX3_enqueueRestedMachines_17 (by decide) ?_
    refine lv_aload_n hx hb dX3_enqueueRestedMachines_18 rfl (lv_at hl 1 rfl) ?_
    refine rgF6 hx hb hf3 hown hK hP (hts (.fieldLink RX3 39 "MachineFoundry" "hour" "I") (by decide +kernel)) (rfl) dX3_enqueueRestedMachines_19 ?_
    refine cS (W.runV (As := [.int 4, .int ((sER σ k) 20 6)]) (rest := []) ⟨hx, hb, hml, hown, hts⟩ (c_X2_isOver l D cy ad (sER σ k) k hk 4 ((sER σ k) 20 6)) (cwV 2 hts gX3_enqueueRestedMachines_X2_isOver rfl rfl rfl (by decide +kernel) ⟨Nat.le_of_ble_eq_true rfl, Nat.le_of_ble_eq_true rfl⟩) ⟨cw_bl, (cw_M hP hK hk), (cw_at hP hK)⟩ rfl rfl hl.1 rfl (lv_room (Nat.le_of_ble_eq_true rfl)) dX3_enqueueRestedMachines_22 ⟨Nat.le_of_ble_eq_true rfl, Nat.le_of_ble_eq_true rfl⟩) (fun _ _ => ?_)
    refine W.eq (g2 := F0 m 25 ls [.int (b2i (sOv (sER σ k) k 4 ((sER σ k) 20 6)))]) rfl ?_
    refine lv_if_eq (tgt := 38) hx hb dX3_enqueueRestedMachines_25 (by decide) (fun c_3 => ?_) (fun c_3 => ?_)
    · replace c_3 := b2i_0.mp c_3
      refine lv_iinc (v := nI (k + 1)) (lv' := [(1, .int (nI (k + 1))), (0, .ref (ad 0))]) hx hb dX3_enqueueRestedMachines_38 hl (k := 0) rfl (nI_1 k) (by decide) rfl (fun ls hl => ?_)
      refine lv_goto (tgt := 2) hx hb dX3_enqueueRestedMachines_41 (by decide) ?_
      have e6 : sER σ (k + 1) = sER σ k := by simp [sER, c_3]
      exact ih H locs ls (lv_sub hl [0, 1] rfl) (by rw [e6]; exact hP) hS
    · replace c_3 := b2i_n0.mp c_3
      refine lv_aload_n hx hb dX3_enqueueRestedMachines_28 rfl (lv_at hl 1 rfl) ?_
      refine lv_aload_n hx hb dX3_enqueueRestedMachines_29 rfl (lv_at hl 1 rfl) ?_
      refine rgF0 hx hb hf3 hown hK hP (hts (.fieldLink RX3 11 "MachineFoundry" "machines" "[LMachineFoundry$Machine;") (by decide +kernel)) dX3_enqueueRestedMachines_30 ?_
      refine lv_iload_n hx hb dX3_enqueueRestedMachines_33 rfl (lv_at hl 0 rfl) ?_
      refine raM hx hb hK hP hk dX3_enqueueRestedMachines_34 ?_
      refine cMv (va_runV (As := [.ref (ad (k + 7))]) (rest := []) ⟨hx, hb, hml, hown, hts⟩ (c_X3_enqueue l D cy ad hj (sER σ k) k hk) (cwV 1 hts gX3_enqueueRestedMachines_X3_enqueue rfl rfl rfl (by decide +kernel) ⟨Nat.le_of_ble_eq_true rfl, Nat.le_of_ble_eq_true rfl⟩) ⟨cw_bl, (cw_F hP hK), (cw_at hP hK)⟩ rfl rfl hl.1 rfl (lv_room (Nat.le_of_ble_eq_true rfl)) dX3_enqueueRestedMachines_35 ⟨Nat.le_of_ble_eq_true rfl, Nat.le_of_ble_eq_true rfl⟩) hS (fun H locs hP hS => ?_)
      refine W.eq (g2 := F0 m 38 ls []) rfl ?_
      refine lv_iinc (v := nI (k + 1)) (lv' := [(1, .int (nI (k + 1))), (0, .ref (ad 0))]) hx hb dX3_enqueueRestedMachines_38 hl (k := 0) rfl (nI_1 k) (by decide) rfl (fun ls hl => ?_)
      refine lv_goto (tgt := 2) hx hb dX3_enqueueRestedMachines_41 (by decide) ?_
      have e6 : sER σ (k + 1) = sEnq (sER σ k) k := by simp [sER, c_3]
      exact ih H locs ls (lv_sub hl [0, 1] rfl) (by rw [e6]; exact hP) hS
set_option maxHeartbeats 4000000 in
set_option maxRecDepth 100000 in
/-- passHour -/
theorem c_X3_passHour (l : Launch) (D : va_G) (cy : Nat → ClassId) (ad : Nat → Nat) (hj : inj31 ad) (σ : Mem) : Met l yX3_passHour wsX3_passHour ({ frames := 5, cells := 0, slots := 0, locals := 114 }) (va_Pc [.ref (ad 0)] (cw D cy ad σ)) (QV (va_P D vwCl (wC cy ad (sPass σ))) (AC ad)) 0 0 (AC ad) := by
  refine Met.ofW (cc := cX3_passHour) (maxL := 1) (ret := none) (by decide) rfl ?_
  intro p e s m args below meth c s₁ B hml hv
  obtain ⟨rfl, hP, hK⟩ := hv
  have hx := B.exec
  have hb := B.bytes
  have hr := B.returns
  have hts := atoms_spec (ws := wsX3_passHour) B.pre
  have hown : s.vm.findClass RX3 = some m.cls := findClass_of_methodNamed B.named
  have hlocks := B.notSynchronized
  have hf3 := fun (w : Cond) (h : w ∈ wsX30) => hts w ((by decide +kernel : ∀ w ∈ wsX30, w ∈ wsX3_passHour) w h)
  have hD := wC_D (cy := cy) hj
  have hS : va_S (AC ad) s.heap s.heap [] := va_S.rf
  have hl := lv_entry ([.ref (ad 0)]) (n := 1) (Nat.le_of_ble_eq_true rfl)
  rw [lg_entry_eq]
  generalize (lg_sl ([.ref (ad 0)]) ++ List.replicate (1 - (lg_sl ([.ref (ad 0)])).length) Slot.unset).toArray = ls at hl ⊢
  have hl : lv_has ls 1 [(0, .ref (ad 0))] := hl
  refine lv_aload_n hx hb dX3_passHour_0 rfl (lv_at hl 0 rfl) ?_
  refine lv_dup hx hb dX3_passHour_1 rfl ?_
  refine rgF6 hx hb hf3 hown hK hP (hts (.fieldLink RX3 39 "MachineFoundry" "hour" "I") (by decide +kernel)) (rfl) dX3_passHour_2 ?_
  refine lv_iconst (v := 1) hx hb dX3_passHour_5 (by decide) ?_
  refine lv_iadd hx hb dX3_passHour_6 ?_
  refine rpF6 hx hb hf3 hown hK hP hD hS (hts (.fieldLink RX3 39 "MachineFoundry" "hour" "I") (by decide +kernel)) dX3_passHour_7 (fun H locs hP hS => ?_)
  refine lv_aload_n hx hb dX3_passHour_10 rfl (lv_at hl 0 rfl) ?_
  refine cMv (va_runV (As := []) (rest := []) ⟨hx, hb, hml, hown, hts⟩ (c_X3_failOverdueInstallations l D cy ad hj (up2 σ 20 6 ((σ 20 6) + 1))) (cwV 0 hts gX3_passHour_X3_failOverdueInstallations rfl rfl rfl (by decide +kernel) ⟨Nat.le_of_ble_eq_true rfl, Nat.le_of_ble_eq_true rfl⟩) ⟨cw_bl, (cw_F hP hK), (cw_at hP hK)⟩ rfl rfl hl.1 rfl (lv_room (Nat.le_of_ble_eq_true rfl)) dX3_passHour_11 ⟨Nat.le_of_ble_eq_true rfl, Nat.le_of_ble_eq_true rfl⟩) hS (fun H locs hP hS => ?_)
  refine W.eq (g2 := F0 m 14 ls []) rfl ?_
  refine lv_aload_n hx hb dX3_passHour_14 rfl (lv_at hl 0 rfl) ?_
  refine cMv (va_runV (As := []) (rest := []) ⟨hx, hb, hml, hown, hts⟩ (c_X3_wipeDrainedMachines l D cy ad hj (sFO (up2 σ 20 6 ((σ 20 6) + 1)) 16)) (cwV 0 hts gX3_passHour_X3_wipeDrainedMachines rfl rfl rfl (by decide +kernel) ⟨Nat.le_of_ble_eq_true rfl, Nat.le_of_ble_eq_true rfl⟩) ⟨cw_bl, (cw_F hP hK), (cw_at hP hK)⟩ rfl rfl hl.1 rfl (lv_room (Nat.le_of_ble_eq_true rfl)) dX3_passHour_15 ⟨Nat.le_of_ble_eq_true rfl, Nat.le_of_ble_eq_true rfl⟩) hS (fun H locs hP hS => ?_)
  refine W.eq (g2 := F0 m 18 ls []) rfl ?_
  refine lv_aload_n hx hb dX3_passHour_18 rfl (lv_at hl 0 rfl) ?_
  refine cMv (va_runV (As := []) (rest := []) ⟨hx, hb, hml, hown, hts⟩ (c_X3_enqueueRestedMachines l D cy ad hj (sWD (sFO (up2 σ 20 6 ((σ 20 6) + 1)) 16) 16)) (cwV 0 hts gX3_passHour_X3_enqueueRestedMachines rfl rfl rfl (by decide +kernel) ⟨Nat.le_of_ble_eq_true rfl, Nat.le_of_ble_eq_true rfl⟩) ⟨cw_bl, (cw_F hP hK), (cw_at hP hK)⟩ rfl rfl hl.1 rfl (lv_room (Nat.le_of_ble_eq_true rfl)) dX3_passHour_19 ⟨Nat.le_of_ble_eq_true rfl, Nat.le_of_ble_eq_true rfl⟩) hS (fun H locs hP hS => ?_)
  refine W.eq (g2 := F0 m 22 ls []) rfl ?_
  refine lv_aload_n hx hb dX3_passHour_22 rfl (lv_at hl 0 rfl) ?_
  refine cMv (va_runV (As := []) (rest := []) ⟨hx, hb, hml, hown, hts⟩ (c_X3_beginInstallations l D cy ad hj (sER (sWD (sFO (up2 σ 20 6 ((σ 20 6) + 1)) 16) 16) 16)) (cwV 0 hts gX3_passHour_X3_beginInstallations rfl rfl rfl (by decide +kernel) ⟨Nat.le_of_ble_eq_true rfl, Nat.le_of_ble_eq_true rfl⟩) ⟨cw_bl, (cw_F hP hK), (cw_at hP hK)⟩ rfl rfl hl.1 rfl (lv_room (Nat.le_of_ble_eq_true rfl)) dX3_passHour_23 ⟨Nat.le_of_ble_eq_true rfl, Nat.le_of_ble_eq_true rfl⟩) hS (fun H locs hP hS => ?_)
  refine W.eq (g2 := F0 m 26 ls []) rfl ?_
  have e8 : sPass σ = sBegins (sER (sWD (sFO (up2 σ 20 6 ((σ 20 6) + 1)) 16) 16) 16) := by rfl
  rw [← e8] at hP
  exact W.vret hx hb hr (fun t ht hW => ⟨⟨(), rfl, trivial, by rw [← ht] at hP; exact hP⟩, hS.F ht⟩) hS.2.2 dX3_passHour_26
