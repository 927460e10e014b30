set_option maxHeartbeats 4000000 in
set_option maxRecDepth 100000 in
/-- now -/
theorem c_X3_now (l : Launch) (D : va_G) (cy : Nat → ClassId) (ad : Nat → Nat) (σ : Mem) : Met l yX3_now wsX3_now ({ frames := 0, cells := 0, slots := 0, locals := 0 }) (va_Pc [.ref (ad 0)] (cw D cy ad σ)) (SI (σ 20 6)) 0 0 NoA := by
  refine Met.ofW (cc := cX3_now) (maxL := 1) (ret := (some .int)) (by decide) rfl ?_
  intro p e s m args below meth c s₁ B hml hv
  obtain ⟨rfl, hP, hK⟩ := hv
  have hx := B.exec
  have hb := B.bytes
  have hr := B.returns
  have hts := atoms_spec (ws := wsX3_now) B.pre
  have hown : s.vm.findClass RX3 = some m.cls := findClass_of_methodNamed B.named
  have hlocks := B.notSynchronized
  have hf3 := fun (w : Cond) (h : w ∈ wsX30) => hts w ((by decide +kernel : ∀ w ∈ wsX30, w ∈ wsX3_now) w h)
  have hl := lv_entry ([.ref (ad 0)]) (n := 1) (Nat.le_of_ble_eq_true rfl)
  rw [lg_entry_eq]
  generalize (lg_sl ([.ref (ad 0)]) ++ List.replicate (1 - (lg_sl ([.ref (ad 0)])).length) Slot.unset).toArray = ls at hl ⊢
  have hl : lv_has ls 1 [(0, .ref (ad 0))] := hl
  refine lv_aload_n hx hb dX3_now_0 rfl (lv_at hl 0 rfl) ?_
  refine rgF6 hx hb hf3 hown hK hP (hts (.fieldLink RX3 39 "MachineFoundry" "hour" "I") (by decide +kernel)) (rfl) dX3_now_1 ?_
  have e9 : σ 20 6 = (σ 20 6) := rfl
  exact W.iret (v := σ 20 6) hx hb hr (fun t ht hW => ⟨(), by rw [e9], trivial, ht⟩) (fun q h => nomatch h) dX3_now_4
set_option maxHeartbeats 4000000 in
set_option maxRecDepth 100000 in
/-- wipes -/
theorem c_X3_wipes (l : Launch) (D : va_G) (cy : Nat → ClassId) (ad : Nat → Nat) (σ : Mem) : Met l yX3_wipes wsX3_wipes ({ frames := 0, cells := 0, slots := 0, locals := 0 }) (va_Pc [.ref (ad 0)] (cw D cy ad σ)) (SI (σ 20 7)) 0 0 NoA := by
  refine Met.ofW (cc := cX3_wipes) (maxL := 1) (ret := (some .int)) (by decide) rfl ?_
  intro p e s m args below meth c s₁ B hml hv
  obtain ⟨rfl, hP, hK⟩ := hv
  have hx := B.exec
  have hb := B.bytes
  have hr := B.returns
  have hts := atoms_spec (ws := wsX3_wipes) B.pre
  have hown : s.vm.findClass RX3 = some m.cls := findClass_of_methodNamed B.named
  have hlocks := B.notSynchronized
  have hf3 := fun (w : Cond) (h : w ∈ wsX30) => hts w ((by decide +kernel : ∀ w ∈ wsX30, w ∈ wsX3_wipes) w h)
  have hl := lv_entry ([.ref (ad 0)]) (n := 1) (Nat.le_of_ble_eq_true rfl)
  rw [lg_entry_eq]
  generalize (lg_sl ([.ref (ad 0)]) ++ List.replicate (1 - (lg_sl ([.ref (ad 0)])).length) Slot.unset).toArray = ls at hl ⊢
  have hl : lv_has ls 1 [(0, .ref (ad 0))] := hl
  refine lv_aload_n hx hb dX3_wipes_0 rfl (lv_at hl 0 rfl) ?_
  refine rgF7 hx hb hf3 hown hK hP (hts (.fieldLink RX3 42 "MachineFoundry" "wipeCount" "I") (by decide +kernel)) (rfl) dX3_wipes_1 ?_
  have e9 : σ 20 7 = (σ 20 7) := rfl
  exact W.iret (v := σ 20 7) hx hb hr (fun t ht hW => ⟨(), by rw [e9], trivial, ht⟩) (fun q h => nomatch h) dX3_wipes_4
set_option maxHeartbeats 4000000 in
set_option maxRecDepth 100000 in
/-- entries -/
theorem c_X3_entries (l : Launch) (D : va_G) (cy : Nat → ClassId) (ad : Nat → Nat) (σ : Mem) : Met l yX3_entries wsX3_entries ({ frames := 2, cells := 0, slots := 0, locals := 33 }) (va_Pc [.ref (ad 0)] (cw D cy ad σ)) (SI (sKept σ)) 0 0 NoA := by
  refine Met.ofW (cc := cX3_entries) (maxL := 1) (ret := (some .int)) (by decide) rfl ?_
  intro p e s m args below meth c s₁ B hml hv
  obtain ⟨rfl, hP, hK⟩ := hv
  have hx := B.exec
  have hb := B.bytes
  have hr := B.returns
  have hts := atoms_spec (ws := wsX3_entries) B.pre
  have hown : s.vm.findClass RX3 = some m.cls := findClass_of_methodNamed B.named
  have hlocks := B.notSynchronized
  have hf3 := fun (w : Cond) (h : w ∈ wsX30) => hts w ((by decide +kernel : ∀ w ∈ wsX30, w ∈ wsX3_entries) w h)
  have hl := lv_entry ([.ref (ad 0)]) (n := 1) (Nat.le_of_ble_eq_true rfl)
  rw [lg_entry_eq]
  generalize (lg_sl ([.ref (ad 0)]) ++ List.replicate (1 - (lg_sl ([.ref (ad 0)])).length) Slot.unset).toArray = ls at hl ⊢
  have hl : lv_has ls 1 [(0, .ref (ad 0))] := hl
  refine lv_aload_n hx hb dX3_entries_0 rfl (lv_at hl 0 rfl) ?_
  refine rgF3 hx hb hf3 hown hK hP (hts (.fieldLink RX3 28 "MachineFoundry" "journal" "LMachineFoundry$Journal;") (by decide +kernel)) dX3_entries_1 ?_
  refine cS (W.runV (As := []) (rest := []) ⟨hx, hb, hml, hown, hts⟩ (c_X1_kept l D cy ad σ) (cwV 0 hts gX3_entries_X1_kept rfl rfl rfl (by decide +kernel) ⟨Nat.le_of_ble_eq_true rfl, Nat.le_of_ble_eq_true rfl⟩) ⟨cw_bl, (cw_J hP hK), (cw_at hP hK)⟩ rfl rfl hl.1 rfl (lv_room (Nat.le_of_ble_eq_true rfl)) dX3_entries_4 ⟨Nat.le_of_ble_eq_true rfl, Nat.le_of_ble_eq_true rfl⟩) (fun _ _ => ?_)
  refine W.eq (g2 := F0 m 7 ls [.int (sKept σ)]) rfl ?_
  have e9 : sKept σ = (sKept σ) := rfl
  exact W.iret (v := sKept σ) hx hb hr (fun t ht hW => ⟨(), by rw [e9], trivial, ht⟩) (fun q h => nomatch h) dX3_entries_7
set_option maxHeartbeats 4000000 in
set_option maxRecDepth 100000 in
/-- nextChange -/
theorem c_X3_nextChange (l : Launch) (D : va_G) (cy : Nat → ClassId) (ad : Nat → Nat) (σ : Mem) : Met l yX3_nextChange wsX3_nextChange ({ frames := 1, cells := 0, slots := 0, locals := 20 }) (va_Pc [.ref (ad 0)] (cw D cy ad σ)) (SI (rNextChange σ)) 0 0 NoA := by
  refine Met.ofW (cc := cX3_nextChange) (maxL := 4) (ret := (some .int)) (by decide) rfl ?_
  intro p e s m args below meth c s₁ B hml hv
  obtain ⟨rfl, hP, hK⟩ := hv
  have hx := B.exec
  have hb := B.bytes
  have hr := B.returns
  have hts := atoms_spec (ws := wsX3_nextChange) B.pre
  have hown : s.vm.findClass RX3 = some m.cls := findClass_of_methodNamed B.named
  have hlocks := B.notSynchronized
  have hf2 := fun (w : Cond) (h : w ∈ wsX20) => hts w ((by decide +kernel : ∀ w ∈ wsX20, w ∈ wsX3_nextChange) w h)
  have hf3 := fun (w : Cond) (h : w ∈ wsX30) => hts w ((by decide +kernel : ∀ w ∈ wsX30, w ∈ wsX3_nextChange) w h)
  have hl := lv_entry ([.ref (ad 0)]) (n := 4) (Nat.le_of_ble_eq_true rfl)
  rw [lg_entry_eq]
  generalize (lg_sl ([.ref (ad 0)]) ++ List.replicate (4 - (lg_sl ([.ref (ad 0)])).length) Slot.unset).toArray = ls at hl ⊢
  have hl : lv_has ls 4 [(0, .ref (ad 0))] := hl
  refine lv_iconst (v := (-1)) hx hb dX3_nextChange_0 (by decide) ?_
  refine lv_istore_n (lv' := [(1, .int (-1)), (0, .ref (ad 0))]) hx hb dX3_nextChange_1 rfl hl (by decide) rfl (fun ls hl => ?_)
  refine lv_iconst (v := 0) hx hb dX3_nextChange_2 (by decide) ?_
  refine lv_istore_n (lv' := [(2, .int 0), (1, .int (-1)), (0, .ref (ad 0))]) hx hb dX3_nextChange_3 rfl hl (by decide) rfl (fun ls hl => ?_)
  have hl0 : lv_has ls 4 [(1, .int (-1)), (2, .int (nI 0)), (0, .ref (ad 0))] := lv_sub hl [1, 0, 2] rfl
  refine w_loop 16 (fun _ => True) (fun k => [(1, .int (sNx σ k)), (2, .int (nI k)), (0, .ref (ad 0))]) 0 (Nat.zero_le _) trivial hl0 (fun ls hI hl => ?_) (fun k hk0 hk ls hI hl ih => ?_)
  · have hl : lv_has ls 4 [(1, .int (sNx σ 16)), (2, .int (nI 16)), (0, .ref (ad 0))] := hl
    refine lv_iload_n hx hb dX3_nextChange_4 rfl (lv_at hl 1 rfl) ?_
    refine lv_aload_n hx hb dX3_nextChange_5 rfl (lv_at hl 2 rfl) ?_
    refine rgF0 hx hb hf3 hown hK hP (hts (.fieldLink RX3 11 "MachineFoundry" "machines" "[LMachineFoundry$Machine;") (by decide +kernel)) dX3_nextChange_6 ?_
    refine rlM hx hb hK hP dX3_nextChange_9 ?_
    refine lv_icmp_ge (tgt := 51) hx hb dX3_nextChange_10 (by decide) (fun c_1 => ?_) (fun c_1 => absurd ((show (16 : Int32) ≤ nI 16 from nI_le (a := 16) (b := 16) (Nat.le_refl 16) (by decide))) c_1)
    refine lv_iload_n hx hb dX3_nextChange_51 rfl (lv_at hl 0 rfl) ?_
    refine lv_iconst (v := (-1)) hx hb dX3_nextChange_52 (by decide) ?_
    refine lv_icmp_ne (tgt := 60) hx hb dX3_nextChange_53 (by decide) (fun c_2 => ?_) (fun c_2 => ?_)
    · refine lv_iload_n hx hb dX3_nextChange_60 rfl (lv_at hl 0 rfl) ?_
      refine lv_aload_n hx hb dX3_nextChange_61 rfl (lv_at hl 2 rfl) ?_
      refine rgF6 hx hb hf3 hown hK hP (hts (.fieldLink RX3 39 "MachineFoundry" "hour" "I") (by decide +kernel)) (rfl) dX3_nextChange_62 ?_
      refine lv_isub hx hb dX3_nextChange_65 ?_
      have e9 : rNextChange σ = ((sNx σ 16) - (σ 20 6)) := by simp [rNextChange, c_1, c_2]
      exact W.iret (v := (sNx σ 16) - (σ 20 6)) hx hb hr (fun t ht hW => ⟨(), by rw [e9], trivial, ht⟩) (fun q h => nomatch h) dX3_nextChange_66
    · refine lv_iconst (v := (-1)) hx hb dX3_nextChange_56 (by decide) ?_
      refine lv_goto (tgt := 66) hx hb dX3_nextChange_57 (by decide) ?_
      have e9 : rNextChange σ = (-1) := by simp [rNextChange, c_1, c_2]
      exact W.iret (v := (-1)) hx hb hr (fun t ht hW => ⟨(), by rw [e9], trivial, ht⟩) (fun q h => nomatch h) dX3_nextChange_66
  · have hl : lv_has ls 4 [(1, .int (sNx σ k)), (2, .int (nI k)), (0, .ref (ad 0))] := hl
    refine lv_iload_n hx hb dX3_nextChange_4 rfl (lv_at hl 1 rfl) ?_
    refine lv_aload_n hx hb dX3_nextChange_5 rfl (lv_at hl 2 rfl) ?_
    refine rgF0 hx hb hf3 hown hK hP (hts (.fieldLink RX3 11 "MachineFoundry" "machines" "[LMachineFoundry$Machine;") (by decide +kernel)) dX3_nextChange_6 ?_
    refine rlM hx hb hK hP dX3_nextChange_9 ?_
    refine lv_icmp_ge (tgt := 51) hx hb dX3_nextChange_10 (by decide) (fun c_3 => absurd c_3 ((show ¬ (16 : Int32) ≤ nI k from nI_ge (a := k) (b := 16) hk (by decide)))) (fun c_3 => ?_)
    refine lv_aload_n hx hb dX3_nextChange_13 rfl (lv_at hl 2 rfl) ?_
    refine rgF0 hx hb hf3 hown hK hP (hts (.fieldLink RX3 11 "MachineFoundry" "machines" "[LMachineFoundry$Machine;") (by decide +kernel)) dX3_nextChange_14 ?_
    refine lv_iload_n hx hb dX3_nextChange_17 rfl (lv_at hl 1 rfl) ?_
    refine raM hx hb hK hP hk dX3_nextChange_18 ?_
    refine lv_astore_n (lv' := [(3, .ref (ad (k + 7))), (1, .int (sNx σ k)), (2, .int (nI k)), (0, .ref (ad 0))]) hx hb dX3_nextChange_19 rfl hl (by decide) rfl (fun ls hl => ?_)
    refine lv_aload_n hx hb dX3_nextChange_20 rfl (lv_at hl 0 rfl) ?_
    refine cS (W.runV (As := []) (rest := []) ⟨hx, hb, hml, hown, hts⟩ (c_X2_endsByItself l D cy ad σ k hk) (cwV 0 hts gX3_nextChange_X2_endsByItself rfl rfl rfl (by decide +kernel) ⟨Nat.le_of_ble_eq_true rfl, Nat.le_of_ble_eq_true rfl⟩) ⟨cw_bl, (cw_M hP hK hk), (cw_at hP hK)⟩ rfl rfl hl.1 rfl (lv_room (Nat.le_of_ble_eq_true rfl)) dX3_nextChange_21 ⟨Nat.le_of_ble_eq_true rfl, Nat.le_of_ble_eq_true rfl⟩) (fun _ _ => ?_)
    refine W.eq (g2 := F0 m 24 ls [.int (b2i (sEnds σ k))]) rfl ?_
    refine lv_if_eq (tgt := 45) hx hb dX3_nextChange_24 (by decide) (fun c_4 => ?_) (fun c_4 => ?_)
    · replace c_4 := b2i_0.mp c_4
      refine lv_iinc (v := nI (k + 1)) (lv' := [(2, .int (nI (k + 1))), (3, .ref (ad (k + 7))), (1, .int (sNx σ k)), (0, .ref (ad 0))]) hx hb dX3_nextChange_45 hl (k := 2) rfl (nI_1 k) (by decide) rfl (fun ls hl => ?_)
      refine lv_goto (tgt := 4) hx hb dX3_nextChange_48 (by decide) ?_
      have e70 : sNx σ (k + 1) = sNx σ k := by simp [sNx, c_4]
      exact ih ls trivial (show lv_has ls 4 [(1, .int (sNx σ (k + 1))), (2, .int (nI (k + 1))), (0, .ref (ad 0))] from by rw [e70]; exact lv_sub hl [2, 0, 3] rfl)
    · replace c_4 := b2i_n0.mp c_4
      refine lv_iload_n hx hb dX3_nextChange_27 rfl (lv_at hl 1 rfl) ?_
      refine lv_iconst (v := (-1)) hx hb dX3_nextChange_28 (by decide) ?_
      refine lv_icmp_eq (tgt := 40) hx hb dX3_nextChange_29 (by decide) (fun c_5 => ?_) (fun c_5 => ?_)
      · refine lv_aload_n hx hb dX3_nextChange_40 rfl (lv_at hl 0 rfl) ?_
        refine rgM8 hx hb hf2 hown hK hP hk (hts (.fieldLink RX3 152 "MachineFoundry$Machine" "end" "I") (by decide +kernel)) (rfl) dX3_nextChange_41 ?_
        refine lv_istore_n (lv' := [(1, .int (σ 8 k)), (3, .ref (ad (k + 7))), (2, .int (nI k)), (0, .ref (ad 0))]) hx hb dX3_nextChange_44 rfl hl (by decide) rfl (fun ls hl => ?_)
        refine lv_iinc (v := nI (k + 1)) (lv' := [(2, .int (nI (k + 1))), (1, .int (σ 8 k)), (3, .ref (ad (k + 7))), (0, .ref (ad 0))]) hx hb dX3_nextChange_45 hl (k := 2) rfl (nI_1 k) (by decide) rfl (fun ls hl => ?_)
        refine lv_goto (tgt := 4) hx hb dX3_nextChange_48 (by decide) ?_
        have e70 : sNx σ (k + 1) = σ 8 k := by simp [sNx, c_4, c_5]
        exact ih ls trivial (show lv_has ls 4 [(1, .int (sNx σ (k + 1))), (2, .int (nI (k + 1))), (0, .ref (ad 0))] from by rw [e70]; exact lv_sub hl [1, 0, 3] rfl)
      · refine lv_aload_n hx hb dX3_nextChange_32 rfl (lv_at hl 0 rfl) ?_
        refine rgM8 hx hb hf2 hown hK hP hk (hts (.fieldLink RX3 152 "MachineFoundry$Machine" "end" "I") (by decide +kernel)) (rfl) dX3_nextChange_33 ?_
        refine lv_iload_n hx hb dX3_nextChange_36 rfl (lv_at hl 1 rfl) ?_
        refine lv_icmp_ge (tgt := 45) hx hb dX3_nextChange_37 (by decide) (fun c_6 => ?_) (fun c_6 => ?_)
        · have d_6 := Int32.not_lt.mpr c_6
          refine lv_iinc (v := nI (k + 1)) (lv' := [(2, .int (nI (k + 1))), (3, .ref (ad (k + 7))), (1, .int (sNx σ k)), (0, .ref (ad 0))]) hx hb dX3_nextChange_45 hl (k := 2) rfl (nI_1 k) (by decide) rfl (fun ls hl => ?_)
          refine lv_goto (tgt := 4) hx hb dX3_nextChange_48 (by decide) ?_
          have e70 : sNx σ (k + 1) = sNx σ k := by simp [sNx, c_4, c_5, c_6, d_6]
          exact ih ls trivial (show lv_has ls 4 [(1, .int (sNx σ (k + 1))), (2, .int (nI (k + 1))), (0, .ref (ad 0))] from by rw [e70]; exact lv_sub hl [2, 0, 3] rfl)
        · have d_6 := Int32.not_le.mp c_6
          refine lv_aload_n hx hb dX3_nextChange_40 rfl (lv_at hl 0 rfl) ?_
          refine rgM8 hx hb hf2 hown hK hP hk (hts (.fieldLink RX3 152 "MachineFoundry$Machine" "end" "I") (by decide +kernel)) (rfl) dX3_nextChange_41 ?_
          refine lv_istore_n (lv' := [(1, .int (σ 8 k)), (3, .ref (ad (k + 7))), (2, .int (nI k)), (0, .ref (ad 0))]) hx hb dX3_nextChange_44 rfl hl (by decide) rfl (fun ls hl => ?_)
          refine lv_iinc (v := nI (k + 1)) (lv' := [(2, .int (nI (k + 1))), (1, .int (σ 8 k)), (3, .ref (ad (k + 7))), (0, .ref (ad 0))]) hx hb dX3_nextChange_45 hl (k := 2) rfl (nI_1 k) (by decide) rfl (fun ls hl => ?_)
          refine lv_goto (tgt := 4) hx hb dX3_nextChange_48 (by decide) ?_
          have e70 : sNx σ (k + 1) = σ 8 k := by simp [sNx, c_4, c_5, c_6, d_6]
          exact ih ls trivial (show lv_has ls 4 [(1, .int (sNx σ (k + 1))), (2, .int (nI (k + 1))), (0, .ref (ad 0))] from by rw [e70]; exact lv_sub hl [1, 0, 3] rfl)
set_option maxHeartbeats 4000000 in
set_option maxRecDepth 100000 in
theorem c_X3_reasonOfState (l : Launch) (st : Int32) : Met l yX3_reasonOfState wsX3_reasonOfState ({ frames := 0, cells := 0, slots := 0, locals := 0 }) (va_Pc [.int st] (fun _ => True)) (SI (sRs st)) 0 0 NoA := by
  refine Met.ofW (cc := cX3_reasonOfState) (maxL := 1) (ret := (some .int)) (by decide) rfl ?_
  intro p e s m args below meth c s₁ B hml hv
  obtain ⟨rfl, -⟩ := hv
  have hx := B.exec
  have hb := B.bytes
  have hr := B.returns
  have hts := atoms_spec (ws := wsX3_reasonOfState) B.pre
  have hown : s.vm.findClass RX3 = some m.cls := findClass_of_methodNamed B.named
  have hlocks := B.notSynchronized
  have hl := lv_entry ([.int st]) (n := 1) (Nat.le_of_ble_eq_true rfl)
  rw [lg_entry_eq]
  generalize (lg_sl ([.int st]) ++ List.replicate (1 - (lg_sl ([.int st])).length) Slot.unset).toArray = ls at hl ⊢
  have hl : lv_has ls 1 [(0, .int st)] := hl
  refine lv_iload_n hx hb dX3_reasonOfState_0 rfl (lv_at hl 0 rfl) ?_
  by_cases h0 : st = 0
  · subst h0
    refine lv_tableIn (tgt := 48) hx hb dX3_reasonOfState_1 (by decide) (by decide) (off := 47) (by decide) (by decide) ?_
    refine lv_iconst (v := 1) hx hb dX3_reasonOfState_48 (by decide) ?_
    have e9 : sRs 0 = 1 := by decide
    exact W.iret (v := 1) hx hb hr (fun t ht hW => ⟨(), by rw [e9], trivial, ht⟩) (fun q h => nomatch h) dX3_reasonOfState_49
  · by_cases h1 : st = 1
    · subst h1
      refine lv_tableIn (tgt := 50) hx hb dX3_reasonOfState_1 (by decide) (by decide) (off := 49) (by decide) (by decide) ?_
      refine lv_iconst (v := 3) hx hb dX3_reasonOfState_50 (by decide) ?_
      have e9 : sRs 1 = 3 := by decide
      exact W.iret (v := 3) hx hb hr (fun t ht hW => ⟨(), by rw [e9], trivial, ht⟩) (fun q h => nomatch h) dX3_reasonOfState_51
    · by_cases h2 : st = 2
      · subst h2
        refine lv_tableIn (tgt := 52) hx hb dX3_reasonOfState_1 (by decide) (by decide) (off := 51) (by decide) (by decide) ?_
        refine lv_iconst (v := 4) hx hb dX3_reasonOfState_52 (by decide) ?_
        have e9 : sRs 2 = 4 := by decide
        exact W.iret (v := 4) hx hb hr (fun t ht hW => ⟨(), by rw [e9], trivial, ht⟩) (fun q h => nomatch h) dX3_reasonOfState_53
      · by_cases h3 : st = 3
        · subst h3
          refine lv_tableIn (tgt := 54) hx hb dX3_reasonOfState_1 (by decide) (by decide) (off := 53) (by decide) (by decide) ?_
          refine lv_iconst (v := 5) hx hb dX3_reasonOfState_54 (by decide) ?_
          have e9 : sRs 3 = 5 := by decide
          exact W.iret (v := 5) hx hb hr (fun t ht hW => ⟨(), by rw [e9], trivial, ht⟩) (fun q h => nomatch h) dX3_reasonOfState_55
        · by_cases h4 : st = 4
          · subst h4
            refine lv_tableIn (tgt := 56) hx hb dX3_reasonOfState_1 (by decide) (by decide) (off := 55) (by decide) (by decide) ?_
            refine lv_bipush (v := 6) hx hb dX3_reasonOfState_56 (by decide) ?_
            have e9 : sRs 4 = 6 := by decide
            exact W.iret (v := 6) hx hb hr (fun t ht hW => ⟨(), by rw [e9], trivial, ht⟩) (fun q h => nomatch h) dX3_reasonOfState_58
          · by_cases h5 : st = 5
            · subst h5
              refine lv_tableIn (tgt := 65) hx hb dX3_reasonOfState_1 (by decide) (by decide) (off := 64) (by decide) (by decide) ?_
              refine lv_iconst (v := 0) hx hb dX3_reasonOfState_65 (by decide) ?_
              have e9 : sRs 5 = 0 := by decide
              exact W.iret (v := 0) hx hb hr (fun t ht hW => ⟨(), by rw [e9], trivial, ht⟩) (fun q h => nomatch h) dX3_reasonOfState_66
            · by_cases h6 : st = 6
              · subst h6
                refine lv_tableIn (tgt := 59) hx hb dX3_reasonOfState_1 (by decide) (by decide) (off := 58) (by decide) (by decide) ?_
                refine lv_bipush (v := 7) hx hb dX3_reasonOfState_59 (by decide) ?_
                have e9 : sRs 6 = 7 := by decide
                exact W.iret (v := 7) hx hb hr (fun t ht hW => ⟨(), by rw [e9], trivial, ht⟩) (fun q h => nomatch h) dX3_reasonOfState_61
              · by_cases h7 : st = 7
                · subst h7
                  refine lv_tableIn (tgt := 62) hx hb dX3_reasonOfState_1 (by decide) (by decide) (off := 61) (by decide) (by decide) ?_
                  refine lv_bipush (v := 8) hx hb dX3_reasonOfState_62 (by decide) ?_
                  have e9 : sRs 7 = 8 := by decide
                  exact W.iret (v := 8) hx hb hr (fun t ht hW => ⟨(), by rw [e9], trivial, ht⟩) (fun q h => nomatch h) dX3_reasonOfState_64
                · refine lv_tableOut (tgt := 65) hx hb dX3_reasonOfState_1 (sw8 h0 h1 h2 h3 h4 h5 h6 h7) (by decide) ?_
                  refine lv_iconst (v := 0) hx hb dX3_reasonOfState_65 (by decide) ?_
                  have e9 : sRs st = 0 := by simp [sRs, h0, h1, h2, h3, h4, h6, h7]
                  exact W.iret (v := 0) hx hb hr (fun t ht hW => ⟨(), by rw [e9], trivial, ht⟩) (fun q h => nomatch h) dX3_reasonOfState_66
set_option maxHeartbeats 4000000 in
set_option maxRecDepth 100000 in
/-- stateOf -/
theorem c_X3_stateOf (l : Launch) (hst : l.stackTraces = false) (D : va_G) (cy : Nat → ClassId) (ad : Nat → Nat) (σ : Mem) (sz : Nat) (za : Int32) : vx_Met l yX3_stateOf wsX3_stateOf ({ frames := 7, cells := 1, slots := 6, locals := 103 }) (va_Pc [.ref (ad 0), .int za] (cx D cy ad σ sz)) (SR (fun _ : Unit => some (.int (rStateOf σ za))) (fun _ => kM za = 0)) (XE (ex1 (kM za))) 1 6 NoA := by
  refine vx_ofW (cc := cX3_stateOf) (maxL := 2) (ret := (some .int)) (by decide) rfl ?_
  intro p e s m args below meth c s₁ B hml ht hv
  obtain ⟨rfl, ⟨hP, hK⟩, hxk⟩ := hv
  have hx := B.exec
  have hb := B.bytes
  have hr := B.returns
  have hts := atoms_spec (ws := wsX3_stateOf) B.pre
  have hown : s.vm.findClass RX3 = some m.cls := findClass_of_methodNamed B.named
  have hlocks := B.notSynchronized
  have hf2 := fun (w : Cond) (h : w ∈ wsX20) => hts w ((by decide +kernel : ∀ w ∈ wsX20, w ∈ wsX3_stateOf) w h)
  have hl := lv_entry ([.ref (ad 0), .int za]) (n := 2) (Nat.le_of_ble_eq_true rfl)
  rw [lg_entry_eq]
  generalize (lg_sl ([.ref (ad 0), .int za]) ++ List.replicate (2 - (lg_sl ([.ref (ad 0), .int za])).length) Slot.unset).toArray = ls at hl ⊢
  have hl : lv_has ls 2 [(0, .ref (ad 0)), (1, .int za)] := hl
  refine lv_aload_n hx hb dX3_stateOf_0 rfl (lv_at hl 0 rfl) ?_
  refine lv_iload_n hx hb dX3_stateOf_1 rfl (lv_at hl 1 rfl) ?_
  refine xS (vx_runV (As := [.int za]) (rest := []) ⟨hx, hb, hml, hown, hts⟩ (c_X3_machineRow l hst D cy ad σ sz za) (cwV 1 hts gX3_stateOf_X3_machineRow rfl rfl rfl (by decide +kernel) ⟨Nat.le_of_ble_eq_true rfl, Nat.le_of_ble_eq_true rfl⟩) ⟨cx_bl, cw_F hP hK, cx_at hP hK hxk⟩ rfl rfl hl.1 rfl (lv_room (Nat.le_of_ble_eq_true rfl)) dX3_stateOf_2 ⟨Nat.le_of_ble_eq_true rfl, Nat.le_of_ble_eq_true rfl⟩) (fun E ce q9 H1 hE h1 h2 h3 h4 h5 => xOut ht hlocks h1 h2 h3 h4 h5 (by obtain ⟨rfl, h9⟩ := hE; first | exact ⟨rfl, by simp [h9, kM, rStateOf]⟩ | exact Or.inl ⟨rfl, by simp [h9, kM, rStateOf]⟩ | exact Or.inr ⟨rfl, by simp [h9, kM, rStateOf]⟩ | exact Or.inr (Or.inl ⟨rfl, by simp [h9, kM, rStateOf]⟩) | exact Or.inr (Or.inr ⟨rfl, by simp [h9, kM, rStateOf]⟩)) (Nat.le_of_ble_eq_true rfl) (Nat.le_of_ble_eq_true rfl)) (fun i h1 => ?_)
  obtain ⟨hi, rfl⟩ := h1
  refine W.eq (g2 := F0 m 5 ls [.ref (ad (i + 7))]) rfl ?_
  have hl : lv_has ls 2 [(0, .ref (ad 0)), (1, .int (nI i))] := hl
  refine rgM1 hx hb hf2 hown hK hP hi (hts (.fieldLink RX3 117 "MachineFoundry$Machine" "state" "I") (by decide +kernel)) (rfl) dX3_stateOf_5 ?_
  have e9 : rStateOf σ (nI i) = (σ 1 i) := by simp [kM, rStateOf, inB_15 hi, ix_nI (show i < 2147483648 by omega)]
  have e8 : kM (nI i) = 0 := by simp [kM, rStateOf, inB_15 hi, ix_nI (show i < 2147483648 by omega)]
  refine vx_ret (W.widen (k := 1) (n := 6) (Nat.le_of_ble_eq_true rfl) (Nat.le_of_ble_eq_true rfl) ?_)
  exact W.iret (v := σ 1 i) hx hb hr (fun t ht9 hW => ⟨(), by rw [e9], e8, ht9⟩) (fun q h => nomatch h) dX3_stateOf_8
set_option maxHeartbeats 4000000 in
set_option maxRecDepth 100000 in
/-- failuresOf -/
theorem c_X3_failuresOf (l : Launch) (hst : l.stackTraces = false) (D : va_G) (cy : Nat → ClassId) (ad : Nat → Nat) (σ : Mem) (sz : Nat) (za : Int32) : vx_Met l yX3_failuresOf wsX3_failuresOf ({ frames := 7, cells := 1, slots := 6, locals := 103 }) (va_Pc [.ref (ad 0), .int za] (cx D cy ad σ sz)) (SR (fun _ : Unit => some (.int (rFailuresOf σ za))) (fun _ => kM za = 0)) (XE (ex1 (kM za))) 1 6 NoA := by
  refine vx_ofW (cc := cX3_failuresOf) (maxL := 2) (ret := (some .int)) (by decide) rfl ?_
  intro p e s m args below meth c s₁ B hml ht hv
  obtain ⟨rfl, ⟨hP, hK⟩, hxk⟩ := hv
  have hx := B.exec
  have hb := B.bytes
  have hr := B.returns
  have hts := atoms_spec (ws := wsX3_failuresOf) B.pre
  have hown : s.vm.findClass RX3 = some m.cls := findClass_of_methodNamed B.named
  have hlocks := B.notSynchronized
  have hf2 := fun (w : Cond) (h : w ∈ wsX20) => hts w ((by decide +kernel : ∀ w ∈ wsX20, w ∈ wsX3_failuresOf) w h)
  have hl := lv_entry ([.ref (ad 0), .int za]) (n := 2) (Nat.le_of_ble_eq_true rfl)
  rw [lg_entry_eq]
  generalize (lg_sl ([.ref (ad 0), .int za]) ++ List.replicate (2 - (lg_sl ([.ref (ad 0), .int za])).length) Slot.unset).toArray = ls at hl ⊢
  have hl : lv_has ls 2 [(0, .ref (ad 0)), (1, .int za)] := hl
  refine lv_aload_n hx hb dX3_failuresOf_0 rfl (lv_at hl 0 rfl) ?_
  refine lv_iload_n hx hb dX3_failuresOf_1 rfl (lv_at hl 1 rfl) ?_
  refine xS (vx_runV (As := [.int za]) (rest := []) ⟨hx, hb, hml, hown, hts⟩ (c_X3_machineRow l hst D cy ad σ sz za) (cwV 1 hts gX3_failuresOf_X3_machineRow rfl rfl rfl (by decide +kernel) ⟨Nat.le_of_ble_eq_true rfl, Nat.le_of_ble_eq_true rfl⟩) ⟨cx_bl, cw_F hP hK, cx_at hP hK hxk⟩ rfl rfl hl.1 rfl (lv_room (Nat.le_of_ble_eq_true rfl)) dX3_failuresOf_2 ⟨Nat.le_of_ble_eq_true rfl, Nat.le_of_ble_eq_true rfl⟩) (fun E ce q9 H1 hE h1 h2 h3 h4 h5 => xOut ht hlocks h1 h2 h3 h4 h5 (by obtain ⟨rfl, h9⟩ := hE; first | exact ⟨rfl, by simp [h9, kM, rFailuresOf]⟩ | exact Or.inl ⟨rfl, by simp [h9, kM, rFailuresOf]⟩ | exact Or.inr ⟨rfl, by simp [h9, kM, rFailuresOf]⟩ | exact Or.inr (Or.inl ⟨rfl, by simp [h9, kM, rFailuresOf]⟩) | exact Or.inr (Or.inr ⟨rfl, by simp [h9, kM, rFailuresOf]⟩)) (Nat.le_of_ble_eq_true rfl) (Nat.le_of_ble_eq_true rfl)) (fun i h1 => ?_)
  obtain ⟨hi, rfl⟩ := h1
  refine W.eq (g2 := F0 m 5 ls [.ref (ad (i + 7))]) rfl ?_
  have hl : lv_has ls 2 [(0, .ref (ad 0)), (1, .int (nI i))] := hl
  refine rgM6 hx hb hf2 hown hK hP hi (hts (.fieldLink RX3 141 "MachineFoundry$Machine" "failures" "I") (by decide +kernel)) (rfl) dX3_failuresOf_5 ?_
  have e9 : rFailuresOf σ (nI i) = (σ 6 i) := by simp [kM, rFailuresOf, inB_15 hi, ix_nI (show i < 2147483648 by omega)]
  have e8 : kM (nI i) = 0 := by simp [kM, rFailuresOf, inB_15 hi, ix_nI (show i < 2147483648 by omega)]
  refine vx_ret (W.widen (k := 1) (n := 6) (Nat.le_of_ble_eq_true rfl) (Nat.le_of_ble_eq_true rfl) ?_)
  exact W.iret (v := σ 6 i) hx hb hr (fun t ht9 hW => ⟨(), by rw [e9], e8, ht9⟩) (fun q h => nomatch h) dX3_failuresOf_8
set_option maxHeartbeats 4000000 in
set_option maxRecDepth 100000 in
/-- imageOf -/
theorem c_X3_imageOf (l : Launch) (hst : l.stackTraces = false) (D : va_G) (cy : Nat → ClassId) (ad : Nat → Nat) (σ : Mem) (sz : Nat) (za : Int32) : vx_Met l yX3_imageOf wsX3_imageOf ({ frames := 7, cells := 1, slots := 6, locals := 103 }) (va_Pc [.ref (ad 0), .int za] (cx D cy ad σ sz)) (SR (fun _ : Unit => some (.int (rImageOf σ za))) (fun _ => kM za = 0)) (XE (ex1 (kM za))) 1 6 NoA := by
  refine vx_ofW (cc := cX3_imageOf) (maxL := 3) (ret := (some .int)) (by decide) rfl ?_
  intro p e s m args below meth c s₁ B hml ht hv
  obtain ⟨rfl, ⟨hP, hK⟩, hxk⟩ := hv
  have hx := B.exec
  have hb := B.bytes
  have hr := B.returns
  have hts := atoms_spec (ws := wsX3_imageOf) B.pre
  have hown : s.vm.findClass RX3 = some m.cls := findClass_of_methodNamed B.named
  have hlocks := B.notSynchronized
  have hf2 := fun (w : Cond) (h : w ∈ wsX20) => hts w ((by decide +kernel : ∀ w ∈ wsX20, w ∈ wsX3_imageOf) w h)
  have hl := lv_entry ([.ref (ad 0), .int za]) (n := 3) (Nat.le_of_ble_eq_true rfl)
  rw [lg_entry_eq]
  generalize (lg_sl ([.ref (ad 0), .int za]) ++ List.replicate (3 - (lg_sl ([.ref (ad 0), .int za])).length) Slot.unset).toArray = ls at hl ⊢
  have hl : lv_has ls 3 [(0, .ref (ad 0)), (1, .int za)] := hl
  refine lv_aload_n hx hb dX3_imageOf_0 rfl (lv_at hl 0 rfl) ?_
  refine lv_iload_n hx hb dX3_imageOf_1 rfl (lv_at hl 1 rfl) ?_
  refine xS (vx_runV (As := [.int za]) (rest := []) ⟨hx, hb, hml, hown, hts⟩ (c_X3_machineRow l hst D cy ad σ sz za) (cwV 1 hts gX3_imageOf_X3_machineRow rfl rfl rfl (by decide +kernel) ⟨Nat.le_of_ble_eq_true rfl, Nat.le_of_ble_eq_true rfl⟩) ⟨cx_bl, cw_F hP hK, cx_at hP hK hxk⟩ rfl rfl hl.1 rfl (lv_room (Nat.le_of_ble_eq_true rfl)) dX3_imageOf_2 ⟨Nat.le_of_ble_eq_true rfl, Nat.le_of_ble_eq_true rfl⟩) (fun E ce q9 H1 hE h1 h2 h3 h4 h5 => xOut ht hlocks h1 h2 h3 h4 h5 (by obtain ⟨rfl, h9⟩ := hE; first | exact ⟨rfl, by simp [h9, kM, rImageOf]⟩ | exact Or.inl ⟨rfl, by simp [h9, kM, rImageOf]⟩ | exact Or.inr ⟨rfl, by simp [h9, kM, rImageOf]⟩ | exact Or.inr (Or.inl ⟨rfl, by simp [h9, kM, rImageOf]⟩) | exact Or.inr (Or.inr ⟨rfl, by simp [h9, kM, rImageOf]⟩)) (Nat.le_of_ble_eq_true rfl) (Nat.le_of_ble_eq_true rfl)) (fun i h1 => ?_)
  obtain ⟨hi, rfl⟩ := h1
  refine W.eq (g2 := F0 m 5 ls [.ref (ad (i + 7))]) rfl ?_
  have hl : lv_has ls 3 [(0, .ref (ad 0)), (1, .int (nI i))] := hl
  refine lv_astore_n (lv' := [(2, .ref (ad (i + 7))), (0, .ref (ad 0)), (1, .int (nI i))]) hx hb dX3_imageOf_5 rfl hl (by decide) rfl (fun ls hl => ?_)
  refine lv_aload_n hx hb dX3_imageOf_6 rfl (lv_at hl 0 rfl) ?_
  refine cS (W.runV (As := []) (rest := []) ⟨hx, hb, hml, hown, hts⟩ (c_X2_bearsImage l D cy ad σ i hi) (cwV 0 hts gX3_imageOf_X2_bearsImage rfl rfl rfl (by decide +kernel) ⟨Nat.le_of_ble_eq_true rfl, Nat.le_of_ble_eq_true rfl⟩) ⟨cw_bl, (cw_M hP hK hi), (cw_at hP hK)⟩ rfl rfl hl.1 rfl (lv_room (Nat.le_of_ble_eq_true rfl)) dX3_imageOf_7 ⟨Nat.le_of_ble_eq_true rfl, Nat.le_of_ble_eq_true rfl⟩) (fun _ _ => ?_)
  refine W.eq (g2 := F0 m 10 ls [.int (b2i (sBears σ i))]) rfl ?_
  refine lv_if_eq (tgt := 20) hx hb dX3_imageOf_10 (by decide) (fun c_2 => ?_) (fun c_2 => ?_)
  · replace c_2 := b2i_0.mp c_2
    refine lv_iconst (v := (-1)) hx hb dX3_imageOf_20 (by decide) ?_
    have e9 : rImageOf σ (nI i) = (-1) := by simp [kM, rImageOf, c_2, inB_15 hi, ix_nI (show i < 2147483648 by omega)]
    have e8 : kM (nI i) = 0 := by simp [kM, rImageOf, c_2, inB_15 hi, ix_nI (show i < 2147483648 by omega)]
    refine vx_ret (W.widen (k := 1) (n := 6) (Nat.le_of_ble_eq_true rfl) (Nat.le_of_ble_eq_true rfl) ?_)
    exact W.iret (v := (-1)) hx hb hr (fun t ht9 hW => ⟨(), by rw [e9], e8, ht9⟩) (fun q h => nomatch h) dX3_imageOf_21
  · replace c_2 := b2i_n0.mp c_2
    refine lv_aload_n hx hb dX3_imageOf_13 rfl (lv_at hl 0 rfl) ?_
    refine rgM7 hx hb hf2 hown hK hP hi (hts (.fieldLink RX3 176 "MachineFoundry$Machine" "image" "I") (by decide +kernel)) (rfl) dX3_imageOf_14 ?_
    refine lv_goto (tgt := 21) hx hb dX3_imageOf_17 (by decide) ?_
    have e9 : rImageOf σ (nI i) = (σ 7 i) := by simp [kM, rImageOf, c_2, inB_15 hi, ix_nI (show i < 2147483648 by omega)]
    have e8 : kM (nI i) = 0 := by simp [kM, rImageOf, c_2, inB_15 hi, ix_nI (show i < 2147483648 by omega)]
    refine vx_ret (W.widen (k := 1) (n := 6) (Nat.le_of_ble_eq_true rfl) (Nat.le_of_ble_eq_true rfl) ?_)
    exact W.iret (v := σ 7 i) hx hb hr (fun t ht9 hW => ⟨(), by rw [e9], e8, ht9⟩) (fun q h => nomatch h) dX3_imageOf_21
set_option maxHeartbeats 4000000 in
set_option maxRecDepth 100000 in
/-- endOf -/
theorem c_X3_endOf (l : Launch) (hst : l.stackTraces = false) (D : va_G) (cy : Nat → ClassId) (ad : Nat → Nat) (σ : Mem) (sz : Nat) (za : Int32) : vx_Met l yX3_endOf wsX3_endOf ({ frames := 7, cells := 1, slots := 6, locals := 103 }) (va_Pc [.ref (ad 0), .int za] (cx D cy ad σ sz)) (SR (fun _ : Unit => some (.int (rEndOf σ za))) (fun _ => kM za = 0)) (XE (ex1 (kM za))) 1 6 NoA := by
  refine vx_ofW (cc := cX3_endOf) (maxL := 3) (ret := (some .int)) (by decide) rfl ?_
  intro p e s m args below meth c s₁ B hml ht hv
  obtain ⟨rfl, ⟨hP, hK⟩, hxk⟩ := hv
  have hx := B.exec
  have hb := B.bytes
  have hr := B.returns
  have hts := atoms_spec (ws := wsX3_endOf) B.pre
  have hown : s.vm.findClass RX3 = some m.cls := findClass_of_methodNamed B.named
  have hlocks := B.notSynchronized
  have hf2 := fun (w : Cond) (h : w ∈ wsX20) => hts w ((by decide +kernel : ∀ w ∈ wsX20, w ∈ wsX3_endOf) w h)
  have hl := lv_entry ([.ref (ad 0), .int za]) (n := 3) (Nat.le_of_ble_eq_true rfl)
  rw [lg_entry_eq]
  generalize (lg_sl ([.ref (ad 0), .int za]) ++ List.replicate (3 - (lg_sl ([.ref (ad 0), .int za])).length) Slot.unset).toArray = ls at hl ⊢
  have hl : lv_has ls 3 [(0, .ref (ad 0)), (1, .int za)] := hl
  refine lv_aload_n hx hb dX3_endOf_0 rfl (lv_at hl 0 rfl) ?_
  refine lv_iload_n hx hb dX3_endOf_1 rfl (lv_at hl 1 rfl) ?_
  refine xS (vx_runV (As := [.int za]) (rest := []) ⟨hx, hb, hml, hown, hts⟩ (c_X3_machineRow l hst D cy ad σ sz za) (cwV 1 hts gX3_endOf_X3_machineRow rfl rfl rfl (by decide +kernel) ⟨Nat.le_of_ble_eq_true rfl, Nat.le_of_ble_eq_true rfl⟩) ⟨cx_bl, cw_F hP hK, cx_at hP hK hxk⟩ rfl rfl hl.1 rfl (lv_room (Nat.le_of_ble_eq_true rfl)) dX3_endOf_2 ⟨Nat.le_of_ble_eq_true rfl, Nat.le_of_ble_eq_true rfl⟩) (fun E ce q9 H1 hE h1 h2 h3 h4 h5 => xOut ht hlocks h1 h2 h3 h4 h5 (by obtain ⟨rfl, h9⟩ := hE; first | exact ⟨rfl, by simp [h9, kM, rEndOf]⟩ | exact Or.inl ⟨rfl, by simp [h9, kM, rEndOf]⟩ | exact Or.inr ⟨rfl, by simp [h9, kM, rEndOf]⟩ | exact Or.inr (Or.inl ⟨rfl, by simp [h9, kM, rEndOf]⟩) | exact Or.inr (Or.inr ⟨rfl, by simp [h9, kM, rEndOf]⟩)) (Nat.le_of_ble_eq_true rfl) (Nat.le_of_ble_eq_true rfl)) (fun i h1 => ?_)
  obtain ⟨hi, rfl⟩ := h1
  refine W.eq (g2 := F0 m 5 ls [.ref (ad (i + 7))]) rfl ?_
  have hl : lv_has ls 3 [(0, .ref (ad 0)), (1, .int (nI i))] := hl
  refine lv_astore_n (lv' := [(2, .ref (ad (i + 7))), (0, .ref (ad 0)), (1, .int (nI i))]) hx hb dX3_endOf_5 rfl hl (by decide) rfl (fun ls hl => ?_)
  refine lv_aload_n hx hb dX3_endOf_6 rfl (lv_at hl 0 rfl) ?_
  refine cS (W.runV (As := []) (rest := []) ⟨hx, hb, hml, hown, hts⟩ (c_X2_endsByItself l D cy ad σ i hi) (cwV 0 hts gX3_endOf_X2_endsByItself rfl rfl rfl (by decide +kernel) ⟨Nat.le_of_ble_eq_true rfl, Nat.le_of_ble_eq_true rfl⟩) ⟨cw_bl, (cw_M hP hK hi), (cw_at hP hK)⟩ rfl rfl hl.1 rfl (lv_room (Nat.le_of_ble_eq_true rfl)) dX3_endOf_7 ⟨Nat.le_of_ble_eq_true rfl, Nat.le_of_ble_eq_true rfl⟩) (fun _ _ => ?_)
  refine W.eq (g2 := F0 m 10 ls [.int (b2i (sEnds σ i))]) rfl ?_
  refine lv_if_eq (tgt := 20) hx hb dX3_endOf_10 (by decide) (fun c_2 => ?_) (fun c_2 => ?_)
  · replace c_2 := b2i_0.mp c_2
    refine lv_iconst (v := (-1)) hx hb dX3_endOf_20 (by decide) ?_
    have e9 : rEndOf σ (nI i) = (-1) := by simp [kM, rEndOf, c_2, inB_15 hi, ix_nI (show i < 2147483648 by omega)]
    have e8 : kM (nI i) = 0 := by simp [kM, rEndOf, c_2, inB_15 hi, ix_nI (show i < 2147483648 by omega)]
    refine vx_ret (W.widen (k := 1) (n := 6) (Nat.le_of_ble_eq_true rfl) (Nat.le_of_ble_eq_true rfl) ?_)
    exact W.iret (v := (-1)) hx hb hr (fun t ht9 hW => ⟨(), by rw [e9], e8, ht9⟩) (fun q h => nomatch h) dX3_endOf_21
  · replace c_2 := b2i_n0.mp c_2
    refine lv_aload_n hx hb dX3_endOf_13 rfl (lv_at hl 0 rfl) ?_
    refine rgM8 hx hb hf2 hown hK hP hi (hts (.fieldLink RX3 152 "MachineFoundry$Machine" "end" "I") (by decide +kernel)) (rfl) dX3_endOf_14 ?_
    refine lv_goto (tgt := 21) hx hb dX3_endOf_17 (by decide) ?_
    have e9 : rEndOf σ (nI i) = (σ 8 i) := by simp [kM, rEndOf, c_2, inB_15 hi, ix_nI (show i < 2147483648 by omega)]
    have e8 : kM (nI i) = 0 := by simp [kM, rEndOf, c_2, inB_15 hi, ix_nI (show i < 2147483648 by omega)]
    refine vx_ret (W.widen (k := 1) (n := 6) (Nat.le_of_ble_eq_true rfl) (Nat.le_of_ble_eq_true rfl) ?_)
    exact W.iret (v := σ 8 i) hx hb hr (fun t ht9 hW => ⟨(), by rw [e9], e8, ht9⟩) (fun q h => nomatch h) dX3_endOf_21
set_option maxHeartbeats 4000000 in
set_option maxRecDepth 100000 in
/-- matchOf -/
theorem c_X3_matchOf (l : Launch) (hst : l.stackTraces = false) (D : va_G) (cy : Nat → ClassId) (ad : Nat → Nat) (σ : Mem) (sz : Nat) (za : Int32) : vx_Met l yX3_matchOf wsX3_matchOf ({ frames := 7, cells := 1, slots := 6, locals := 103 }) (va_Pc [.ref (ad 0), .int za] (cx D cy ad σ sz)) (SR (fun _ : Unit => some (.int (rMatchOf σ za))) (fun _ => kM za = 0)) (XE (ex1 (kM za))) 1 6 NoA := by
  refine vx_ofW (cc := cX3_matchOf) (maxL := 3) (ret := (some .int)) (by decide) rfl ?_
  intro p e s m args below meth c s₁ B hml ht hv
  obtain ⟨rfl, ⟨hP, hK⟩, hxk⟩ := hv
  have hx := B.exec
  have hb := B.bytes
  have hr := B.returns
  have hts := atoms_spec (ws := wsX3_matchOf) B.pre
  have hown : s.vm.findClass RX3 = some m.cls := findClass_of_methodNamed B.named
  have hlocks := B.notSynchronized
  have hf0 := fun (w : Cond) (h : w ∈ wsX00) => hts w ((by decide +kernel : ∀ w ∈ wsX00, w ∈ wsX3_matchOf) w h)
  have hl := lv_entry ([.ref (ad 0), .int za]) (n := 3) (Nat.le_of_ble_eq_true rfl)
  rw [lg_entry_eq]
  generalize (lg_sl ([.ref (ad 0), .int za]) ++ List.replicate (3 - (lg_sl ([.ref (ad 0), .int za])).length) Slot.unset).toArray = ls at hl ⊢
  have hl : lv_has ls 3 [(0, .ref (ad 0)), (1, .int za)] := hl
  refine lv_aload_n hx hb dX3_matchOf_0 rfl (lv_at hl 0 rfl) ?_
  refine lv_aload_n hx hb dX3_matchOf_1 rfl (lv_at hl 0 rfl) ?_
  refine lv_iload_n hx hb dX3_matchOf_2 rfl (lv_at hl 1 rfl) ?_
  refine xS (vx_runV (As := [.int za]) (rest := [.ref (ad 0)]) ⟨hx, hb, hml, hown, hts⟩ (c_X3_machineRow l hst D cy ad σ sz za) (cwV 1 hts gX3_matchOf_X3_machineRow rfl rfl rfl (by decide +kernel) ⟨Nat.le_of_ble_eq_true rfl, Nat.le_of_ble_eq_true rfl⟩) ⟨cx_bl, cw_F hP hK, cx_at hP hK hxk⟩ rfl rfl hl.1 rfl (lv_room (Nat.le_of_ble_eq_true rfl)) dX3_matchOf_3 ⟨Nat.le_of_ble_eq_true rfl, Nat.le_of_ble_eq_true rfl⟩) (fun E ce q9 H1 hE h1 h2 h3 h4 h5 => xOut ht hlocks h1 h2 h3 h4 h5 (by obtain ⟨rfl, h9⟩ := hE; first | exact ⟨rfl, by simp [h9, kM, rMatchOf, oI_n, oI_s]⟩ | exact Or.inl ⟨rfl, by simp [h9, kM, rMatchOf, oI_n, oI_s]⟩ | exact Or.inr ⟨rfl, by simp [h9, kM, rMatchOf, oI_n, oI_s]⟩ | exact Or.inr (Or.inl ⟨rfl, by simp [h9, kM, rMatchOf, oI_n, oI_s]⟩) | exact Or.inr (Or.inr ⟨rfl, by simp [h9, kM, rMatchOf, oI_n, oI_s]⟩)) (Nat.le_of_ble_eq_true rfl) (Nat.le_of_ble_eq_true rfl)) (fun i h1 => ?_)
  obtain ⟨hi, rfl⟩ := h1
  refine W.eq (g2 := F0 m 6 ls [.ref (ad (i + 7)), .ref (ad 0)]) rfl ?_
  have hl : lv_has ls 3 [(0, .ref (ad 0)), (1, .int (nI i))] := hl
  refine cS (W.runV (As := [.ref (ad (i + 7))]) (rest := []) ⟨hx, hb, hml, hown, hts⟩ (c_X3_matchFor l D cy ad σ i hi) (cwV 1 hts gX3_matchOf_X3_matchFor rfl rfl rfl (by decide +kernel) ⟨Nat.le_of_ble_eq_true rfl, Nat.le_of_ble_eq_true rfl⟩) ⟨cw_bl, (cw_F hP hK), (cw_at hP hK)⟩ rfl rfl hl.1 rfl (lv_room (Nat.le_of_ble_eq_true rfl)) dX3_matchOf_6 ⟨Nat.le_of_ble_eq_true rfl, Nat.le_of_ble_eq_true rfl⟩) (fun _ _ => ?_)
  rcases hob2 : sBst σ i with _ | b2
  · refine W.eq (g2 := F0 m 9 ls [.null]) rfl ?_
    refine lv_astore_nN (lv' := [(2, .null), (0, .ref (ad 0)), (1, .int (nI i))]) hx hb dX3_matchOf_9 rfl hl (by decide) rfl (fun ls hl => ?_)
    refine lv_aload_nN hx hb dX3_matchOf_10 rfl (lv_at hl 0 rfl) ?_
    refine lv_ifnonnullN hx hb dX3_matchOf_11 ?_
    refine lv_iconst (v := (-1)) hx hb dX3_matchOf_14 (by decide) ?_
    refine lv_goto (tgt := 22) hx hb dX3_matchOf_15 (by decide) ?_
    have e9 : rMatchOf σ (nI i) = (-1) := by simp [kM, rMatchOf, oI_n, oI_s, hob2, inB_15 hi, ix_nI (show i < 2147483648 by omega)]
    have e8 : kM (nI i) = 0 := by simp [kM, rMatchOf, oI_n, oI_s, hob2, inB_15 hi, ix_nI (show i < 2147483648 by omega)]
    refine vx_ret (W.widen (k := 1) (n := 6) (Nat.le_of_ble_eq_true rfl) (Nat.le_of_ble_eq_true rfl) ?_)
    exact W.iret (v := (-1)) hx hb hr (fun t ht9 hW => ⟨(), by rw [e9], e8, ht9⟩) (fun q h => nomatch h) dX3_matchOf_22
  · have hb2 := bst_lt (n := 8) hob2
    refine W.eq (g2 := F0 m 9 ls [.ref (ad (b2 + 23))]) rfl ?_
    refine lv_astore_n (lv' := [(2, .ref (ad (b2 + 23))), (0, .ref (ad 0)), (1, .int (nI i))]) hx hb dX3_matchOf_9 rfl hl (by decide) rfl (fun ls hl => ?_)
    refine lv_aload_n hx hb dX3_matchOf_10 rfl (lv_at hl 0 rfl) ?_
    refine lv_ifnonnull (tgt := 18) hx hb dX3_matchOf_11 (by decide) ?_
    refine lv_aload_n hx hb dX3_matchOf_18 rfl (lv_at hl 0 rfl) ?_
    refine rgI0 hx hb hf0 hown hK hP hb2 (hts (.fieldLink RX3 169 "MachineFoundry$Image" "number" "I") (by decide +kernel)) dX3_matchOf_19 ?_
    have e9 : rMatchOf σ (nI i) = (nI b2) := by simp [kM, rMatchOf, oI_n, oI_s, hob2, inB_15 hi, ix_nI (show i < 2147483648 by omega)]
    have e8 : kM (nI i) = 0 := by simp [kM, rMatchOf, oI_n, oI_s, hob2, inB_15 hi, ix_nI (show i < 2147483648 by omega)]
    refine vx_ret (W.widen (k := 1) (n := 6) (Nat.le_of_ble_eq_true rfl) (Nat.le_of_ble_eq_true rfl) ?_)
    exact W.iret (v := nI b2) hx hb hr (fun t ht9 hW => ⟨(), by rw [e9], e8, ht9⟩) (fun q h => nomatch h) dX3_matchOf_22
set_option maxHeartbeats 4000000 in
set_option maxRecDepth 100000 in
/-- reason -/
theorem c_X3_reason (l : Launch) (hst : l.stackTraces = false) (D : va_G) (cy : Nat → ClassId) (ad : Nat → Nat) (σ : Mem) (sz : Nat) (za : Int32) : vx_Met l yX3_reason wsX3_reason ({ frames := 7, cells := 1, slots := 6, locals := 103 }) (va_Pc [.ref (ad 0), .int za] (cx D cy ad σ sz)) (SR (fun _ : Unit => some (.int (rReason σ za))) (fun _ => kM za = 0)) (XE (ex1 (kM za))) 1 6 NoA := by
  refine vx_ofW (cc := cX3_reason) (maxL := 4) (ret := (some .int)) (by decide) rfl ?_
  intro p e s m args below meth c s₁ B hml ht hv
  obtain ⟨rfl, ⟨hP, hK⟩, hxk⟩ := hv
  have hx := B.exec
  have hb := B.bytes
  have hr := B.returns
  have hts := atoms_spec (ws := wsX3_reason) B.pre
  have hown : s.vm.findClass RX3 = some m.cls := findClass_of_methodNamed B.named
  have hlocks := B.notSynchronized
  have hf2 := fun (w : Cond) (h : w ∈ wsX20) => hts w ((by decide +kernel : ∀ w ∈ wsX20, w ∈ wsX3_reason) w h)
  have hl := lv_entry ([.ref (ad 0), .int za]) (n := 4) (Nat.le_of_ble_eq_true rfl)
  rw [lg_entry_eq]
  generalize (lg_sl ([.ref (ad 0), .int za]) ++ List.replicate (4 - (lg_sl ([.ref (ad 0), .int za])).length) Slot.unset).toArray = ls at hl ⊢
  have hl : lv_has ls 4 [(0, .ref (ad 0)), (1, .int za)] := hl
  refine lv_aload_n hx hb dX3_reason_0 rfl (lv_at hl 0 rfl) ?_
  refine lv_iload_n hx hb dX3_reason_1 rfl (lv_at hl 1 rfl) ?_
  refine xS (vx_runV (As := [.int za]) (rest := []) ⟨hx, hb, hml, hown, hts⟩ (c_X3_machineRow l hst D cy ad σ sz za) (cwV 1 hts gX3_reason_X3_machineRow rfl rfl rfl (by decide +kernel) ⟨Nat.le_of_ble_eq_true rfl, Nat.le_of_ble_eq_true rfl⟩) ⟨cx_bl, cw_F hP hK, cx_at hP hK hxk⟩ rfl rfl hl.1 rfl (lv_room (Nat.le_of_ble_eq_true rfl)) dX3_reason_2 ⟨Nat.le_of_ble_eq_true rfl, Nat.le_of_ble_eq_true rfl⟩) (fun E ce q9 H1 hE h1 h2 h3 h4 h5 => xOut ht hlocks h1 h2 h3 h4 h5 (by obtain ⟨rfl, h9⟩ := hE; first | exact ⟨rfl, by simp [h9, kM, rReason]⟩ | exact Or.inl ⟨rfl, by simp [h9, kM, rReason]⟩ | exact Or.inr ⟨rfl, by simp [h9, kM, rReason]⟩ | exact Or.inr (Or.inl ⟨rfl, by simp [h9, kM, rReason]⟩) | exact Or.inr (Or.inr ⟨rfl, by simp [h9, kM, rReason]⟩)) (Nat.le_of_ble_eq_true rfl) (Nat.le_of_ble_eq_true rfl)) (fun i h1 => ?_)
  obtain ⟨hi, rfl⟩ := h1
  refine W.eq (g2 := F0 m 5 ls [.ref (ad (i + 7))]) rfl ?_
  have hl : lv_has ls 4 [(0, .ref (ad 0)), (1, .int (nI i))] := hl
  refine lv_astore_n (lv' := [(2, .ref (ad (i + 7))), (0, .ref (ad 0)), (1, .int (nI i))]) hx hb dX3_reason_5 rfl hl (by decide) rfl (fun ls hl => ?_)
  refine lv_aload_n hx hb dX3_reason_6 rfl (lv_at hl 0 rfl) ?_
  refine rgM1 hx hb hf2 hown hK hP hi (hts (.fieldLink RX3 117 "MachineFoundry$Machine" "state" "I") (by decide +kernel)) (rfl) dX3_reason_7 ?_
  refine lv_iconst (v := 1) hx hb dX3_reason_10 (by decide) ?_
  refine lv_icmp_eq (tgt := 22) hx hb dX3_reason_11 (by decide) (fun c_2 => ?_) (fun c_2 => ?_)
  · refine lv_iconst (v := 1) hx hb dX3_reason_22 (by decide) ?_
    refine lv_goto (tgt := 27) hx hb dX3_reason_23 (by decide) ?_
    refine lv_istore_n (lv' := [(3, .int 1), (2, .ref (ad (i + 7))), (0, .ref (ad 0)), (1, .int (nI i))]) hx hb dX3_reason_27 rfl hl (by decide) rfl (fun ls hl => ?_)
    refine lv_iload_n hx hb dX3_reason_28 rfl (lv_at hl 0 rfl) ?_
    refine lv_if_eq (tgt := 42) hx hb dX3_reason_29 (by decide) (fun c_3 => absurd c_3 ((by decide : ¬ (1 : Int32) = 0))) (fun c_3 => ?_)
    refine lv_aload_n hx hb dX3_reason_32 rfl (lv_at hl 2 rfl) ?_
    refine lv_aload_n hx hb dX3_reason_33 rfl (lv_at hl 1 rfl) ?_
    refine cS (W.runV (As := [.ref (ad (i + 7))]) (rest := []) ⟨hx, hb, hml, hown, hts⟩ (c_X3_matchFor l D cy ad σ i hi) (cwV 1 hts gX3_reason_X3_matchFor rfl rfl rfl (by decide +kernel) ⟨Nat.le_of_ble_eq_true rfl, Nat.le_of_ble_eq_true rfl⟩) ⟨cw_bl, (cw_F hP hK), (cw_at hP hK)⟩ rfl rfl hl.1 rfl (lv_room (Nat.le_of_ble_eq_true rfl)) dX3_reason_34 ⟨Nat.le_of_ble_eq_true rfl, Nat.le_of_ble_eq_true rfl⟩) (fun _ _ => ?_)
    rcases hob4 : sBst σ i with _ | b4
    · refine W.eq (g2 := F0 m 37 ls [.null]) rfl ?_
      refine lv_ifnonnullN hx hb dX3_reason_37 ?_
      refine lv_iconst (v := 2) hx hb dX3_reason_40 (by decide) ?_
      have e9 : rReason σ (nI i) = 2 := by simp [kM, rReason, c_2, c_3, hob4, inB_15 hi, ix_nI (show i < 2147483648 by omega)]
      have e8 : kM (nI i) = 0 := by simp [kM, rReason, c_2, c_3, hob4, inB_15 hi, ix_nI (show i < 2147483648 by omega)]
      refine vx_ret (W.widen (k := 1) (n := 6) (Nat.le_of_ble_eq_true rfl) (Nat.le_of_ble_eq_true rfl) ?_)
      exact W.iret (v := 2) hx hb hr (fun t ht9 hW => ⟨(), by rw [e9], e8, ht9⟩) (fun q h => nomatch h) dX3_reason_41
    · have hb4 := bst_lt (n := 8) hob4
      refine W.eq (g2 := F0 m 37 ls [.ref (ad (b4 + 23))]) rfl ?_
      refine lv_ifnonnull (tgt := 42) hx hb dX3_reason_37 (by decide) ?_
      refine lv_aload_n hx hb dX3_reason_42 rfl (lv_at hl 1 rfl) ?_
      refine rgM1 hx hb hf2 hown hK hP hi (hts (.fieldLink RX3 117 "MachineFoundry$Machine" "state" "I") (by decide +kernel)) (rfl) dX3_reason_43 ?_
      refine cS (W.runS (As := [.int (σ 1 i)]) (rest := []) ⟨hx, hb, hml, hown, hts⟩ (c_X3_reasonOfState l (σ 1 i)) (va_cwS 1 hts gX3_reason_X3_reasonOfState rfl rfl rfl (by decide +kernel) ⟨Nat.le_of_ble_eq_true rfl, Nat.le_of_ble_eq_true rfl⟩) ⟨fun a U g mk h => h, fun U _ _ => ⟨rfl, trivial⟩⟩ rfl rfl hl.1 rfl (lv_room (Nat.le_of_ble_eq_true rfl)) dX3_reason_46 ⟨Nat.le_of_ble_eq_true rfl, Nat.le_of_ble_eq_true rfl⟩) (fun _ _ => ?_)
      refine W.eq (g2 := F0 m 49 ls [.int (sRs (σ 1 i))]) rfl ?_
      have e9 : rReason σ (nI i) = (sRs (σ 1 i)) := by simp [kM, rReason, c_2, c_3, hob4, inB_15 hi, ix_nI (show i < 2147483648 by omega)]
      have e8 : kM (nI i) = 0 := by simp [kM, rReason, c_2, c_3, hob4, inB_15 hi, ix_nI (show i < 2147483648 by omega)]
      refine vx_ret (W.widen (k := 1) (n := 6) (Nat.le_of_ble_eq_true rfl) (Nat.le_of_ble_eq_true rfl) ?_)
      exact W.iret (v := sRs (σ 1 i)) hx hb hr (fun t ht9 hW => ⟨(), by rw [e9], e8, ht9⟩) (fun q h => nomatch h) dX3_reason_49
  · refine lv_aload_n hx hb dX3_reason_14 rfl (lv_at hl 0 rfl) ?_
    refine rgM1 hx hb hf2 hown hK hP hi (hts (.fieldLink RX3 117 "MachineFoundry$Machine" "state" "I") (by decide +kernel)) (rfl) dX3_reason_15 ?_
    refine lv_iconst (v := 2) hx hb dX3_reason_18 (by decide) ?_
    refine lv_icmp_ne (tgt := 26) hx hb dX3_reason_19 (by decide) (fun c_5 => ?_) (fun c_5 => ?_)
    · refine lv_iconst (v := 0) hx hb dX3_reason_26 (by decide) ?_
      refine lv_istore_n (lv' := [(3, .int 0), (2, .ref (ad (i + 7))), (0, .ref (ad 0)), (1, .int (nI i))]) hx hb dX3_reason_27 rfl hl (by decide) rfl (fun ls hl => ?_)
      refine lv_iload_n hx hb dX3_reason_28 rfl (lv_at hl 0 rfl) ?_
      refine lv_if_eq (tgt := 42) hx hb dX3_reason_29 (by decide) (fun c_6 => ?_) (fun c_6 => absurd ((by decide : (0 : Int32) = 0)) c_6)
      refine lv_aload_n hx hb dX3_reason_42 rfl (lv_at hl 1 rfl) ?_
      refine rgM1 hx hb hf2 hown hK hP hi (hts (.fieldLink RX3 117 "MachineFoundry$Machine" "state" "I") (by decide +kernel)) (rfl) dX3_reason_43 ?_
      refine cS (W.runS (As := [.int (σ 1 i)]) (rest := []) ⟨hx, hb, hml, hown, hts⟩ (c_X3_reasonOfState l (σ 1 i)) (va_cwS 1 hts gX3_reason_X3_reasonOfState rfl rfl rfl (by decide +kernel) ⟨Nat.le_of_ble_eq_true rfl, Nat.le_of_ble_eq_true rfl⟩) ⟨fun a U g mk h => h, fun U _ _ => ⟨rfl, trivial⟩⟩ rfl rfl hl.1 rfl (lv_room (Nat.le_of_ble_eq_true rfl)) dX3_reason_46 ⟨Nat.le_of_ble_eq_true rfl, Nat.le_of_ble_eq_true rfl⟩) (fun _ _ => ?_)
      refine W.eq (g2 := F0 m 49 ls [.int (sRs (σ 1 i))]) rfl ?_
      have e9 : rReason σ (nI i) = (sRs (σ 1 i)) := by simp [kM, rReason, c_2, c_5, c_6, inB_15 hi, ix_nI (show i < 2147483648 by omega)]
      have e8 : kM (nI i) = 0 := by simp [kM, rReason, c_2, c_5, c_6, inB_15 hi, ix_nI (show i < 2147483648 by omega)]
      refine vx_ret (W.widen (k := 1) (n := 6) (Nat.le_of_ble_eq_true rfl) (Nat.le_of_ble_eq_true rfl) ?_)
      exact W.iret (v := sRs (σ 1 i)) hx hb hr (fun t ht9 hW => ⟨(), by rw [e9], e8, ht9⟩) (fun q h => nomatch h) dX3_reason_49
    · refine lv_iconst (v := 1) hx hb dX3_reason_22 (by decide) ?_
      refine lv_goto (tgt := 27) hx hb dX3_reason_23 (by decide) ?_
      refine lv_istore_n (lv' := [(3, .int 1), (2, .ref (ad (i + 7))), (0, .ref (ad 0)), (1, .int (nI i))]) hx hb dX3_reason_27 rfl hl (by decide) rfl (fun ls hl => ?_)
      refine lv_iload_n hx hb dX3_reason_28 rfl (lv_at hl 0 rfl) ?_
      refine lv_if_eq (tgt := 42) hx hb dX3_reason_29 (by decide) (fun c_7 => absurd c_7 ((by decide : ¬ (1 : Int32) = 0))) (fun c_7 => ?_)
      refine lv_aload_n hx hb dX3_reason_32 rfl (lv_at hl 2 rfl) ?_
      refine lv_aload_n hx hb dX3_reason_33 rfl (lv_at hl 1 rfl) ?_
      refine cS (W.runV (As := [.ref (ad (i + 7))]) (rest := []) ⟨hx, hb, hml, hown, hts⟩ (c_X3_matchFor l D cy ad σ i hi) (cwV 1 hts gX3_reason_X3_matchFor rfl rfl rfl (by decide +kernel) ⟨Nat.le_of_ble_eq_true rfl, Nat.le_of_ble_eq_true rfl⟩) ⟨cw_bl, (cw_F hP hK), (cw_at hP hK)⟩ rfl rfl hl.1 rfl (lv_room (Nat.le_of_ble_eq_true rfl)) dX3_reason_34 ⟨Nat.le_of_ble_eq_true rfl, Nat.le_of_ble_eq_true rfl⟩) (fun _ _ => ?_)
      rcases hob8 : sBst σ i with _ | b8
      · refine W.eq (g2 := F0 m 37 ls [.null]) rfl ?_
        refine lv_ifnonnullN hx hb dX3_reason_37 ?_
        refine lv_iconst (v := 2) hx hb dX3_reason_40 (by decide) ?_
        have e9 : rReason σ (nI i) = 2 := by simp [kM, rReason, c_2, c_5, c_7, hob8, inB_15 hi, ix_nI (show i < 2147483648 by omega)]
        have e8 : kM (nI i) = 0 := by simp [kM, rReason, c_2, c_5, c_7, hob8, inB_15 hi, ix_nI (show i < 2147483648 by omega)]
        refine vx_ret (W.widen (k := 1) (n := 6) (Nat.le_of_ble_eq_true rfl) (Nat.le_of_ble_eq_true rfl) ?_)
        exact W.iret (v := 2) hx hb hr (fun t ht9 hW => ⟨(), by rw [e9], e8, ht9⟩) (fun q h => nomatch h) dX3_reason_41
      · have hb8 := bst_lt (n := 8) hob8
        refine W.eq (g2 := F0 m 37 ls [.ref (ad (b8 + 23))]) rfl ?_
        refine lv_ifnonnull (tgt := 42) hx hb dX3_reason_37 (by decide) ?_
        refine lv_aload_n hx hb dX3_reason_42 rfl (lv_at hl 1 rfl) ?_
        refine rgM1 hx hb hf2 hown hK hP hi (hts (.fieldLink RX3 117 "MachineFoundry$Machine" "state" "I") (by decide +kernel)) (rfl) dX3_reason_43 ?_
        refine cS (W.runS (As := [.int (σ 1 i)]) (rest := []) ⟨hx, hb, hml, hown, hts⟩ (c_X3_reasonOfState l (σ 1 i)) (va_cwS 1 hts gX3_reason_X3_reasonOfState rfl rfl rfl (by decide +kernel) ⟨Nat.le_of_ble_eq_true rfl, Nat.le_of_ble_eq_true rfl⟩) ⟨fun a U g mk h => h, fun U _ _ => ⟨rfl, trivial⟩⟩ rfl rfl hl.1 rfl (lv_room (Nat.le_of_ble_eq_true rfl)) dX3_reason_46 ⟨Nat.le_of_ble_eq_true rfl, Nat.le_of_ble_eq_true rfl⟩) (fun _ _ => ?_)
        refine W.eq (g2 := F0 m 49 ls [.int (sRs (σ 1 i))]) rfl ?_
        have e9 : rReason σ (nI i) = (sRs (σ 1 i)) := by simp [kM, rReason, c_2, c_5, c_7, hob8, inB_15 hi, ix_nI (show i < 2147483648 by omega)]
        have e8 : kM (nI i) = 0 := by simp [kM, rReason, c_2, c_5, c_7, hob8, inB_15 hi, ix_nI (show i < 2147483648 by omega)]
        refine vx_ret (W.widen (k := 1) (n := 6) (Nat.le_of_ble_eq_true rfl) (Nat.le_of_ble_eq_true rfl) ?_)
        exact W.iret (v := sRs (σ 1 i)) hx hb hr (fun t ht9 hW => ⟨(), by rw [e9], e8, ht9⟩) (fun q h => nomatch h) dX3_reason_49
set_option maxHeartbeats 4000000 in
set_option maxRecDepth 100000 in
/-- installing -/
theorem c_X3_installing (l : Launch) (hst : l.stackTraces = false) (D : va_G) (cy : Nat → ClassId) (ad : Nat → Nat) (σ : Mem) (sz : Nat) (za : Int32) : vx_Met l yX3_installing wsX3_installing ({ frames := 6, cells := 1, slots := 6, locals := 82 }) (va_Pc [.ref (ad 0), .int za] (cx D cy ad σ sz)) (SR (fun _ : Unit => some (.int (rInstalling σ za))) (fun _ => kR za = 0)) (XE (ex1 (kR za))) 1 6 NoA := by
  refine vx_ofW (cc := cX3_installing) (maxL := 2) (ret := (some .int)) (by decide) rfl ?_
  intro p e s m args below meth c s₁ B hml ht hv
  obtain ⟨rfl, ⟨hP, hK⟩, hxk⟩ := hv
  have hx := B.exec
  have hb := B.bytes
  have hr := B.returns
  have hts := atoms_spec (ws := wsX3_installing) B.pre
  have hown : s.vm.findClass RX3 = some m.cls := findClass_of_methodNamed B.named
  have hlocks := B.notSynchronized
  have hl := lv_entry ([.ref (ad 0), .int za]) (n := 2) (Nat.le_of_ble_eq_true rfl)
  rw [lg_entry_eq]
  generalize (lg_sl ([.ref (ad 0), .int za]) ++ List.replicate (2 - (lg_sl ([.ref (ad 0), .int za])).length) Slot.unset).toArray = ls at hl ⊢
  have hl : lv_has ls 2 [(0, .ref (ad 0)), (1, .int za)] := hl
  refine lv_aload_n hx hb dX3_installing_0 rfl (lv_at hl 0 rfl) ?_
  refine lv_iload_n hx hb dX3_installing_1 rfl (lv_at hl 1 rfl) ?_
  refine cS (W.runV (As := [.int za]) (rest := []) ⟨hx, hb, hml, hown, hts⟩ (c_X3_isNoRack l D cy ad σ za) (cwV 1 hts gX3_installing_X3_isNoRack rfl rfl rfl (by decide +kernel) ⟨Nat.le_of_ble_eq_true rfl, Nat.le_of_ble_eq_true rfl⟩) ⟨cw_bl, (cw_F hP hK), (cw_at hP hK)⟩ rfl rfl hl.1 rfl (lv_room (Nat.le_of_ble_eq_true rfl)) dX3_installing_2 ⟨Nat.le_of_ble_eq_true rfl, Nat.le_of_ble_eq_true rfl⟩) (fun _ _ => ?_)
  refine W.eq (g2 := F0 m 5 ls [.int (b2i (!inB za 0 3))]) rfl ?_
  refine lv_if_eq (tgt := 18) hx hb dX3_installing_5 (by decide) (fun c_1 => ?_) (fun c_1 => ?_)
  · replace c_1 := b2i_0.mp c_1
    replace c_1 : inB za 0 3 = true := by simpa using c_1
    refine lv_aload_n hx hb dX3_installing_18 rfl (lv_at hl 0 rfl) ?_
    refine lv_iload_n hx hb dX3_installing_19 rfl (lv_at hl 1 rfl) ?_
    refine cS (W.runV (As := [.int za]) (rest := []) ⟨hx, hb, hml, hown, hts⟩ (c_X3_countInstalling l D cy ad σ za) (cwV 1 hts gX3_installing_X3_countInstalling rfl rfl rfl (by decide +kernel) ⟨Nat.le_of_ble_eq_true rfl, Nat.le_of_ble_eq_true rfl⟩) ⟨cw_bl, (cw_F hP hK), (cw_at hP hK)⟩ rfl rfl hl.1 rfl (lv_room (Nat.le_of_ble_eq_true rfl)) dX3_installing_20 ⟨Nat.le_of_ble_eq_true rfl, Nat.le_of_ble_eq_true rfl⟩) (fun _ _ => ?_)
    refine W.eq (g2 := F0 m 23 ls [.int (sIn σ za)]) rfl ?_
    have e9 : rInstalling σ za = (sIn σ za) := by simp [kR, rInstalling, c_1]
    have e8 : kR za = 0 := by simp [kR, rInstalling, c_1]
    refine vx_ret (W.widen (k := 1) (n := 6) (Nat.le_of_ble_eq_true rfl) (Nat.le_of_ble_eq_true rfl) ?_)
    exact W.iret (v := sIn σ za) hx hb hr (fun t ht9 hW => ⟨(), by rw [e9], e8, ht9⟩) (fun q h => nomatch h) dX3_installing_23
  · replace c_1 := b2i_n0.mp c_1
    replace c_1 : inB za 0 3 = false := by simpa using c_1
    exact xThrow (sz := sz) hx hb hst hml ht hlocks hxk "java/lang/IndexOutOfBoundsException" "there is no such rack" 92 94 96 hown (by decide +kernel) (hts (.classLink RX3 92 "java/lang/IndexOutOfBoundsException") (by decide +kernel)) (hts (.initialized "java/lang/IndexOutOfBoundsException") (by decide +kernel)) (by decide +kernel) (fun w h => hts w ((by decide +kernel : ∀ w ∈ (vx_atS RX3 96 "java/lang/IndexOutOfBoundsException" NM).filter goodWord, w ∈ wsX3_installing) w h)) xn1 xg1 hl.1 dX3_installing_8 dX3_installing_11 dX3_installing_12 dX3_installing_14 dX3_installing_17 (Nat.le_of_ble_eq_true rfl) (Nat.le_of_ble_eq_true rfl) (Nat.le_of_ble_eq_true rfl) (Nat.le_of_ble_eq_true rfl) (by first | exact ⟨rfl, by simp [kR, rInstalling, c_1]⟩ | exact Or.inl ⟨rfl, by simp [kR, rInstalling, c_1]⟩ | exact Or.inr ⟨rfl, by simp [kR, rInstalling, c_1]⟩ | exact Or.inr (Or.inl ⟨rfl, by simp [kR, rInstalling, c_1]⟩) | exact Or.inr (Or.inr ⟨rfl, by simp [kR, rInstalling, c_1]⟩)) (Nat.le_of_ble_eq_true rfl) (Nat.le_of_ble_eq_true rfl)
set_option maxHeartbeats 4000000 in
set_option maxRecDepth 100000 in
/-- queueAt -/
theorem c_X3_queueAt (l : Launch) (hst : l.stackTraces = false) (D : va_G) (cy : Nat → ClassId) (ad : Nat → Nat) (σ : Mem) (sz : Nat) (za zb : Int32) : vx_Met l yX3_queueAt wsX3_queueAt ({ frames := 6, cells := 1, slots := 6, locals := 82 }) (va_Pc [.ref (ad 0), .int za, .int zb] (cx D cy ad σ sz)) (SR (fun _ : Unit => some (.int (rQueueAt σ za zb))) (fun _ => kQueueAt za zb = 0)) (XE (ex1 (kQueueAt za zb))) 1 6 NoA := by
  refine vx_ofW (cc := cX3_queueAt) (maxL := 4) (ret := (some .int)) (by decide) rfl ?_
  intro p e s m args below meth c s₁ B hml ht hv
  obtain ⟨rfl, ⟨hP, hK⟩, hxk⟩ := hv
  have hx := B.exec
  have hb := B.bytes
  have hr := B.returns
  have hts := atoms_spec (ws := wsX3_queueAt) B.pre
  have hown : s.vm.findClass RX3 = some m.cls := findClass_of_methodNamed B.named
  have hlocks := B.notSynchronized
  have hf2 := fun (w : Cond) (h : w ∈ wsX20) => hts w ((by decide +kernel : ∀ w ∈ wsX20, w ∈ wsX3_queueAt) w h)
  have hl := lv_entry ([.ref (ad 0), .int za, .int zb]) (n := 4) (Nat.le_of_ble_eq_true rfl)
  rw [lg_entry_eq]
  generalize (lg_sl ([.ref (ad 0), .int za, .int zb]) ++ List.replicate (4 - (lg_sl ([.ref (ad 0), .int za, .int zb])).length) Slot.unset).toArray = ls at hl ⊢
  have hl : lv_has ls 4 [(0, .ref (ad 0)), (1, .int za), (2, .int zb)] := hl
  refine lv_aload_n hx hb dX3_queueAt_0 rfl (lv_at hl 0 rfl) ?_
  refine lv_iload_n hx hb dX3_queueAt_1 rfl (lv_at hl 1 rfl) ?_
  refine cS (W.runV (As := [.int za]) (rest := []) ⟨hx, hb, hml, hown, hts⟩ (c_X3_isNoRack l D cy ad σ za) (cwV 1 hts gX3_queueAt_X3_isNoRack rfl rfl rfl (by decide +kernel) ⟨Nat.le_of_ble_eq_true rfl, Nat.le_of_ble_eq_true rfl⟩) ⟨cw_bl, (cw_F hP hK), (cw_at hP hK)⟩ rfl rfl hl.1 rfl (lv_room (Nat.le_of_ble_eq_true rfl)) dX3_queueAt_2 ⟨Nat.le_of_ble_eq_true rfl, Nat.le_of_ble_eq_true rfl⟩) (fun _ _ => ?_)
  refine W.eq (g2 := F0 m 5 ls [.int (b2i (!inB za 0 3))]) rfl ?_
  refine lv_if_ne (tgt := 12) hx hb dX3_queueAt_5 (by decide) (fun c_1 => ?_) (fun c_1 => ?_)
  · replace c_1 := b2i_n0.mp c_1
    replace c_1 : inB za 0 3 = false := by simpa using c_1
    exact xThrow (sz := sz) hx hb hst hml ht hlocks hxk "java/lang/IndexOutOfBoundsException" "there is no such rack, or place is below 0" 92 185 96 hown (by decide +kernel) (hts (.classLink RX3 92 "java/lang/IndexOutOfBoundsException") (by decide +kernel)) (hts (.initialized "java/lang/IndexOutOfBoundsException") (by decide +kernel)) (by decide +kernel) (fun w h => hts w ((by decide +kernel : ∀ w ∈ (vx_atS RX3 96 "java/lang/IndexOutOfBoundsException" NM).filter goodWord, w ∈ wsX3_queueAt) w h)) xn1 xg1 hl.1 dX3_queueAt_12 dX3_queueAt_15 dX3_queueAt_16 dX3_queueAt_18 dX3_queueAt_21 (Nat.le_of_ble_eq_true rfl) (Nat.le_of_ble_eq_true rfl) (Nat.le_of_ble_eq_true rfl) (Nat.le_of_ble_eq_true rfl) (by first | exact ⟨rfl, by simp [kQueueAt, rQueueAt, oI_n, oI_s, c_1]⟩ | exact Or.inl ⟨rfl, by simp [kQueueAt, rQueueAt, oI_n, oI_s, c_1]⟩ | exact Or.inr ⟨rfl, by simp [kQueueAt, rQueueAt, oI_n, oI_s, c_1]⟩ | exact Or.inr (Or.inl ⟨rfl, by simp [kQueueAt, rQueueAt, oI_n, oI_s, c_1]⟩) | exact Or.inr (Or.inr ⟨rfl, by simp [kQueueAt, rQueueAt, oI_n, oI_s, c_1]⟩)) (Nat.le_of_ble_eq_true rfl) (Nat.le_of_ble_eq_true rfl)
  · replace c_1 := b2i_0.mp c_1
    replace c_1 : inB za 0 3 = true := by simpa using c_1
    refine lv_iload_n hx hb dX3_queueAt_8 rfl (lv_at hl 2 rfl) ?_
    refine lv_if_ge (tgt := 22) hx hb dX3_queueAt_9 (by decide) (fun c_2 => ?_) (fun c_2 => ?_)
    · have d_2 := Int32.not_lt.mpr c_2
      refine lv_aload_n hx hb dX3_queueAt_22 rfl (lv_at hl 0 rfl) ?_
      refine lv_iload_n hx hb dX3_queueAt_23 rfl (lv_at hl 1 rfl) ?_
      refine lv_iload_n hx hb dX3_queueAt_24 rfl (lv_at hl 2 rfl) ?_
      refine cS (W.runV (As := [.int za, .int zb]) (rest := []) ⟨hx, hb, hml, hown, hts⟩ (c_X3_queuedAt l D cy ad σ za zb) (cwV 2 hts gX3_queueAt_X3_queuedAt rfl rfl rfl (by decide +kernel) ⟨Nat.le_of_ble_eq_true rfl, Nat.le_of_ble_eq_true rfl⟩) ⟨cw_bl, (cw_F hP hK), (cw_at hP hK)⟩ rfl rfl hl.1 rfl (lv_room (Nat.le_of_ble_eq_true rfl)) dX3_queueAt_25 ⟨Nat.le_of_ble_eq_true rfl, Nat.le_of_ble_eq_true rfl⟩) (fun _ _ => ?_)
      rcases hob3 : sQA σ za zb with _ | b3
      · refine W.eq (g2 := F0 m 28 ls [.null]) rfl ?_
        refine lv_astore_nN (lv' := [(3, .null), (0, .ref (ad 0)), (1, .int za), (2, .int zb)]) hx hb dX3_queueAt_28 rfl hl (by decide) rfl (fun ls hl => ?_)
        refine lv_aload_nN hx hb dX3_queueAt_29 rfl (lv_at hl 0 rfl) ?_
        refine lv_ifnonnullN hx hb dX3_queueAt_30 ?_
        refine lv_iconst (v := (-1)) hx hb dX3_queueAt_33 (by decide) ?_
        refine lv_goto (tgt := 41) hx hb dX3_queueAt_34 (by decide) ?_
        have e9 : rQueueAt σ za zb = (-1) := by simp [kQueueAt, rQueueAt, oI_n, oI_s, c_1, c_2, d_2, hob3]
        have e8 : kQueueAt za zb = 0 := by simp [kQueueAt, rQueueAt, oI_n, oI_s, c_1, c_2, d_2, hob3]
        refine vx_ret (W.widen (k := 1) (n := 6) (Nat.le_of_ble_eq_true rfl) (Nat.le_of_ble_eq_true rfl) ?_)
        exact W.iret (v := (-1)) hx hb hr (fun t ht9 hW => ⟨(), by rw [e9], e8, ht9⟩) (fun q h => nomatch h) dX3_queueAt_41
      · have hb3 := (fnd_some (n := 16) hob3).1
        refine W.eq (g2 := F0 m 28 ls [.ref (ad (b3 + 7))]) rfl ?_
        refine lv_astore_n (lv' := [(3, .ref (ad (b3 + 7))), (0, .ref (ad 0)), (1, .int za), (2, .int zb)]) hx hb dX3_queueAt_28 rfl hl (by decide) rfl (fun ls hl => ?_)
        refine lv_aload_n hx hb dX3_queueAt_29 rfl (lv_at hl 0 rfl) ?_
        refine lv_ifnonnull (tgt := 37) hx hb dX3_queueAt_30 (by decide) ?_
        refine lv_aload_n hx hb dX3_queueAt_37 rfl (lv_at hl 0 rfl) ?_
        refine rgM0 hx hb hf2 hown hK hP hb3 (hts (.fieldLink RX3 191 "MachineFoundry$Machine" "number" "I") (by decide +kernel)) dX3_queueAt_38 ?_
        have e9 : rQueueAt σ za zb = (nI b3) := by simp [kQueueAt, rQueueAt, oI_n, oI_s, c_1, c_2, d_2, hob3]
        have e8 : kQueueAt za zb = 0 := by simp [kQueueAt, rQueueAt, oI_n, oI_s, c_1, c_2, d_2, hob3]
        refine vx_ret (W.widen (k := 1) (n := 6) (Nat.le_of_ble_eq_true rfl) (Nat.le_of_ble_eq_true rfl) ?_)
        exact W.iret (v := nI b3) hx hb hr (fun t ht9 hW => ⟨(), by rw [e9], e8, ht9⟩) (fun q h => nomatch h) dX3_queueAt_41
    · have d_2 := Int32.not_le.mp c_2
      exact xThrow (sz := sz) hx hb hst hml ht hlocks hxk "java/lang/IndexOutOfBoundsException" "there is no such rack, or place is below 0" 92 185 96 hown (by decide +kernel) (hts (.classLink RX3 92 "java/lang/IndexOutOfBoundsException") (by decide +kernel)) (hts (.initialized "java/lang/IndexOutOfBoundsException") (by decide +kernel)) (by decide +kernel) (fun w h => hts w ((by decide +kernel : ∀ w ∈ (vx_atS RX3 96 "java/lang/IndexOutOfBoundsException" NM).filter goodWord, w ∈ wsX3_queueAt) w h)) xn1 xg1 hl.1 dX3_queueAt_12 dX3_queueAt_15 dX3_queueAt_16 dX3_queueAt_18 dX3_queueAt_21 (Nat.le_of_ble_eq_true rfl) (Nat.le_of_ble_eq_true rfl) (Nat.le_of_ble_eq_true rfl) (Nat.le_of_ble_eq_true rfl) (by first | exact ⟨rfl, by simp [kQueueAt, rQueueAt, oI_n, oI_s, c_1, c_2, d_2]⟩ | exact Or.inl ⟨rfl, by simp [kQueueAt, rQueueAt, oI_n, oI_s, c_1, c_2, d_2]⟩ | exact Or.inr ⟨rfl, by simp [kQueueAt, rQueueAt, oI_n, oI_s, c_1, c_2, d_2]⟩ | exact Or.inr (Or.inl ⟨rfl, by simp [kQueueAt, rQueueAt, oI_n, oI_s, c_1, c_2, d_2]⟩) | exact Or.inr (Or.inr ⟨rfl, by simp [kQueueAt, rQueueAt, oI_n, oI_s, c_1, c_2, d_2]⟩)) (Nat.le_of_ble_eq_true rfl) (Nat.le_of_ble_eq_true rfl)
set_option maxHeartbeats 4000000 in
set_option maxRecDepth 100000 in
/-- machineAt -/
theorem c_X3_machineAt (l : Launch) (hst : l.stackTraces = false) (D : va_G) (cy : Nat → ClassId) (ad : Nat → Nat) (σ : Mem) (sz : Nat) (za : Int32) : vx_Met l yX3_machineAt wsX3_machineAt ({ frames := 6, cells := 1, slots := 6, locals := 82 }) (va_Pc [.ref (ad 0), .int za] (cx D cy ad σ sz)) (SR (fun _ : Unit => some (.int (rMachineAt σ za))) (fun _ => kMachineAt σ za = 0)) (XE (ex1 (kMachineAt σ za))) 1 6 NoA := by
  refine vx_ofW (cc := cX3_machineAt) (maxL := 2) (ret := (some .int)) (by decide) rfl ?_
  intro p e s m args below meth c s₁ B hml ht hv
  obtain ⟨rfl, ⟨hP, hK⟩, hxk⟩ := hv
  have hx := B.exec
  have hb := B.bytes
  have hr := B.returns
  have hts := atoms_spec (ws := wsX3_machineAt) B.pre
  have hown : s.vm.findClass RX3 = some m.cls := findClass_of_methodNamed B.named
  have hlocks := B.notSynchronized
  have hf1 := fun (w : Cond) (h : w ∈ wsX10) => hts w ((by decide +kernel : ∀ w ∈ wsX10, w ∈ wsX3_machineAt) w h)
  have hf3 := fun (w : Cond) (h : w ∈ wsX30) => hts w ((by decide +kernel : ∀ w ∈ wsX30, w ∈ wsX3_machineAt) w h)
  have hl := lv_entry ([.ref (ad 0), .int za]) (n := 2) (Nat.le_of_ble_eq_true rfl)
  rw [lg_entry_eq]
  generalize (lg_sl ([.ref (ad 0), .int za]) ++ List.replicate (2 - (lg_sl ([.ref (ad 0), .int za])).length) Slot.unset).toArray = ls at hl ⊢
  have hl : lv_has ls 2 [(0, .ref (ad 0)), (1, .int za)] := hl
  refine lv_iload_n hx hb dX3_machineAt_0 rfl (lv_at hl 1 rfl) ?_
  refine lv_if_lt (tgt := 15) hx hb dX3_machineAt_1 (by decide) (fun c_1 => ?_) (fun c_1 => ?_)
  · have d_1 := Int32.not_le.mpr c_1
    exact xThrow (sz := sz) hx hb hst hml ht hlocks hxk "java/lang/IndexOutOfBoundsException" "the journal keeps no such entry" 92 196 96 hown (by decide +kernel) (hts (.classLink RX3 92 "java/lang/IndexOutOfBoundsException") (by decide +kernel)) (hts (.initialized "java/lang/IndexOutOfBoundsException") (by decide +kernel)) (by decide +kernel) (fun w h => hts w ((by decide +kernel : ∀ w ∈ (vx_atS RX3 96 "java/lang/IndexOutOfBoundsException" NM).filter goodWord, w ∈ wsX3_machineAt) w h)) xn1 xg1 hl.1 dX3_machineAt_15 dX3_machineAt_18 dX3_machineAt_19 dX3_machineAt_21 dX3_machineAt_24 (Nat.le_of_ble_eq_true rfl) (Nat.le_of_ble_eq_true rfl) (Nat.le_of_ble_eq_true rfl) (Nat.le_of_ble_eq_true rfl) (by first | exact ⟨rfl, by simp [kMachineAt, rMachineAt, c_1, d_1]⟩ | exact Or.inl ⟨rfl, by simp [kMachineAt, rMachineAt, c_1, d_1]⟩ | exact Or.inr ⟨rfl, by simp [kMachineAt, rMachineAt, c_1, d_1]⟩ | exact Or.inr (Or.inl ⟨rfl, by simp [kMachineAt, rMachineAt, c_1, d_1]⟩) | exact Or.inr (Or.inr ⟨rfl, by simp [kMachineAt, rMachineAt, c_1, d_1]⟩)) (Nat.le_of_ble_eq_true rfl) (Nat.le_of_ble_eq_true rfl)
  · have d_1 := Int32.not_lt.mp c_1
    refine lv_iload_n hx hb dX3_machineAt_4 rfl (lv_at hl 1 rfl) ?_
    refine lv_aload_n hx hb dX3_machineAt_5 rfl (lv_at hl 0 rfl) ?_
    refine rgF3 hx hb hf3 hown hK hP (hts (.fieldLink RX3 28 "MachineFoundry" "journal" "LMachineFoundry$Journal;") (by decide +kernel)) dX3_machineAt_6 ?_
    refine cS (W.runV (As := []) (rest := [.int za]) ⟨hx, hb, hml, hown, hts⟩ (c_X1_kept l D cy ad σ) (cwV 0 hts gX3_machineAt_X1_kept rfl rfl rfl (by decide +kernel) ⟨Nat.le_of_ble_eq_true rfl, Nat.le_of_ble_eq_true rfl⟩) ⟨cw_bl, (cw_J hP hK), (cw_at hP hK)⟩ rfl rfl hl.1 rfl (lv_room (Nat.le_of_ble_eq_true rfl)) dX3_machineAt_9 ⟨Nat.le_of_ble_eq_true rfl, Nat.le_of_ble_eq_true rfl⟩) (fun _ _ => ?_)
    refine W.eq (g2 := F0 m 12 ls [.int (sKept σ), .int za]) rfl ?_
    refine lv_icmp_lt (tgt := 25) hx hb dX3_machineAt_12 (by decide) (fun c_2 => ?_) (fun c_2 => ?_)
    · have d_2 := Int32.not_le.mpr c_2
      obtain ⟨i, hi, rfl⟩ := kept_ix c_1 c_2
      have hl : lv_has ls 2 [(0, .ref (ad 0)), (1, .int (nI i))] := hl
      refine lv_aload_n hx hb dX3_machineAt_25 rfl (lv_at hl 0 rfl) ?_
      refine rgF3 hx hb hf3 hown hK hP (hts (.fieldLink RX3 28 "MachineFoundry" "journal" "LMachineFoundry$Journal;") (by decide +kernel)) dX3_machineAt_26 ?_
      refine rgJ0 hx hb hf1 hown hK hP (hts (.fieldLink RX3 198 "MachineFoundry$Journal" "numbers" "[I") (by decide +kernel)) dX3_machineAt_29 ?_
      refine lv_iload_n hx hb dX3_machineAt_32 rfl (lv_at hl 1 rfl) ?_
      refine raN hx hb hK hP hi (rfl) dX3_machineAt_33 ?_
      have e9 : rMachineAt σ (nI i) = (σ 22 i) := by simp [kMachineAt, rMachineAt, c_1, d_1, c_2, d_2, ix_nI (show i < 2147483648 by omega)]
      have e8 : kMachineAt σ (nI i) = 0 := by simp [kMachineAt, rMachineAt, c_1, d_1, c_2, d_2, ix_nI (show i < 2147483648 by omega)]
      refine vx_ret (W.widen (k := 1) (n := 6) (Nat.le_of_ble_eq_true rfl) (Nat.le_of_ble_eq_true rfl) ?_)
      exact W.iret (v := σ 22 i) hx hb hr (fun t ht9 hW => ⟨(), by rw [e9], e8, ht9⟩) (fun q h => nomatch h) dX3_machineAt_34
    · have d_2 := Int32.not_lt.mp c_2
      exact xThrow (sz := sz) hx hb hst hml ht hlocks hxk "java/lang/IndexOutOfBoundsException" "the journal keeps no such entry" 92 196 96 hown (by decide +kernel) (hts (.classLink RX3 92 "java/lang/IndexOutOfBoundsException") (by decide +kernel)) (hts (.initialized "java/lang/IndexOutOfBoundsException") (by decide +kernel)) (by decide +kernel) (fun w h => hts w ((by decide +kernel : ∀ w ∈ (vx_atS RX3 96 "java/lang/IndexOutOfBoundsException" NM).filter goodWord, w ∈ wsX3_machineAt) w h)) xn1 xg1 hl.1 dX3_machineAt_15 dX3_machineAt_18 dX3_machineAt_19 dX3_machineAt_21 dX3_machineAt_24 (Nat.le_of_ble_eq_true rfl) (Nat.le_of_ble_eq_true rfl) (Nat.le_of_ble_eq_true rfl) (Nat.le_of_ble_eq_true rfl) (by first | exact ⟨rfl, by simp [kMachineAt, rMachineAt, c_1, d_1, c_2, d_2]⟩ | exact Or.inl ⟨rfl, by simp [kMachineAt, rMachineAt, c_1, d_1, c_2, d_2]⟩ | exact Or.inr ⟨rfl, by simp [kMachineAt, rMachineAt, c_1, d_1, c_2, d_2]⟩ | exact Or.inr (Or.inl ⟨rfl, by simp [kMachineAt, rMachineAt, c_1, d_1, c_2, d_2]⟩) | exact Or.inr (Or.inr ⟨rfl, by simp [kMachineAt, rMachineAt, c_1, d_1, c_2, d_2]⟩)) (Nat.le_of_ble_eq_true rfl) (Nat.le_of_ble_eq_true rfl)
set_option maxHeartbeats 4000000 in
set_option maxRecDepth 100000 in
/-- stateBefore -/
theorem c_X3_stateBefore (l : Launch) (hst : l.stackTraces = false) (D : va_G) (cy : Nat → ClassId) (ad : Nat → Nat) (σ : Mem) (sz : Nat) (za zb : Int32) : vx_Met l yX3_stateBefore wsX3_stateBefore ({ frames := 7, cells := 2, slots := 12, locals := 104 }) (va_Pc [.ref (ad 0), .int za, .int zb] (cx D cy ad σ sz)) (SR (fun _ : Unit => some (.int (rStateBefore σ za zb))) (fun _ => kStateBefore σ za zb = 0)) (XE (ex12 (kStateBefore σ za zb))) 2 12 NoA := by
  refine vx_ofW (cc := cX3_stateBefore) (maxL := 7) (ret := (some .int)) (by decide) rfl ?_
  intro p e s m args below meth c s₁ B hml ht hv
  obtain ⟨rfl, ⟨hP, hK⟩, hxk⟩ := hv
  have hx := B.exec
  have hb := B.bytes
  have hr := B.returns
  have hts := atoms_spec (ws := wsX3_stateBefore) B.pre
  have hown : s.vm.findClass RX3 = some m.cls := findClass_of_methodNamed B.named
  have hlocks := B.notSynchronized
  have hf1 := fun (w : Cond) (h : w ∈ wsX10) => hts w ((by decide +kernel : ∀ w ∈ wsX10, w ∈ wsX3_stateBefore) w h)
  have hf2 := fun (w : Cond) (h : w ∈ wsX20) => hts w ((by decide +kernel : ∀ w ∈ wsX20, w ∈ wsX3_stateBefore) w h)
  have hf3 := fun (w : Cond) (h : w ∈ wsX30) => hts w ((by decide +kernel : ∀ w ∈ wsX30, w ∈ wsX3_stateBefore) w h)
  have hl := lv_entry ([.ref (ad 0), .int za, .int zb]) (n := 7) (Nat.le_of_ble_eq_true rfl)
  rw [lg_entry_eq]
  generalize (lg_sl ([.ref (ad 0), .int za, .int zb]) ++ List.replicate (7 - (lg_sl ([.ref (ad 0), .int za, .int zb])).length) Slot.unset).toArray = ls at hl ⊢
  have hl : lv_has ls 7 [(0, .ref (ad 0)), (1, .int za), (2, .int zb)] := hl
  refine lv_aload_n hx hb dX3_stateBefore_0 rfl (lv_at hl 0 rfl) ?_
  refine lv_iload_n hx hb dX3_stateBefore_1 rfl (lv_at hl 1 rfl) ?_
  refine xS (vx_runV (As := [.int za]) (rest := []) ⟨hx, hb, hml, hown, hts⟩ (c_X3_machineRow l hst D cy ad σ sz za) (cwV 1 hts gX3_stateBefore_X3_machineRow rfl rfl rfl (by decide +kernel) ⟨Nat.le_of_ble_eq_true rfl, Nat.le_of_ble_eq_true rfl⟩) ⟨cx_bl, cw_F hP hK, cx_at hP hK hxk⟩ rfl rfl hl.1 rfl (lv_room (Nat.le_of_ble_eq_true rfl)) dX3_stateBefore_2 ⟨Nat.le_of_ble_eq_true rfl, Nat.le_of_ble_eq_true rfl⟩) (fun E ce q9 H1 hE h1 h2 h3 h4 h5 => xOut ht hlocks h1 h2 h3 h4 h5 (by obtain ⟨rfl, h9⟩ := hE; first | exact ⟨rfl, by simp [h9, kStateBefore, rStateBefore]⟩ | exact Or.inl ⟨rfl, by simp [h9, kStateBefore, rStateBefore]⟩ | exact Or.inr ⟨rfl, by simp [h9, kStateBefore, rStateBefore]⟩ | exact Or.inr (Or.inl ⟨rfl, by simp [h9, kStateBefore, rStateBefore]⟩) | exact Or.inr (Or.inr ⟨rfl, by simp [h9, kStateBefore, rStateBefore]⟩)) (Nat.le_of_ble_eq_true rfl) (Nat.le_of_ble_eq_true rfl)) (fun i h1 => ?_)
  obtain ⟨hi, rfl⟩ := h1
  refine W.eq (g2 := F0 m 5 ls [.ref (ad (i + 7))]) rfl ?_
  have hl : lv_has ls 7 [(0, .ref (ad 0)), (1, .int (nI i)), (2, .int zb)] := hl
  refine lv_astore_n (lv' := [(3, .ref (ad (i + 7))), (0, .ref (ad 0)), (1, .int (nI i)), (2, .int zb)]) hx hb dX3_stateBefore_5 rfl hl (by decide) rfl (fun ls hl => ?_)
  refine lv_aload_n hx hb dX3_stateBefore_6 rfl (lv_at hl 1 rfl) ?_
  refine rgF3 hx hb hf3 hown hK hP (hts (.fieldLink RX3 28 "MachineFoundry" "journal" "LMachineFoundry$Journal;") (by decide +kernel)) dX3_stateBefore_7 ?_
  refine cS (W.runV (As := []) (rest := []) ⟨hx, hb, hml, hown, hts⟩ (c_X1_kept l D cy ad σ) (cwV 0 hts gX3_stateBefore_X1_kept rfl rfl rfl (by decide +kernel) ⟨Nat.le_of_ble_eq_true rfl, Nat.le_of_ble_eq_true rfl⟩) ⟨cw_bl, (cw_J hP hK), (cw_at hP hK)⟩ rfl rfl hl.1 rfl (lv_room (Nat.le_of_ble_eq_true rfl)) dX3_stateBefore_10 ⟨Nat.le_of_ble_eq_true rfl, Nat.le_of_ble_eq_true rfl⟩) (fun _ _ => ?_)
  refine W.eq (g2 := F0 m 13 ls [.int (sKept σ)]) rfl ?_
  refine lv_istore (lv' := [(4, .int (sKept σ)), (3, .ref (ad (i + 7))), (0, .ref (ad 0)), (1, .int (nI i)), (2, .int zb)]) hx hb dX3_stateBefore_13 hl (by decide) rfl (fun ls hl => ?_)
  refine lv_iload_n hx hb dX3_stateBefore_15 rfl (lv_at hl 4 rfl) ?_
  refine lv_iconst (v := 0) hx hb dX3_stateBefore_16 (by decide) ?_
  refine lv_iload hx hb dX3_stateBefore_17 (lv_at hl 0 rfl) ?_
  refine xS (vx_runS (As := [.int zb, .int 0, .int (sKept σ)]) (rest := []) ⟨hx, hb, hml, hown, hts⟩ (c_X3_refuseOutside l hst sz zb 0 (sKept σ)) (va_cwS 3 hts gX3_stateBefore_X3_refuseOutside rfl rfl rfl (by decide +kernel) ⟨Nat.le_of_ble_eq_true rfl, Nat.le_of_ble_eq_true rfl⟩) ⟨xk_bl, xk_pre hxk⟩ rfl rfl hl.1 rfl (lv_room (Nat.le_of_ble_eq_true rfl)) dX3_stateBefore_19 ⟨Nat.le_of_ble_eq_true rfl, Nat.le_of_ble_eq_true rfl⟩) (fun E ce q9 H1 hE h1 h2 h3 h4 h5 => xOut ht hlocks h1 h2 h3 h4 h5 (by obtain ⟨rfl, h9⟩ := hE; first | exact ⟨rfl, by simp [h9, kStateBefore, rStateBefore, inB_15 hi, ix_nI (show i < 2147483648 by omega)]⟩ | exact Or.inl ⟨rfl, by simp [h9, kStateBefore, rStateBefore, inB_15 hi, ix_nI (show i < 2147483648 by omega)]⟩ | exact Or.inr ⟨rfl, by simp [h9, kStateBefore, rStateBefore, inB_15 hi, ix_nI (show i < 2147483648 by omega)]⟩ | exact Or.inr (Or.inl ⟨rfl, by simp [h9, kStateBefore, rStateBefore, inB_15 hi, ix_nI (show i < 2147483648 by omega)]⟩) | exact Or.inr (Or.inr ⟨rfl, by simp [h9, kStateBefore, rStateBefore, inB_15 hi, ix_nI (show i < 2147483648 by omega)]⟩)) (Nat.le_of_ble_eq_true rfl) (Nat.le_of_ble_eq_true rfl)) (fun _ h2 => ?_)
  refine W.eq (g2 := F0 m 22 ls []) rfl ?_
  obtain ⟨n9, hn9, rfl⟩ := inB_le 40 (by decide) (by decide : (0 : Int32) ≤ 0) (sKept_le σ) h2
  have hl : lv_has ls 7 [(4, .int (sKept σ)), (3, .ref (ad (i + 7))), (0, .ref (ad 0)), (1, .int (nI i)), (2, .int (nI n9))] := hl
  refine lv_aload_n hx hb dX3_stateBefore_22 rfl (lv_at hl 1 rfl) ?_
  refine rgM1 hx hb hf2 hown hK hP hi (hts (.fieldLink RX3 117 "MachineFoundry$Machine" "state" "I") (by decide +kernel)) (rfl) dX3_stateBefore_23 ?_
  refine lv_istore (lv' := [(5, .int (σ 1 i)), (4, .int (sKept σ)), (3, .ref (ad (i + 7))), (0, .ref (ad 0)), (1, .int (nI i)), (2, .int (nI n9))]) hx hb dX3_stateBefore_26 hl (by decide) rfl (fun ls hl => ?_)
  refine lv_iconst (v := 0) hx hb dX3_stateBefore_28 (by decide) ?_
  refine lv_istore (lv' := [(6, .int 0), (5, .int (σ 1 i)), (4, .int (sKept σ)), (3, .ref (ad (i + 7))), (0, .ref (ad 0)), (1, .int (nI i)), (2, .int (nI n9))]) hx hb dX3_stateBefore_29 hl (by decide) rfl (fun ls hl => ?_)
  have hl0 : lv_has ls 7 [(6, .int (nI 0)), (5, .int (σ 1 i)), (0, .ref (ad 0)), (2, .int (nI n9)), (3, .ref (ad (i + 7)))] := lv_sub hl [0, 1, 4, 6, 3] rfl
  refine w_loop n9 (fun _ => True) (fun k => [(6, .int (nI k)), (5, .int (sSB σ i k)), (0, .ref (ad 0)), (2, .int (nI n9)), (3, .ref (ad (i + 7)))]) 0 (Nat.zero_le _) trivial hl0 (fun ls hI hl => ?_) (fun k hk0 hk ls hI hl ih => ?_)
  · have hl : lv_has ls 7 [(6, .int (nI n9)), (5, .int (sSB σ i n9)), (0, .ref (ad 0)), (2, .int (nI n9)), (3, .ref (ad (i + 7)))] := hl
    refine lv_iload hx hb dX3_stateBefore_31 (lv_at hl 0 rfl) ?_
    refine lv_iload_n hx hb dX3_stateBefore_33 rfl (lv_at hl 3 rfl) ?_
    refine lv_icmp_ge (tgt := 72) hx hb dX3_stateBefore_34 (by decide) (fun c_3 => ?_) (fun c_3 => absurd ((nI_le (Nat.le_refl n9) (by omega))) c_3)
    refine lv_iload hx hb dX3_stateBefore_72 (lv_at hl 1 rfl) ?_
    have e9 : rStateBefore σ (nI i) (nI n9) = (sSB σ i n9) := by simp [kStateBefore, rStateBefore, h2, c_3, inB_15 hi, ix_nI (show i < 2147483648 by omega), ix_nI (show n9 < 2147483648 by omega)]
    have e8 : kStateBefore σ (nI i) (nI n9) = 0 := by simp [kStateBefore, rStateBefore, h2, c_3, inB_15 hi, ix_nI (show i < 2147483648 by omega), ix_nI (show n9 < 2147483648 by omega)]
    refine vx_ret (W.widen (k := 2) (n := 12) (Nat.le_of_ble_eq_true rfl) (Nat.le_of_ble_eq_true rfl) ?_)
    exact W.iret (v := sSB σ i n9) hx hb hr (fun t ht9 hW => ⟨(), by rw [e9], e8, ht9⟩) (fun q h => nomatch h) dX3_stateBefore_74
  · have hl : lv_has ls 7 [(6, .int (nI k)), (5, .int (sSB σ i k)), (0, .ref (ad 0)), (2, .int (nI n9)), (3, .ref (ad (i + 7)))] := hl
    refine lv_iload hx hb dX3_stateBefore_31 (lv_at hl 0 rfl) ?_
    refine lv_iload_n hx hb dX3_stateBefore_33 rfl (lv_at hl 3 rfl) ?_
    refine lv_icmp_ge (tgt := 72) hx hb dX3_stateBefore_34 (by decide) (fun c_4 => absurd c_4 ((nI_ge hk (by omega)))) (fun c_4 => ?_)
    refine lv_aload_n hx hb dX3_stateBefore_37 rfl (lv_at hl 2 rfl) ?_
    refine rgF3 hx hb hf3 hown hK hP (hts (.fieldLink RX3 28 "MachineFoundry" "journal" "LMachineFoundry$Journal;") (by decide +kernel)) dX3_stateBefore_38 ?_
    refine rgJ0 hx hb hf1 hown hK hP (hts (.fieldLink RX3 198 "MachineFoundry$Journal" "numbers" "[I") (by decide +kernel)) dX3_stateBefore_41 ?_
    refine lv_iload hx hb dX3_stateBefore_44 (lv_at hl 0 rfl) ?_
    refine raN hx hb hK hP (Nat.lt_of_lt_of_le hk hn9) (rfl) dX3_stateBefore_46 ?_
    refine lv_aload_n hx hb dX3_stateBefore_47 rfl (lv_at hl 4 rfl) ?_
    refine rgM0 hx hb hf2 hown hK hP hi (hts (.fieldLink RX3 191 "MachineFoundry$Machine" "number" "I") (by decide +kernel)) dX3_stateBefore_48 ?_
    refine lv_icmp_ne (tgt := 66) hx hb dX3_stateBefore_51 (by decide) (fun c_5 => ?_) (fun c_5 => ?_)
    · refine lv_iinc (v := nI (k + 1)) (lv' := [(6, .int (nI (k + 1))), (5, .int (sSB σ i k)), (0, .ref (ad 0)), (2, .int (nI n9)), (3, .ref (ad (i + 7)))]) hx hb dX3_stateBefore_66 hl (k := 0) rfl (nI_1 k) (by decide) rfl (fun ls hl => ?_)
      refine lv_goto (tgt := 31) hx hb dX3_stateBefore_69 (by decide) ?_
      have e70 : sSB σ i (k + 1) = sSB σ i k := by simp [sSB, c_5]
      exact ih ls trivial (show lv_has ls 7 [(6, .int (nI (k + 1))), (5, .int (sSB σ i (k + 1))), (0, .ref (ad 0)), (2, .int (nI n9)), (3, .ref (ad (i + 7)))] from by rw [e70]; exact lv_sub hl [0, 1, 2, 3, 4] rfl)
    · refine lv_aload_n hx hb dX3_stateBefore_54 rfl (lv_at hl 2 rfl) ?_
      refine rgF3 hx hb hf3 hown hK hP (hts (.fieldLink RX3 28 "MachineFoundry" "journal" "LMachineFoundry$Journal;") (by decide +kernel)) dX3_stateBefore_55 ?_
      refine rgJ1 hx hb hf1 hown hK hP (hts (.fieldLink RX3 201 "MachineFoundry$Journal" "statesBefore" "[I") (by decide +kernel)) dX3_stateBefore_58 ?_
      refine lv_iload hx hb dX3_stateBefore_61 (lv_at hl 0 rfl) ?_
      refine raS hx hb hK hP (Nat.lt_of_lt_of_le hk hn9) (rfl) dX3_stateBefore_63 ?_
      refine lv_istore (lv' := [(5, .int (σ 23 k)), (6, .int (nI k)), (0, .ref (ad 0)), (2, .int (nI n9)), (3, .ref (ad (i + 7)))]) hx hb dX3_stateBefore_64 hl (by decide) rfl (fun ls hl => ?_)
      refine lv_iinc (v := nI (k + 1)) (lv' := [(6, .int (nI (k + 1))), (5, .int (σ 23 k)), (0, .ref (ad 0)), (2, .int (nI n9)), (3, .ref (ad (i + 7)))]) hx hb dX3_stateBefore_66 hl (k := 1) rfl (nI_1 k) (by decide) rfl (fun ls hl => ?_)
      refine lv_goto (tgt := 31) hx hb dX3_stateBefore_69 (by decide) ?_
      have e70 : sSB σ i (k + 1) = σ 23 k := by simp [sSB, c_5]
      exact ih ls trivial (show lv_has ls 7 [(6, .int (nI (k + 1))), (5, .int (sSB σ i (k + 1))), (0, .ref (ad 0)), (2, .int (nI n9)), (3, .ref (ad (i + 7)))] from by rw [e70]; exact lv_sub hl [0, 1, 2, 3, 4] rfl)
