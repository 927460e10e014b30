set_option maxHeartbeats 4000000 in
set_option maxRecDepth 100000 in
/-- bearsImage -/
theorem c_X2_bearsImage (l : Launch) (D : va_G) (cy : Nat → ClassId) (ad : Nat → Nat) (σ : Mem) (i : Nat) (hi : i < 16) : Met l yX2_bearsImage wsX2_bearsImage ({ frames := 0, cells := 0, slots := 0, locals := 0 }) (va_Pc [.ref (ad (i + 7))] (cw D cy ad σ)) (SI (b2i (sBears σ i))) 0 0 NoA := by
  refine Met.ofW (cc := cX2_bearsImage) (maxL := 1) (ret := (some .boolean)) (by decide) rfl ?_
  intro p e s m args below meth c s₁ B hml hv
  obtain ⟨rfl, hP, hK⟩ := hv
  have hx := B.exec
  have hb := B.bytes
  have hr := B.returns
  have hts := atoms_spec (ws := wsX2_bearsImage) B.pre
  have hown : s.vm.findClass RX2 = some m.cls := findClass_of_methodNamed B.named
  have hlocks := B.notSynchronized
  have hf2 := fun (w : Cond) (h : w ∈ wsX20) => hts w ((by decide +kernel : ∀ w ∈ wsX20, w ∈ wsX2_bearsImage) w h)
  have hl := lv_entry ([.ref (ad (i + 7))]) (n := 1) (Nat.le_of_ble_eq_true rfl)
  rw [lg_entry_eq]
  generalize (lg_sl ([.ref (ad (i + 7))]) ++ List.replicate (1 - (lg_sl ([.ref (ad (i + 7))])).length) Slot.unset).toArray = ls at hl ⊢
  have hl : lv_has ls 1 [(0, .ref (ad (i + 7)))] := hl
  refine lv_aload_n hx hb dX2_bearsImage_0 rfl (lv_at hl 0 rfl) ?_
  refine rgM1 hx hb hf2 hown hK hP hi (hts (.fieldLink RX2 9 "MachineFoundry$Machine" "state" "I") (by decide +kernel)) (rfl) dX2_bearsImage_1 ?_
  refine lv_iconst (v := 3) hx hb dX2_bearsImage_4 (by decide) ?_
  refine lv_icmp_eq (tgt := 25) hx hb dX2_bearsImage_5 (by decide) (fun c_1 => ?_) (fun c_1 => ?_)
  · refine lv_iconst (v := 1) hx hb dX2_bearsImage_25 (by decide) ?_
    refine lv_goto (tgt := 30) hx hb dX2_bearsImage_26 (by decide) ?_
    have e9 : b2i (sBears σ i) = 1 := by simp [b2i, sBears, c_1]
    exact W.zret (v := 1) hx hb hr rfl (fun t ht hW => ⟨(), by rw [e9], trivial, ht⟩) (fun q h => nomatch h) dX2_bearsImage_30
  · refine lv_aload_n hx hb dX2_bearsImage_8 rfl (lv_at hl 0 rfl) ?_
    refine rgM1 hx hb hf2 hown hK hP hi (hts (.fieldLink RX2 9 "MachineFoundry$Machine" "state" "I") (by decide +kernel)) (rfl) dX2_bearsImage_9 ?_
    refine lv_iconst (v := 5) hx hb dX2_bearsImage_12 (by decide) ?_
    refine lv_icmp_eq (tgt := 25) hx hb dX2_bearsImage_13 (by decide) (fun c_2 => ?_) (fun c_2 => ?_)
    · refine lv_iconst (v := 1) hx hb dX2_bearsImage_25 (by decide) ?_
      refine lv_goto (tgt := 30) hx hb dX2_bearsImage_26 (by decide) ?_
      have e9 : b2i (sBears σ i) = 1 := by simp [b2i, sBears, c_1, c_2]
      exact W.zret (v := 1) hx hb hr rfl (fun t ht hW => ⟨(), by rw [e9], trivial, ht⟩) (fun q h => nomatch h) dX2_bearsImage_30
    · refine lv_aload_n hx hb dX2_bearsImage_16 rfl (lv_at hl 0 rfl) ?_
      refine rgM1 hx hb hf2 hown hK hP hi (hts (.fieldLink RX2 9 "MachineFoundry$Machine" "state" "I") (by decide +kernel)) (rfl) dX2_bearsImage_17 ?_
      refine lv_bipush (v := 6) hx hb dX2_bearsImage_20 (by decide) ?_
      refine lv_icmp_ne (tgt := 29) hx hb dX2_bearsImage_22 (by decide) (fun c_3 => ?_) (fun c_3 => ?_)
      · refine lv_iconst (v := 0) hx hb dX2_bearsImage_29 (by decide) ?_
        have e9 : b2i (sBears σ i) = 0 := by simp [b2i, sBears, c_1, c_2, c_3]
        exact W.zret (v := 0) hx hb hr rfl (fun t ht hW => ⟨(), by rw [e9], trivial, ht⟩) (fun q h => nomatch h) dX2_bearsImage_30
      · refine lv_iconst (v := 1) hx hb dX2_bearsImage_25 (by decide) ?_
        refine lv_goto (tgt := 30) hx hb dX2_bearsImage_26 (by decide) ?_
        have e9 : b2i (sBears σ i) = 1 := by simp [b2i, sBears, c_1, c_2, c_3]
        exact W.zret (v := 1) hx hb hr rfl (fun t ht hW => ⟨(), by rw [e9], trivial, ht⟩) (fun q h => nomatch h) dX2_bearsImage_30
set_option maxHeartbeats 4000000 in
set_option maxRecDepth 100000 in
/-- endsByItself -/
theorem c_X2_endsByItself (l : Launch) (D : va_G) (cy : Nat → ClassId) (ad : Nat → Nat) (σ : Mem) (i : Nat) (hi : i < 16) : Met l yX2_endsByItself wsX2_endsByItself ({ frames := 0, cells := 0, slots := 0, locals := 0 }) (va_Pc [.ref (ad (i + 7))] (cw D cy ad σ)) (SI (b2i (sEnds σ i))) 0 0 NoA := by
  refine Met.ofW (cc := cX2_endsByItself) (maxL := 1) (ret := (some .boolean)) (by decide) rfl ?_
  intro p e s m args below meth c s₁ B hml hv
  obtain ⟨rfl, hP, hK⟩ := hv
  have hx := B.exec
  have hb := B.bytes
  have hr := B.returns
  have hts := atoms_spec (ws := wsX2_endsByItself) B.pre
  have hown : s.vm.findClass RX2 = some m.cls := findClass_of_methodNamed B.named
  have hlocks := B.notSynchronized
  have hf2 := fun (w : Cond) (h : w ∈ wsX20) => hts w ((by decide +kernel : ∀ w ∈ wsX20, w ∈ wsX2_endsByItself) w h)
  have hl := lv_entry ([.ref (ad (i + 7))]) (n := 1) (Nat.le_of_ble_eq_true rfl)
  rw [lg_entry_eq]
  generalize (lg_sl ([.ref (ad (i + 7))]) ++ List.replicate (1 - (lg_sl ([.ref (ad (i + 7))])).length) Slot.unset).toArray = ls at hl ⊢
  have hl : lv_has ls 1 [(0, .ref (ad (i + 7)))] := hl
  refine lv_aload_n hx hb dX2_endsByItself_0 rfl (lv_at hl 0 rfl) ?_
  refine rgM1 hx hb hf2 hown hK hP hi (hts (.fieldLink RX2 9 "MachineFoundry$Machine" "state" "I") (by decide +kernel)) (rfl) dX2_endsByItself_1 ?_
  refine lv_iconst (v := 3) hx hb dX2_endsByItself_4 (by decide) ?_
  refine lv_icmp_eq (tgt := 25) hx hb dX2_endsByItself_5 (by decide) (fun c_1 => ?_) (fun c_1 => ?_)
  · refine lv_iconst (v := 1) hx hb dX2_endsByItself_25 (by decide) ?_
    refine lv_goto (tgt := 30) hx hb dX2_endsByItself_26 (by decide) ?_
    have e9 : b2i (sEnds σ i) = 1 := by simp [b2i, sEnds, c_1]
    exact W.zret (v := 1) hx hb hr rfl (fun t ht hW => ⟨(), by rw [e9], trivial, ht⟩) (fun q h => nomatch h) dX2_endsByItself_30
  · refine lv_aload_n hx hb dX2_endsByItself_8 rfl (lv_at hl 0 rfl) ?_
    refine rgM1 hx hb hf2 hown hK hP hi (hts (.fieldLink RX2 9 "MachineFoundry$Machine" "state" "I") (by decide +kernel)) (rfl) dX2_endsByItself_9 ?_
    refine lv_iconst (v := 4) hx hb dX2_endsByItself_12 (by decide) ?_
    refine lv_icmp_eq (tgt := 25) hx hb dX2_endsByItself_13 (by decide) (fun c_2 => ?_) (fun c_2 => ?_)
    · refine lv_iconst (v := 1) hx hb dX2_endsByItself_25 (by decide) ?_
      refine lv_goto (tgt := 30) hx hb dX2_endsByItself_26 (by decide) ?_
      have e9 : b2i (sEnds σ i) = 1 := by simp [b2i, sEnds, c_1, c_2]
      exact W.zret (v := 1) hx hb hr rfl (fun t ht hW => ⟨(), by rw [e9], trivial, ht⟩) (fun q h => nomatch h) dX2_endsByItself_30
    · refine lv_aload_n hx hb dX2_endsByItself_16 rfl (lv_at hl 0 rfl) ?_
      refine rgM1 hx hb hf2 hown hK hP hi (hts (.fieldLink RX2 9 "MachineFoundry$Machine" "state" "I") (by decide +kernel)) (rfl) dX2_endsByItself_17 ?_
      refine lv_bipush (v := 6) hx hb dX2_endsByItself_20 (by decide) ?_
      refine lv_icmp_ne (tgt := 29) hx hb dX2_endsByItself_22 (by decide) (fun c_3 => ?_) (fun c_3 => ?_)
      · refine lv_iconst (v := 0) hx hb dX2_endsByItself_29 (by decide) ?_
        have e9 : b2i (sEnds σ i) = 0 := by simp [b2i, sEnds, c_1, c_2, c_3]
        exact W.zret (v := 0) hx hb hr rfl (fun t ht hW => ⟨(), by rw [e9], trivial, ht⟩) (fun q h => nomatch h) dX2_endsByItself_30
      · refine lv_iconst (v := 1) hx hb dX2_endsByItself_25 (by decide) ?_
        refine lv_goto (tgt := 30) hx hb dX2_endsByItself_26 (by decide) ?_
        have e9 : b2i (sEnds σ i) = 1 := by simp [b2i, sEnds, c_1, c_2, c_3]
        exact W.zret (v := 1) hx hb hr rfl (fun t ht hW => ⟨(), by rw [e9], trivial, ht⟩) (fun q h => nomatch h) dX2_endsByItself_30
set_option maxHeartbeats 4000000 in
set_option maxRecDepth 100000 in
/-- isOver -/
theorem c_X2_isOver (l : Launch) (D : va_G) (cy : Nat → ClassId) (ad : Nat → Nat) (σ : Mem) (i : Nat) (hi : i < 16) (st h : Int32) : Met l yX2_isOver wsX2_isOver ({ frames := 0, cells := 0, slots := 0, locals := 0 }) (va_Pc [.ref (ad (i + 7)), .int st, .int h] (cw D cy ad σ)) (SI (b2i (sOv σ i st h))) 0 0 NoA := by
  refine Met.ofW (cc := cX2_isOver) (maxL := 3) (ret := (some .boolean)) (by decide) rfl ?_
  intro p e s m args below meth c s₁ B hml hv
  obtain ⟨rfl, hP, hK⟩ := hv
  have hx := B.exec
  have hb := B.bytes
  have hr := B.returns
  have hts := atoms_spec (ws := wsX2_isOver) B.pre
  have hown : s.vm.findClass RX2 = some m.cls := findClass_of_methodNamed B.named
  have hlocks := B.notSynchronized
  have hf2 := fun (w : Cond) (h : w ∈ wsX20) => hts w ((by decide +kernel : ∀ w ∈ wsX20, w ∈ wsX2_isOver) w h)
  have hl := lv_entry ([.ref (ad (i + 7)), .int st, .int h]) (n := 3) (Nat.le_of_ble_eq_true rfl)
  rw [lg_entry_eq]
  generalize (lg_sl ([.ref (ad (i + 7)), .int st, .int h]) ++ List.replicate (3 - (lg_sl ([.ref (ad (i + 7)), .int st, .int h])).length) Slot.unset).toArray = ls at hl ⊢
  have hl : lv_has ls 3 [(0, .ref (ad (i + 7))), (1, .int st), (2, .int h)] := hl
  refine lv_aload_n hx hb dX2_isOver_0 rfl (lv_at hl 0 rfl) ?_
  refine rgM1 hx hb hf2 hown hK hP hi (hts (.fieldLink RX2 9 "MachineFoundry$Machine" "state" "I") (by decide +kernel)) (rfl) dX2_isOver_1 ?_
  refine lv_iload_n hx hb dX2_isOver_4 rfl (lv_at hl 1 rfl) ?_
  refine lv_icmp_ne (tgt := 20) hx hb dX2_isOver_5 (by decide) (fun c_1 => ?_) (fun c_1 => ?_)
  · refine lv_iconst (v := 0) hx hb dX2_isOver_20 (by decide) ?_
    have e9 : b2i (sOv σ i st h) = 0 := by simp [b2i, sOv, c_1]
    exact W.zret (v := 0) hx hb hr rfl (fun t ht hW => ⟨(), by rw [e9], trivial, ht⟩) (fun q h => nomatch h) dX2_isOver_21
  · refine lv_aload_n hx hb dX2_isOver_8 rfl (lv_at hl 0 rfl) ?_
    refine rgM8 hx hb hf2 hown hK hP hi (hts (.fieldLink RX2 33 "MachineFoundry$Machine" "end" "I") (by decide +kernel)) (rfl) dX2_isOver_9 ?_
    refine lv_iload_n hx hb dX2_isOver_12 rfl (lv_at hl 2 rfl) ?_
    refine lv_icmp_gt (tgt := 20) hx hb dX2_isOver_13 (by decide) (fun c_2 => ?_) (fun c_2 => ?_)
    · have d_2 := Int32.not_le.mpr c_2
      refine lv_iconst (v := 0) hx hb dX2_isOver_20 (by decide) ?_
      have e9 : b2i (sOv σ i st h) = 0 := by simp [b2i, sOv, c_1, c_2, d_2]
      exact W.zret (v := 0) hx hb hr rfl (fun t ht hW => ⟨(), by rw [e9], trivial, ht⟩) (fun q h => nomatch h) dX2_isOver_21
    · have d_2 := Int32.not_lt.mp c_2
      refine lv_iconst (v := 1) hx hb dX2_isOver_16 (by decide) ?_
      refine lv_goto (tgt := 21) hx hb dX2_isOver_17 (by decide) ?_
      have e9 : b2i (sOv σ i st h) = 1 := by simp [b2i, sOv, c_1, c_2, d_2]
      exact W.zret (v := 1) hx hb hr rfl (fun t ht hW => ⟨(), by rw [e9], trivial, ht⟩) (fun q h => nomatch h) dX2_isOver_21
set_option maxHeartbeats 4000000 in
set_option maxRecDepth 100000 in
/-- isQueuedAt -/
theorem c_X2_isQueuedAt (l : Launch) (D : va_G) (cy : Nat → ClassId) (ad : Nat → Nat) (σ : Mem) (i : Nat) (hi : i < 16) (r : Int32) : Met l yX2_isQueuedAt wsX2_isQueuedAt ({ frames := 0, cells := 0, slots := 0, locals := 0 }) (va_Pc [.ref (ad (i + 7)), .int r] (cw D cy ad σ)) (SI (b2i (sQ σ i r))) 0 0 NoA := by
  refine Met.ofW (cc := cX2_isQueuedAt) (maxL := 2) (ret := (some .boolean)) (by decide) rfl ?_
  intro p e s m args below meth c s₁ B hml hv
  obtain ⟨rfl, hP, hK⟩ := hv
  have hx := B.exec
  have hb := B.bytes
  have hr := B.returns
  have hts := atoms_spec (ws := wsX2_isQueuedAt) B.pre
  have hown : s.vm.findClass RX2 = some m.cls := findClass_of_methodNamed B.named
  have hlocks := B.notSynchronized
  have hf2 := fun (w : Cond) (h : w ∈ wsX20) => hts w ((by decide +kernel : ∀ w ∈ wsX20, w ∈ wsX2_isQueuedAt) w h)
  have hl := lv_entry ([.ref (ad (i + 7)), .int r]) (n := 2) (Nat.le_of_ble_eq_true rfl)
  rw [lg_entry_eq]
  generalize (lg_sl ([.ref (ad (i + 7)), .int r]) ++ List.replicate (2 - (lg_sl ([.ref (ad (i + 7)), .int r])).length) Slot.unset).toArray = ls at hl ⊢
  have hl : lv_has ls 2 [(0, .ref (ad (i + 7))), (1, .int r)] := hl
  refine lv_aload_n hx hb dX2_isQueuedAt_0 rfl (lv_at hl 0 rfl) ?_
  refine rgM1 hx hb hf2 hown hK hP hi (hts (.fieldLink RX2 9 "MachineFoundry$Machine" "state" "I") (by decide +kernel)) (rfl) dX2_isQueuedAt_1 ?_
  refine lv_iconst (v := 2) hx hb dX2_isQueuedAt_4 (by decide) ?_
  refine lv_icmp_ne (tgt := 20) hx hb dX2_isQueuedAt_5 (by decide) (fun c_1 => ?_) (fun c_1 => ?_)
  · refine lv_iconst (v := 0) hx hb dX2_isQueuedAt_20 (by decide) ?_
    have e9 : b2i (sQ σ i r) = 0 := by simp [b2i, sQ, c_1]
    exact W.zret (v := 0) hx hb hr rfl (fun t ht hW => ⟨(), by rw [e9], trivial, ht⟩) (fun q h => nomatch h) dX2_isQueuedAt_21
  · refine lv_aload_n hx hb dX2_isQueuedAt_8 rfl (lv_at hl 0 rfl) ?_
    refine rgM2 hx hb hf2 hown hK hP hi (hts (.fieldLink RX2 15 "MachineFoundry$Machine" "rack" "I") (by decide +kernel)) (rfl) dX2_isQueuedAt_9 ?_
    refine lv_iload_n hx hb dX2_isQueuedAt_12 rfl (lv_at hl 1 rfl) ?_
    refine lv_icmp_ne (tgt := 20) hx hb dX2_isQueuedAt_13 (by decide) (fun c_2 => ?_) (fun c_2 => ?_)
    · refine lv_iconst (v := 0) hx hb dX2_isQueuedAt_20 (by decide) ?_
      have e9 : b2i (sQ σ i r) = 0 := by simp [b2i, sQ, c_1, c_2]
      exact W.zret (v := 0) hx hb hr rfl (fun t ht hW => ⟨(), by rw [e9], trivial, ht⟩) (fun q h => nomatch h) dX2_isQueuedAt_21
    · refine lv_iconst (v := 1) hx hb dX2_isQueuedAt_16 (by decide) ?_
      refine lv_goto (tgt := 21) hx hb dX2_isQueuedAt_17 (by decide) ?_
      have e9 : b2i (sQ σ i r) = 1 := by simp [b2i, sQ, c_1, c_2]
      exact W.zret (v := 1) hx hb hr rfl (fun t ht hW => ⟨(), by rw [e9], trivial, ht⟩) (fun q h => nomatch h) dX2_isQueuedAt_21
set_option maxHeartbeats 4000000 in
set_option maxRecDepth 100000 in
/-- matches -/
theorem c_X0_matches (l : Launch) (D : va_G) (cy : Nat → ClassId) (ad : Nat → Nat) (σ : Mem) (k i : Nat) (hk : k < 8) (hi : i < 16) : Met l yX0_matches wsX0_matches ({ frames := 0, cells := 0, slots := 0, locals := 0 }) (va_Pc [.ref (ad (k + 23)), .ref (ad (i + 7))] (cw D cy ad σ)) (SI (b2i (sMt σ k i))) 0 0 NoA := by
  refine Met.ofW (cc := cX0_matches) (maxL := 2) (ret := (some .boolean)) (by decide) rfl ?_
  intro p e s m args below meth c s₁ B hml hv
  obtain ⟨rfl, hP, hK⟩ := hv
  have hx := B.exec
  have hb := B.bytes
  have hr := B.returns
  have hts := atoms_spec (ws := wsX0_matches) B.pre
  have hown : s.vm.findClass RX0 = some m.cls := findClass_of_methodNamed B.named
  have hlocks := B.notSynchronized
  have hf0 := fun (w : Cond) (h : w ∈ wsX00) => hts w ((by decide +kernel : ∀ w ∈ wsX00, w ∈ wsX0_matches) w h)
  have hf2 := fun (w : Cond) (h : w ∈ wsX20) => hts w ((by decide +kernel : ∀ w ∈ wsX20, w ∈ wsX0_matches) w h)
  have hl := lv_entry ([.ref (ad (k + 23)), .ref (ad (i + 7))]) (n := 2) (Nat.le_of_ble_eq_true rfl)
  rw [lg_entry_eq]
  generalize (lg_sl ([.ref (ad (k + 23)), .ref (ad (i + 7))]) ++ List.replicate (2 - (lg_sl ([.ref (ad (k + 23)), .ref (ad (i + 7))])).length) Slot.unset).toArray = ls at hl ⊢
  have hl : lv_has ls 2 [(0, .ref (ad (k + 23))), (1, .ref (ad (i + 7)))] := hl
  refine lv_aload_n hx hb dX0_matches_0 rfl (lv_at hl 0 rfl) ?_
  refine rgI1 hx hb hf0 hown hK hP hk (hts (.fieldLink RX0 9 "MachineFoundry$Image" "isSet" "Z") (by decide +kernel)) (rfl) dX0_matches_1 ?_
  refine lv_if_eq (tgt := 72) hx hb dX0_matches_4 (by decide) (fun c_1 => ?_) (fun c_1 => ?_)
  · refine lv_iconst (v := 0) hx hb dX0_matches_72 (by decide) ?_
    have e9 : b2i (sMt σ k i) = 0 := by simp [b2i, sMt, c_1]
    exact W.zret (v := 0) hx hb hr rfl (fun t ht hW => ⟨(), by rw [e9], trivial, ht⟩) (fun q h => nomatch h) dX0_matches_73
  · refine lv_aload_n hx hb dX0_matches_7 rfl (lv_at hl 1 rfl) ?_
    refine rgM1 hx hb hf2 hown hK hP hi (hts (.fieldLink RX0 37 "MachineFoundry$Machine" "state" "I") (by decide +kernel)) (rfl) dX0_matches_8 ?_
    refine lv_if_eq (tgt := 72) hx hb dX0_matches_11 (by decide) (fun c_2 => ?_) (fun c_2 => ?_)
    · refine lv_iconst (v := 0) hx hb dX0_matches_72 (by decide) ?_
      have e9 : b2i (sMt σ k i) = 0 := by simp [b2i, sMt, c_1, c_2]
      exact W.zret (v := 0) hx hb hr rfl (fun t ht hW => ⟨(), by rw [e9], trivial, ht⟩) (fun q h => nomatch h) dX0_matches_73
    · refine lv_aload_n hx hb dX0_matches_14 rfl (lv_at hl 1 rfl) ?_
      refine rgM3 hx hb hf2 hown hK hP hi (hts (.fieldLink RX0 42 "MachineFoundry$Machine" "memory" "I") (by decide +kernel)) (rfl) dX0_matches_15 ?_
      refine lv_aload_n hx hb dX0_matches_18 rfl (lv_at hl 0 rfl) ?_
      refine rgI3 hx hb hf0 hown hK hP hk (hts (.fieldLink RX0 19 "MachineFoundry$Image" "memory" "I") (by decide +kernel)) (rfl) dX0_matches_19 ?_
      refine lv_icmp_lt (tgt := 72) hx hb dX0_matches_22 (by decide) (fun c_3 => ?_) (fun c_3 => ?_)
      · have d_3 := Int32.not_le.mpr c_3
        refine lv_iconst (v := 0) hx hb dX0_matches_72 (by decide) ?_
        have e9 : b2i (sMt σ k i) = 0 := by simp [b2i, sMt, c_1, c_2, c_3, d_3]
        exact W.zret (v := 0) hx hb hr rfl (fun t ht hW => ⟨(), by rw [e9], trivial, ht⟩) (fun q h => nomatch h) dX0_matches_73
      · have d_3 := Int32.not_lt.mp c_3
        refine lv_aload_n hx hb dX0_matches_25 rfl (lv_at hl 0 rfl) ?_
        refine rgI4 hx hb hf0 hown hK hP hk (hts (.fieldLink RX0 22 "MachineFoundry$Image" "kinds" "I") (by decide +kernel)) (rfl) dX0_matches_26 ?_
        refine lv_aload_n hx hb dX0_matches_29 rfl (lv_at hl 1 rfl) ?_
        refine rgM4 hx hb hf2 hown hK hP hi (hts (.fieldLink RX0 43 "MachineFoundry$Machine" "kind" "I") (by decide +kernel)) (rfl) dX0_matches_30 ?_
        refine lv_ishr hx hb dX0_matches_33 ?_
        refine lv_iconst (v := 1) hx hb dX0_matches_34 (by decide) ?_
        refine lv_iand hx hb dX0_matches_35 ?_
        refine lv_iconst (v := 1) hx hb dX0_matches_36 (by decide) ?_
        refine lv_icmp_ne (tgt := 72) hx hb dX0_matches_37 (by decide) (fun c_4 => ?_) (fun c_4 => ?_)
        · refine lv_iconst (v := 0) hx hb dX0_matches_72 (by decide) ?_
          have e9 : b2i (sMt σ k i) = 0 := by simp [b2i, sMt, c_1, c_2, c_3, d_3, c_4]
          exact W.zret (v := 0) hx hb hr rfl (fun t ht hW => ⟨(), by rw [e9], trivial, ht⟩) (fun q h => nomatch h) dX0_matches_73
        · refine lv_aload_n hx hb dX0_matches_40 rfl (lv_at hl 1 rfl) ?_
          refine rgM5 hx hb hf2 hown hK hP hi (hts (.fieldLink RX0 46 "MachineFoundry$Machine" "tags" "I") (by decide +kernel)) (rfl) dX0_matches_41 ?_
          refine lv_aload_n hx hb dX0_matches_44 rfl (lv_at hl 0 rfl) ?_
          refine rgI5 hx hb hf0 hown hK hP hk (hts (.fieldLink RX0 25 "MachineFoundry$Image" "required" "I") (by decide +kernel)) (rfl) dX0_matches_45 ?_
          refine lv_iand hx hb dX0_matches_48 ?_
          refine lv_aload_n hx hb dX0_matches_49 rfl (lv_at hl 0 rfl) ?_
          refine rgI5 hx hb hf0 hown hK hP hk (hts (.fieldLink RX0 25 "MachineFoundry$Image" "required" "I") (by decide +kernel)) (rfl) dX0_matches_50 ?_
          refine lv_icmp_ne (tgt := 72) hx hb dX0_matches_53 (by decide) (fun c_5 => ?_) (fun c_5 => ?_)
          · refine lv_iconst (v := 0) hx hb dX0_matches_72 (by decide) ?_
            have e9 : b2i (sMt σ k i) = 0 := by simp [b2i, sMt, c_1, c_2, c_3, d_3, c_4, c_5]
            exact W.zret (v := 0) hx hb hr rfl (fun t ht hW => ⟨(), by rw [e9], trivial, ht⟩) (fun q h => nomatch h) dX0_matches_73
          · refine lv_aload_n hx hb dX0_matches_56 rfl (lv_at hl 1 rfl) ?_
            refine rgM5 hx hb hf2 hown hK hP hi (hts (.fieldLink RX0 46 "MachineFoundry$Machine" "tags" "I") (by decide +kernel)) (rfl) dX0_matches_57 ?_
            refine lv_aload_n hx hb dX0_matches_60 rfl (lv_at hl 0 rfl) ?_
            refine rgI6 hx hb hf0 hown hK hP hk (hts (.fieldLink RX0 28 "MachineFoundry$Image" "barred" "I") (by decide +kernel)) (rfl) dX0_matches_61 ?_
            refine lv_iand hx hb dX0_matches_64 ?_
            refine lv_if_ne (tgt := 72) hx hb dX0_matches_65 (by decide) (fun c_6 => ?_) (fun c_6 => ?_)
            · refine lv_iconst (v := 0) hx hb dX0_matches_72 (by decide) ?_
              have e9 : b2i (sMt σ k i) = 0 := by simp [b2i, sMt, c_1, c_2, c_3, d_3, c_4, c_5, c_6]
              exact W.zret (v := 0) hx hb hr rfl (fun t ht hW => ⟨(), by rw [e9], trivial, ht⟩) (fun q h => nomatch h) dX0_matches_73
            · refine lv_iconst (v := 1) hx hb dX0_matches_68 (by decide) ?_
              refine lv_goto (tgt := 73) hx hb dX0_matches_69 (by decide) ?_
              have e9 : b2i (sMt σ k i) = 1 := by simp [b2i, sMt, c_1, c_2, c_3, d_3, c_4, c_5, c_6]
              exact W.zret (v := 1) hx hb hr rfl (fun t ht hW => ⟨(), by rw [e9], trivial, ht⟩) (fun q h => nomatch h) dX0_matches_73
set_option maxHeartbeats 4000000 in
set_option maxRecDepth 100000 in
theorem c_X1_kept (l : Launch) (D : va_G) (cy : Nat → ClassId) (ad : Nat → Nat) (σ : Mem) : Met l yX1_kept wsX1_kept ({ frames := 1, cells := 0, slots := 0, locals := 13 }) (va_Pc [.ref (ad 4)] (cw D cy ad σ)) (SI (sKept σ)) 0 0 NoA := by
  refine Met.ofW (cc := cX1_kept) (maxL := 1) (ret := (some .int)) (by decide) rfl ?_
  intro p e s m args below meth c s₁ B hml hv
  obtain ⟨rfl, hP, hK⟩ := hv
  have hx := B.exec
  have hb := B.bytes
  have hr := B.returns
  have hts := atoms_spec (ws := wsX1_kept) B.pre
  have hown : s.vm.findClass RX1 = some m.cls := findClass_of_methodNamed B.named
  have hlocks := B.notSynchronized
  have hf1 := fun (w : Cond) (h : w ∈ wsX10) => hts w ((by decide +kernel : ∀ w ∈ wsX10, w ∈ wsX1_kept) w h)
  have hl := lv_entry ([.ref (ad 4)]) (n := 1) (Nat.le_of_ble_eq_true rfl)
  rw [lg_entry_eq]
  generalize (lg_sl ([.ref (ad 4)]) ++ List.replicate (1 - (lg_sl ([.ref (ad 4)])).length) Slot.unset).toArray = ls at hl ⊢
  have hl : lv_has ls 1 [(0, .ref (ad 4))] := hl
  refine lv_aload_n hx hb dX1_kept_0 rfl (lv_at hl 0 rfl) ?_
  refine rgJ2 hx hb hf1 hown hK hP (hts (.fieldLink RX1 16 "MachineFoundry$Journal" "added" "I") (by decide +kernel)) (rfl) dX1_kept_1 ?_
  refine lv_aload_n hx hb dX1_kept_4 rfl (lv_at hl 0 rfl) ?_
  refine rgJ0 hx hb hf1 hown hK hP (hts (.fieldLink RX1 7 "MachineFoundry$Journal" "numbers" "[I") (by decide +kernel)) dX1_kept_5 ?_
  refine rlN hx hb hK hP dX1_kept_8 ?_
  refine va_mmin hx hb (by rw [hml]; exact hl.1.symm) hown (hts (.methodLink RX1 20 Lib.Math.min.name) (by decide +kernel)) (hts (.static Lib.Math.min.name) (by decide +kernel)) (hts (.initialized "java/lang/Math") (by decide +kernel)) (hts (.code Lib.Math.min.name Lib.Math.min.code 2 (some .int)) (by decide +kernel)) (Nat.le_of_ble_eq_true rfl) (Nat.le_of_ble_eq_true rfl) (Nat.le_of_ble_eq_true rfl) (Nat.le_of_ble_eq_true rfl) dX1_kept_9 ?_
  have e9 : sKept σ = (if 40 < (σ 20 9) then 40 else σ 20 9) := by simp [sKept]
  exact W.iret (v := if 40 < (σ 20 9) then 40 else σ 20 9) hx hb hr (fun t ht hW => ⟨(), by rw [e9], trivial, ht⟩) (fun q h => nomatch h) dX1_kept_12
set_option maxHeartbeats 4000000 in
set_option maxRecDepth 100000 in
/-- Journal.add -/
theorem c_X1_add (l : Launch) (D : va_G) (cy : Nat → ClassId) (ad : Nat → Nat) (hj : inj31 ad) (σ : Mem) (n st : Int32) : Met l yX1_add wsX1_add ({ frames := 0, cells := 0, slots := 0, locals := 0 }) (va_Pc [.ref (ad 4), .int n, .int st] (cw D cy ad σ)) (QV (va_P D vwCl (wC cy ad (sAdd σ n st))) (AC ad)) 0 0 (AC ad) := by
  refine Met.ofW (cc := cX1_add) (maxL := 4) (ret := none) (by decide) rfl ?_
  intro p e s m args below meth c s₁ B hml hv
  obtain ⟨rfl, hP, hK⟩ := hv
  have hx := B.exec
  have hb := B.bytes
  have hr := B.returns
  have hts := atoms_spec (ws := wsX1_add) B.pre
  have hown : s.vm.findClass RX1 = some m.cls := findClass_of_methodNamed B.named
  have hlocks := B.notSynchronized
  have hf1 := fun (w : Cond) (h : w ∈ wsX10) => hts w ((by decide +kernel : ∀ w ∈ wsX10, w ∈ wsX1_add) w h)
  have hD := wC_D (cy := cy) hj
  have hS : va_S (AC ad) s.heap s.heap [] := va_S.rf
  have hl := lv_entry ([.ref (ad 4), .int n, .int st]) (n := 4) (Nat.le_of_ble_eq_true rfl)
  rw [lg_entry_eq]
  generalize (lg_sl ([.ref (ad 4), .int n, .int st]) ++ List.replicate (4 - (lg_sl ([.ref (ad 4), .int n, .int st])).length) Slot.unset).toArray = ls at hl ⊢
  have hl : lv_has ls 4 [(0, .ref (ad 4)), (1, .int n), (2, .int st)] := hl
  refine lv_aload_n hx hb dX1_add_0 rfl (lv_at hl 0 rfl) ?_
  refine rgJ0 hx hb hf1 hown hK hP (hts (.fieldLink RX1 7 "MachineFoundry$Journal" "numbers" "[I") (by decide +kernel)) dX1_add_1 ?_
  refine rlN hx hb hK hP dX1_add_4 ?_
  refine lv_iconst (v := 1) hx hb dX1_add_5 (by decide) ?_
  refine lv_isub hx hb dX1_add_6 ?_
  refine W.eq (g2 := F0 m 7 ls [.int 39]) (by rw [show (40 : Int32) - 1 = 39 from by decide]) ?_
  refine lv_istore_n (lv' := [(3, .int 39), (0, .ref (ad 4)), (1, .int n), (2, .int st)]) hx hb dX1_add_7 rfl hl (by decide) rfl (fun ls hl => ?_)
  have hl0 : lv_has ls 4 [(3, .int (nI 39)), (0, .ref (ad 4)), (1, .int n), (2, .int st)] := lv_sub hl [0, 1, 2, 3] rfl
  have hP0 := hP
  rw [← sh_40 σ] at hP0
  refine w_loopD (fun k => [(3, .int (nI k)), (0, .ref (ad 4)), (1, .int n), (2, .int st)]) (fun k => va_P D vwCl (wC cy ad (sh σ (k + 1)))) 39 hl0 hP0 hS (fun H locs ls hl hP hS => ?_) (fun k hk H locs ls hl hP hS ih => ?_)
  · have hl : lv_has ls 4 [(3, .int (nI 0)), (0, .ref (ad 4)), (1, .int n), (2, .int st)] := hl
    have hP : va_P D vwCl (wC cy ad (sh σ 1)) H := hP
    refine lv_iload_n hx hb dX1_add_8 rfl (lv_at hl 0 rfl) ?_
    refine lv_if_le (tgt := 46) hx hb dX1_add_9 (by decide) (fun c_1 => ?_) (fun c_1 => absurd ((by decide : nI 0 ≤ 0)) c_1)
    refine lv_aload_n hx hb dX1_add_46 rfl (lv_at hl 1 rfl) ?_
    refine rgJ0 hx hb hf1 hown hK hP (hts (.fieldLink RX1 7 "MachineFoundry$Journal" "numbers" "[I") (by decide +kernel)) dX1_add_47 ?_
    refine lv_iconst (v := 0) hx hb dX1_add_50 (by decide) ?_
    refine lv_iload_n hx hb dX1_add_51 rfl (lv_at hl 2 rfl) ?_
    refine W.eq (g2 := F0 m 52 ls [.int n, .int (nI 0), .ref (ad 5)]) rfl ?_
    refine rsN hx hb hK hP hD hS (by decide) dX1_add_52 (fun H locs hP hS => ?_)
    refine lv_aload_n hx hb dX1_add_53 rfl (lv_at hl 1 rfl) ?_
    refine rgJ1 hx hb hf1 hown hK hP (hts (.fieldLink RX1 13 "MachineFoundry$Journal" "statesBefore" "[I") (by decide +kernel)) dX1_add_54 ?_
    refine lv_iconst (v := 0) hx hb dX1_add_57 (by decide) ?_
    refine lv_iload_n hx hb dX1_add_58 rfl (lv_at hl 3 rfl) ?_
    refine W.eq (g2 := F0 m 59 ls [.int st, .int (nI 0), .ref (ad 6)]) rfl ?_
    refine rsS hx hb hK hP hD hS (by decide) dX1_add_59 (fun H locs hP hS => ?_)
    refine lv_aload_n hx hb dX1_add_60 rfl (lv_at hl 1 rfl) ?_
    refine lv_dup hx hb dX1_add_61 rfl ?_
    refine rgJ2 (x := (sh σ 1) 20 9) hx hb hf1 hown hK hP (hts (.fieldLink RX1 16 "MachineFoundry$Journal" "added" "I") (by decide +kernel)) (by simp [up2]) dX1_add_62 ?_
    refine lv_iconst (v := 1) hx hb dX1_add_65 (by decide) ?_
    refine lv_iadd hx hb dX1_add_66 ?_
    refine rpJ2 hx hb hf1 hown hK hP hD hS (hts (.fieldLink RX1 16 "MachineFoundry$Journal" "added" "I") (by decide +kernel)) dX1_add_67 (fun H locs hP hS => ?_)
    have e8 : sAdd σ n st = up2 (up2 (up2 (sh σ 1) 22 0 n) 23 0 st) 20 9 (((sh σ 1) 20 9) + 1) := by simp [sAdd, up2, sh]
    rw [← e8] at hP
    exact W.vret hx hb hr (fun t ht hW => ⟨⟨(), rfl, trivial, by rw [← ht] at hP; exact hP⟩, hS.F ht⟩) hS.2.2 dX1_add_70
  · have hl : lv_has ls 4 [(3, .int (nI (k + 1))), (0, .ref (ad 4)), (1, .int n), (2, .int st)] := hl
    have hP : va_P D vwCl (wC cy ad (sh σ (k + 1 + 1))) H := hP
    refine lv_iload_n hx hb dX1_add_8 rfl (lv_at hl 0 rfl) ?_
    refine lv_if_le (tgt := 46) hx hb dX1_add_9 (by decide) (fun c_2 => absurd c_2 ((nI_nle (n := k + 1) (by omega) (by omega)))) (fun c_2 => ?_)
    refine lv_aload_n hx hb dX1_add_12 rfl (lv_at hl 1 rfl) ?_
    refine rgJ0 hx hb hf1 hown hK hP (hts (.fieldLink RX1 7 "MachineFoundry$Journal" "numbers" "[I") (by decide +kernel)) dX1_add_13 ?_
    refine lv_iload_n hx hb dX1_add_16 rfl (lv_at hl 0 rfl) ?_
    refine lv_aload_n hx hb dX1_add_17 rfl (lv_at hl 1 rfl) ?_
    refine rgJ0 hx hb hf1 hown hK hP (hts (.fieldLink RX1 7 "MachineFoundry$Journal" "numbers" "[I") (by decide +kernel)) dX1_add_18 ?_
    refine lv_iload_n hx hb dX1_add_21 rfl (lv_at hl 0 rfl) ?_
    refine lv_iconst (v := 1) hx hb dX1_add_22 (by decide) ?_
    refine lv_isub hx hb dX1_add_23 ?_
    refine W.eq (g2 := F0 m 24 ls [.int (nI k), .ref (ad 5), .int (nI (k + 1)), .ref (ad 5)]) (by rw [nI_pred]) ?_
    refine raN hx hb hK hP (by omega) (rfl) dX1_add_24 ?_
    refine rsN hx hb hK hP hD hS (by omega) dX1_add_25 (fun H locs hP hS => ?_)
    refine lv_aload_n hx hb dX1_add_26 rfl (lv_at hl 1 rfl) ?_
    refine rgJ1 hx hb hf1 hown hK hP (hts (.fieldLink RX1 13 "MachineFoundry$Journal" "statesBefore" "[I") (by decide +kernel)) dX1_add_27 ?_
    refine lv_iload_n hx hb dX1_add_30 rfl (lv_at hl 0 rfl) ?_
    refine lv_aload_n hx hb dX1_add_31 rfl (lv_at hl 1 rfl) ?_
    refine rgJ1 hx hb hf1 hown hK hP (hts (.fieldLink RX1 13 "MachineFoundry$Journal" "statesBefore" "[I") (by decide +kernel)) dX1_add_32 ?_
    refine lv_iload_n hx hb dX1_add_35 rfl (lv_at hl 0 rfl) ?_
    refine lv_iconst (v := 1) hx hb dX1_add_36 (by decide) ?_
    refine lv_isub hx hb dX1_add_37 ?_
    refine W.eq (g2 := F0 m 38 ls [.int (nI k), .ref (ad 6), .int (nI (k + 1)), .ref (ad 6)]) (by rw [nI_pred]) ?_
    refine raS (x := (sh σ (k + 1 + 1)) 23 k) hx hb hK hP (by omega) (by simp [up2]) dX1_add_38 ?_
    refine rsS hx hb hK hP hD hS (by omega) dX1_add_39 (fun H locs hP hS => ?_)
    refine lv_iinc (v := nI k) (lv' := [(3, .int (nI k)), (0, .ref (ad 4)), (1, .int n), (2, .int st)]) hx hb dX1_add_40 hl (k := 0) rfl (pk_m1 k) (by decide) rfl (fun ls hl => ?_)
    refine lv_goto (tgt := 8) hx hb dX1_add_43 (by decide) ?_
    have e6 : up2 (up2 (sh σ (k + 1 + 1)) 22 (k + 1) ((sh σ (k + 1 + 1)) 22 k)) 23 (k + 1) ((sh σ (k + 1 + 1)) 23 k) = sh σ (k + 1) := sh_step σ (i := k + 1) (by omega) (by omega)
    rw [e6] at hP
    exact ih H locs ls (lv_sub hl [0, 1, 2, 3] rfl) hP hS
set_option maxHeartbeats 4000000 in
set_option maxRecDepth 100000 in
/-- countInstalling -/
theorem c_X3_countInstalling (l : Launch) (D : va_G) (cy : Nat → ClassId) (ad : Nat → Nat) (σ : Mem) (r : Int32) : Met l yX3_countInstalling wsX3_countInstalling ({ frames := 0, cells := 0, slots := 0, locals := 0 }) (va_Pc [.ref (ad 0), .int r] (cw D cy ad σ)) (SI (sIn σ r)) 0 0 NoA := by
  refine Met.ofW (cc := cX3_countInstalling) (maxL := 4) (ret := (some .int)) (by decide) rfl ?_
  intro p e s m args below meth c s₁ B hml hv
  obtain ⟨rfl, hP, hK⟩ := hv
  have hx := B.exec
  have hb := B.bytes
  have hr := B.returns
  have hts := atoms_spec (ws := wsX3_countInstalling) B.pre
  have hown : s.vm.findClass RX3 = some m.cls := findClass_of_methodNamed B.named
  have hlocks := B.notSynchronized
  have hf2 := fun (w : Cond) (h : w ∈ wsX20) => hts w ((by decide +kernel : ∀ w ∈ wsX20, w ∈ wsX3_countInstalling) w h)
  have hf3 := fun (w : Cond) (h : w ∈ wsX30) => hts w ((by decide +kernel : ∀ w ∈ wsX30, w ∈ wsX3_countInstalling) w h)
  have hl := lv_entry ([.ref (ad 0), .int r]) (n := 4) (Nat.le_of_ble_eq_true rfl)
  rw [lg_entry_eq]
  generalize (lg_sl ([.ref (ad 0), .int r]) ++ List.replicate (4 - (lg_sl ([.ref (ad 0), .int r])).length) Slot.unset).toArray = ls at hl ⊢
  have hl : lv_has ls 4 [(0, .ref (ad 0)), (1, .int r)] := hl
  refine lv_iconst (v := 0) hx hb dX3_countInstalling_0 (by decide) ?_
  refine lv_istore_n (lv' := [(2, .int 0), (0, .ref (ad 0)), (1, .int r)]) hx hb dX3_countInstalling_1 rfl hl (by decide) rfl (fun ls hl => ?_)
  refine lv_iconst (v := 0) hx hb dX3_countInstalling_2 (by decide) ?_
  refine lv_istore_n (lv' := [(3, .int 0), (2, .int 0), (0, .ref (ad 0)), (1, .int r)]) hx hb dX3_countInstalling_3 rfl hl (by decide) rfl (fun ls hl => ?_)
  have hl0 : lv_has ls 4 [(2, .int (nI (ct (sInP σ r) 0))), (3, .int (nI 0)), (0, .ref (ad 0)), (1, .int r)] := lv_sub hl [1, 0, 2, 3] rfl
  refine w_loop 16 (fun _ => True) (fun k => [(2, .int (nI (ct (sInP σ r) k))), (3, .int (nI k)), (0, .ref (ad 0)), (1, .int r)]) 0 (Nat.zero_le _) trivial hl0 (fun ls hI hl => ?_) (fun k hk0 hk ls hI hl ih => ?_)
  · have hl : lv_has ls 4 [(2, .int (nI (ct (sInP σ r) 16))), (3, .int (nI 16)), (0, .ref (ad 0)), (1, .int r)] := hl
    refine lv_iload_n hx hb dX3_countInstalling_4 rfl (lv_at hl 1 rfl) ?_
    refine lv_aload_n hx hb dX3_countInstalling_5 rfl (lv_at hl 2 rfl) ?_
    refine rgF0 hx hb hf3 hown hK hP (hts (.fieldLink RX3 11 "MachineFoundry" "machines" "[LMachineFoundry$Machine;") (by decide +kernel)) dX3_countInstalling_6 ?_
    refine rlM hx hb hK hP dX3_countInstalling_9 ?_
    refine lv_icmp_ge (tgt := 48) hx hb dX3_countInstalling_10 (by decide) (fun c_1 => ?_) (fun c_1 => absurd ((show (16 : Int32) ≤ nI 16 from nI_le (a := 16) (b := 16) (Nat.le_refl 16) (by decide))) c_1)
    refine lv_iload_n hx hb dX3_countInstalling_48 rfl (lv_at hl 0 rfl) ?_
    have e9 : sIn σ r = (nI (ct (sInP σ r) 16)) := by simp [sIn, c_1]
    exact W.iret (v := nI (ct (sInP σ r) 16)) hx hb hr (fun t ht hW => ⟨(), by rw [e9], trivial, ht⟩) (fun q h => nomatch h) dX3_countInstalling_49
  · have hl : lv_has ls 4 [(2, .int (nI (ct (sInP σ r) k))), (3, .int (nI k)), (0, .ref (ad 0)), (1, .int r)] := hl
    refine lv_iload_n hx hb dX3_countInstalling_4 rfl (lv_at hl 1 rfl) ?_
    refine lv_aload_n hx hb dX3_countInstalling_5 rfl (lv_at hl 2 rfl) ?_
    refine rgF0 hx hb hf3 hown hK hP (hts (.fieldLink RX3 11 "MachineFoundry" "machines" "[LMachineFoundry$Machine;") (by decide +kernel)) dX3_countInstalling_6 ?_
    refine rlM hx hb hK hP dX3_countInstalling_9 ?_
    refine lv_icmp_ge (tgt := 48) hx hb dX3_countInstalling_10 (by decide) (fun c_2 => absurd c_2 ((show ¬ (16 : Int32) ≤ nI k from nI_ge (a := k) (b := 16) hk (by decide)))) (fun c_2 => ?_)
    refine lv_aload_n hx hb dX3_countInstalling_13 rfl (lv_at hl 2 rfl) ?_
    refine rgF0 hx hb hf3 hown hK hP (hts (.fieldLink RX3 11 "MachineFoundry" "machines" "[LMachineFoundry$Machine;") (by decide +kernel)) dX3_countInstalling_14 ?_
    refine lv_iload_n hx hb dX3_countInstalling_17 rfl (lv_at hl 1 rfl) ?_
    refine raM hx hb hK hP hk dX3_countInstalling_18 ?_
    refine rgM1 hx hb hf2 hown hK hP hk (hts (.fieldLink RX3 117 "MachineFoundry$Machine" "state" "I") (by decide +kernel)) (rfl) dX3_countInstalling_19 ?_
    refine lv_iconst (v := 3) hx hb dX3_countInstalling_22 (by decide) ?_
    refine lv_icmp_ne (tgt := 42) hx hb dX3_countInstalling_23 (by decide) (fun c_3 => ?_) (fun c_3 => ?_)
    · refine lv_iinc (v := nI (k + 1)) (lv' := [(3, .int (nI (k + 1))), (2, .int (nI (ct (sInP σ r) k))), (0, .ref (ad 0)), (1, .int r)]) hx hb dX3_countInstalling_42 hl (k := 1) rfl (nI_1 k) (by decide) rfl (fun ls hl => ?_)
      refine lv_goto (tgt := 4) hx hb dX3_countInstalling_45 (by decide) ?_
      have e70 : ct (sInP σ r) (k + 1) = ct (sInP σ r) k := by exact ct_n (by simp [sInP, sAhP, c_3])
      exact ih ls trivial (show lv_has ls 4 [(2, .int (nI (ct (sInP σ r) (k + 1)))), (3, .int (nI (k + 1))), (0, .ref (ad 0)), (1, .int r)] from by rw [e70]; exact lv_sub hl [1, 0, 2, 3] rfl)
    · refine lv_aload_n hx hb dX3_countInstalling_26 rfl (lv_at hl 2 rfl) ?_
      refine rgF0 hx hb hf3 hown hK hP (hts (.fieldLink RX3 11 "MachineFoundry" "machines" "[LMachineFoundry$Machine;") (by decide +kernel)) dX3_countInstalling_27 ?_
      refine lv_iload_n hx hb dX3_countInstalling_30 rfl (lv_at hl 1 rfl) ?_
      refine raM hx hb hK hP hk dX3_countInstalling_31 ?_
      refine rgM2 hx hb hf2 hown hK hP hk (hts (.fieldLink RX3 103 "MachineFoundry$Machine" "rack" "I") (by decide +kernel)) (rfl) dX3_countInstalling_32 ?_
      refine lv_iload_n hx hb dX3_countInstalling_35 rfl (lv_at hl 3 rfl) ?_
      refine lv_icmp_ne (tgt := 42) hx hb dX3_countInstalling_36 (by decide) (fun c_4 => ?_) (fun c_4 => ?_)
      · refine lv_iinc (v := nI (k + 1)) (lv' := [(3, .int (nI (k + 1))), (2, .int (nI (ct (sInP σ r) k))), (0, .ref (ad 0)), (1, .int r)]) hx hb dX3_countInstalling_42 hl (k := 1) rfl (nI_1 k) (by decide) rfl (fun ls hl => ?_)
        refine lv_goto (tgt := 4) hx hb dX3_countInstalling_45 (by decide) ?_
        have e70 : ct (sInP σ r) (k + 1) = ct (sInP σ r) k := by exact ct_n (by simp [sInP, sAhP, c_3, c_4])
        exact ih ls trivial (show lv_has ls 4 [(2, .int (nI (ct (sInP σ r) (k + 1)))), (3, .int (nI (k + 1))), (0, .ref (ad 0)), (1, .int r)] from by rw [e70]; exact lv_sub hl [1, 0, 2, 3] rfl)
      · refine lv_iinc (v := nI (ct (sInP σ r) k + 1)) (lv' := [(2, .int (nI (ct (sInP σ r) k + 1))), (3, .int (nI k)), (0, .ref (ad 0)), (1, .int r)]) hx hb dX3_countInstalling_39 hl (k := 0) rfl (nI_1 (ct (sInP σ r) k)) (by decide) rfl (fun ls hl => ?_)
        refine lv_iinc (v := nI (k + 1)) (lv' := [(3, .int (nI (k + 1))), (2, .int (nI (ct (sInP σ r) k + 1))), (0, .ref (ad 0)), (1, .int r)]) hx hb dX3_countInstalling_42 hl (k := 1) rfl (nI_1 k) (by decide) rfl (fun ls hl => ?_)
        refine lv_goto (tgt := 4) hx hb dX3_countInstalling_45 (by decide) ?_
        have e70 : ct (sInP σ r) (k + 1) = ct (sInP σ r) k + 1 := by exact ct_y (by simp [sInP, sAhP, c_3, c_4])
        exact ih ls trivial (show lv_has ls 4 [(2, .int (nI (ct (sInP σ r) (k + 1)))), (3, .int (nI (k + 1))), (0, .ref (ad 0)), (1, .int r)] from by rw [e70]; exact lv_sub hl [1, 0, 2, 3] rfl)
set_option maxHeartbeats 4000000 in
set_option maxRecDepth 100000 in
/-- countAhead -/
theorem c_X3_countAhead (l : Launch) (D : va_G) (cy : Nat → ClassId) (ad : Nat → Nat) (σ : Mem) (i : Nat) (hi : i < 16) : Met l yX3_countAhead wsX3_countAhead ({ frames := 1, cells := 0, slots := 0, locals := 21 }) (va_Pc [.ref (ad 0), .ref (ad (i + 7))] (cw D cy ad σ)) (SI (sAh σ i)) 0 0 NoA := by
  refine Met.ofW (cc := cX3_countAhead) (maxL := 5) (ret := (some .int)) (by decide) rfl ?_
  intro p e s m args below meth c s₁ B hml hv
  obtain ⟨rfl, hP, hK⟩ := hv
  have hx := B.exec
  have hb := B.bytes
  have hr := B.returns
  have hts := atoms_spec (ws := wsX3_countAhead) B.pre
  have hown : s.vm.findClass RX3 = some m.cls := findClass_of_methodNamed B.named
  have hlocks := B.notSynchronized
  have hf2 := fun (w : Cond) (h : w ∈ wsX20) => hts w ((by decide +kernel : ∀ w ∈ wsX20, w ∈ wsX3_countAhead) w h)
  have hf3 := fun (w : Cond) (h : w ∈ wsX30) => hts w ((by decide +kernel : ∀ w ∈ wsX30, w ∈ wsX3_countAhead) w h)
  have hl := lv_entry ([.ref (ad 0), .ref (ad (i + 7))]) (n := 5) (Nat.le_of_ble_eq_true rfl)
  rw [lg_entry_eq]
  generalize (lg_sl ([.ref (ad 0), .ref (ad (i + 7))]) ++ List.replicate (5 - (lg_sl ([.ref (ad 0), .ref (ad (i + 7))])).length) Slot.unset).toArray = ls at hl ⊢
  have hl : lv_has ls 5 [(0, .ref (ad 0)), (1, .ref (ad (i + 7)))] := hl
  refine lv_iconst (v := 0) hx hb dX3_countAhead_0 (by decide) ?_
  refine lv_istore_n (lv' := [(2, .int 0), (0, .ref (ad 0)), (1, .ref (ad (i + 7)))]) hx hb dX3_countAhead_1 rfl hl (by decide) rfl (fun ls hl => ?_)
  refine lv_iconst (v := 0) hx hb dX3_countAhead_2 (by decide) ?_
  refine lv_istore_n (lv' := [(3, .int 0), (2, .int 0), (0, .ref (ad 0)), (1, .ref (ad (i + 7)))]) hx hb dX3_countAhead_3 rfl hl (by decide) rfl (fun ls hl => ?_)
  have hl0 : lv_has ls 5 [(2, .int (nI (ct (sAhP σ i) 0))), (3, .int (nI 0)), (0, .ref (ad 0)), (1, .ref (ad (i + 7)))] := lv_sub hl [1, 0, 2, 3] rfl
  refine w_loop 16 (fun _ => True) (fun k => [(2, .int (nI (ct (sAhP σ i) k))), (3, .int (nI k)), (0, .ref (ad 0)), (1, .ref (ad (i + 7)))]) 0 (Nat.zero_le _) trivial hl0 (fun ls hI hl => ?_) (fun k hk0 hk ls hI hl ih => ?_)
  · have hl : lv_has ls 5 [(2, .int (nI (ct (sAhP σ i) 16))), (3, .int (nI 16)), (0, .ref (ad 0)), (1, .ref (ad (i + 7)))] := hl
    refine lv_iload_n hx hb dX3_countAhead_4 rfl (lv_at hl 1 rfl) ?_
    refine lv_aload_n hx hb dX3_countAhead_5 rfl (lv_at hl 2 rfl) ?_
    refine rgF0 hx hb hf3 hown hK hP (hts (.fieldLink RX3 11 "MachineFoundry" "machines" "[LMachineFoundry$Machine;") (by decide +kernel)) dX3_countAhead_6 ?_
    refine rlM hx hb hK hP dX3_countAhead_9 ?_
    refine lv_icmp_ge (tgt := 54) hx hb dX3_countAhead_10 (by decide) (fun c_1 => ?_) (fun c_1 => absurd ((show (16 : Int32) ≤ nI 16 from nI_le (a := 16) (b := 16) (Nat.le_refl 16) (by decide))) c_1)
    refine lv_iload_n hx hb dX3_countAhead_54 rfl (lv_at hl 0 rfl) ?_
    have e9 : sAh σ i = (nI (ct (sAhP σ i) 16)) := by simp [sAh, c_1]
    exact W.iret (v := nI (ct (sAhP σ i) 16)) hx hb hr (fun t ht hW => ⟨(), by rw [e9], trivial, ht⟩) (fun q h => nomatch h) dX3_countAhead_55
  · have hl : lv_has ls 5 [(2, .int (nI (ct (sAhP σ i) k))), (3, .int (nI k)), (0, .ref (ad 0)), (1, .ref (ad (i + 7)))] := hl
    refine lv_iload_n hx hb dX3_countAhead_4 rfl (lv_at hl 1 rfl) ?_
    refine lv_aload_n hx hb dX3_countAhead_5 rfl (lv_at hl 2 rfl) ?_
    refine rgF0 hx hb hf3 hown hK hP (hts (.fieldLink RX3 11 "MachineFoundry" "machines" "[LMachineFoundry$Machine;") (by decide +kernel)) dX3_countAhead_6 ?_
    refine rlM hx hb hK hP dX3_countAhead_9 ?_
    refine lv_icmp_ge (tgt := 54) hx hb dX3_countAhead_10 (by decide) (fun c_2 => absurd c_2 ((show ¬ (16 : Int32) ≤ nI k from nI_ge (a := k) (b := 16) hk (by decide)))) (fun c_2 => ?_)
    refine lv_aload_n hx hb dX3_countAhead_13 rfl (lv_at hl 2 rfl) ?_
    refine rgF0 hx hb hf3 hown hK hP (hts (.fieldLink RX3 11 "MachineFoundry" "machines" "[LMachineFoundry$Machine;") (by decide +kernel)) dX3_countAhead_14 ?_
    refine lv_iload_n hx hb dX3_countAhead_17 rfl (lv_at hl 1 rfl) ?_
    refine raM hx hb hK hP hk dX3_countAhead_18 ?_
    refine lv_astore (lv' := [(4, .ref (ad (k + 7))), (2, .int (nI (ct (sAhP σ i) k))), (3, .int (nI k)), (0, .ref (ad 0)), (1, .ref (ad (i + 7)))]) hx hb dX3_countAhead_19 hl (by decide) rfl (fun ls hl => ?_)
    refine lv_aload hx hb dX3_countAhead_21 (lv_at hl 0 rfl) ?_
    refine lv_aload_n hx hb dX3_countAhead_23 rfl (lv_at hl 4 rfl) ?_
    refine rgM2 hx hb hf2 hown hK hP hi (hts (.fieldLink RX3 103 "MachineFoundry$Machine" "rack" "I") (by decide +kernel)) (rfl) dX3_countAhead_24 ?_
    refine cS (W.runV (As := [.int (σ 2 i)]) (rest := []) ⟨hx, hb, hml, hown, hts⟩ (c_X2_isQueuedAt l D cy ad σ k hk (σ 2 i)) (cwV 1 hts gX3_countAhead_X2_isQueuedAt rfl rfl rfl (by decide +kernel) ⟨Nat.le_of_ble_eq_true rfl, Nat.le_of_ble_eq_true rfl⟩) ⟨cw_bl, (cw_M hP hK hk), (cw_at hP hK)⟩ rfl rfl hl.1 rfl (lv_room (Nat.le_of_ble_eq_true rfl)) dX3_countAhead_27 ⟨Nat.le_of_ble_eq_true rfl, Nat.le_of_ble_eq_true rfl⟩) (fun _ _ => ?_)
    refine W.eq (g2 := F0 m 30 ls [.int (b2i (sQ σ k (σ 2 i)))]) rfl ?_
    refine lv_if_eq (tgt := 48) hx hb dX3_countAhead_30 (by decide) (fun c_3 => ?_) (fun c_3 => ?_)
    · replace c_3 := b2i_0.mp c_3
      refine lv_iinc (v := nI (k + 1)) (lv' := [(3, .int (nI (k + 1))), (4, .ref (ad (k + 7))), (2, .int (nI (ct (sAhP σ i) k))), (0, .ref (ad 0)), (1, .ref (ad (i + 7)))]) hx hb dX3_countAhead_48 hl (k := 2) rfl (nI_1 k) (by decide) rfl (fun ls hl => ?_)
      refine lv_goto (tgt := 4) hx hb dX3_countAhead_51 (by decide) ?_
      have e70 : ct (sAhP σ i) (k + 1) = ct (sAhP σ i) k := by exact ct_n (by simp [sInP, sAhP, c_3])
      exact ih ls trivial (show lv_has ls 5 [(2, .int (nI (ct (sAhP σ i) (k + 1)))), (3, .int (nI (k + 1))), (0, .ref (ad 0)), (1, .ref (ad (i + 7)))] from by rw [e70]; exact lv_sub hl [2, 0, 3, 4] rfl)
    · replace c_3 := b2i_n0.mp c_3
      refine lv_aload hx hb dX3_countAhead_33 (lv_at hl 0 rfl) ?_
      refine rgM9 hx hb hf2 hown hK hP hk (hts (.fieldLink RX3 222 "MachineFoundry$Machine" "ticket" "I") (by decide +kernel)) (rfl) dX3_countAhead_35 ?_
      refine lv_aload_n hx hb dX3_countAhead_38 rfl (lv_at hl 4 rfl) ?_
      refine rgM9 hx hb hf2 hown hK hP hi (hts (.fieldLink RX3 222 "MachineFoundry$Machine" "ticket" "I") (by decide +kernel)) (rfl) dX3_countAhead_39 ?_
      refine lv_icmp_ge (tgt := 48) hx hb dX3_countAhead_42 (by decide) (fun c_4 => ?_) (fun c_4 => ?_)
      · have d_4 := Int32.not_lt.mpr c_4
        refine lv_iinc (v := nI (k + 1)) (lv' := [(3, .int (nI (k + 1))), (4, .ref (ad (k + 7))), (2, .int (nI (ct (sAhP σ i) k))), (0, .ref (ad 0)), (1, .ref (ad (i + 7)))]) hx hb dX3_countAhead_48 hl (k := 2) rfl (nI_1 k) (by decide) rfl (fun ls hl => ?_)
        refine lv_goto (tgt := 4) hx hb dX3_countAhead_51 (by decide) ?_
        have e70 : ct (sAhP σ i) (k + 1) = ct (sAhP σ i) k := by exact ct_n (by simp [sInP, sAhP, c_3, c_4, d_4])
        exact ih ls trivial (show lv_has ls 5 [(2, .int (nI (ct (sAhP σ i) (k + 1)))), (3, .int (nI (k + 1))), (0, .ref (ad 0)), (1, .ref (ad (i + 7)))] from by rw [e70]; exact lv_sub hl [2, 0, 3, 4] rfl)
      · have d_4 := Int32.not_le.mp c_4
        refine lv_iinc (v := nI (ct (sAhP σ i) k + 1)) (lv' := [(2, .int (nI (ct (sAhP σ i) k + 1))), (4, .ref (ad (k + 7))), (3, .int (nI k)), (0, .ref (ad 0)), (1, .ref (ad (i + 7)))]) hx hb dX3_countAhead_45 hl (k := 1) rfl (nI_1 (ct (sAhP σ i) k)) (by decide) rfl (fun ls hl => ?_)
        refine lv_iinc (v := nI (k + 1)) (lv' := [(3, .int (nI (k + 1))), (2, .int (nI (ct (sAhP σ i) k + 1))), (4, .ref (ad (k + 7))), (0, .ref (ad 0)), (1, .ref (ad (i + 7)))]) hx hb dX3_countAhead_48 hl (k := 2) rfl (nI_1 k) (by decide) rfl (fun ls hl => ?_)
        refine lv_goto (tgt := 4) hx hb dX3_countAhead_51 (by decide) ?_
        have e70 : ct (sAhP σ i) (k + 1) = ct (sAhP σ i) k + 1 := by exact ct_y (by simp [sInP, sAhP, c_3, c_4, d_4])
        exact ih ls trivial (show lv_has ls 5 [(2, .int (nI (ct (sAhP σ i) (k + 1)))), (3, .int (nI (k + 1))), (0, .ref (ad 0)), (1, .ref (ad (i + 7)))] from by rw [e70]; exact lv_sub hl [1, 0, 3, 4] rfl)
set_option maxHeartbeats 4000000 in
set_option maxRecDepth 100000 in
/-- queuedAt -/
theorem c_X3_queuedAt (l : Launch) (D : va_G) (cy : Nat → ClassId) (ad : Nat → Nat) (σ : Mem) (r pl : Int32) : Met l yX3_queuedAt wsX3_queuedAt ({ frames := 2, cells := 0, slots := 0, locals := 45 }) (va_Pc [.ref (ad 0), .int r, .int pl] (cw D cy ad σ)) (SQ (rfM ad (sQA σ r pl))) 0 0 NoA := by
  refine Met.ofW (cc := cX3_queuedAt) (maxL := 5) (ret := (some (.object "MachineFoundry$Machine"))) (by decide) rfl ?_
  intro p e s m args below meth c s₁ B hml hv
  obtain ⟨rfl, hP, hK⟩ := hv
  have hx := B.exec
  have hb := B.bytes
  have hr := B.returns
  have hts := atoms_spec (ws := wsX3_queuedAt) B.pre
  have hown : s.vm.findClass RX3 = some m.cls := findClass_of_methodNamed B.named
  have hlocks := B.notSynchronized
  have hf3 := fun (w : Cond) (h : w ∈ wsX30) => hts w ((by decide +kernel : ∀ w ∈ wsX30, w ∈ wsX3_queuedAt) w h)
  have hl := lv_entry ([.ref (ad 0), .int r, .int pl]) (n := 5) (Nat.le_of_ble_eq_true rfl)
  rw [lg_entry_eq]
  generalize (lg_sl ([.ref (ad 0), .int r, .int pl]) ++ List.replicate (5 - (lg_sl ([.ref (ad 0), .int r, .int pl])).length) Slot.unset).toArray = ls at hl ⊢
  have hl : lv_has ls 5 [(0, .ref (ad 0)), (1, .int r), (2, .int pl)] := hl
  refine lv_iconst (v := 0) hx hb dX3_queuedAt_0 (by decide) ?_
  refine lv_istore_n (lv' := [(3, .int 0), (0, .ref (ad 0)), (1, .int r), (2, .int pl)]) hx hb dX3_queuedAt_1 rfl hl (by decide) rfl (fun ls hl => ?_)
  have hl0 : lv_has ls 5 [(3, .int (nI 0)), (0, .ref (ad 0)), (1, .int r), (2, .int pl)] := lv_sub hl [0, 1, 2, 3] rfl
  refine w_loop 16 (fun k => ∀ j, j < k → sQAP σ r pl j = false) (fun k => [(3, .int (nI k)), (0, .ref (ad 0)), (1, .int r), (2, .int pl)]) 0 (Nat.zero_le _) (fun j hj => absurd hj (Nat.not_lt_zero j)) hl0 (fun ls hI hl => ?_) (fun k hk0 hk ls hI hl ih => ?_)
  · have hl : lv_has ls 5 [(3, .int (nI 16)), (0, .ref (ad 0)), (1, .int r), (2, .int pl)] := hl
    refine lv_iload_n hx hb dX3_queuedAt_2 rfl (lv_at hl 0 rfl) ?_
    refine lv_aload_n hx hb dX3_queuedAt_3 rfl (lv_at hl 1 rfl) ?_
    refine rgF0 hx hb hf3 hown hK hP (hts (.fieldLink RX3 11 "MachineFoundry" "machines" "[LMachineFoundry$Machine;") (by decide +kernel)) dX3_queuedAt_4 ?_
    refine rlM hx hb hK hP dX3_queuedAt_7 ?_
    refine lv_icmp_ge (tgt := 47) hx hb dX3_queuedAt_8 (by decide) (fun c_1 => ?_) (fun c_1 => absurd ((show (16 : Int32) ≤ nI 16 from nI_le (a := 16) (b := 16) (Nat.le_refl 16) (by decide))) c_1)
    refine lv_null hx hb dX3_queuedAt_47 ?_
    have e9 : rfM ad (sQA σ r pl) = none := by rw [show sQA σ r pl = none from fnd_no hI]; rfl
    exact W.aret (v := .null) hx hb hr (Or.inl ⟨_, rfl⟩) (Or.inl rfl) (fun t ht hW => ⟨(), by rw [e9]; rfl, trivial, ht⟩) (fun q h => nomatch h) dX3_queuedAt_48
  · have hl : lv_has ls 5 [(3, .int (nI k)), (0, .ref (ad 0)), (1, .int r), (2, .int pl)] := hl
    refine lv_iload_n hx hb dX3_queuedAt_2 rfl (lv_at hl 0 rfl) ?_
    refine lv_aload_n hx hb dX3_queuedAt_3 rfl (lv_at hl 1 rfl) ?_
    refine rgF0 hx hb hf3 hown hK hP (hts (.fieldLink RX3 11 "MachineFoundry" "machines" "[LMachineFoundry$Machine;") (by decide +kernel)) dX3_queuedAt_4 ?_
    refine rlM hx hb hK hP dX3_queuedAt_7 ?_
    refine lv_icmp_ge (tgt := 47) hx hb dX3_queuedAt_8 (by decide) (fun c_2 => absurd c_2 ((show ¬ (16 : Int32) ≤ nI k from nI_ge (a := k) (b := 16) hk (by decide)))) (fun c_2 => ?_)
    refine lv_aload_n hx hb dX3_queuedAt_11 rfl (lv_at hl 1 rfl) ?_
    refine rgF0 hx hb hf3 hown hK hP (hts (.fieldLink RX3 11 "MachineFoundry" "machines" "[LMachineFoundry$Machine;") (by decide +kernel)) dX3_queuedAt_12 ?_
    refine lv_iload_n hx hb dX3_queuedAt_15 rfl (lv_at hl 0 rfl) ?_
    refine raM hx hb hK hP hk dX3_queuedAt_16 ?_
    refine lv_astore (lv' := [(4, .ref (ad (k + 7))), (3, .int (nI k)), (0, .ref (ad 0)), (1, .int r), (2, .int pl)]) hx hb dX3_queuedAt_17 hl (by decide) rfl (fun ls hl => ?_)
    refine lv_aload hx hb dX3_queuedAt_19 (lv_at hl 0 rfl) ?_
    refine lv_iload_n hx hb dX3_queuedAt_21 rfl (lv_at hl 3 rfl) ?_
    refine cS (W.runV (As := [.int r]) (rest := []) ⟨hx, hb, hml, hown, hts⟩ (c_X2_isQueuedAt l D cy ad σ k hk r) (cwV 1 hts gX3_queuedAt_X2_isQueuedAt rfl rfl rfl (by decide +kernel) ⟨Nat.le_of_ble_eq_true rfl, Nat.le_of_ble_eq_true rfl⟩) ⟨cw_bl, (cw_M hP hK hk), (cw_at hP hK)⟩ rfl rfl hl.1 rfl (lv_room (Nat.le_of_ble_eq_true rfl)) dX3_queuedAt_22 ⟨Nat.le_of_ble_eq_true rfl, Nat.le_of_ble_eq_true rfl⟩) (fun _ _ => ?_)
    refine W.eq (g2 := F0 m 25 ls [.int (b2i (sQ σ k r))]) rfl ?_
    refine lv_if_eq (tgt := 41) hx hb dX3_queuedAt_25 (by decide) (fun c_3 => ?_) (fun c_3 => ?_)
    · replace c_3 := b2i_0.mp c_3
      refine lv_iinc (v := nI (k + 1)) (lv' := [(3, .int (nI (k + 1))), (4, .ref (ad (k + 7))), (0, .ref (ad 0)), (1, .int r), (2, .int pl)]) hx hb dX3_queuedAt_41 hl (k := 1) rfl (nI_1 k) (by decide) rfl (fun ls hl => ?_)
      refine lv_goto (tgt := 2) hx hb dX3_queuedAt_44 (by decide) ?_
      exact ih ls (lt_s hI (by simp [sQAP, c_3])) (lv_sub hl [0, 2, 3, 4] rfl)
    · replace c_3 := b2i_n0.mp c_3
      refine lv_aload_n hx hb dX3_queuedAt_28 rfl (lv_at hl 2 rfl) ?_
      refine lv_aload hx hb dX3_queuedAt_29 (lv_at hl 0 rfl) ?_
      refine cS (W.runV (As := [.ref (ad (k + 7))]) (rest := []) ⟨hx, hb, hml, hown, hts⟩ (c_X3_countAhead l D cy ad σ k hk) (cwV 1 hts gX3_queuedAt_X3_countAhead rfl rfl rfl (by decide +kernel) ⟨Nat.le_of_ble_eq_true rfl, Nat.le_of_ble_eq_true rfl⟩) ⟨cw_bl, (cw_F hP hK), (cw_at hP hK)⟩ rfl rfl hl.1 rfl (lv_room (Nat.le_of_ble_eq_true rfl)) dX3_queuedAt_31 ⟨Nat.le_of_ble_eq_true rfl, Nat.le_of_ble_eq_true rfl⟩) (fun _ _ => ?_)
      refine W.eq (g2 := F0 m 34 ls [.int (sAh σ k)]) rfl ?_
      refine lv_iload_n hx hb dX3_queuedAt_34 rfl (lv_at hl 4 rfl) ?_
      refine lv_icmp_ne (tgt := 41) hx hb dX3_queuedAt_35 (by decide) (fun c_4 => ?_) (fun c_4 => ?_)
      · refine lv_iinc (v := nI (k + 1)) (lv' := [(3, .int (nI (k + 1))), (4, .ref (ad (k + 7))), (0, .ref (ad 0)), (1, .int r), (2, .int pl)]) hx hb dX3_queuedAt_41 hl (k := 1) rfl (nI_1 k) (by decide) rfl (fun ls hl => ?_)
        refine lv_goto (tgt := 2) hx hb dX3_queuedAt_44 (by decide) ?_
        exact ih ls (lt_s hI (by simp [sQAP, c_3, c_4])) (lv_sub hl [0, 2, 3, 4] rfl)
      · refine lv_aload hx hb dX3_queuedAt_38 (lv_at hl 0 rfl) ?_
        have e9 : rfM ad (sQA σ r pl) = some (ad (k + 7)) := by rw [show sQA σ r pl = some k from fnd_at (by simp [sQAP, c_3, c_4]) hI hk]; rfl
        exact W.aret (v := .ref (ad (k + 7))) hx hb hr (Or.inl ⟨_, rfl⟩) (Or.inr ⟨_, rfl⟩) (fun t ht hW => ⟨(), by rw [e9]; rfl, trivial, ht⟩) (fun q h => nomatch h) dX3_queuedAt_40
set_option maxHeartbeats 4000000 in
set_option maxRecDepth 100000 in
/-- matchFor -/
theorem c_X3_matchFor (l : Launch) (D : va_G) (cy : Nat → ClassId) (ad : Nat → Nat) (σ : Mem) (i : Nat) (hi : i < 16) : Met l yX3_matchFor wsX3_matchFor ({ frames := 1, cells := 0, slots := 0, locals := 21 }) (va_Pc [.ref (ad 0), .ref (ad (i + 7))] (cw D cy ad σ)) (SQ (rfI ad (sBst σ i))) 0 0 NoA := by
  refine Met.ofW (cc := cX3_matchFor) (maxL := 5) (ret := (some (.object "MachineFoundry$Image"))) (by decide) rfl ?_
  intro p e s m args below meth c s₁ B hml hv
  obtain ⟨rfl, hP, hK⟩ := hv
  have hx := B.exec
  have hb := B.bytes
  have hr := B.returns
  have hts := atoms_spec (ws := wsX3_matchFor) B.pre
  have hown : s.vm.findClass RX3 = some m.cls := findClass_of_methodNamed B.named
  have hlocks := B.notSynchronized
  have hf0 := fun (w : Cond) (h : w ∈ wsX00) => hts w ((by decide +kernel : ∀ w ∈ wsX00, w ∈ wsX3_matchFor) w h)
  have hf3 := fun (w : Cond) (h : w ∈ wsX30) => hts w ((by decide +kernel : ∀ w ∈ wsX30, w ∈ wsX3_matchFor) w h)
  have hl := lv_entry ([.ref (ad 0), .ref (ad (i + 7))]) (n := 5) (Nat.le_of_ble_eq_true rfl)
  rw [lg_entry_eq]
  generalize (lg_sl ([.ref (ad 0), .ref (ad (i + 7))]) ++ List.replicate (5 - (lg_sl ([.ref (ad 0), .ref (ad (i + 7))])).length) Slot.unset).toArray = ls at hl ⊢
  have hl : lv_has ls 5 [(0, .ref (ad 0)), (1, .ref (ad (i + 7)))] := hl
  refine lv_null hx hb dX3_matchFor_0 ?_
  refine lv_astore_nN (lv' := [(2, .null), (0, .ref (ad 0)), (1, .ref (ad (i + 7)))]) hx hb dX3_matchFor_1 rfl hl (by decide) rfl (fun ls hl => ?_)
  refine lv_iconst (v := 0) hx hb dX3_matchFor_2 (by decide) ?_
  refine lv_istore_n (lv' := [(3, .int 0), (2, .null), (0, .ref (ad 0)), (1, .ref (ad (i + 7)))]) hx hb dX3_matchFor_3 rfl hl (by decide) rfl (fun ls hl => ?_)
  have hl0 : lv_has ls 5 [(2, .null), (3, .int (nI 0)), (0, .ref (ad 0)), (1, .ref (ad (i + 7)))] := lv_sub hl [1, 0, 2, 3] rfl
  refine w_loop 8 (fun _ => True) (fun k => [(2, va_rf (rfI ad (bst (fun k => sMt σ k i) (σ 12) k))), (3, .int (nI k)), (0, .ref (ad 0)), (1, .ref (ad (i + 7)))]) 0 (Nat.zero_le _) trivial hl0 (fun ls hI hl => ?_) (fun k hk0 hk ls hI hl ih => ?_)
  · have hl : lv_has ls 5 [(2, va_rf (rfI ad (bst (fun k => sMt σ k i) (σ 12) 8))), (3, .int (nI 8)), (0, .ref (ad 0)), (1, .ref (ad (i + 7)))] := hl
    rcases hbs : bst (fun k => sMt σ k i) (σ 12) 8 with _ | b
    · rw [hbs] at hl
      have hl : lv_has ls 5 [(2, .null), (3, .int (nI 8)), (0, .ref (ad 0)), (1, .ref (ad (i + 7)))] := hl
      refine lv_iload_n hx hb dX3_matchFor_4 rfl (lv_at hl 1 rfl) ?_
      refine lv_aload_n hx hb dX3_matchFor_5 rfl (lv_at hl 2 rfl) ?_
      refine rgF1 hx hb hf3 hown hK hP (hts (.fieldLink RX3 17 "MachineFoundry" "images" "[LMachineFoundry$Image;") (by decide +kernel)) dX3_matchFor_6 ?_
      refine rlI hx hb hK hP dX3_matchFor_9 ?_
      refine lv_icmp_ge (tgt := 55) hx hb dX3_matchFor_10 (by decide) (fun c_1 => ?_) (fun c_1 => absurd ((show (8 : Int32) ≤ nI 8 from nI_le (a := 8) (b := 8) (Nat.le_refl 8) (by decide))) c_1)
      refine lv_aload_nN hx hb dX3_matchFor_55 rfl (lv_at hl 0 rfl) ?_
      have e9 : rfI ad (sBst σ i) = none := by show rfI ad (bst _ _ 8) = _; rw [hbs]; rfl
      exact W.aret (v := .null) hx hb hr (Or.inl ⟨_, rfl⟩) (Or.inl rfl) (fun t ht hW => ⟨(), by rw [e9]; rfl, trivial, ht⟩) (fun q h => nomatch h) dX3_matchFor_56
    · have hb8 : b < 8 := Nat.lt_of_lt_of_le (bst_lt hbs) (by omega)
      rw [hbs] at hl
      have hl : lv_has ls 5 [(2, .ref (ad (b + 23))), (3, .int (nI 8)), (0, .ref (ad 0)), (1, .ref (ad (i + 7)))] := hl
      refine lv_iload_n hx hb dX3_matchFor_4 rfl (lv_at hl 1 rfl) ?_
      refine lv_aload_n hx hb dX3_matchFor_5 rfl (lv_at hl 2 rfl) ?_
      refine rgF1 hx hb hf3 hown hK hP (hts (.fieldLink RX3 17 "MachineFoundry" "images" "[LMachineFoundry$Image;") (by decide +kernel)) dX3_matchFor_6 ?_
      refine rlI hx hb hK hP dX3_matchFor_9 ?_
      refine lv_icmp_ge (tgt := 55) hx hb dX3_matchFor_10 (by decide) (fun c_2 => ?_) (fun c_2 => absurd ((show (8 : Int32) ≤ nI 8 from nI_le (a := 8) (b := 8) (Nat.le_refl 8) (by decide))) c_2)
      refine lv_aload_n hx hb dX3_matchFor_55 rfl (lv_at hl 0 rfl) ?_
      have e9 : rfI ad (sBst σ i) = some (ad (b + 23)) := by show rfI ad (bst _ _ 8) = _; rw [hbs]; rfl
      exact W.aret (v := .ref (ad (b + 23))) hx hb hr (Or.inl ⟨_, rfl⟩) (Or.inr ⟨_, rfl⟩) (fun t ht hW => ⟨(), by rw [e9]; rfl, trivial, ht⟩) (fun q h => nomatch h) dX3_matchFor_56
  · have hl : lv_has ls 5 [(2, va_rf (rfI ad (bst (fun k => sMt σ k i) (σ 12) k))), (3, .int (nI k)), (0, .ref (ad 0)), (1, .ref (ad (i + 7)))] := hl
    rcases hbs : bst (fun k => sMt σ k i) (σ 12) k with _ | b
    · rw [hbs] at hl
      have hl : lv_has ls 5 [(2, .null), (3, .int (nI k)), (0, .ref (ad 0)), (1, .ref (ad (i + 7)))] := hl
      refine lv_iload_n hx hb dX3_matchFor_4 rfl (lv_at hl 1 rfl) ?_
      refine lv_aload_n hx hb dX3_matchFor_5 rfl (lv_at hl 2 rfl) ?_
      refine rgF1 hx hb hf3 hown hK hP (hts (.fieldLink RX3 17 "MachineFoundry" "images" "[LMachineFoundry$Image;") (by decide +kernel)) dX3_matchFor_6 ?_
      refine rlI hx hb hK hP dX3_matchFor_9 ?_
      refine lv_icmp_ge (tgt := 55) hx hb dX3_matchFor_10 (by decide) (fun c_3 => absurd c_3 ((show ¬ (8 : Int32) ≤ nI k from nI_ge (a := k) (b := 8) hk (by decide)))) (fun c_3 => ?_)
      refine lv_aload_n hx hb dX3_matchFor_13 rfl (lv_at hl 2 rfl) ?_
      refine rgF1 hx hb hf3 hown hK hP (hts (.fieldLink RX3 17 "MachineFoundry" "images" "[LMachineFoundry$Image;") (by decide +kernel)) dX3_matchFor_14 ?_
      refine lv_iload_n hx hb dX3_matchFor_17 rfl (lv_at hl 1 rfl) ?_
      refine raI hx hb hK hP hk dX3_matchFor_18 ?_
      refine lv_astore (lv' := [(4, .ref (ad (k + 23))), (2, .null), (3, .int (nI k)), (0, .ref (ad 0)), (1, .ref (ad (i + 7)))]) hx hb dX3_matchFor_19 hl (by decide) rfl (fun ls hl => ?_)
      refine lv_aload hx hb dX3_matchFor_21 (lv_at hl 0 rfl) ?_
      refine lv_aload_n hx hb dX3_matchFor_23 rfl (lv_at hl 4 rfl) ?_
      refine cS (W.runV (As := [.ref (ad (i + 7))]) (rest := []) ⟨hx, hb, hml, hown, hts⟩ (c_X0_matches l D cy ad σ k i hk hi) (cwV 1 hts gX3_matchFor_X0_matches rfl rfl rfl (by decide +kernel) ⟨Nat.le_of_ble_eq_true rfl, Nat.le_of_ble_eq_true rfl⟩) ⟨cw_bl, (cw_I hP hK hk), (cw_at hP hK)⟩ rfl rfl hl.1 rfl (lv_room (Nat.le_of_ble_eq_true rfl)) dX3_matchFor_24 ⟨Nat.le_of_ble_eq_true rfl, Nat.le_of_ble_eq_true rfl⟩) (fun _ _ => ?_)
      refine W.eq (g2 := F0 m 27 ls [.int (b2i (sMt σ k i))]) rfl ?_
      refine lv_if_eq (tgt := 49) hx hb dX3_matchFor_27 (by decide) (fun c_4 => ?_) (fun c_4 => ?_)
      · replace c_4 := b2i_0.mp c_4
        refine lv_iinc (v := nI (k + 1)) (lv' := [(3, .int (nI (k + 1))), (4, .ref (ad (k + 23))), (2, .null), (0, .ref (ad 0)), (1, .ref (ad (i + 7)))]) hx hb dX3_matchFor_49 hl (k := 2) rfl (nI_1 k) (by decide) rfl (fun ls hl => ?_)
        refine lv_goto (tgt := 4) hx hb dX3_matchFor_52 (by decide) ?_
        have e70 : bst (fun k => sMt σ k i) (σ 12) (k + 1) = none := by simp [bst, hbs, c_4]
        exact ih ls trivial (show lv_has ls 5 [(2, va_rf (rfI ad (bst (fun k => sMt σ k i) (σ 12) (k + 1)))), (3, .int (nI (k + 1))), (0, .ref (ad 0)), (1, .ref (ad (i + 7)))] from by rw [e70]; exact lv_sub hl [2, 0, 3, 4] rfl)
      · replace c_4 := b2i_n0.mp c_4
        refine lv_aload_nN hx hb dX3_matchFor_30 rfl (lv_at hl 1 rfl) ?_
        refine lv_ifnullN (tgt := 46) hx hb dX3_matchFor_31 (by decide) ?_
        refine lv_aload hx hb dX3_matchFor_46 (lv_at hl 0 rfl) ?_
        refine lv_astore_n (lv' := [(2, .ref (ad (k + 23))), (4, .ref (ad (k + 23))), (3, .int (nI k)), (0, .ref (ad 0)), (1, .ref (ad (i + 7)))]) hx hb dX3_matchFor_48 rfl hl (by decide) rfl (fun ls hl => ?_)
        refine lv_iinc (v := nI (k + 1)) (lv' := [(3, .int (nI (k + 1))), (2, .ref (ad (k + 23))), (4, .ref (ad (k + 23))), (0, .ref (ad 0)), (1, .ref (ad (i + 7)))]) hx hb dX3_matchFor_49 hl (k := 2) rfl (nI_1 k) (by decide) rfl (fun ls hl => ?_)
        refine lv_goto (tgt := 4) hx hb dX3_matchFor_52 (by decide) ?_
        have e70 : bst (fun k => sMt σ k i) (σ 12) (k + 1) = some k := by simp [bst, hbs, c_4]
        exact ih ls trivial (show lv_has ls 5 [(2, va_rf (rfI ad (bst (fun k => sMt σ k i) (σ 12) (k + 1)))), (3, .int (nI (k + 1))), (0, .ref (ad 0)), (1, .ref (ad (i + 7)))] from by rw [e70]; exact lv_sub hl [1, 0, 3, 4] rfl)
    · have hb8 : b < 8 := Nat.lt_of_lt_of_le (bst_lt hbs) (by omega)
      rw [hbs] at hl
      have hl : lv_has ls 5 [(2, .ref (ad (b + 23))), (3, .int (nI k)), (0, .ref (ad 0)), (1, .ref (ad (i + 7)))] := hl
      refine lv_iload_n hx hb dX3_matchFor_4 rfl (lv_at hl 1 rfl) ?_
      refine lv_aload_n hx hb dX3_matchFor_5 rfl (lv_at hl 2 rfl) ?_
      refine rgF1 hx hb hf3 hown hK hP (hts (.fieldLink RX3 17 "MachineFoundry" "images" "[LMachineFoundry$Image;") (by decide +kernel)) dX3_matchFor_6 ?_
      refine rlI hx hb hK hP dX3_matchFor_9 ?_
      refine lv_icmp_ge (tgt := 55) hx hb dX3_matchFor_10 (by decide) (fun c_5 => absurd c_5 ((show ¬ (8 : Int32) ≤ nI k from nI_ge (a := k) (b := 8) hk (by decide)))) (fun c_5 => ?_)
      refine lv_aload_n hx hb dX3_matchFor_13 rfl (lv_at hl 2 rfl) ?_
      refine rgF1 hx hb hf3 hown hK hP (hts (.fieldLink RX3 17 "MachineFoundry" "images" "[LMachineFoundry$Image;") (by decide +kernel)) dX3_matchFor_14 ?_
      refine lv_iload_n hx hb dX3_matchFor_17 rfl (lv_at hl 1 rfl) ?_
      refine raI hx hb hK hP hk dX3_matchFor_18 ?_
      refine lv_astore (lv' := [(4, .ref (ad (k + 23))), (2, .ref (ad (b + 23))), (3, .int (nI k)), (0, .ref (ad 0)), (1, .ref (ad (i + 7)))]) hx hb dX3_matchFor_19 hl (by decide) rfl (fun ls hl => ?_)
      refine lv_aload hx hb dX3_matchFor_21 (lv_at hl 0 rfl) ?_
      refine lv_aload_n hx hb dX3_matchFor_23 rfl (lv_at hl 4 rfl) ?_
      refine cS (W.runV (As := [.ref (ad (i + 7))]) (rest := []) ⟨hx, hb, hml, hown, hts⟩ (c_X0_matches l D cy ad σ k i hk hi) (cwV 1 hts gX3_matchFor_X0_matches rfl rfl rfl (by decide +kernel) ⟨Nat.le_of_ble_eq_true rfl, Nat.le_of_ble_eq_true rfl⟩) ⟨cw_bl, (cw_I hP hK hk), (cw_at hP hK)⟩ rfl rfl hl.1 rfl (lv_room (Nat.le_of_ble_eq_true rfl)) dX3_matchFor_24 ⟨Nat.le_of_ble_eq_true rfl, Nat.le_of_ble_eq_true rfl⟩) (fun _ _ => ?_)
      refine W.eq (g2 := F0 m 27 ls [.int (b2i (sMt σ k i))]) rfl ?_
      refine lv_if_eq (tgt := 49) hx hb dX3_matchFor_27 (by decide) (fun c_6 => ?_) (fun c_6 => ?_)
      · replace c_6 := b2i_0.mp c_6
        refine lv_iinc (v := nI (k + 1)) (lv' := [(3, .int (nI (k + 1))), (4, .ref (ad (k + 23))), (2, .ref (ad (b + 23))), (0, .ref (ad 0)), (1, .ref (ad (i + 7)))]) hx hb dX3_matchFor_49 hl (k := 2) rfl (nI_1 k) (by decide) rfl (fun ls hl => ?_)
        refine lv_goto (tgt := 4) hx hb dX3_matchFor_52 (by decide) ?_
        have e70 : bst (fun k => sMt σ k i) (σ 12) (k + 1) = some b := by simp [bst, hbs, c_6]
        exact ih ls trivial (show lv_has ls 5 [(2, va_rf (rfI ad (bst (fun k => sMt σ k i) (σ 12) (k + 1)))), (3, .int (nI (k + 1))), (0, .ref (ad 0)), (1, .ref (ad (i + 7)))] from by rw [e70]; exact lv_sub hl [2, 0, 3, 4] rfl)
      · replace c_6 := b2i_n0.mp c_6
        refine lv_aload_n hx hb dX3_matchFor_30 rfl (lv_at hl 1 rfl) ?_
        refine lv_ifnull hx hb dX3_matchFor_31 ?_
        refine lv_aload hx hb dX3_matchFor_34 (lv_at hl 0 rfl) ?_
        refine rgI2 hx hb hf0 hown hK hP hk (hts (.fieldLink RX3 67 "MachineFoundry$Image" "priority" "I") (by decide +kernel)) (rfl) dX3_matchFor_36 ?_
        refine lv_aload_n hx hb dX3_matchFor_39 rfl (lv_at hl 1 rfl) ?_
        refine rgI2 hx hb hf0 hown hK hP hb8 (hts (.fieldLink RX3 67 "MachineFoundry$Image" "priority" "I") (by decide +kernel)) (rfl) dX3_matchFor_40 ?_
        refine lv_icmp_le (tgt := 49) hx hb dX3_matchFor_43 (by decide) (fun c_7 => ?_) (fun c_7 => ?_)
        · have d_7 := Int32.not_lt.mpr c_7
          refine lv_iinc (v := nI (k + 1)) (lv' := [(3, .int (nI (k + 1))), (4, .ref (ad (k + 23))), (2, .ref (ad (b + 23))), (0, .ref (ad 0)), (1, .ref (ad (i + 7)))]) hx hb dX3_matchFor_49 hl (k := 2) rfl (nI_1 k) (by decide) rfl (fun ls hl => ?_)
          refine lv_goto (tgt := 4) hx hb dX3_matchFor_52 (by decide) ?_
          have e70 : bst (fun k => sMt σ k i) (σ 12) (k + 1) = some b := by simp [bst, hbs, c_6, c_7, d_7]
          exact ih ls trivial (show lv_has ls 5 [(2, va_rf (rfI ad (bst (fun k => sMt σ k i) (σ 12) (k + 1)))), (3, .int (nI (k + 1))), (0, .ref (ad 0)), (1, .ref (ad (i + 7)))] from by rw [e70]; exact lv_sub hl [2, 0, 3, 4] rfl)
        · have d_7 := Int32.not_le.mp c_7
          refine lv_aload hx hb dX3_matchFor_46 (lv_at hl 0 rfl) ?_
          refine lv_astore_n (lv' := [(2, .ref (ad (k + 23))), (4, .ref (ad (k + 23))), (3, .int (nI k)), (0, .ref (ad 0)), (1, .ref (ad (i + 7)))]) hx hb dX3_matchFor_48 rfl hl (by decide) rfl (fun ls hl => ?_)
          refine lv_iinc (v := nI (k + 1)) (lv' := [(3, .int (nI (k + 1))), (2, .ref (ad (k + 23))), (4, .ref (ad (k + 23))), (0, .ref (ad 0)), (1, .ref (ad (i + 7)))]) hx hb dX3_matchFor_49 hl (k := 2) rfl (nI_1 k) (by decide) rfl (fun ls hl => ?_)
          refine lv_goto (tgt := 4) hx hb dX3_matchFor_52 (by decide) ?_
          have e70 : bst (fun k => sMt σ k i) (σ 12) (k + 1) = some k := by simp [bst, hbs, c_6, c_7, d_7]
          exact ih ls trivial (show lv_has ls 5 [(2, va_rf (rfI ad (bst (fun k => sMt σ k i) (σ 12) (k + 1)))), (3, .int (nI (k + 1))), (0, .ref (ad 0)), (1, .ref (ad (i + 7)))] from by rw [e70]; exact lv_sub hl [1, 0, 3, 4] rfl)
