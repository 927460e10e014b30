set_option maxHeartbeats 4000000 in
set_option maxRecDepth 100000 in
/-- refuseOutside -/
theorem c_X3_refuseOutside (l : Launch) (hst : l.stackTraces = false) (sz : Nat) (zn zl zh : Int32) : vx_Met l yX3_refuseOutside wsX3_refuseOutside ({ frames := 6, cells := 1, slots := 6, locals := 82 }) (va_Pc [.int zn, .int zl, .int zh] (xk sz)) (SR (fun _ : Unit => none) (fun _ => inB zn zl zh = true)) (XE (fun E => E = "java/lang/IllegalArgumentException" ∧ inB zn zl zh = false)) 1 6 NoA := by
  refine vx_ofW (cc := cX3_refuseOutside) (maxL := 3) (ret := none) (by decide) rfl ?_
  intro p e s m args below meth c s₁ B hml ht hv
  obtain ⟨rfl, hxk⟩ := hv
  have hx := B.exec
  have hb := B.bytes
  have hr := B.returns
  have hts := atoms_spec (ws := wsX3_refuseOutside) B.pre
  have hown : s.vm.findClass RX3 = some m.cls := findClass_of_methodNamed B.named
  have hlocks := B.notSynchronized
  have hl := lv_entry ([.int zn, .int zl, .int zh]) (n := 3) (Nat.le_of_ble_eq_true rfl)
  rw [lg_entry_eq]
  generalize (lg_sl ([.int zn, .int zl, .int zh]) ++ List.replicate (3 - (lg_sl ([.int zn, .int zl, .int zh])).length) Slot.unset).toArray = ls at hl ⊢
  have hl : lv_has ls 3 [(0, .int zn), (1, .int zl), (2, .int zh)] := hl
  refine lv_iload_n hx hb dX3_refuseOutside_0 rfl (lv_at hl 0 rfl) ?_
  refine lv_iload_n hx hb dX3_refuseOutside_1 rfl (lv_at hl 1 rfl) ?_
  refine lv_icmp_lt (tgt := 10) hx hb dX3_refuseOutside_2 (by decide) (fun c_1 => ?_) (fun c_1 => ?_)
  · have d_1 := Int32.not_le.mpr c_1
    exact xThrow (sz := sz) hx hb hst hml ht hlocks hxk "java/lang/IllegalArgumentException" "a number is out of range" 210 212 214 hown (by decide +kernel) (hts (.classLink RX3 210 "java/lang/IllegalArgumentException") (by decide +kernel)) (hts (.initialized "java/lang/IllegalArgumentException") (by decide +kernel)) (by decide +kernel) (fun w h => hts w ((by decide +kernel : ∀ w ∈ (vx_atS RX3 214 "java/lang/IllegalArgumentException" NM).filter goodWord, w ∈ wsX3_refuseOutside) w h)) xn2 xg2 hl.1 dX3_refuseOutside_10 dX3_refuseOutside_13 dX3_refuseOutside_14 dX3_refuseOutside_16 dX3_refuseOutside_19 (Nat.le_of_ble_eq_true rfl) (Nat.le_of_ble_eq_true rfl) (Nat.le_of_ble_eq_true rfl) (Nat.le_of_ble_eq_true rfl) (by first | exact ⟨rfl, by simp [inB, c_1, d_1]⟩ | exact Or.inl ⟨rfl, by simp [inB, c_1, d_1]⟩ | exact Or.inr ⟨rfl, by simp [inB, c_1, d_1]⟩ | exact Or.inr (Or.inl ⟨rfl, by simp [inB, c_1, d_1]⟩) | exact Or.inr (Or.inr ⟨rfl, by simp [inB, c_1, d_1]⟩)) (Nat.le_of_ble_eq_true rfl) (Nat.le_of_ble_eq_true rfl)
  · have d_1 := Int32.not_lt.mp c_1
    refine lv_iload_n hx hb dX3_refuseOutside_5 rfl (lv_at hl 0 rfl) ?_
    refine lv_iload_n hx hb dX3_refuseOutside_6 rfl (lv_at hl 2 rfl) ?_
    refine lv_icmp_le (tgt := 20) hx hb dX3_refuseOutside_7 (by decide) (fun c_2 => ?_) (fun c_2 => ?_)
    · have d_2 := Int32.not_lt.mpr c_2
      refine vx_ret (W.widen (k := 1) (n := 6) (Nat.le_of_ble_eq_true rfl) (Nat.le_of_ble_eq_true rfl) ?_)
      exact W.vret hx hb hr (fun t ht9 hW => ⟨(), rfl, by simp [inB, c_1, d_1, c_2, d_2], ht9⟩) (fun q h => nomatch h) dX3_refuseOutside_20
    · have d_2 := Int32.not_le.mp c_2
      exact xThrow (sz := sz) hx hb hst hml ht hlocks hxk "java/lang/IllegalArgumentException" "a number is out of range" 210 212 214 hown (by decide +kernel) (hts (.classLink RX3 210 "java/lang/IllegalArgumentException") (by decide +kernel)) (hts (.initialized "java/lang/IllegalArgumentException") (by decide +kernel)) (by decide +kernel) (fun w h => hts w ((by decide +kernel : ∀ w ∈ (vx_atS RX3 214 "java/lang/IllegalArgumentException" NM).filter goodWord, w ∈ wsX3_refuseOutside) w h)) xn2 xg2 hl.1 dX3_refuseOutside_10 dX3_refuseOutside_13 dX3_refuseOutside_14 dX3_refuseOutside_16 dX3_refuseOutside_19 (Nat.le_of_ble_eq_true rfl) (Nat.le_of_ble_eq_true rfl) (Nat.le_of_ble_eq_true rfl) (Nat.le_of_ble_eq_true rfl) (by first | exact ⟨rfl, by simp [inB, c_1, d_1, c_2, d_2]⟩ | exact Or.inl ⟨rfl, by simp [inB, c_1, d_1, c_2, d_2]⟩ | exact Or.inr ⟨rfl, by simp [inB, c_1, d_1, c_2, d_2]⟩ | exact Or.inr (Or.inl ⟨rfl, by simp [inB, c_1, d_1, c_2, d_2]⟩) | exact Or.inr (Or.inr ⟨rfl, by simp [inB, c_1, d_1, c_2, d_2]⟩)) (Nat.le_of_ble_eq_true rfl) (Nat.le_of_ble_eq_true rfl)
set_option maxHeartbeats 4000000 in
set_option maxRecDepth 100000 in
/-- machineRow -/
theorem c_X3_machineRow (l : Launch) (hst : l.stackTraces = false) (D : va_G) (cy : Nat → ClassId) (ad : Nat → Nat) (σ : Mem) (sz : Nat) (za : Int32) : vx_Met l yX3_machineRow wsX3_machineRow ({ frames := 6, cells := 1, slots := 6, locals := 82 }) (va_Pc [.ref (ad 0), .int za] (cx D cy ad σ sz)) (SR (fun i : Nat => some (.ref (ad (i + 7)))) (fun i => i < 16 ∧ za = nI i)) (XE (fun E => E = "java/lang/IndexOutOfBoundsException" ∧ inB za 0 15 = false)) 1 6 NoA := by
  refine vx_ofW (cc := cX3_machineRow) (maxL := 2) (ret := (some (.object "MachineFoundry$Machine"))) (by decide) rfl ?_
  intro p e s m args below meth c s₁ B hml ht hv
  obtain ⟨rfl, ⟨hP, hK⟩, hxk⟩ := hv
  have hx := B.exec
  have hb := B.bytes
  have hr := B.returns
  have hts := atoms_spec (ws := wsX3_machineRow) B.pre
  have hown : s.vm.findClass RX3 = some m.cls := findClass_of_methodNamed B.named
  have hlocks := B.notSynchronized
  have hf3 := fun (w : Cond) (h : w ∈ wsX30) => hts w ((by decide +kernel : ∀ w ∈ wsX30, w ∈ wsX3_machineRow) w h)
  have hl := lv_entry ([.ref (ad 0), .int za]) (n := 2) (Nat.le_of_ble_eq_true rfl)
  rw [lg_entry_eq]
  generalize (lg_sl ([.ref (ad 0), .int za]) ++ List.replicate (2 - (lg_sl ([.ref (ad 0), .int za])).length) Slot.unset).toArray = ls at hl ⊢
  have hl : lv_has ls 2 [(0, .ref (ad 0)), (1, .int za)] := hl
  refine lv_iload_n hx hb dX3_machineRow_0 rfl (lv_at hl 1 rfl) ?_
  refine lv_if_lt (tgt := 13) hx hb dX3_machineRow_1 (by decide) (fun c_1 => ?_) (fun c_1 => ?_)
  · have d_1 := Int32.not_le.mpr c_1
    exact xThrow (sz := sz) hx hb hst hml ht hlocks hxk "java/lang/IndexOutOfBoundsException" "there is no such machine" 92 204 96 hown (by decide +kernel) (hts (.classLink RX3 92 "java/lang/IndexOutOfBoundsException") (by decide +kernel)) (hts (.initialized "java/lang/IndexOutOfBoundsException") (by decide +kernel)) (by decide +kernel) (fun w h => hts w ((by decide +kernel : ∀ w ∈ (vx_atS RX3 96 "java/lang/IndexOutOfBoundsException" NM).filter goodWord, w ∈ wsX3_machineRow) w h)) xn1 xg1 hl.1 dX3_machineRow_13 dX3_machineRow_16 dX3_machineRow_17 dX3_machineRow_19 dX3_machineRow_22 (Nat.le_of_ble_eq_true rfl) (Nat.le_of_ble_eq_true rfl) (Nat.le_of_ble_eq_true rfl) (Nat.le_of_ble_eq_true rfl) (by first | exact ⟨rfl, by exact out_n 15 (by decide) (Or.inl c_1)⟩ | exact Or.inl ⟨rfl, by exact out_n 15 (by decide) (Or.inl c_1)⟩ | exact Or.inr ⟨rfl, by exact out_n 15 (by decide) (Or.inl c_1)⟩ | exact Or.inr (Or.inl ⟨rfl, by exact out_n 15 (by decide) (Or.inl c_1)⟩) | exact Or.inr (Or.inr ⟨rfl, by exact out_n 15 (by decide) (Or.inl c_1)⟩)) (Nat.le_of_ble_eq_true rfl) (Nat.le_of_ble_eq_true rfl)
  · have d_1 := Int32.not_lt.mp c_1
    refine lv_iload_n hx hb dX3_machineRow_4 rfl (lv_at hl 1 rfl) ?_
    refine lv_aload_n hx hb dX3_machineRow_5 rfl (lv_at hl 0 rfl) ?_
    refine rgF0 hx hb hf3 hown hK hP (hts (.fieldLink RX3 11 "MachineFoundry" "machines" "[LMachineFoundry$Machine;") (by decide +kernel)) dX3_machineRow_6 ?_
    refine rlM hx hb hK hP dX3_machineRow_9 ?_
    refine lv_icmp_lt (tgt := 23) hx hb dX3_machineRow_10 (by decide) (fun c_2 => ?_) (fun c_2 => ?_)
    · have d_2 := Int32.not_le.mpr c_2
      obtain ⟨i, hi, rfl⟩ := in_of 16 (by decide) c_1 c_2
      have hl : lv_has ls 2 [(0, .ref (ad 0)), (1, .int (nI i))] := hl
      refine lv_aload_n hx hb dX3_machineRow_23 rfl (lv_at hl 0 rfl) ?_
      refine rgF0 hx hb hf3 hown hK hP (hts (.fieldLink RX3 11 "MachineFoundry" "machines" "[LMachineFoundry$Machine;") (by decide +kernel)) dX3_machineRow_24 ?_
      refine lv_iload_n hx hb dX3_machineRow_27 rfl (lv_at hl 1 rfl) ?_
      refine raM hx hb hK hP hi dX3_machineRow_28 ?_
      refine vx_ret (W.widen (k := 1) (n := 6) (Nat.le_of_ble_eq_true rfl) (Nat.le_of_ble_eq_true rfl) ?_)
      exact W.aret (v := .ref (ad (i + 7))) hx hb hr (Or.inl ⟨_, rfl⟩) (Or.inr ⟨_, rfl⟩) (fun t ht9 hW => ⟨i, rfl, ⟨hi, rfl⟩, ht9⟩) (fun q h => nomatch h) dX3_machineRow_29
    · have d_2 := Int32.not_lt.mp c_2
      exact xThrow (sz := sz) hx hb hst hml ht hlocks hxk "java/lang/IndexOutOfBoundsException" "there is no such machine" 92 204 96 hown (by decide +kernel) (hts (.classLink RX3 92 "java/lang/IndexOutOfBoundsException") (by decide +kernel)) (hts (.initialized "java/lang/IndexOutOfBoundsException") (by decide +kernel)) (by decide +kernel) (fun w h => hts w ((by decide +kernel : ∀ w ∈ (vx_atS RX3 96 "java/lang/IndexOutOfBoundsException" NM).filter goodWord, w ∈ wsX3_machineRow) w h)) xn1 xg1 hl.1 dX3_machineRow_13 dX3_machineRow_16 dX3_machineRow_17 dX3_machineRow_19 dX3_machineRow_22 (Nat.le_of_ble_eq_true rfl) (Nat.le_of_ble_eq_true rfl) (Nat.le_of_ble_eq_true rfl) (Nat.le_of_ble_eq_true rfl) (by first | exact ⟨rfl, by exact out_n 15 (by decide) (Or.inr c_2)⟩ | exact Or.inl ⟨rfl, by exact out_n 15 (by decide) (Or.inr c_2)⟩ | exact Or.inr ⟨rfl, by exact out_n 15 (by decide) (Or.inr c_2)⟩ | exact Or.inr (Or.inl ⟨rfl, by exact out_n 15 (by decide) (Or.inr c_2)⟩) | exact Or.inr (Or.inr ⟨rfl, by exact out_n 15 (by decide) (Or.inr c_2)⟩)) (Nat.le_of_ble_eq_true rfl) (Nat.le_of_ble_eq_true rfl)
set_option maxHeartbeats 4000000 in
set_option maxRecDepth 100000 in
/-- imageRow -/
theorem c_X3_imageRow (l : Launch) (hst : l.stackTraces = false) (D : va_G) (cy : Nat → ClassId) (ad : Nat → Nat) (σ : Mem) (sz : Nat) (za : Int32) : vx_Met l yX3_imageRow wsX3_imageRow ({ frames := 6, cells := 1, slots := 6, locals := 82 }) (va_Pc [.ref (ad 0), .int za] (cx D cy ad σ sz)) (SR (fun i : Nat => some (.ref (ad (i + 23)))) (fun i => i < 8 ∧ za = nI i)) (XE (fun E => E = "java/lang/IndexOutOfBoundsException" ∧ inB za 0 7 = false)) 1 6 NoA := by
  refine vx_ofW (cc := cX3_imageRow) (maxL := 2) (ret := (some (.object "MachineFoundry$Image"))) (by decide) rfl ?_
  intro p e s m args below meth c s₁ B hml ht hv
  obtain ⟨rfl, ⟨hP, hK⟩, hxk⟩ := hv
  have hx := B.exec
  have hb := B.bytes
  have hr := B.returns
  have hts := atoms_spec (ws := wsX3_imageRow) B.pre
  have hown : s.vm.findClass RX3 = some m.cls := findClass_of_methodNamed B.named
  have hlocks := B.notSynchronized
  have hf3 := fun (w : Cond) (h : w ∈ wsX30) => hts w ((by decide +kernel : ∀ w ∈ wsX30, w ∈ wsX3_imageRow) w h)
  have hl := lv_entry ([.ref (ad 0), .int za]) (n := 2) (Nat.le_of_ble_eq_true rfl)
  rw [lg_entry_eq]
  generalize (lg_sl ([.ref (ad 0), .int za]) ++ List.replicate (2 - (lg_sl ([.ref (ad 0), .int za])).length) Slot.unset).toArray = ls at hl ⊢
  have hl : lv_has ls 2 [(0, .ref (ad 0)), (1, .int za)] := hl
  refine lv_iload_n hx hb dX3_imageRow_0 rfl (lv_at hl 1 rfl) ?_
  refine lv_if_lt (tgt := 13) hx hb dX3_imageRow_1 (by decide) (fun c_1 => ?_) (fun c_1 => ?_)
  · have d_1 := Int32.not_le.mpr c_1
    exact xThrow (sz := sz) hx hb hst hml ht hlocks hxk "java/lang/IndexOutOfBoundsException" "there is no such image number" 92 206 96 hown (by decide +kernel) (hts (.classLink RX3 92 "java/lang/IndexOutOfBoundsException") (by decide +kernel)) (hts (.initialized "java/lang/IndexOutOfBoundsException") (by decide +kernel)) (by decide +kernel) (fun w h => hts w ((by decide +kernel : ∀ w ∈ (vx_atS RX3 96 "java/lang/IndexOutOfBoundsException" NM).filter goodWord, w ∈ wsX3_imageRow) w h)) xn1 xg1 hl.1 dX3_imageRow_13 dX3_imageRow_16 dX3_imageRow_17 dX3_imageRow_19 dX3_imageRow_22 (Nat.le_of_ble_eq_true rfl) (Nat.le_of_ble_eq_true rfl) (Nat.le_of_ble_eq_true rfl) (Nat.le_of_ble_eq_true rfl) (by first | exact ⟨rfl, by exact out_n 7 (by decide) (Or.inl c_1)⟩ | exact Or.inl ⟨rfl, by exact out_n 7 (by decide) (Or.inl c_1)⟩ | exact Or.inr ⟨rfl, by exact out_n 7 (by decide) (Or.inl c_1)⟩ | exact Or.inr (Or.inl ⟨rfl, by exact out_n 7 (by decide) (Or.inl c_1)⟩) | exact Or.inr (Or.inr ⟨rfl, by exact out_n 7 (by decide) (Or.inl c_1)⟩)) (Nat.le_of_ble_eq_true rfl) (Nat.le_of_ble_eq_true rfl)
  · have d_1 := Int32.not_lt.mp c_1
    refine lv_iload_n hx hb dX3_imageRow_4 rfl (lv_at hl 1 rfl) ?_
    refine lv_aload_n hx hb dX3_imageRow_5 rfl (lv_at hl 0 rfl) ?_
    refine rgF1 hx hb hf3 hown hK hP (hts (.fieldLink RX3 17 "MachineFoundry" "images" "[LMachineFoundry$Image;") (by decide +kernel)) dX3_imageRow_6 ?_
    refine rlI hx hb hK hP dX3_imageRow_9 ?_
    refine lv_icmp_lt (tgt := 23) hx hb dX3_imageRow_10 (by decide) (fun c_2 => ?_) (fun c_2 => ?_)
    · have d_2 := Int32.not_le.mpr c_2
      obtain ⟨i, hi, rfl⟩ := in_of 8 (by decide) c_1 c_2
      have hl : lv_has ls 2 [(0, .ref (ad 0)), (1, .int (nI i))] := hl
      refine lv_aload_n hx hb dX3_imageRow_23 rfl (lv_at hl 0 rfl) ?_
      refine rgF1 hx hb hf3 hown hK hP (hts (.fieldLink RX3 17 "MachineFoundry" "images" "[LMachineFoundry$Image;") (by decide +kernel)) dX3_imageRow_24 ?_
      refine lv_iload_n hx hb dX3_imageRow_27 rfl (lv_at hl 1 rfl) ?_
      refine raI hx hb hK hP hi dX3_imageRow_28 ?_
      refine vx_ret (W.widen (k := 1) (n := 6) (Nat.le_of_ble_eq_true rfl) (Nat.le_of_ble_eq_true rfl) ?_)
      exact W.aret (v := .ref (ad (i + 23))) hx hb hr (Or.inl ⟨_, rfl⟩) (Or.inr ⟨_, rfl⟩) (fun t ht9 hW => ⟨i, rfl, ⟨hi, rfl⟩, ht9⟩) (fun q h => nomatch h) dX3_imageRow_29
    · have d_2 := Int32.not_lt.mp c_2
      exact xThrow (sz := sz) hx hb hst hml ht hlocks hxk "java/lang/IndexOutOfBoundsException" "there is no such image number" 92 206 96 hown (by decide +kernel) (hts (.classLink RX3 92 "java/lang/IndexOutOfBoundsException") (by decide +kernel)) (hts (.initialized "java/lang/IndexOutOfBoundsException") (by decide +kernel)) (by decide +kernel) (fun w h => hts w ((by decide +kernel : ∀ w ∈ (vx_atS RX3 96 "java/lang/IndexOutOfBoundsException" NM).filter goodWord, w ∈ wsX3_imageRow) w h)) xn1 xg1 hl.1 dX3_imageRow_13 dX3_imageRow_16 dX3_imageRow_17 dX3_imageRow_19 dX3_imageRow_22 (Nat.le_of_ble_eq_true rfl) (Nat.le_of_ble_eq_true rfl) (Nat.le_of_ble_eq_true rfl) (Nat.le_of_ble_eq_true rfl) (by first | exact ⟨rfl, by exact out_n 7 (by decide) (Or.inr c_2)⟩ | exact Or.inl ⟨rfl, by exact out_n 7 (by decide) (Or.inr c_2)⟩ | exact Or.inr ⟨rfl, by exact out_n 7 (by decide) (Or.inr c_2)⟩ | exact Or.inr (Or.inl ⟨rfl, by exact out_n 7 (by decide) (Or.inr c_2)⟩) | exact Or.inr (Or.inr ⟨rfl, by exact out_n 7 (by decide) (Or.inr c_2)⟩)) (Nat.le_of_ble_eq_true rfl) (Nat.le_of_ble_eq_true rfl)
set_option maxHeartbeats 4000000 in
set_option maxRecDepth 100000 in
/-- setImageRow -/
theorem c_X3_setImageRow (l : Launch) (hst : l.stackTraces = false) (D : va_G) (cy : Nat → ClassId) (ad : Nat → Nat) (σ : Mem) (sz : Nat) (za : Int32) : vx_Met l yX3_setImageRow wsX3_setImageRow ({ frames := 7, cells := 2, slots := 12, locals := 103 }) (va_Pc [.ref (ad 0), .int za] (cx D cy ad σ sz)) (SR (fun i : Nat => some (.ref (ad (i + 23)))) (fun i => i < 8 ∧ za = nI i ∧ ¬ σ 11 i = 0)) (XE (fun E => E = "java/lang/IndexOutOfBoundsException" ∧ ¬ (inB za 0 7 = true ∧ ¬ σ 11 (ix za) = 0))) 2 12 NoA := by
  refine vx_ofW (cc := cX3_setImageRow) (maxL := 3) (ret := (some (.object "MachineFoundry$Image"))) (by decide) rfl ?_
  intro p e s m args below meth c s₁ B hml ht hv
  obtain ⟨rfl, ⟨hP, hK⟩, hxk⟩ := hv
  have hx := B.exec
  have hb := B.bytes
  have hr := B.returns
  have hts := atoms_spec (ws := wsX3_setImageRow) B.pre
  have hown : s.vm.findClass RX3 = some m.cls := findClass_of_methodNamed B.named
  have hlocks := B.notSynchronized
  have hf0 := fun (w : Cond) (h : w ∈ wsX00) => hts w ((by decide +kernel : ∀ w ∈ wsX00, w ∈ wsX3_setImageRow) w h)
  have hl := lv_entry ([.ref (ad 0), .int za]) (n := 3) (Nat.le_of_ble_eq_true rfl)
  rw [lg_entry_eq]
  generalize (lg_sl ([.ref (ad 0), .int za]) ++ List.replicate (3 - (lg_sl ([.ref (ad 0), .int za])).length) Slot.unset).toArray = ls at hl ⊢
  have hl : lv_has ls 3 [(0, .ref (ad 0)), (1, .int za)] := hl
  refine lv_aload_n hx hb dX3_setImageRow_0 rfl (lv_at hl 0 rfl) ?_
  refine lv_iload_n hx hb dX3_setImageRow_1 rfl (lv_at hl 1 rfl) ?_
  refine xS (vx_runV (As := [.int za]) (rest := []) ⟨hx, hb, hml, hown, hts⟩ (c_X3_imageRow l hst D cy ad σ sz za) (cwV 1 hts gX3_setImageRow_X3_imageRow rfl rfl rfl (by decide +kernel) ⟨Nat.le_of_ble_eq_true rfl, Nat.le_of_ble_eq_true rfl⟩) ⟨cx_bl, cw_F hP hK, cx_at hP hK hxk⟩ rfl rfl hl.1 rfl (lv_room (Nat.le_of_ble_eq_true rfl)) dX3_setImageRow_2 ⟨Nat.le_of_ble_eq_true rfl, Nat.le_of_ble_eq_true rfl⟩) (fun E ce q9 H1 hE h1 h2 h3 h4 h5 => xOut ht hlocks h1 h2 h3 h4 h5 (by obtain ⟨rfl, h9⟩ := hE; first | exact ⟨rfl, by simp [h9]⟩ | exact Or.inl ⟨rfl, by simp [h9]⟩ | exact Or.inr ⟨rfl, by simp [h9]⟩ | exact Or.inr (Or.inl ⟨rfl, by simp [h9]⟩) | exact Or.inr (Or.inr ⟨rfl, by simp [h9]⟩)) (Nat.le_of_ble_eq_true rfl) (Nat.le_of_ble_eq_true rfl)) (fun i h1 => ?_)
  obtain ⟨hi, rfl⟩ := h1
  refine W.eq (g2 := F0 m 5 ls [.ref (ad (i + 23))]) rfl ?_
  have hl : lv_has ls 3 [(0, .ref (ad 0)), (1, .int (nI i))] := hl
  refine lv_astore_n (lv' := [(2, .ref (ad (i + 23))), (0, .ref (ad 0)), (1, .int (nI i))]) hx hb dX3_setImageRow_5 rfl hl (by decide) rfl (fun ls hl => ?_)
  refine lv_aload_n hx hb dX3_setImageRow_6 rfl (lv_at hl 0 rfl) ?_
  refine rgI1 hx hb hf0 hown hK hP hi (hts (.fieldLink RX3 60 "MachineFoundry$Image" "isSet" "Z") (by decide +kernel)) (rfl) dX3_setImageRow_7 ?_
  refine lv_if_ne (tgt := 23) hx hb dX3_setImageRow_10 (by decide) (fun c_2 => ?_) (fun c_2 => ?_)
  · refine lv_aload_n hx hb dX3_setImageRow_23 rfl (lv_at hl 0 rfl) ?_
    refine vx_ret (W.widen (k := 2) (n := 12) (Nat.le_of_ble_eq_true rfl) (Nat.le_of_ble_eq_true rfl) ?_)
    exact W.aret (v := .ref (ad (i + 23))) hx hb hr (Or.inl ⟨_, rfl⟩) (Or.inr ⟨_, rfl⟩) (fun t ht9 hW => ⟨i, rfl, ⟨hi, rfl, c_2⟩, ht9⟩) (fun q h => nomatch h) dX3_setImageRow_24
  · exact xThrow (sz := sz) hx hb hst hml ht hlocks hxk "java/lang/IndexOutOfBoundsException" "it is not an image that is set" 92 208 96 hown (by decide +kernel) (hts (.classLink RX3 92 "java/lang/IndexOutOfBoundsException") (by decide +kernel)) (hts (.initialized "java/lang/IndexOutOfBoundsException") (by decide +kernel)) (by decide +kernel) (fun w h => hts w ((by decide +kernel : ∀ w ∈ (vx_atS RX3 96 "java/lang/IndexOutOfBoundsException" NM).filter goodWord, w ∈ wsX3_setImageRow) w h)) xn1 xg1 hl.1 dX3_setImageRow_13 dX3_setImageRow_16 dX3_setImageRow_17 dX3_setImageRow_19 dX3_setImageRow_22 (Nat.le_of_ble_eq_true rfl) (Nat.le_of_ble_eq_true rfl) (Nat.le_of_ble_eq_true rfl) (Nat.le_of_ble_eq_true rfl) (by first | exact ⟨rfl, by simp [c_2, inB_7 hi, ix_nI (show i < 2147483648 by omega)]⟩ | exact Or.inl ⟨rfl, by simp [c_2, inB_7 hi, ix_nI (show i < 2147483648 by omega)]⟩ | exact Or.inr ⟨rfl, by simp [c_2, inB_7 hi, ix_nI (show i < 2147483648 by omega)]⟩ | exact Or.inr (Or.inl ⟨rfl, by simp [c_2, inB_7 hi, ix_nI (show i < 2147483648 by omega)]⟩) | exact Or.inr (Or.inr ⟨rfl, by simp [c_2, inB_7 hi, ix_nI (show i < 2147483648 by omega)]⟩)) (Nat.le_of_ble_eq_true rfl) (Nat.le_of_ble_eq_true rfl)
set_option maxHeartbeats 4000000 in
set_option maxRecDepth 100000 in
/-- isNoRack -/
theorem c_X3_isNoRack (l : Launch) (D : va_G) (cy : Nat → ClassId) (ad : Nat → Nat) (σ : Mem) (za : Int32) : Met l yX3_isNoRack wsX3_isNoRack ({ frames := 0, cells := 0, slots := 0, locals := 0 }) (va_Pc [.ref (ad 0), .int za] (cw D cy ad σ)) (SI (b2i (!inB za 0 3))) 0 0 NoA := by
  refine Met.ofW (cc := cX3_isNoRack) (maxL := 2) (ret := (some .boolean)) (by decide) rfl ?_
  intro p e s m args below meth c s₁ B hml hv
  obtain ⟨rfl, hP, hK⟩ := hv
  have hx := B.exec
  have hb := B.bytes
  have hr := B.returns
  have hts := atoms_spec (ws := wsX3_isNoRack) B.pre
  have hown : s.vm.findClass RX3 = some m.cls := findClass_of_methodNamed B.named
  have hlocks := B.notSynchronized
  have hf3 := fun (w : Cond) (h : w ∈ wsX30) => hts w ((by decide +kernel : ∀ w ∈ wsX30, w ∈ wsX3_isNoRack) w h)
  have hl := lv_entry ([.ref (ad 0), .int za]) (n := 2) (Nat.le_of_ble_eq_true rfl)
  rw [lg_entry_eq]
  generalize (lg_sl ([.ref (ad 0), .int za]) ++ List.replicate (2 - (lg_sl ([.ref (ad 0), .int za])).length) Slot.unset).toArray = ls at hl ⊢
  have hl : lv_has ls 2 [(0, .ref (ad 0)), (1, .int za)] := hl
  refine lv_iload_n hx hb dX3_isNoRack_0 rfl (lv_at hl 1 rfl) ?_
  refine lv_if_lt (tgt := 13) hx hb dX3_isNoRack_1 (by decide) (fun c_1 => ?_) (fun c_1 => ?_)
  · have d_1 := Int32.not_le.mpr c_1
    refine lv_iconst (v := 1) hx hb dX3_isNoRack_13 (by decide) ?_
    refine lv_goto (tgt := 18) hx hb dX3_isNoRack_14 (by decide) ?_
    have e9 : b2i (!inB za 0 3) = 1 := by rw [show inB za 0 3 = false from out_n 3 (by decide) (Or.inl c_1)]; rfl
    exact W.zret (v := 1) hx hb hr rfl (fun t ht hW => ⟨(), by rw [e9], trivial, ht⟩) (fun q h => nomatch h) dX3_isNoRack_18
  · have d_1 := Int32.not_lt.mp c_1
    refine lv_iload_n hx hb dX3_isNoRack_4 rfl (lv_at hl 1 rfl) ?_
    refine lv_aload_n hx hb dX3_isNoRack_5 rfl (lv_at hl 0 rfl) ?_
    refine rgF2 hx hb hf3 hown hK hP (hts (.fieldLink RX3 21 "MachineFoundry" "batches" "[I") (by decide +kernel)) dX3_isNoRack_6 ?_
    refine rlB hx hb hK hP dX3_isNoRack_9 ?_
    refine lv_icmp_lt (tgt := 17) hx hb dX3_isNoRack_10 (by decide) (fun c_2 => ?_) (fun c_2 => ?_)
    · have d_2 := Int32.not_le.mpr c_2
      refine lv_iconst (v := 0) hx hb dX3_isNoRack_17 (by decide) ?_
      have e9 : b2i (!inB za 0 3) = 0 := by rw [show inB za 0 3 = true from in_nB 3 (by decide) c_1 c_2]; rfl
      exact W.zret (v := 0) hx hb hr rfl (fun t ht hW => ⟨(), by rw [e9], trivial, ht⟩) (fun q h => nomatch h) dX3_isNoRack_18
    · have d_2 := Int32.not_lt.mp c_2
      refine lv_iconst (v := 1) hx hb dX3_isNoRack_13 (by decide) ?_
      refine lv_goto (tgt := 18) hx hb dX3_isNoRack_14 (by decide) ?_
      have e9 : b2i (!inB za 0 3) = 1 := by rw [show inB za 0 3 = false from out_n 3 (by decide) (Or.inr c_2)]; rfl
      exact W.zret (v := 1) hx hb hr rfl (fun t ht hW => ⟨(), by rw [e9], trivial, ht⟩) (fun q h => nomatch h) dX3_isNoRack_18
