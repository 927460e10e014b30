set_option maxHeartbeats 4000000 in
set_option maxRecDepth 100000 in
/-- begins -/
theorem c_X4_begins (l : Launch) (D : va_G) (cy : Nat → ClassId) (bd : Nat → Nat) (hj : injM bd) (τ : Mem) (hw : WB τ 64) : Met l yX4_begins wsX4_begins ({ frames := 2, cells := 0, slots := 0, locals := 46 }) (va_Pc [.ref (bd 0)] (mw D cy bd τ)) (QV (va_P D vwCl (wM cy bd (tBegins τ))) (AM bd)) 0 0 (AM bd) := by
  refine Met.ofW (cc := cX4_begins) (maxL := 4) (ret := none) (by decide) rfl ?_
  intro p e s m args below meth c s₁ B hml hv
  obtain ⟨rfl, hP, hK⟩ := hv
  have hx := B.exec
  have hb := B.bytes
  have hr := B.returns
  have hts := atoms_spec (ws := wsX4_begins) B.pre
  have hown : s.vm.findClass RX4 = some m.cls := findClass_of_methodNamed B.named
  have hlocks := B.notSynchronized
  have hf4 := fun (w : Cond) (h : w ∈ wsX40) => hts w ((by decide +kernel : ∀ w ∈ wsX40, w ∈ wsX4_begins) w h)
  have hD := wM_D (cy := cy) hj
  have hS : va_S (AM bd) s.heap s.heap [] := va_S.rf
  have hl := lv_entry ([.ref (bd 0)]) (n := 4) (Nat.le_of_ble_eq_true rfl)
  rw [lg_entry_eq]
  generalize (lg_sl ([.ref (bd 0)]) ++ List.replicate (4 - (lg_sl ([.ref (bd 0)])).length) Slot.unset).toArray = ls at hl ⊢
  have hl : lv_has ls 4 [(0, .ref (bd 0))] := hl
  refine lv_iconst (v := 0) hx hb dX4_begins_0 (by decide) ?_
  refine lv_istore_n (lv' := [(1, .int 0), (0, .ref (bd 0))]) hx hb dX4_begins_1 rfl hl (by decide) rfl (fun ls hl => ?_)
  have hl0 : lv_has ls 4 [(1, .int (nI 0)), (0, .ref (bd 0))] := lv_sub hl [0, 1] rfl
  have hP0 : va_P D vwCl (wM cy bd (tBI τ 0)) _ := hP
  refine w_loopM 4 (fun k => [(1, .int (nI k)), (0, .ref (bd 0))]) (fun k => va_P D vwCl (wM cy bd (tBI τ k))) 0 (Nat.zero_le _) hl0 hP0 hS (fun H locs ls hl hP hS => ?_) (fun k hk0 hk H locs ls hl hP hS ih => ?_)
  · have hl : lv_has ls 4 [(1, .int (nI 4)), (0, .ref (bd 0))] := hl
    have hP : va_P D vwCl (wM cy bd (tBI τ 4)) H := hP
    refine lv_iload_n hx hb dX4_begins_2 rfl (lv_at hl 0 rfl) ?_
    refine lv_iconst (v := 4) hx hb dX4_begins_3 (by decide) ?_
    refine lv_icmp_ge (tgt := 103) hx hb dX4_begins_4 (by decide) (fun c_1 => ?_) (fun c_1 => absurd ((show (4 : Int32) ≤ nI 4 from nI_le (a := 4) (b := 4) (Nat.le_refl 4) (by decide))) c_1)
    have e8 : tBegins τ = tBI τ 4 := by rfl
    rw [← e8] at hP
    exact W.vret hx hb hr (fun t ht hW => ⟨⟨(), rfl, trivial, by rw [← ht] at hP; exact hP⟩, hS.F ht⟩) hS.2.2 dX4_begins_103
  · have hl : lv_has ls 4 [(1, .int (nI k)), (0, .ref (bd 0))] := hl
    have hP : va_P D vwCl (wM cy bd (tBI τ k)) H := hP
    refine lv_iload_n hx hb dX4_begins_2 rfl (lv_at hl 0 rfl) ?_
    refine lv_iconst (v := 4) hx hb dX4_begins_3 (by decide) ?_
    refine lv_icmp_ge (tgt := 103) hx hb dX4_begins_4 (by decide) (fun c_2 => absurd c_2 ((show ¬ (4 : Int32) ≤ nI k from nI_ge (a := k) (b := 4) hk (by decide)))) (fun c_2 => ?_)
    refine lv_aload_n hx hb dX4_begins_7 rfl (lv_at hl 1 rfl) ?_
    refine lv_iload_n hx hb dX4_begins_8 rfl (lv_at hl 0 rfl) ?_
    refine lv_iconst (v := 0) hx hb dX4_begins_9 (by decide) ?_
    refine cS (W.runV (As := [.int (nI k), .int 0]) (rest := []) ⟨hx, hb, hml, hown, hts⟩ (c_X4_queued l D cy bd (tBI τ k) (nI k) 0) (cwV 2 hts gX4_begins_X4_queued rfl rfl rfl (by decide +kernel) ⟨Nat.le_of_ble_eq_true rfl, Nat.le_of_ble_eq_true rfl⟩) ⟨mw_bl, (mw_O hP hK), (mw_at hP hK)⟩ rfl rfl hl.1 rfl (lv_room (Nat.le_of_ble_eq_true rfl)) dX4_begins_10 ⟨Nat.le_of_ble_eq_true rfl, Nat.le_of_ble_eq_true rfl⟩) (fun _ _ => ?_)
    refine W.eq (g2 := F0 m 13 ls [.int (tQu (tBI τ k) (nI k) 0)]) rfl ?_
    refine lv_istore_n (lv' := [(2, .int (tQu (tBI τ k) (nI k) 0)), (1, .int (nI k)), (0, .ref (bd 0))]) hx hb dX4_begins_13 rfl hl (by decide) rfl (fun ls hl => ?_)
    refine w_loopF (fun n H lv => ∃ τq : Mem, va_P D vwCl (wM cy bd τq) H ∧ tQC τq k ≤ n ∧ tFill k n τq = tFill k 16 (tBI τ k) ∧ WB τq n ∧ lv = [(2, .int (tQu τq (nI k) 0)), (1, .int (nI k)), (0, .ref (bd 0))]) (fun n H locs ls lv hI hS hl ih2 => ?_) 16 _ ⟨tBI τ k, hP, ct_le _ 16, rfl, (WB.bi (b := 0) k (by omega) hw).le (by omega), rfl⟩ hS (lv_sub hl [0, 1, 2] rfl)
    obtain ⟨τq, hP, hq, hE, hwq, rfl⟩ := hI
    rcases tQd_or (tQdP τq (nI k) 0) 16 (by decide) with ⟨h9, -⟩ | ⟨i, hi, hp, h9⟩
    · have h8 : tQu τq (nI k) 0 = -1 := h9
      rw [h8] at hl
      have hl : lv_has ls 4 [(2, .int (-1)), (1, .int (nI k)), (0, .ref (bd 0))] := hl
      refine lv_iload_n hx hb dX4_begins_14 rfl (lv_at hl 0 rfl) ?_
      refine lv_iconst (v := (-1)) hx hb dX4_begins_15 (by decide) ?_
      refine lv_icmp_eq (tgt := 97) hx hb dX4_begins_16 (by decide) (fun c_3 => ?_) (fun c_3 => absurd ((by decide : (-1 : Int32) = -1)) c_3)
      refine lv_iinc (v := nI (k + 1)) (lv' := [(1, .int (nI (k + 1))), (2, .int (-1)), (0, .ref (bd 0))]) hx hb dX4_begins_97 hl (k := 1) rfl (nI_1 k) (by decide) rfl (fun ls hl => ?_)
      refine lv_goto (tgt := 2) hx hb dX4_begins_100 (by decide) ?_
      have e6 : tBI τ (k + 1) = τq := by exact hE.symm.trans (tFill_none n h8)
      exact ih H locs ls (lv_sub hl [0, 2] rfl) (by rw [e6]; exact hP) hS
    · have h8 : tQu τq (nI k) 0 = nI i := h9
      rw [h8] at hl
      have hl : lv_has ls 4 [(2, .int (nI i)), (1, .int (nI k)), (0, .ref (bd 0))] := hl
      refine lv_iload_n hx hb dX4_begins_14 rfl (lv_at hl 0 rfl) ?_
      refine lv_iconst (v := (-1)) hx hb dX4_begins_15 (by decide) ?_
      refine lv_icmp_eq (tgt := 97) hx hb dX4_begins_16 (by decide) (fun c_4 => absurd c_4 ((nI_ne_m1 (by omega) : ¬ nI i = -1))) (fun c_4 => ?_)
      refine lv_aload_n hx hb dX4_begins_19 rfl (lv_at hl 2 rfl) ?_
      refine lv_iload_n hx hb dX4_begins_20 rfl (lv_at hl 1 rfl) ?_
      refine cS (W.runV (As := [.int (nI k)]) (rest := []) ⟨hx, hb, hml, hown, hts⟩ (c_X4_atWork l D cy bd τq (nI k)) (cwV 1 hts gX4_begins_X4_atWork rfl rfl rfl (by decide +kernel) ⟨Nat.le_of_ble_eq_true rfl, Nat.le_of_ble_eq_true rfl⟩) ⟨mw_bl, (mw_O hP hK), (mw_at hP hK)⟩ rfl rfl hl.1 rfl (lv_room (Nat.le_of_ble_eq_true rfl)) dX4_begins_21 ⟨Nat.le_of_ble_eq_true rfl, Nat.le_of_ble_eq_true rfl⟩) (fun _ _ => ?_)
      refine W.eq (g2 := F0 m 24 ls [.int (tAW τq (nI k))]) rfl ?_
      refine lv_aload_n hx hb dX4_begins_24 rfl (lv_at hl 2 rfl) ?_
      refine rgO21 hx hb hf4 hown hK hP (hts (.fieldLink RX4 66 "MachineFoundryModel" "batch" "[I") (by decide +kernel)) dX4_begins_25 ?_
      refine lv_iload_n hx hb dX4_begins_28 rfl (lv_at hl 1 rfl) ?_
      refine raO21 hx hb hK hP hk (rfl) dX4_begins_29 ?_
      refine lv_icmp_ge (tgt := 97) hx hb dX4_begins_30 (by decide) (fun c_5 => ?_) (fun c_5 => ?_)
      · have d_5 := Int32.not_lt.mpr c_5
        refine lv_iinc (v := nI (k + 1)) (lv' := [(1, .int (nI (k + 1))), (2, .int (nI i)), (0, .ref (bd 0))]) hx hb dX4_begins_97 hl (k := 1) rfl (nI_1 k) (by decide) rfl (fun ls hl => ?_)
        refine lv_goto (tgt := 2) hx hb dX4_begins_100 (by decide) ?_
        have e6 : tBI τ (k + 1) = τq := by exact hE.symm.trans (tFill_full n c_5)
        exact ih H locs ls (lv_sub hl [0, 2] rfl) (by rw [e6]; exact hP) hS
      · have d_5 := Int32.not_le.mp c_5
        obtain ⟨n9, rfl⟩ : ∃ n9, n = n9 + 1 := ⟨n - 1, by have := tQC_step hi hp; omega⟩
        refine lv_aload_n hx hb dX4_begins_33 rfl (lv_at hl 2 rfl) ?_
        refine lv_iload_n hx hb dX4_begins_34 rfl (lv_at hl 0 rfl) ?_
        refine cS (W.runV (As := [.int (nI i)]) (rest := []) ⟨hx, hb, hml, hown, hts⟩ (c_X4_match l D cy bd τq i hi) (cwV 1 hts gX4_begins_X4_match rfl rfl rfl (by decide +kernel) ⟨Nat.le_of_ble_eq_true rfl, Nat.le_of_ble_eq_true rfl⟩) ⟨mw_bl, mw_O hP hK, mw_at hP hK⟩ rfl rfl hl.1 rfl (lv_room (Nat.le_of_ble_eq_true rfl)) dX4_begins_35 ⟨Nat.le_of_ble_eq_true rfl, Nat.le_of_ble_eq_true rfl⟩) (fun _ _ => ?_)
        rcases hob6 : tBst τq i with _ | b6
        · refine W.eq (g2 := F0 m 38 ls [.int (-1)]) rfl ?_
          refine lv_istore_n (lv' := [(3, .int (-1)), (2, .int (nI i)), (1, .int (nI k)), (0, .ref (bd 0))]) hx hb dX4_begins_38 rfl hl (by decide) rfl (fun ls hl => ?_)
          refine lv_aload_n hx hb dX4_begins_39 rfl (lv_at hl 3 rfl) ?_
          refine lv_iload_n hx hb dX4_begins_40 rfl (lv_at hl 1 rfl) ?_
          refine lv_iload_n hx hb dX4_begins_41 rfl (lv_at hl 0 rfl) ?_
          refine lv_iconst (v := (-1)) hx hb dX4_begins_42 (by decide) ?_
          refine lv_icmp_ne (tgt := 50) hx hb dX4_begins_43 (by decide) (fun c_7 => absurd ((by decide : (-1 : Int32) = -1)) c_7) (fun c_7 => ?_)
          refine lv_iconst (v := 1) hx hb dX4_begins_46 (by decide) ?_
          refine lv_goto (tgt := 51) hx hb dX4_begins_47 (by decide) ?_
          refine cMv (va_runV (As := [.int (nI i), .int 1]) (rest := []) ⟨hx, hb, hml, hown, hts⟩ (c_X4_turns l D cy bd hj τq i hi 1 hwq.nn) (cwV 2 hts gX4_begins_X4_turns rfl rfl rfl (by decide +kernel) ⟨Nat.le_of_ble_eq_true rfl, Nat.le_of_ble_eq_true rfl⟩) ⟨mw_bl, (mw_O hP hK), (mw_at hP hK)⟩ rfl rfl hl.1 rfl (lv_room (Nat.le_of_ble_eq_true rfl)) dX4_begins_51 ⟨Nat.le_of_ble_eq_true rfl, Nat.le_of_ble_eq_true rfl⟩) hS (fun H locs hP hS => ?_)
          refine W.eq (g2 := F0 m 54 ls []) rfl ?_
          refine lv_aload_n hx hb dX4_begins_54 rfl (lv_at hl 3 rfl) ?_
          refine rgO11 hx hb hf4 hown hK hP (hts (.fieldLink RX4 35 "MachineFoundryModel" "image" "[I") (by decide +kernel)) dX4_begins_55 ?_
          refine lv_iload_n hx hb dX4_begins_58 rfl (lv_at hl 1 rfl) ?_
          refine lv_iload_n hx hb dX4_begins_59 rfl (lv_at hl 0 rfl) ?_
          refine rsO11 hx hb hK hP hD hS hi dX4_begins_60 (fun H locs hP hS => ?_)
          refine lv_aload_n hx hb dX4_begins_61 rfl (lv_at hl 3 rfl) ?_
          refine rgO12 hx hb hf4 hown hK hP (hts (.fieldLink RX4 38 "MachineFoundryModel" "end" "[I") (by decide +kernel)) dX4_begins_62 ?_
          refine lv_iload_n hx hb dX4_begins_65 rfl (lv_at hl 1 rfl) ?_
          refine lv_iload_n hx hb dX4_begins_66 rfl (lv_at hl 0 rfl) ?_
          refine lv_iconst (v := (-1)) hx hb dX4_begins_67 (by decide) ?_
          refine lv_icmp_ne (tgt := 75) hx hb dX4_begins_68 (by decide) (fun c_8 => absurd ((by decide : (-1 : Int32) = -1)) c_8) (fun c_8 => ?_)
          refine lv_iconst (v := (-1)) hx hb dX4_begins_71 (by decide) ?_
          refine lv_goto (tgt := 86) hx hb dX4_begins_72 (by decide) ?_
          refine rsO12 hx hb hK hP hD hS hi dX4_begins_86 (fun H locs hP hS => ?_)
          rw [← tStep_none hob6] at hP
          refine lv_aload_n hx hb dX4_begins_87 rfl (lv_at hl 3 rfl) ?_
          refine lv_iload_n hx hb dX4_begins_88 rfl (lv_at hl 2 rfl) ?_
          refine lv_iconst (v := 0) hx hb dX4_begins_89 (by decide) ?_
          refine cS (W.runV (As := [.int (nI k), .int 0]) (rest := []) ⟨hx, hb, hml, hown, hts⟩ (c_X4_queued l D cy bd (tStep τq i) (nI k) 0) (cwV 2 hts gX4_begins_X4_queued rfl rfl rfl (by decide +kernel) ⟨Nat.le_of_ble_eq_true rfl, Nat.le_of_ble_eq_true rfl⟩) ⟨mw_bl, (mw_O hP hK), (mw_at hP hK)⟩ rfl rfl hl.1 rfl (lv_room (Nat.le_of_ble_eq_true rfl)) dX4_begins_90 ⟨Nat.le_of_ble_eq_true rfl, Nat.le_of_ble_eq_true rfl⟩) (fun _ _ => ?_)
          refine W.eq (g2 := F0 m 93 ls [.int (tQu (tStep τq i) (nI k) 0)]) rfl ?_
          refine lv_istore_n (lv' := [(2, .int (tQu (tStep τq i) (nI k) 0)), (3, .int (-1)), (1, .int (nI k)), (0, .ref (bd 0))]) hx hb dX4_begins_93 rfl hl (by decide) rfl (fun ls hl => ?_)
          refine lv_goto (tgt := 14) hx hb dX4_begins_94 (by decide) ?_
          exact ih2 n9 (by omega) H locs ls _ ⟨tStep τq i, hP, by have := tQC_step hi hp; omega, by rw [← tFill_go n9 hi h8 c_5]; exact hE, WB.step hwq, rfl⟩ hS (lv_sub hl [0, 2, 3] rfl)
        · have hb6 := bst_lt (n := 8) hob6
          refine W.eq (g2 := F0 m 38 ls [.int (nI b6)]) rfl ?_
          refine lv_istore_n (lv' := [(3, .int (nI b6)), (2, .int (nI i)), (1, .int (nI k)), (0, .ref (bd 0))]) hx hb dX4_begins_38 rfl hl (by decide) rfl (fun ls hl => ?_)
          refine lv_aload_n hx hb dX4_begins_39 rfl (lv_at hl 3 rfl) ?_
          refine lv_iload_n hx hb dX4_begins_40 rfl (lv_at hl 1 rfl) ?_
          refine lv_iload_n hx hb dX4_begins_41 rfl (lv_at hl 0 rfl) ?_
          refine lv_iconst (v := (-1)) hx hb dX4_begins_42 (by decide) ?_
          refine lv_icmp_ne (tgt := 50) hx hb dX4_begins_43 (by decide) (fun c_9 => ?_) (fun c_9 => absurd c_9 ((nI_ne_m1 (by omega) : ¬ nI b6 = -1)))
          refine lv_iconst (v := 3) hx hb dX4_begins_50 (by decide) ?_
          refine cMv (va_runV (As := [.int (nI i), .int 3]) (rest := []) ⟨hx, hb, hml, hown, hts⟩ (c_X4_turns l D cy bd hj τq i hi 3 hwq.nn) (cwV 2 hts gX4_begins_X4_turns rfl rfl rfl (by decide +kernel) ⟨Nat.le_of_ble_eq_true rfl, Nat.le_of_ble_eq_true rfl⟩) ⟨mw_bl, (mw_O hP hK), (mw_at hP hK)⟩ rfl rfl hl.1 rfl (lv_room (Nat.le_of_ble_eq_true rfl)) dX4_begins_51 ⟨Nat.le_of_ble_eq_true rfl, Nat.le_of_ble_eq_true rfl⟩) hS (fun H locs hP hS => ?_)
          refine W.eq (g2 := F0 m 54 ls []) rfl ?_
          refine lv_aload_n hx hb dX4_begins_54 rfl (lv_at hl 3 rfl) ?_
          refine rgO11 hx hb hf4 hown hK hP (hts (.fieldLink RX4 35 "MachineFoundryModel" "image" "[I") (by decide +kernel)) dX4_begins_55 ?_
          refine lv_iload_n hx hb dX4_begins_58 rfl (lv_at hl 1 rfl) ?_
          refine lv_iload_n hx hb dX4_begins_59 rfl (lv_at hl 0 rfl) ?_
          refine rsO11 hx hb hK hP hD hS hi dX4_begins_60 (fun H locs hP hS => ?_)
          refine lv_aload_n hx hb dX4_begins_61 rfl (lv_at hl 3 rfl) ?_
          refine rgO12 hx hb hf4 hown hK hP (hts (.fieldLink RX4 38 "MachineFoundryModel" "end" "[I") (by decide +kernel)) dX4_begins_62 ?_
          refine lv_iload_n hx hb dX4_begins_65 rfl (lv_at hl 1 rfl) ?_
          refine lv_iload_n hx hb dX4_begins_66 rfl (lv_at hl 0 rfl) ?_
          refine lv_iconst (v := (-1)) hx hb dX4_begins_67 (by decide) ?_
          refine lv_icmp_ne (tgt := 75) hx hb dX4_begins_68 (by decide) (fun c_10 => ?_) (fun c_10 => absurd c_10 ((nI_ne_m1 (by omega) : ¬ nI b6 = -1)))
          refine lv_aload_n hx hb dX4_begins_75 rfl (lv_at hl 3 rfl) ?_
          refine rgO0 (x := (tTurn τq i 3) 0 0) hx hb hf4 hown hK hP (hts (.fieldLink RX4 96 "MachineFoundryModel" "now" "I") (by decide +kernel)) (by simp [up2]) dX4_begins_76 ?_
          refine lv_aload_n hx hb dX4_begins_79 rfl (lv_at hl 3 rfl) ?_
          refine rgO20 hx hb hf4 hown hK hP (hts (.fieldLink RX4 63 "MachineFoundryModel" "hours" "[I") (by decide +kernel)) dX4_begins_80 ?_
          refine lv_iload_n hx hb dX4_begins_83 rfl (lv_at hl 0 rfl) ?_
          refine raO20 (x := (tTurn τq i 3) 20 b6) hx hb hK hP hb6 (by simp [up2]) dX4_begins_84 ?_
          refine lv_iadd hx hb dX4_begins_85 ?_
          refine rsO12 hx hb hK hP hD hS hi dX4_begins_86 (fun H locs hP hS => ?_)
          rw [← tStep_some hob6] at hP
          refine lv_aload_n hx hb dX4_begins_87 rfl (lv_at hl 3 rfl) ?_
          refine lv_iload_n hx hb dX4_begins_88 rfl (lv_at hl 2 rfl) ?_
          refine lv_iconst (v := 0) hx hb dX4_begins_89 (by decide) ?_
          refine cS (W.runV (As := [.int (nI k), .int 0]) (rest := []) ⟨hx, hb, hml, hown, hts⟩ (c_X4_queued l D cy bd (tStep τq i) (nI k) 0) (cwV 2 hts gX4_begins_X4_queued rfl rfl rfl (by decide +kernel) ⟨Nat.le_of_ble_eq_true rfl, Nat.le_of_ble_eq_true rfl⟩) ⟨mw_bl, (mw_O hP hK), (mw_at hP hK)⟩ rfl rfl hl.1 rfl (lv_room (Nat.le_of_ble_eq_true rfl)) dX4_begins_90 ⟨Nat.le_of_ble_eq_true rfl, Nat.le_of_ble_eq_true rfl⟩) (fun _ _ => ?_)
          refine W.eq (g2 := F0 m 93 ls [.int (tQu (tStep τq i) (nI k) 0)]) rfl ?_
          refine lv_istore_n (lv' := [(2, .int (tQu (tStep τq i) (nI k) 0)), (3, .int (nI b6)), (1, .int (nI k)), (0, .ref (bd 0))]) hx hb dX4_begins_93 rfl hl (by decide) rfl (fun ls hl => ?_)
          refine lv_goto (tgt := 14) hx hb dX4_begins_94 (by decide) ?_
          exact ih2 n9 (by omega) H locs ls _ ⟨tStep τq i, hP, by have := tQC_step hi hp; omega, by rw [← tFill_go n9 hi h8 c_5]; exact hE, WB.step hwq, rfl⟩ hS (lv_sub hl [0, 2, 3] rfl)
set_option maxHeartbeats 4000000 in
set_option maxRecDepth 100000 in
/-- ends -/
theorem c_X4_ends (l : Launch) (D : va_G) (cy : Nat → ClassId) (bd : Nat → Nat) (hj : injM bd) (τ : Mem) (i : Nat) (hi : i < 16) (hw : WB τ 64) : Met l yX4_ends wsX4_ends ({ frames := 3, cells := 0, slots := 0, locals := 69 }) (va_Pc [.ref (bd 0), .int (nI i)] (mw D cy bd τ)) (QI ((tBegins τ) 5 i) (va_P D vwCl (wM cy bd (tBegins τ))) (AM bd)) 0 0 (AM bd) := by
  refine Met.ofW (cc := cX4_ends) (maxL := 2) (ret := (some .int)) (by decide) rfl ?_
  intro p e s m args below meth c s₁ B hml hv
  obtain ⟨rfl, hP, hK⟩ := hv
  have hx := B.exec
  have hb := B.bytes
  have hr := B.returns
  have hts := atoms_spec (ws := wsX4_ends) B.pre
  have hown : s.vm.findClass RX4 = some m.cls := findClass_of_methodNamed B.named
  have hlocks := B.notSynchronized
  have hf4 := fun (w : Cond) (h : w ∈ wsX40) => hts w ((by decide +kernel : ∀ w ∈ wsX40, w ∈ wsX4_ends) w h)
  have hD := wM_D (cy := cy) hj
  have hS : va_S (AM bd) s.heap s.heap [] := va_S.rf
  have hl := lv_entry ([.ref (bd 0), .int (nI i)]) (n := 2) (Nat.le_of_ble_eq_true rfl)
  rw [lg_entry_eq]
  generalize (lg_sl ([.ref (bd 0), .int (nI i)]) ++ List.replicate (2 - (lg_sl ([.ref (bd 0), .int (nI i)])).length) Slot.unset).toArray = ls at hl ⊢
  have hl : lv_has ls 2 [(0, .ref (bd 0)), (1, .int (nI i))] := hl
  refine lv_aload_n hx hb dX4_ends_0 rfl (lv_at hl 0 rfl) ?_
  refine cMv (va_runV (As := []) (rest := []) ⟨hx, hb, hml, hown, hts⟩ (c_X4_begins l D cy bd hj τ (WB.le hw (by omega))) (cwV 0 hts gX4_ends_X4_begins rfl rfl rfl (by decide +kernel) ⟨Nat.le_of_ble_eq_true rfl, Nat.le_of_ble_eq_true rfl⟩) ⟨mw_bl, (mw_O hP hK), (mw_at hP hK)⟩ rfl rfl hl.1 rfl (lv_room (Nat.le_of_ble_eq_true rfl)) dX4_ends_1 ⟨Nat.le_of_ble_eq_true rfl, Nat.le_of_ble_eq_true rfl⟩) hS (fun H locs hP hS => ?_)
  refine W.eq (g2 := F0 m 4 ls []) rfl ?_
  refine lv_aload_n hx hb dX4_ends_4 rfl (lv_at hl 0 rfl) ?_
  refine rgO5 hx hb hf4 hown hK hP (hts (.fieldLink RX4 16 "MachineFoundryModel" "state" "[I") (by decide +kernel)) dX4_ends_5 ?_
  refine lv_iload_n hx hb dX4_ends_8 rfl (lv_at hl 1 rfl) ?_
  refine raO5 hx hb hK hP hi (rfl) dX4_ends_9 ?_
  have e9 : ((tBegins τ) 5 i) = (tBegins τ) 5 i := rfl
  exact W.iret (v := (tBegins τ) 5 i) hx hb hr (fun t ht hW => ⟨⟨_, (), rfl, e9, by rw [← ht] at hP; exact hP⟩, hS.F ht⟩) hS.2.2 dX4_ends_10
set_option maxHeartbeats 4000000 in
set_option maxRecDepth 100000 in
/-- passes -/
theorem c_X4_passes (l : Launch) (D : va_G) (cy : Nat → ClassId) (bd : Nat → Nat) (hj : injM bd) (τ : Mem) (hw : WB τ 112) (hF : FI τ) : Met l yX4_passes wsX4_passes ({ frames := 3, cells := 0, slots := 0, locals := 69 }) (va_Pc [.ref (bd 0)] (mw D cy bd τ)) (QV (va_P D vwCl (wM cy bd (tPass τ))) (AM bd)) 0 0 (AM bd) := by
  refine Met.ofW (cc := cX4_passes) (maxL := 2) (ret := none) (by decide) rfl ?_
  intro p e s m args below meth c s₁ B hml hv
  obtain ⟨rfl, hP, hK⟩ := hv
  have hx := B.exec
  have hb := B.bytes
  have hr := B.returns
  have hts := atoms_spec (ws := wsX4_passes) B.pre
  have hown : s.vm.findClass RX4 = some m.cls := findClass_of_methodNamed B.named
  have hlocks := B.notSynchronized
  have hf4 := fun (w : Cond) (h : w ∈ wsX40) => hts w ((by decide +kernel : ∀ w ∈ wsX40, w ∈ wsX4_passes) w h)
  have hD := wM_D (cy := cy) hj
  have hS : va_S (AM bd) s.heap s.heap [] := va_S.rf
  have hl := lv_entry ([.ref (bd 0)]) (n := 2) (Nat.le_of_ble_eq_true rfl)
  rw [lg_entry_eq]
  generalize (lg_sl ([.ref (bd 0)]) ++ List.replicate (2 - (lg_sl ([.ref (bd 0)])).length) Slot.unset).toArray = ls at hl ⊢
  have hl : lv_has ls 2 [(0, .ref (bd 0))] := hl
  refine lv_aload_n hx hb dX4_passes_0 rfl (lv_at hl 0 rfl) ?_
  refine lv_dup hx hb dX4_passes_1 rfl ?_
  refine rgO0 hx hb hf4 hown hK hP (hts (.fieldLink RX4 96 "MachineFoundryModel" "now" "I") (by decide +kernel)) (rfl) dX4_passes_2 ?_
  refine lv_iconst (v := 1) hx hb dX4_passes_5 (by decide) ?_
  refine lv_iadd hx hb dX4_passes_6 ?_
  refine rpO0 hx hb hf4 hown hK hP hD hS (hts (.fieldLink RX4 96 "MachineFoundryModel" "now" "I") (by decide +kernel)) dX4_passes_7 (fun H locs hP hS => ?_)
  have hW1 : WB (up2 τ 0 0 ((τ 0 0) + 1)) 112 := WB.hour hw
  have hF1 : FI (up2 τ 0 0 ((τ 0 0) + 1)) := FI.hour hF
  refine lv_iconst (v := 0) hx hb dX4_passes_10 (by decide) ?_
  refine lv_istore_n (lv' := [(1, .int 0), (0, .ref (bd 0))]) hx hb dX4_passes_11 rfl hl (by decide) rfl (fun ls hl => ?_)
  have hl0 : lv_has ls 2 [(1, .int (nI 0)), (0, .ref (bd 0))] := lv_sub hl [0, 1] rfl
  have hP0 : va_P D vwCl (wM cy bd (tFO (up2 τ 0 0 ((τ 0 0) + 1)) 0)) _ := hP
  refine w_loopM 16 (fun k => [(1, .int (nI k)), (0, .ref (bd 0))]) (fun k => va_P D vwCl (wM cy bd (tFO (up2 τ 0 0 ((τ 0 0) + 1)) k))) 0 (Nat.zero_le _) hl0 hP0 hS (fun H locs ls hl hP hS => ?_) (fun k hk0 hk H locs ls hl hP hS ih => ?_)
  · have hl : lv_has ls 2 [(1, .int (nI 16)), (0, .ref (bd 0))] := hl
    have hP : va_P D vwCl (wM cy bd (tFO (up2 τ 0 0 ((τ 0 0) + 1)) 16)) H := hP
    refine lv_iload_n hx hb dX4_passes_12 rfl (lv_at hl 0 rfl) ?_
    refine lv_bipush (v := 16) hx hb dX4_passes_13 (by decide) ?_
    refine lv_icmp_ge (tgt := 38) hx hb dX4_passes_15 (by decide) (fun c_1 => ?_) (fun c_1 => absurd ((show (16 : Int32) ≤ nI 16 from nI_le (a := 16) (b := 16) (Nat.le_refl 16) (by decide))) c_1)
    refine lv_iconst (v := 0) hx hb dX4_passes_38 (by decide) ?_
    refine lv_istore_n (lv' := [(1, .int 0), (0, .ref (bd 0))]) hx hb dX4_passes_39 rfl hl (by decide) rfl (fun ls hl => ?_)
    have hl0 : lv_has ls 2 [(1, .int (nI 0)), (0, .ref (bd 0))] := lv_sub hl [0, 1] rfl
    have hP0 : va_P D vwCl (wM cy bd (tWD (tFO (up2 τ 0 0 ((τ 0 0) + 1)) 16) 0)) _ := hP
    refine w_loopM 16 (fun k => [(1, .int (nI k)), (0, .ref (bd 0))]) (fun k => va_P D vwCl (wM cy bd (tWD (tFO (up2 τ 0 0 ((τ 0 0) + 1)) 16) k))) 0 (Nat.zero_le _) hl0 hP0 hS (fun H locs ls hl hP hS => ?_) (fun k hk0 hk H locs ls hl hP hS ih => ?_)
    · have hl : lv_has ls 2 [(1, .int (nI 16)), (0, .ref (bd 0))] := hl
      have hP : va_P D vwCl (wM cy bd (tWD (tFO (up2 τ 0 0 ((τ 0 0) + 1)) 16) 16)) H := hP
      refine lv_iload_n hx hb dX4_passes_40 rfl (lv_at hl 0 rfl) ?_
      refine lv_bipush (v := 16) hx hb dX4_passes_41 (by decide) ?_
      refine lv_icmp_ge (tgt := 67) hx hb dX4_passes_43 (by decide) (fun c_2 => ?_) (fun c_2 => absurd ((show (16 : Int32) ≤ nI 16 from nI_le (a := 16) (b := 16) (Nat.le_refl 16) (by decide))) c_2)
      refine lv_iconst (v := 0) hx hb dX4_passes_67 (by decide) ?_
      refine lv_istore_n (lv' := [(1, .int 0), (0, .ref (bd 0))]) hx hb dX4_passes_68 rfl hl (by decide) rfl (fun ls hl => ?_)
      have hl0 : lv_has ls 2 [(1, .int (nI 0)), (0, .ref (bd 0))] := lv_sub hl [0, 1] rfl
      have hP0 : va_P D vwCl (wM cy bd (tQR (tWD (tFO (up2 τ 0 0 ((τ 0 0) + 1)) 16) 16) 0)) _ := hP
      refine w_loopM 16 (fun k => [(1, .int (nI k)), (0, .ref (bd 0))]) (fun k => va_P D vwCl (wM cy bd (tQR (tWD (tFO (up2 τ 0 0 ((τ 0 0) + 1)) 16) 16) k))) 0 (Nat.zero_le _) hl0 hP0 hS (fun H locs ls hl hP hS => ?_) (fun k hk0 hk H locs ls hl hP hS ih => ?_)
      · have hl : lv_has ls 2 [(1, .int (nI 16)), (0, .ref (bd 0))] := hl
        have hP : va_P D vwCl (wM cy bd (tQR (tWD (tFO (up2 τ 0 0 ((τ 0 0) + 1)) 16) 16) 16)) H := hP
        refine lv_iload_n hx hb dX4_passes_69 rfl (lv_at hl 0 rfl) ?_
        refine lv_bipush (v := 16) hx hb dX4_passes_70 (by decide) ?_
        refine lv_icmp_ge (tgt := 95) hx hb dX4_passes_72 (by decide) (fun c_3 => ?_) (fun c_3 => absurd ((show (16 : Int32) ≤ nI 16 from nI_le (a := 16) (b := 16) (Nat.le_refl 16) (by decide))) c_3)
        refine lv_aload_n hx hb dX4_passes_95 rfl (lv_at hl 1 rfl) ?_
        refine cMv (va_runV (As := []) (rest := []) ⟨hx, hb, hml, hown, hts⟩ (c_X4_begins l D cy bd hj (tQR (tWD (tFO (up2 τ 0 0 ((τ 0 0) + 1)) 16) 16) 16) (WB.le (WB.le (WB.qr (b := 64) (WB.le (WB.wd (b := 80) (WB.le (WB.fo (b := 96) hW1 16 (by omega)) (by omega)) 16 (by omega)) (by omega)) 16 (by omega)) (by omega : 64 ≤ 64 + (16 - 16))) (by omega))) (cwV 0 hts gX4_passes_X4_begins rfl rfl rfl (by decide +kernel) ⟨Nat.le_of_ble_eq_true rfl, Nat.le_of_ble_eq_true rfl⟩) ⟨mw_bl, (mw_O hP hK), (mw_at hP hK)⟩ rfl rfl hl.1 rfl (lv_room (Nat.le_of_ble_eq_true rfl)) dX4_passes_96 ⟨Nat.le_of_ble_eq_true rfl, Nat.le_of_ble_eq_true rfl⟩) hS (fun H locs hP hS => ?_)
        refine W.eq (g2 := F0 m 99 ls []) rfl ?_
        have e8 : tPass τ = tBegins (tQR (tWD (tFO (up2 τ 0 0 ((τ 0 0) + 1)) 16) 16) 16) := by rfl
        rw [← e8] at hP
        exact W.vret hx hb hr (fun t ht hW => ⟨⟨(), rfl, trivial, by rw [← ht] at hP; exact hP⟩, hS.F ht⟩) hS.2.2 dX4_passes_99
      · have hl : lv_has ls 2 [(1, .int (nI k)), (0, .ref (bd 0))] := hl
        have hP : va_P D vwCl (wM cy bd (tQR (tWD (tFO (up2 τ 0 0 ((τ 0 0) + 1)) 16) 16) k)) H := hP
        refine lv_iload_n hx hb dX4_passes_69 rfl (lv_at hl 0 rfl) ?_
        refine lv_bipush (v := 16) hx hb dX4_passes_70 (by decide) ?_
        refine lv_icmp_ge (tgt := 95) hx hb dX4_passes_72 (by decide) (fun c_4 => absurd c_4 ((show ¬ (16 : Int32) ≤ nI k from nI_ge (a := k) (b := 16) hk (by decide)))) (fun c_4 => ?_)
        refine lv_aload_n hx hb dX4_passes_75 rfl (lv_at hl 1 rfl) ?_
        refine lv_iload_n hx hb dX4_passes_76 rfl (lv_at hl 0 rfl) ?_
        refine lv_iconst (v := 4) hx hb dX4_passes_77 (by decide) ?_
        refine cS (W.runV (As := [.int (nI k), .int 4]) (rest := []) ⟨hx, hb, hml, hown, hts⟩ (c_X4_isOver l D cy bd (tQR (tWD (tFO (up2 τ 0 0 ((τ 0 0) + 1)) 16) 16) k) k hk 4) (cwV 2 hts gX4_passes_X4_isOver rfl rfl rfl (by decide +kernel) ⟨Nat.le_of_ble_eq_true rfl, Nat.le_of_ble_eq_true rfl⟩) ⟨mw_bl, (mw_O hP hK), (mw_at hP hK)⟩ rfl rfl hl.1 rfl (lv_room (Nat.le_of_ble_eq_true rfl)) dX4_passes_78 ⟨Nat.le_of_ble_eq_true rfl, Nat.le_of_ble_eq_true rfl⟩) (fun _ _ => ?_)
        refine W.eq (g2 := F0 m 81 ls [.int (b2i (tOv (tQR (tWD (tFO (up2 τ 0 0 ((τ 0 0) + 1)) 16) 16) k) k 4))]) rfl ?_
        refine lv_if_eq (tgt := 89) hx hb dX4_passes_81 (by decide) (fun c_5 => ?_) (fun c_5 => ?_)
        · replace c_5 := b2i_0.mp c_5
          refine lv_iinc (v := nI (k + 1)) (lv' := [(1, .int (nI (k + 1))), (0, .ref (bd 0))]) hx hb dX4_passes_89 hl (k := 0) rfl (nI_1 k) (by decide) rfl (fun ls hl => ?_)
          refine lv_goto (tgt := 69) hx hb dX4_passes_92 (by decide) ?_
          have e6 : tQR (tWD (tFO (up2 τ 0 0 ((τ 0 0) + 1)) 16) 16) (k + 1) = tQR (tWD (tFO (up2 τ 0 0 ((τ 0 0) + 1)) 16) 16) k := by simp [tQR, c_5]
          exact ih H locs ls (lv_sub hl [0, 1] rfl) (by rw [e6]; exact hP) hS
        · replace c_5 := b2i_n0.mp c_5
          refine lv_aload_n hx hb dX4_passes_84 rfl (lv_at hl 1 rfl) ?_
          refine lv_iload_n hx hb dX4_passes_85 rfl (lv_at hl 0 rfl) ?_
          refine cMv (va_runV (As := [.int (nI k)]) (rest := []) ⟨hx, hb, hml, hown, hts⟩ (c_X4_queues l D cy bd hj (tQR (tWD (tFO (up2 τ 0 0 ((τ 0 0) + 1)) 16) 16) k) k hk (WB.nn (WB.qr (b := 64) (WB.le (WB.wd (b := 80) (WB.le (WB.fo (b := 96) hW1 16 (by omega)) (by omega)) 16 (by omega)) (by omega)) k (by omega)))) (cwV 1 hts gX4_passes_X4_queues rfl rfl rfl (by decide +kernel) ⟨Nat.le_of_ble_eq_true rfl, Nat.le_of_ble_eq_true rfl⟩) ⟨mw_bl, (mw_O hP hK), (mw_at hP hK)⟩ rfl rfl hl.1 rfl (lv_room (Nat.le_of_ble_eq_true rfl)) dX4_passes_86 ⟨Nat.le_of_ble_eq_true rfl, Nat.le_of_ble_eq_true rfl⟩) hS (fun H locs hP hS => ?_)
          refine W.eq (g2 := F0 m 89 ls []) rfl ?_
          refine lv_iinc (v := nI (k + 1)) (lv' := [(1, .int (nI (k + 1))), (0, .ref (bd 0))]) hx hb dX4_passes_89 hl (k := 0) rfl (nI_1 k) (by decide) rfl (fun ls hl => ?_)
          refine lv_goto (tgt := 69) hx hb dX4_passes_92 (by decide) ?_
          have e6 : tQR (tWD (tFO (up2 τ 0 0 ((τ 0 0) + 1)) 16) 16) (k + 1) = tQueue (tQR (tWD (tFO (up2 τ 0 0 ((τ 0 0) + 1)) 16) 16) k) k := by simp [tQR, c_5]
          exact ih H locs ls (lv_sub hl [0, 1] rfl) (by rw [e6]; exact hP) hS
    · have hl : lv_has ls 2 [(1, .int (nI k)), (0, .ref (bd 0))] := hl
      have hP : va_P D vwCl (wM cy bd (tWD (tFO (up2 τ 0 0 ((τ 0 0) + 1)) 16) k)) H := hP
      refine lv_iload_n hx hb dX4_passes_40 rfl (lv_at hl 0 rfl) ?_
      refine lv_bipush (v := 16) hx hb dX4_passes_41 (by decide) ?_
      refine lv_icmp_ge (tgt := 67) hx hb dX4_passes_43 (by decide) (fun c_6 => absurd c_6 ((show ¬ (16 : Int32) ≤ nI k from nI_ge (a := k) (b := 16) hk (by decide)))) (fun c_6 => ?_)
      refine lv_aload_n hx hb dX4_passes_46 rfl (lv_at hl 1 rfl) ?_
      refine lv_iload_n hx hb dX4_passes_47 rfl (lv_at hl 0 rfl) ?_
      refine lv_bipush (v := 6) hx hb dX4_passes_48 (by decide) ?_
      refine cS (W.runV (As := [.int (nI k), .int 6]) (rest := []) ⟨hx, hb, hml, hown, hts⟩ (c_X4_isOver l D cy bd (tWD (tFO (up2 τ 0 0 ((τ 0 0) + 1)) 16) k) k hk 6) (cwV 2 hts gX4_passes_X4_isOver rfl rfl rfl (by decide +kernel) ⟨Nat.le_of_ble_eq_true rfl, Nat.le_of_ble_eq_true rfl⟩) ⟨mw_bl, (mw_O hP hK), (mw_at hP hK)⟩ rfl rfl hl.1 rfl (lv_room (Nat.le_of_ble_eq_true rfl)) dX4_passes_50 ⟨Nat.le_of_ble_eq_true rfl, Nat.le_of_ble_eq_true rfl⟩) (fun _ _ => ?_)
      refine W.eq (g2 := F0 m 53 ls [.int (b2i (tOv (tWD (tFO (up2 τ 0 0 ((τ 0 0) + 1)) 16) k) k 6))]) rfl ?_
      refine lv_if_eq (tgt := 61) hx hb dX4_passes_53 (by decide) (fun c_7 => ?_) (fun c_7 => ?_)
      · replace c_7 := b2i_0.mp c_7
        refine lv_iinc (v := nI (k + 1)) (lv' := [(1, .int (nI (k + 1))), (0, .ref (bd 0))]) hx hb dX4_passes_61 hl (k := 0) rfl (nI_1 k) (by decide) rfl (fun ls hl => ?_)
        refine lv_goto (tgt := 40) hx hb dX4_passes_64 (by decide) ?_
        have e6 : tWD (tFO (up2 τ 0 0 ((τ 0 0) + 1)) 16) (k + 1) = tWD (tFO (up2 τ 0 0 ((τ 0 0) + 1)) 16) k := by simp [tWD, c_7]
        exact ih H locs ls (lv_sub hl [0, 1] rfl) (by rw [e6]; exact hP) hS
      · replace c_7 := b2i_n0.mp c_7
        refine lv_aload_n hx hb dX4_passes_56 rfl (lv_at hl 1 rfl) ?_
        refine lv_iload_n hx hb dX4_passes_57 rfl (lv_at hl 0 rfl) ?_
        refine cMv (va_runV (As := [.int (nI k)]) (rest := []) ⟨hx, hb, hml, hown, hts⟩ (c_X4_wiped l D cy bd hj (tWD (tFO (up2 τ 0 0 ((τ 0 0) + 1)) 16) k) k hk (WB.nn (WB.wd (b := 80) (WB.le (WB.fo (b := 96) hW1 16 (by omega)) (by omega)) k (by omega)))) (cwV 1 hts gX4_passes_X4_wiped rfl rfl rfl (by decide +kernel) ⟨Nat.le_of_ble_eq_true rfl, Nat.le_of_ble_eq_true rfl⟩) ⟨mw_bl, (mw_O hP hK), (mw_at hP hK)⟩ rfl rfl hl.1 rfl (lv_room (Nat.le_of_ble_eq_true rfl)) dX4_passes_58 ⟨Nat.le_of_ble_eq_true rfl, Nat.le_of_ble_eq_true rfl⟩) hS (fun H locs hP hS => ?_)
        refine W.eq (g2 := F0 m 61 ls []) rfl ?_
        refine lv_iinc (v := nI (k + 1)) (lv' := [(1, .int (nI (k + 1))), (0, .ref (bd 0))]) hx hb dX4_passes_61 hl (k := 0) rfl (nI_1 k) (by decide) rfl (fun ls hl => ?_)
        refine lv_goto (tgt := 40) hx hb dX4_passes_64 (by decide) ?_
        have e6 : tWD (tFO (up2 τ 0 0 ((τ 0 0) + 1)) 16) (k + 1) = tWiped (tWD (tFO (up2 τ 0 0 ((τ 0 0) + 1)) 16) k) k := by simp [tWD, c_7]
        exact ih H locs ls (lv_sub hl [0, 1] rfl) (by rw [e6]; exact hP) hS
  · have hl : lv_has ls 2 [(1, .int (nI k)), (0, .ref (bd 0))] := hl
    have hP : va_P D vwCl (wM cy bd (tFO (up2 τ 0 0 ((τ 0 0) + 1)) k)) H := hP
    refine lv_iload_n hx hb dX4_passes_12 rfl (lv_at hl 0 rfl) ?_
    refine lv_bipush (v := 16) hx hb dX4_passes_13 (by decide) ?_
    refine lv_icmp_ge (tgt := 38) hx hb dX4_passes_15 (by decide) (fun c_8 => absurd c_8 ((show ¬ (16 : Int32) ≤ nI k from nI_ge (a := k) (b := 16) hk (by decide)))) (fun c_8 => ?_)
    refine lv_aload_n hx hb dX4_passes_18 rfl (lv_at hl 1 rfl) ?_
    refine lv_iload_n hx hb dX4_passes_19 rfl (lv_at hl 0 rfl) ?_
    refine lv_iconst (v := 3) hx hb dX4_passes_20 (by decide) ?_
    refine cS (W.runV (As := [.int (nI k), .int 3]) (rest := []) ⟨hx, hb, hml, hown, hts⟩ (c_X4_isOver l D cy bd (tFO (up2 τ 0 0 ((τ 0 0) + 1)) k) k hk 3) (cwV 2 hts gX4_passes_X4_isOver rfl rfl rfl (by decide +kernel) ⟨Nat.le_of_ble_eq_true rfl, Nat.le_of_ble_eq_true rfl⟩) ⟨mw_bl, (mw_O hP hK), (mw_at hP hK)⟩ rfl rfl hl.1 rfl (lv_room (Nat.le_of_ble_eq_true rfl)) dX4_passes_21 ⟨Nat.le_of_ble_eq_true rfl, Nat.le_of_ble_eq_true rfl⟩) (fun _ _ => ?_)
    refine W.eq (g2 := F0 m 24 ls [.int (b2i (tOv (tFO (up2 τ 0 0 ((τ 0 0) + 1)) k) k 3))]) rfl ?_
    refine lv_if_eq (tgt := 32) hx hb dX4_passes_24 (by decide) (fun c_9 => ?_) (fun c_9 => ?_)
    · replace c_9 := b2i_0.mp c_9
      refine lv_iinc (v := nI (k + 1)) (lv' := [(1, .int (nI (k + 1))), (0, .ref (bd 0))]) hx hb dX4_passes_32 hl (k := 0) rfl (nI_1 k) (by decide) rfl (fun ls hl => ?_)
      refine lv_goto (tgt := 12) hx hb dX4_passes_35 (by decide) ?_
      have e6 : tFO (up2 τ 0 0 ((τ 0 0) + 1)) (k + 1) = tFO (up2 τ 0 0 ((τ 0 0) + 1)) k := by simp [tFO, c_9]
      exact ih H locs ls (lv_sub hl [0, 1] rfl) (by rw [e6]; exact hP) hS
    · replace c_9 := b2i_n0.mp c_9
      refine lv_aload_n hx hb dX4_passes_27 rfl (lv_at hl 1 rfl) ?_
      refine lv_iload_n hx hb dX4_passes_28 rfl (lv_at hl 0 rfl) ?_
      obtain ⟨n10, hn10a, hn10b, -⟩ := (show FI (tFO (up2 τ 0 0 ((τ 0 0) + 1)) k) from (FI.fo hF1 k (by omega))).1 k hk
      refine cMv (va_runV (As := [.int (nI k)]) (rest := []) ⟨hx, hb, hml, hown, hts⟩ (c_X4_fails l D cy bd hj (tFO (up2 τ 0 0 ((τ 0 0) + 1)) k) k hk (WB.nn (WB.fo (b := 96) hW1 k (by omega))) n10 (by omega) hn10b) (cwV 1 hts gX4_passes_X4_fails rfl rfl rfl (by decide +kernel) ⟨Nat.le_of_ble_eq_true rfl, Nat.le_of_ble_eq_true rfl⟩) ⟨mw_bl, (mw_O hP hK), (mw_at hP hK)⟩ rfl rfl hl.1 rfl (lv_room (Nat.le_of_ble_eq_true rfl)) dX4_passes_29 ⟨Nat.le_of_ble_eq_true rfl, Nat.le_of_ble_eq_true rfl⟩) hS (fun H locs hP hS => ?_)
      refine W.eq (g2 := F0 m 32 ls []) rfl ?_
      refine lv_iinc (v := nI (k + 1)) (lv' := [(1, .int (nI (k + 1))), (0, .ref (bd 0))]) hx hb dX4_passes_32 hl (k := 0) rfl (nI_1 k) (by decide) rfl (fun ls hl => ?_)
      refine lv_goto (tgt := 12) hx hb dX4_passes_35 (by decide) ?_
      have e6 : tFO (up2 τ 0 0 ((τ 0 0) + 1)) (k + 1) = tFail (tFO (up2 τ 0 0 ((τ 0 0) + 1)) k) k := by simp [tFO, c_9]
      exact ih H locs ls (lv_sub hl [0, 1] rfl) (by rw [e6]; exact hP) hS
