set_option maxHeartbeats 4000000 in
set_option maxRecDepth 100000 in
/-- match -/
theorem c_L_match (l : Launch) (hst : l.stackTraces = false) (D : va_G) (cy : Nat → ClassId) (ad : Nat → Nat) (σ : Mem) (sz : Nat) (qa qm : Nat) (fa fm fb : Nat → Int32) (i : Nat) (hi : i < 16) (hs7 : ∃ s8, s8 ≤ 7 ∧ σ 1 i = nI s8) (hT : Tell fa fm fb σ) : Met l yL_match wsL_match ({ frames := 9, cells := 8, slots := 48, locals := 146 }) (va_Pc [.ref (ad 0), .ref qa, .ref qm, .int (nI i)] (aX D cy ad σ sz qa 64 fa qm 48 fm)) (QI (oI (sBst σ i)) (fun _ => True) NoA) 8 48 NoA := by
  refine Met.ofW (cc := cL_match) (maxL := 7) (ret := (some .int)) (by decide) rfl ?_
  intro p e s m args below meth c s₁ B hml hv
  obtain ⟨rfl, ⟨⟨hP, hK⟩, hxk⟩, hPa, hPm⟩ := hv
  have hx := B.exec
  have hb := B.bytes
  have hr := B.returns
  have hts := atoms_spec (ws := wsL_match) B.pre
  have hown : s.vm.findClass RL = some m.cls := findClass_of_methodNamed B.named
  have hlocks := B.notSynchronized
  have hS : va_S NoA s.heap s.heap [] := va_S.rf
  have hl := lv_entry ([.ref (ad 0), .ref qa, .ref qm, .int (nI i)]) (n := 7) (Nat.le_of_ble_eq_true rfl)
  rw [lg_entry_eq]
  generalize (lg_sl ([.ref (ad 0), .ref qa, .ref qm, .int (nI i)]) ++ List.replicate (7 - (lg_sl ([.ref (ad 0), .ref qa, .ref qm, .int (nI i)])).length) Slot.unset).toArray = ls at hl ⊢
  have hl : lv_has ls 7 [(0, .ref (ad 0)), (1, .ref qa), (2, .ref qm), (3, .int (nI i))] := hl
  refine lv_iconst (v := (-1)) hx hb dL_match_0 (by decide) ?_
  refine lv_istore (lv' := [(4, .int (-1)), (0, .ref (ad 0)), (1, .ref qa), (2, .ref qm), (3, .int (nI i))]) hx hb dL_match_1 hl (by decide) rfl (fun ls hl => ?_)
  refine lv_bipush (v := 7) hx hb dL_match_3 (by decide) ?_
  refine lv_istore (lv' := [(5, .int 7), (4, .int (-1)), (0, .ref (ad 0)), (1, .ref qa), (2, .ref qm), (3, .int (nI i))]) hx hb dL_match_5 hl (by decide) rfl (fun ls hl => ?_)
  have hl0 : lv_has ls 7 [(5, .int (dn 0)), (4, .int (oI (bsd (fun k => sMt σ k i) (σ 12) 0))), (0, .ref (ad 0)), (1, .ref qa), (2, .ref qm), (3, .int (nI i))] := lv_sub hl [0, 1, 2, 3, 4, 5] rfl
  refine w_loopG 8 (0) 1 (0) 6 (fun k H => va_P D vwCl (wC cy ad σ) H ∧ va_P D vwCl [aW cy qa 64 fa] H ∧ va_P D vwCl [aW cy qm 48 fm] H) (fun k => [(5, .int (dn k)), (4, .int (oI (bsd (fun k => sMt σ k i) (σ 12) k))), (0, .ref (ad 0)), (1, .ref qa), (2, .ref qm), (3, .int (nI i))]) hl0 ⟨hP, hPa, hPm⟩ hS (Nat.le_refl _) (Nat.le_refl _) (fun H locs ls hl hG hS => ?_) (fun k hk H locs ls hl hG hS ih => ?_)
  · have hl : lv_has ls 7 [(5, .int (dn 8)), (4, .int (oI (bsd (fun k => sMt σ k i) (σ 12) 8))), (0, .ref (ad 0)), (1, .ref qa), (2, .ref qm), (3, .int (nI i))] := hl
    obtain ⟨hP, hPa, hPm⟩ := hG
    rw [show dn 8 = -1 from rfl] at hl
    have hl : lv_has ls 7 [(5, .int (-1)), (4, .int (oI (bsd (fun k => sMt σ k i) (σ 12) 8))), (0, .ref (ad 0)), (1, .ref qa), (2, .ref qm), (3, .int (nI i))] := hl
    rw [bsd_bst] at hl
    have hl : lv_has ls 7 [(5, .int (-1)), (4, .int (oI (sBst σ i))), (0, .ref (ad 0)), (1, .ref qa), (2, .ref qm), (3, .int (nI i))] := hl
    refine lv_iload hx hb dL_match_7 (lv_at hl 0 rfl) ?_
    refine lv_if_lt (tgt := 163) hx hb dL_match_9 (by decide) (fun c_1 => ?_) (fun c_1 => absurd ((by decide : (-1 : Int32) < 0)) c_1)
    refine lv_iload hx hb dL_match_163 (lv_at hl 1 rfl) ?_
    refine W.widen (k := 8) (n := 48) (by omega) (by omega) ?_
    exact W.iret (v := oI (sBst σ i)) hx hb hr (fun t ht hW => ⟨⟨_, (), rfl, rfl, trivial⟩, hS.F ht⟩) hS.2.2 dL_match_165
  · have hl : lv_has ls 7 [(5, .int (dn k)), (4, .int (oI (bsd (fun k => sMt σ k i) (σ 12) k))), (0, .ref (ad 0)), (1, .ref qa), (2, .ref qm), (3, .int (nI i))] := hl
    obtain ⟨hP, hPa, hPm⟩ := hG
    have ih7 := ih
    rw [dn_lt hk] at hl
    have hl : lv_has ls 7 [(5, .int (nI (7 - k))), (4, .int (oI (bsd (fun k => sMt σ k i) (σ 12) k))), (0, .ref (ad 0)), (1, .ref qa), (2, .ref qm), (3, .int (nI i))] := hl
    rcases hbs : bsd (fun k => sMt σ k i) (σ 12) k with _ | b
    · rw [hbs] at hl
      have hl : lv_has ls 7 [(5, .int (nI (7 - k))), (4, .int (-1)), (0, .ref (ad 0)), (1, .ref qa), (2, .ref qm), (3, .int (nI i))] := hl
      by_cases h11 : σ 11 (7 - k) = 0
      · have m0 := (hT.2.1 (7 - k) (by omega)).1 h11
        refine lv_iload hx hb dL_match_7 (lv_at hl 0 rfl) ?_
        refine lv_if_lt (tgt := 163) hx hb dL_match_9 (by decide) (fun c_2 => absurd c_2 ((fun z9 => absurd ((nI_ltI (a := 7 - k) (b := 0) (by omega) (by omega)).mp z9) (by omega)))) (fun c_2 => ?_)
        refine lv_aload_n hx hb dL_match_12 rfl (lv_at hl 4 rfl) ?_
        refine lv_bipush (v := 6) hx hb dL_match_13 (by decide) ?_
        refine lv_iload hx hb dL_match_15 (lv_at hl 0 rfl) ?_
        refine lv_imul hx hb dL_match_17 ?_
        refine W.eq (congrArg (fun z9 => F0 m 18 ls [.int z9, .ref qm]) (pk_mul 6 (7 - k))) ?_
        refine raW (x := (-1)) hx hb hK hPm (show 6 * (7 - k) < 48 by omega) (by decide) m0 dL_match_18 ?_
        refine lv_if_lt (tgt := 118) hx hb dL_match_19 (by decide) (fun c_3 => ?_) (fun c_3 => absurd ((by decide : (-1 : Int32) < 0)) c_3)
        refine lv_iconst (v := 0) hx hb dL_match_118 (by decide) ?_
        refine lv_istore (lv' := [(6, .int 0), (5, .int (nI (7 - k))), (4, .int (-1)), (0, .ref (ad 0)), (1, .ref qa), (2, .ref qm), (3, .int (nI i))]) hx hb dL_match_119 hl (by decide) rfl (fun ls hl => ?_)
        refine lv_iload hx hb dL_match_121 (lv_at hl 0 rfl) ?_
        refine lv_if_eq (tgt := 153) hx hb dL_match_123 (by decide) (fun c_4 => ?_) (fun c_4 => absurd ((by decide : (0 : Int32) = 0)) c_4)
        refine lv_iload hx hb dL_match_153 (lv_at hl 2 rfl) ?_
        refine lv_istore (lv' := [(4, .int (-1)), (6, .int 0), (5, .int (nI (7 - k))), (0, .ref (ad 0)), (1, .ref qa), (2, .ref qm), (3, .int (nI i))]) hx hb dL_match_155 hl (by decide) rfl (fun ls hl => ?_)
        refine lv_iinc (v := dn (k + 1)) (lv' := [(5, .int (dn (k + 1))), (4, .int (-1)), (6, .int 0), (0, .ref (ad 0)), (1, .ref qa), (2, .ref qm), (3, .int (nI i))]) hx hb dL_match_157 hl (k := 2) rfl (dn_s hk) (by decide) rfl (fun ls hl => ?_)
        refine lv_goto (tgt := 7) hx hb dL_match_160 (by decide) ?_
        have hmt : sMt σ (7 - k) i = false := by simp [sMt, h11, c_2, c_3]
        have hnx : bsd (fun k => sMt σ k i) (σ 12) (k + 1) = none := (bsd_n hmt).trans hbs
        have e70 : oI (bsd (fun k => sMt σ k i) (σ 12) (k + 1)) = (-1) := by rw [hnx]; rfl
        exact ih7 H locs ls _ _ (by omega) (by omega) (show lv_has ls 7 [(5, .int (dn (k + 1))), (4, .int (oI (bsd (fun k => sMt σ k i) (σ 12) (k + 1)))), (0, .ref (ad 0)), (1, .ref qa), (2, .ref qm), (3, .int (nI i))] from by rw [e70]; exact lv_sub hl [0, 1, 3, 4, 5, 6] rfl) ⟨hP, hPa, hPm⟩ hS
      · obtain ⟨mn, m0, m1, m2, m3, m4, m5⟩ := (hT.2.1 (7 - k) (by omega)).2 h11
        have mn2 : ¬ σ 12 (7 - k) < 0 := by rw [← m0]; exact mn
        refine lv_iload hx hb dL_match_7 (lv_at hl 0 rfl) ?_
        refine lv_if_lt (tgt := 163) hx hb dL_match_9 (by decide) (fun c_5 => absurd c_5 ((fun z9 => absurd ((nI_ltI (a := 7 - k) (b := 0) (by omega) (by omega)).mp z9) (by omega)))) (fun c_5 => ?_)
        refine lv_aload_n hx hb dL_match_12 rfl (lv_at hl 4 rfl) ?_
        refine lv_bipush (v := 6) hx hb dL_match_13 (by decide) ?_
        refine lv_iload hx hb dL_match_15 (lv_at hl 0 rfl) ?_
        refine lv_imul hx hb dL_match_17 ?_
        refine W.eq (congrArg (fun z9 => F0 m 18 ls [.int z9, .ref qm]) (pk_mul 6 (7 - k))) ?_
        refine raW (x := σ 12 (7 - k)) hx hb hK hPm (show 6 * (7 - k) < 48 by omega) (by decide) m0 dL_match_18 ?_
        refine lv_if_lt (tgt := 118) hx hb dL_match_19 (by decide) (fun c_6 => absurd c_6 (mn2)) (fun c_6 => ?_)
        refine lv_aload_n hx hb dL_match_22 rfl (lv_at hl 2 rfl) ?_
        refine lv_iload_n hx hb dL_match_23 rfl (lv_at hl 5 rfl) ?_
        refine rMi (vx_runSW (As := [.ref (ad 0), .int (nI i)]) (rest := []) ⟨hx, hb, hml, hown, hts⟩ (c_L_stateOf l hst D cy ad σ sz (nI i) (σ 1 i) (wS hi)) (vx_cwSW 2 hts gL_match_L_stateOf rfl rfl rfl (by decide +kernel) ⟨Nat.le_of_ble_eq_true rfl, Nat.le_of_ble_eq_true rfl⟩) ⟨cx_bl, cx_S hP hK NoA_z hxk hS⟩ rfl rfl hl.1 rfl (lv_room (Nat.le_of_ble_eq_true rfl)) dL_match_24 ⟨by show _ ≤ 8; omega, by show _ ≤ 48; omega⟩) hS (fun H locs hS hg => ?_)
        have hP := hP.grown hg
        have hPa := hPa.grown hg
        have hPm := hPm.grown hg
        refine W.eq (g2 := F0 m 27 ls [.int (σ 1 i)]) rfl ?_
        by_cases hs0 : σ 1 i = 0
        · refine W.eq (g2 := F0 m 27 ls [.int 0]) (by rw [hs0]) ?_
          refine lv_if_le (tgt := 118) hx hb dL_match_27 (by decide) (fun c_7 => ?_) (fun c_7 => absurd ((Int32.le_refl _)) c_7)
          refine lv_iconst (v := 0) hx hb dL_match_118 (by decide) ?_
          refine lv_istore (lv' := [(6, .int 0), (5, .int (nI (7 - k))), (4, .int (-1)), (0, .ref (ad 0)), (1, .ref qa), (2, .ref qm), (3, .int (nI i))]) hx hb dL_match_119 hl (by decide) rfl (fun ls hl => ?_)
          refine lv_iload hx hb dL_match_121 (lv_at hl 0 rfl) ?_
          refine lv_if_eq (tgt := 153) hx hb dL_match_123 (by decide) (fun c_8 => ?_) (fun c_8 => absurd ((by decide : (0 : Int32) = 0)) c_8)
          refine lv_iload hx hb dL_match_153 (lv_at hl 2 rfl) ?_
          refine lv_istore (lv' := [(4, .int (-1)), (6, .int 0), (5, .int (nI (7 - k))), (0, .ref (ad 0)), (1, .ref qa), (2, .ref qm), (3, .int (nI i))]) hx hb dL_match_155 hl (by decide) rfl (fun ls hl => ?_)
          refine lv_iinc (v := dn (k + 1)) (lv' := [(5, .int (dn (k + 1))), (4, .int (-1)), (6, .int 0), (0, .ref (ad 0)), (1, .ref qa), (2, .ref qm), (3, .int (nI i))]) hx hb dL_match_157 hl (k := 2) rfl (dn_s hk) (by decide) rfl (fun ls hl => ?_)
          refine lv_goto (tgt := 7) hx hb dL_match_160 (by decide) ?_
          have hmt : sMt σ (7 - k) i = false := by simp [sMt, h11, c_5, c_6, hs0, c_7]
          have hnx : bsd (fun k => sMt σ k i) (σ 12) (k + 1) = none := (bsd_n hmt).trans hbs
          have e70 : oI (bsd (fun k => sMt σ k i) (σ 12) (k + 1)) = (-1) := by rw [hnx]; rfl
          exact ih7 H locs ls _ _ (by omega) (by omega) (show lv_has ls 7 [(5, .int (dn (k + 1))), (4, .int (oI (bsd (fun k => sMt σ k i) (σ 12) (k + 1)))), (0, .ref (ad 0)), (1, .ref qa), (2, .ref qm), (3, .int (nI i))] from by rw [e70]; exact lv_sub hl [0, 1, 3, 4, 5, 6] rfl) ⟨hP, hPa, hPm⟩ hS
        · refine lv_if_le (tgt := 118) hx hb dL_match_27 (by decide) (fun c_9 => absurd c_9 ((fun z9 => by obtain ⟨s8, hs8, es8⟩ := hs7; rw [es8] at z9; exact hs0 (by rw [es8]; rw [show s8 = 0 from Nat.le_zero.mp ((nI_leI (a := s8) (b := 0) (by omega) (by omega)).mp z9)]; rfl)))) (fun c_9 => ?_)
          refine lv_aload_n hx hb dL_match_30 rfl (lv_at hl 3 rfl) ?_
          refine lv_iconst (v := 4) hx hb dL_match_31 (by decide) ?_
          refine lv_iload_n hx hb dL_match_32 rfl (lv_at hl 5 rfl) ?_
          refine lv_imul hx hb dL_match_33 ?_
          refine W.eq (congrArg (fun z9 => F0 m 34 ls [.int z9, .ref qa]) (pk_mul 4 i)) ?_
          refine lv_iconst (v := 1) hx hb dL_match_34 (by decide) ?_
          refine lv_iadd hx hb dL_match_35 ?_
          refine W.eq (congrArg (fun z9 => F0 m 36 ls [.int z9, .ref qa]) (nI_add (4 * i) 1)) ?_
          refine raW (x := σ 3 i) hx hb hK hPa (show 4 * i + 1 < 64 by omega) (by decide) ((hT.1 i hi).2.1) dL_match_36 ?_
          refine lv_aload_n hx hb dL_match_37 rfl (lv_at hl 4 rfl) ?_
          refine lv_bipush (v := 6) hx hb dL_match_38 (by decide) ?_
          refine lv_iload hx hb dL_match_40 (lv_at hl 0 rfl) ?_
          refine lv_imul hx hb dL_match_42 ?_
          refine W.eq (congrArg (fun z9 => F0 m 43 ls [.int z9, .ref qm, .int (σ 3 i)]) (pk_mul 6 (7 - k))) ?_
          refine lv_iconst (v := 1) hx hb dL_match_43 (by decide) ?_
          refine lv_iadd hx hb dL_match_44 ?_
          refine W.eq (congrArg (fun z9 => F0 m 45 ls [.int z9, .ref qm, .int (σ 3 i)]) (nI_add (6 * (7 - k)) 1)) ?_
          refine raW (x := σ 13 (7 - k)) hx hb hK hPm (show 6 * (7 - k) + 1 < 48 by omega) (by decide) m1 dL_match_45 ?_
          refine lv_icmp_lt (tgt := 118) hx hb dL_match_46 (by decide) (fun c_10 => ?_) (fun c_10 => ?_)
          · have d_10 := Int32.not_le.mpr c_10
            refine lv_iconst (v := 0) hx hb dL_match_118 (by decide) ?_
            refine lv_istore (lv' := [(6, .int 0), (5, .int (nI (7 - k))), (4, .int (-1)), (0, .ref (ad 0)), (1, .ref qa), (2, .ref qm), (3, .int (nI i))]) hx hb dL_match_119 hl (by decide) rfl (fun ls hl => ?_)
            refine lv_iload hx hb dL_match_121 (lv_at hl 0 rfl) ?_
            refine lv_if_eq (tgt := 153) hx hb dL_match_123 (by decide) (fun c_11 => ?_) (fun c_11 => absurd ((by decide : (0 : Int32) = 0)) c_11)
            refine lv_iload hx hb dL_match_153 (lv_at hl 2 rfl) ?_
            refine lv_istore (lv' := [(4, .int (-1)), (6, .int 0), (5, .int (nI (7 - k))), (0, .ref (ad 0)), (1, .ref qa), (2, .ref qm), (3, .int (nI i))]) hx hb dL_match_155 hl (by decide) rfl (fun ls hl => ?_)
            refine lv_iinc (v := dn (k + 1)) (lv' := [(5, .int (dn (k + 1))), (4, .int (-1)), (6, .int 0), (0, .ref (ad 0)), (1, .ref qa), (2, .ref qm), (3, .int (nI i))]) hx hb dL_match_157 hl (k := 2) rfl (dn_s hk) (by decide) rfl (fun ls hl => ?_)
            refine lv_goto (tgt := 7) hx hb dL_match_160 (by decide) ?_
            have hmt : sMt σ (7 - k) i = false := by simp [sMt, h11, c_5, c_6, hs0, c_9, c_10, d_10]
            have hnx : bsd (fun k => sMt σ k i) (σ 12) (k + 1) = none := (bsd_n hmt).trans hbs
            have e70 : oI (bsd (fun k => sMt σ k i) (σ 12) (k + 1)) = (-1) := by rw [hnx]; rfl
            exact ih7 H locs ls _ _ (by omega) (by omega) (show lv_has ls 7 [(5, .int (dn (k + 1))), (4, .int (oI (bsd (fun k => sMt σ k i) (σ 12) (k + 1)))), (0, .ref (ad 0)), (1, .ref qa), (2, .ref qm), (3, .int (nI i))] from by rw [e70]; exact lv_sub hl [0, 1, 3, 4, 5, 6] rfl) ⟨hP, hPa, hPm⟩ hS
          · have d_10 := Int32.not_lt.mp c_10
            refine lv_aload_n hx hb dL_match_49 rfl (lv_at hl 4 rfl) ?_
            refine lv_bipush (v := 6) hx hb dL_match_50 (by decide) ?_
            refine lv_iload hx hb dL_match_52 (lv_at hl 0 rfl) ?_
            refine lv_imul hx hb dL_match_54 ?_
            refine W.eq (congrArg (fun z9 => F0 m 55 ls [.int z9, .ref qm]) (pk_mul 6 (7 - k))) ?_
            refine lv_iconst (v := 2) hx hb dL_match_55 (by decide) ?_
            refine lv_iadd hx hb dL_match_56 ?_
            refine W.eq (congrArg (fun z9 => F0 m 57 ls [.int z9, .ref qm]) (nI_add (6 * (7 - k)) 2)) ?_
            refine raW (x := σ 14 (7 - k)) hx hb hK hPm (show 6 * (7 - k) + 2 < 48 by omega) (by decide) m2 dL_match_57 ?_
            refine lv_aload_n hx hb dL_match_58 rfl (lv_at hl 3 rfl) ?_
            refine lv_iconst (v := 4) hx hb dL_match_59 (by decide) ?_
            refine lv_iload_n hx hb dL_match_60 rfl (lv_at hl 5 rfl) ?_
            refine lv_imul hx hb dL_match_61 ?_
            refine W.eq (congrArg (fun z9 => F0 m 62 ls [.int z9, .ref qa, .int (σ 14 (7 - k))]) (pk_mul 4 i)) ?_
            refine lv_iconst (v := 2) hx hb dL_match_62 (by decide) ?_
            refine lv_iadd hx hb dL_match_63 ?_
            refine W.eq (congrArg (fun z9 => F0 m 64 ls [.int z9, .ref qa, .int (σ 14 (7 - k))]) (nI_add (4 * i) 2)) ?_
            refine raW (x := σ 4 i) hx hb hK hPa (show 4 * i + 2 < 64 by omega) (by decide) ((hT.1 i hi).2.2.1) dL_match_64 ?_
            refine lv_ishr hx hb dL_match_65 ?_
            refine lv_iconst (v := 1) hx hb dL_match_66 (by decide) ?_
            refine lv_iand hx hb dL_match_67 ?_
            refine lv_iconst (v := 1) hx hb dL_match_68 (by decide) ?_
            refine lv_icmp_ne (tgt := 118) hx hb dL_match_69 (by decide) (fun c_12 => ?_) (fun c_12 => ?_)
            · refine lv_iconst (v := 0) hx hb dL_match_118 (by decide) ?_
              refine lv_istore (lv' := [(6, .int 0), (5, .int (nI (7 - k))), (4, .int (-1)), (0, .ref (ad 0)), (1, .ref qa), (2, .ref qm), (3, .int (nI i))]) hx hb dL_match_119 hl (by decide) rfl (fun ls hl => ?_)
              refine lv_iload hx hb dL_match_121 (lv_at hl 0 rfl) ?_
              refine lv_if_eq (tgt := 153) hx hb dL_match_123 (by decide) (fun c_13 => ?_) (fun c_13 => absurd ((by decide : (0 : Int32) = 0)) c_13)
              refine lv_iload hx hb dL_match_153 (lv_at hl 2 rfl) ?_
              refine lv_istore (lv' := [(4, .int (-1)), (6, .int 0), (5, .int (nI (7 - k))), (0, .ref (ad 0)), (1, .ref qa), (2, .ref qm), (3, .int (nI i))]) hx hb dL_match_155 hl (by decide) rfl (fun ls hl => ?_)
              refine lv_iinc (v := dn (k + 1)) (lv' := [(5, .int (dn (k + 1))), (4, .int (-1)), (6, .int 0), (0, .ref (ad 0)), (1, .ref qa), (2, .ref qm), (3, .int (nI i))]) hx hb dL_match_157 hl (k := 2) rfl (dn_s hk) (by decide) rfl (fun ls hl => ?_)
              refine lv_goto (tgt := 7) hx hb dL_match_160 (by decide) ?_
              have hmt : sMt σ (7 - k) i = false := by simp [sMt, h11, c_5, c_6, hs0, c_9, c_10, d_10, c_12]
              have hnx : bsd (fun k => sMt σ k i) (σ 12) (k + 1) = none := (bsd_n hmt).trans hbs
              have e70 : oI (bsd (fun k => sMt σ k i) (σ 12) (k + 1)) = (-1) := by rw [hnx]; rfl
              exact ih7 H locs ls _ _ (by omega) (by omega) (show lv_has ls 7 [(5, .int (dn (k + 1))), (4, .int (oI (bsd (fun k => sMt σ k i) (σ 12) (k + 1)))), (0, .ref (ad 0)), (1, .ref qa), (2, .ref qm), (3, .int (nI i))] from by rw [e70]; exact lv_sub hl [0, 1, 3, 4, 5, 6] rfl) ⟨hP, hPa, hPm⟩ hS
            · refine lv_aload_n hx hb dL_match_72 rfl (lv_at hl 3 rfl) ?_
              refine lv_iconst (v := 4) hx hb dL_match_73 (by decide) ?_
              refine lv_iload_n hx hb dL_match_74 rfl (lv_at hl 5 rfl) ?_
              refine lv_imul hx hb dL_match_75 ?_
              refine W.eq (congrArg (fun z9 => F0 m 76 ls [.int z9, .ref qa]) (pk_mul 4 i)) ?_
              refine lv_iconst (v := 3) hx hb dL_match_76 (by decide) ?_
              refine lv_iadd hx hb dL_match_77 ?_
              refine W.eq (congrArg (fun z9 => F0 m 78 ls [.int z9, .ref qa]) (nI_add (4 * i) 3)) ?_
              refine raW (x := σ 5 i) hx hb hK hPa (show 4 * i + 3 < 64 by omega) (by decide) ((hT.1 i hi).2.2.2) dL_match_78 ?_
              refine lv_iconst (v := (-1)) hx hb dL_match_79 (by decide) ?_
              refine lv_ixor hx hb dL_match_80 ?_
              refine lv_aload_n hx hb dL_match_81 rfl (lv_at hl 4 rfl) ?_
              refine lv_bipush (v := 6) hx hb dL_match_82 (by decide) ?_
              refine lv_iload hx hb dL_match_84 (lv_at hl 0 rfl) ?_
              refine lv_imul hx hb dL_match_86 ?_
              refine W.eq (congrArg (fun z9 => F0 m 87 ls [.int z9, .ref qm, .int ((σ 5 i) ^^^ (-1))]) (pk_mul 6 (7 - k))) ?_
              refine lv_iconst (v := 3) hx hb dL_match_87 (by decide) ?_
              refine lv_iadd hx hb dL_match_88 ?_
              refine W.eq (congrArg (fun z9 => F0 m 89 ls [.int z9, .ref qm, .int ((σ 5 i) ^^^ (-1))]) (nI_add (6 * (7 - k)) 3)) ?_
              refine raW (x := σ 15 (7 - k)) hx hb hK hPm (show 6 * (7 - k) + 3 < 48 by omega) (by decide) m3 dL_match_89 ?_
              refine lv_iand hx hb dL_match_90 ?_
              refine lv_if_ne (tgt := 118) hx hb dL_match_91 (by decide) (fun c_14 => ?_) (fun c_14 => ?_)
              · have f_14 := (not_congr (mt_bits _ _)).mp c_14
                refine lv_iconst (v := 0) hx hb dL_match_118 (by decide) ?_
                refine lv_istore (lv' := [(6, .int 0), (5, .int (nI (7 - k))), (4, .int (-1)), (0, .ref (ad 0)), (1, .ref qa), (2, .ref qm), (3, .int (nI i))]) hx hb dL_match_119 hl (by decide) rfl (fun ls hl => ?_)
                refine lv_iload hx hb dL_match_121 (lv_at hl 0 rfl) ?_
                refine lv_if_eq (tgt := 153) hx hb dL_match_123 (by decide) (fun c_15 => ?_) (fun c_15 => absurd ((by decide : (0 : Int32) = 0)) c_15)
                refine lv_iload hx hb dL_match_153 (lv_at hl 2 rfl) ?_
                refine lv_istore (lv' := [(4, .int (-1)), (6, .int 0), (5, .int (nI (7 - k))), (0, .ref (ad 0)), (1, .ref qa), (2, .ref qm), (3, .int (nI i))]) hx hb dL_match_155 hl (by decide) rfl (fun ls hl => ?_)
                refine lv_iinc (v := dn (k + 1)) (lv' := [(5, .int (dn (k + 1))), (4, .int (-1)), (6, .int 0), (0, .ref (ad 0)), (1, .ref qa), (2, .ref qm), (3, .int (nI i))]) hx hb dL_match_157 hl (k := 2) rfl (dn_s hk) (by decide) rfl (fun ls hl => ?_)
                refine lv_goto (tgt := 7) hx hb dL_match_160 (by decide) ?_
                have hmt : sMt σ (7 - k) i = false := by simp [sMt, h11, c_5, c_6, hs0, c_9, c_10, d_10, c_12, f_14]
                have hnx : bsd (fun k => sMt σ k i) (σ 12) (k + 1) = none := (bsd_n hmt).trans hbs
                have e70 : oI (bsd (fun k => sMt σ k i) (σ 12) (k + 1)) = (-1) := by rw [hnx]; rfl
                exact ih7 H locs ls _ _ (by omega) (by omega) (show lv_has ls 7 [(5, .int (dn (k + 1))), (4, .int (oI (bsd (fun k => sMt σ k i) (σ 12) (k + 1)))), (0, .ref (ad 0)), (1, .ref qa), (2, .ref qm), (3, .int (nI i))] from by rw [e70]; exact lv_sub hl [0, 1, 3, 4, 5, 6] rfl) ⟨hP, hPa, hPm⟩ hS
              · have f_14 := (mt_bits _ _).mp c_14
                refine lv_aload_n hx hb dL_match_94 rfl (lv_at hl 3 rfl) ?_
                refine lv_iconst (v := 4) hx hb dL_match_95 (by decide) ?_
                refine lv_iload_n hx hb dL_match_96 rfl (lv_at hl 5 rfl) ?_
                refine lv_imul hx hb dL_match_97 ?_
                refine W.eq (congrArg (fun z9 => F0 m 98 ls [.int z9, .ref qa]) (pk_mul 4 i)) ?_
                refine lv_iconst (v := 3) hx hb dL_match_98 (by decide) ?_
                refine lv_iadd hx hb dL_match_99 ?_
                refine W.eq (congrArg (fun z9 => F0 m 100 ls [.int z9, .ref qa]) (nI_add (4 * i) 3)) ?_
                refine raW (x := σ 5 i) hx hb hK hPa (show 4 * i + 3 < 64 by omega) (by decide) ((hT.1 i hi).2.2.2) dL_match_100 ?_
                refine lv_aload_n hx hb dL_match_101 rfl (lv_at hl 4 rfl) ?_
                refine lv_bipush (v := 6) hx hb dL_match_102 (by decide) ?_
                refine lv_iload hx hb dL_match_104 (lv_at hl 0 rfl) ?_
                refine lv_imul hx hb dL_match_106 ?_
                refine W.eq (congrArg (fun z9 => F0 m 107 ls [.int z9, .ref qm, .int (σ 5 i)]) (pk_mul 6 (7 - k))) ?_
                refine lv_iconst (v := 4) hx hb dL_match_107 (by decide) ?_
                refine lv_iadd hx hb dL_match_108 ?_
                refine W.eq (congrArg (fun z9 => F0 m 109 ls [.int z9, .ref qm, .int (σ 5 i)]) (nI_add (6 * (7 - k)) 4)) ?_
                refine raW (x := σ 16 (7 - k)) hx hb hK hPm (show 6 * (7 - k) + 4 < 48 by omega) (by decide) m4 dL_match_109 ?_
                refine lv_iand hx hb dL_match_110 ?_
                refine lv_if_ne (tgt := 118) hx hb dL_match_111 (by decide) (fun c_16 => ?_) (fun c_16 => ?_)
                · refine lv_iconst (v := 0) hx hb dL_match_118 (by decide) ?_
                  refine lv_istore (lv' := [(6, .int 0), (5, .int (nI (7 - k))), (4, .int (-1)), (0, .ref (ad 0)), (1, .ref qa), (2, .ref qm), (3, .int (nI i))]) hx hb dL_match_119 hl (by decide) rfl (fun ls hl => ?_)
                  refine lv_iload hx hb dL_match_121 (lv_at hl 0 rfl) ?_
                  refine lv_if_eq (tgt := 153) hx hb dL_match_123 (by decide) (fun c_17 => ?_) (fun c_17 => absurd ((by decide : (0 : Int32) = 0)) c_17)
                  refine lv_iload hx hb dL_match_153 (lv_at hl 2 rfl) ?_
                  refine lv_istore (lv' := [(4, .int (-1)), (6, .int 0), (5, .int (nI (7 - k))), (0, .ref (ad 0)), (1, .ref qa), (2, .ref qm), (3, .int (nI i))]) hx hb dL_match_155 hl (by decide) rfl (fun ls hl => ?_)
                  refine lv_iinc (v := dn (k + 1)) (lv' := [(5, .int (dn (k + 1))), (4, .int (-1)), (6, .int 0), (0, .ref (ad 0)), (1, .ref qa), (2, .ref qm), (3, .int (nI i))]) hx hb dL_match_157 hl (k := 2) rfl (dn_s hk) (by decide) rfl (fun ls hl => ?_)
                  refine lv_goto (tgt := 7) hx hb dL_match_160 (by decide) ?_
                  have hmt : sMt σ (7 - k) i = false := by simp [sMt, h11, c_5, c_6, hs0, c_9, c_10, d_10, c_12, f_14, c_16]
                  have hnx : bsd (fun k => sMt σ k i) (σ 12) (k + 1) = none := (bsd_n hmt).trans hbs
                  have e70 : oI (bsd (fun k => sMt σ k i) (σ 12) (k + 1)) = (-1) := by rw [hnx]; rfl
                  exact ih7 H locs ls _ _ (by omega) (by omega) (show lv_has ls 7 [(5, .int (dn (k + 1))), (4, .int (oI (bsd (fun k => sMt σ k i) (σ 12) (k + 1)))), (0, .ref (ad 0)), (1, .ref qa), (2, .ref qm), (3, .int (nI i))] from by rw [e70]; exact lv_sub hl [0, 1, 3, 4, 5, 6] rfl) ⟨hP, hPa, hPm⟩ hS
                · refine lv_iconst (v := 1) hx hb dL_match_114 (by decide) ?_
                  refine lv_goto (tgt := 119) hx hb dL_match_115 (by decide) ?_
                  refine lv_istore (lv' := [(6, .int 1), (5, .int (nI (7 - k))), (4, .int (-1)), (0, .ref (ad 0)), (1, .ref qa), (2, .ref qm), (3, .int (nI i))]) hx hb dL_match_119 hl (by decide) rfl (fun ls hl => ?_)
                  refine lv_iload hx hb dL_match_121 (lv_at hl 0 rfl) ?_
                  refine lv_if_eq (tgt := 153) hx hb dL_match_123 (by decide) (fun c_18 => absurd c_18 ((by decide : ¬ (1 : Int32) = 0))) (fun c_18 => ?_)
                  refine lv_iload hx hb dL_match_126 (lv_at hl 2 rfl) ?_
                  refine lv_if_lt (tgt := 148) hx hb dL_match_128 (by decide) (fun c_19 => ?_) (fun c_19 => absurd ((by decide : (-1 : Int32) < 0)) c_19)
                  refine lv_iload hx hb dL_match_148 (lv_at hl 1 rfl) ?_
                  refine lv_goto (tgt := 155) hx hb dL_match_150 (by decide) ?_
                  refine lv_istore (lv' := [(4, .int (nI (7 - k))), (6, .int 1), (5, .int (nI (7 - k))), (0, .ref (ad 0)), (1, .ref qa), (2, .ref qm), (3, .int (nI i))]) hx hb dL_match_155 hl (by decide) rfl (fun ls hl => ?_)
                  refine lv_iinc (v := dn (k + 1)) (lv' := [(5, .int (dn (k + 1))), (4, .int (nI (7 - k))), (6, .int 1), (0, .ref (ad 0)), (1, .ref qa), (2, .ref qm), (3, .int (nI i))]) hx hb dL_match_157 hl (k := 2) rfl (dn_s hk) (by decide) rfl (fun ls hl => ?_)
                  refine lv_goto (tgt := 7) hx hb dL_match_160 (by decide) ?_
                  have hmt : sMt σ (7 - k) i = true := by simp [sMt, h11, c_5, c_6, hs0, c_9, c_10, d_10, c_12, f_14, c_16]
                  have hnx : bsd (fun k => sMt σ k i) (σ 12) (k + 1) = some (7 - k) := bsd_0 hmt hbs
                  have e70 : oI (bsd (fun k => sMt σ k i) (σ 12) (k + 1)) = nI (7 - k) := by rw [hnx]; rfl
                  exact ih7 H locs ls _ _ (by omega) (by omega) (show lv_has ls 7 [(5, .int (dn (k + 1))), (4, .int (oI (bsd (fun k => sMt σ k i) (σ 12) (k + 1)))), (0, .ref (ad 0)), (1, .ref qa), (2, .ref qm), (3, .int (nI i))] from by rw [e70]; exact lv_sub hl [0, 1, 3, 4, 5, 6] rfl) ⟨hP, hPa, hPm⟩ hS
    · rw [hbs] at hl
      have hl : lv_has ls 7 [(5, .int (nI (7 - k))), (4, .int (nI b)), (0, .ref (ad 0)), (1, .ref qa), (2, .ref qm), (3, .int (nI i))] := hl
      obtain ⟨hb8, hbm⟩ := bsd_lt (by omega) hbs
      have hb11 : ¬ σ 11 b = 0 := by simp only [sMt, Bool.and_eq_true, Bool.not_eq_true', decide_eq_false_iff_not] at hbm; exact hbm.1.1.1.1.1
      obtain ⟨-, b0, -⟩ := (hT.2.1 b hb8).2 hb11
      by_cases h11 : σ 11 (7 - k) = 0
      · have m0 := (hT.2.1 (7 - k) (by omega)).1 h11
        refine lv_iload hx hb dL_match_7 (lv_at hl 0 rfl) ?_
        refine lv_if_lt (tgt := 163) hx hb dL_match_9 (by decide) (fun c_20 => absurd c_20 ((fun z9 => absurd ((nI_ltI (a := 7 - k) (b := 0) (by omega) (by omega)).mp z9) (by omega)))) (fun c_20 => ?_)
        refine lv_aload_n hx hb dL_match_12 rfl (lv_at hl 4 rfl) ?_
        refine lv_bipush (v := 6) hx hb dL_match_13 (by decide) ?_
        refine lv_iload hx hb dL_match_15 (lv_at hl 0 rfl) ?_
        refine lv_imul hx hb dL_match_17 ?_
        refine W.eq (congrArg (fun z9 => F0 m 18 ls [.int z9, .ref qm]) (pk_mul 6 (7 - k))) ?_
        refine raW (x := (-1)) hx hb hK hPm (show 6 * (7 - k) < 48 by omega) (by decide) m0 dL_match_18 ?_
        refine lv_if_lt (tgt := 118) hx hb dL_match_19 (by decide) (fun c_21 => ?_) (fun c_21 => absurd ((by decide : (-1 : Int32) < 0)) c_21)
        refine lv_iconst (v := 0) hx hb dL_match_118 (by decide) ?_
        refine lv_istore (lv' := [(6, .int 0), (5, .int (nI (7 - k))), (4, .int (nI b)), (0, .ref (ad 0)), (1, .ref qa), (2, .ref qm), (3, .int (nI i))]) hx hb dL_match_119 hl (by decide) rfl (fun ls hl => ?_)
        refine lv_iload hx hb dL_match_121 (lv_at hl 0 rfl) ?_
        refine lv_if_eq (tgt := 153) hx hb dL_match_123 (by decide) (fun c_22 => ?_) (fun c_22 => absurd ((by decide : (0 : Int32) = 0)) c_22)
        refine lv_iload hx hb dL_match_153 (lv_at hl 2 rfl) ?_
        refine lv_istore (lv' := [(4, .int (nI b)), (6, .int 0), (5, .int (nI (7 - k))), (0, .ref (ad 0)), (1, .ref qa), (2, .ref qm), (3, .int (nI i))]) hx hb dL_match_155 hl (by decide) rfl (fun ls hl => ?_)
        refine lv_iinc (v := dn (k + 1)) (lv' := [(5, .int (dn (k + 1))), (4, .int (nI b)), (6, .int 0), (0, .ref (ad 0)), (1, .ref qa), (2, .ref qm), (3, .int (nI i))]) hx hb dL_match_157 hl (k := 2) rfl (dn_s hk) (by decide) rfl (fun ls hl => ?_)
        refine lv_goto (tgt := 7) hx hb dL_match_160 (by decide) ?_
        have hmt : sMt σ (7 - k) i = false := by simp [sMt, h11, c_20, c_21]
        have hnx : bsd (fun k => sMt σ k i) (σ 12) (k + 1) = some b := (bsd_n hmt).trans hbs
        have e70 : oI (bsd (fun k => sMt σ k i) (σ 12) (k + 1)) = nI b := by rw [hnx]; rfl
        exact ih7 H locs ls _ _ (by omega) (by omega) (show lv_has ls 7 [(5, .int (dn (k + 1))), (4, .int (oI (bsd (fun k => sMt σ k i) (σ 12) (k + 1)))), (0, .ref (ad 0)), (1, .ref qa), (2, .ref qm), (3, .int (nI i))] from by rw [e70]; exact lv_sub hl [0, 1, 3, 4, 5, 6] rfl) ⟨hP, hPa, hPm⟩ hS
      · obtain ⟨mn, m0, m1, m2, m3, m4, m5⟩ := (hT.2.1 (7 - k) (by omega)).2 h11
        have mn2 : ¬ σ 12 (7 - k) < 0 := by rw [← m0]; exact mn
        refine lv_iload hx hb dL_match_7 (lv_at hl 0 rfl) ?_
        refine lv_if_lt (tgt := 163) hx hb dL_match_9 (by decide) (fun c_23 => absurd c_23 ((fun z9 => absurd ((nI_ltI (a := 7 - k) (b := 0) (by omega) (by omega)).mp z9) (by omega)))) (fun c_23 => ?_)
        refine lv_aload_n hx hb dL_match_12 rfl (lv_at hl 4 rfl) ?_
        refine lv_bipush (v := 6) hx hb dL_match_13 (by decide) ?_
        refine lv_iload hx hb dL_match_15 (lv_at hl 0 rfl) ?_
        refine lv_imul hx hb dL_match_17 ?_
        refine W.eq (congrArg (fun z9 => F0 m 18 ls [.int z9, .ref qm]) (pk_mul 6 (7 - k))) ?_
        refine raW (x := σ 12 (7 - k)) hx hb hK hPm (show 6 * (7 - k) < 48 by omega) (by decide) m0 dL_match_18 ?_
        refine lv_if_lt (tgt := 118) hx hb dL_match_19 (by decide) (fun c_24 => absurd c_24 (mn2)) (fun c_24 => ?_)
        refine lv_aload_n hx hb dL_match_22 rfl (lv_at hl 2 rfl) ?_
        refine lv_iload_n hx hb dL_match_23 rfl (lv_at hl 5 rfl) ?_
        refine rMi (vx_runSW (As := [.ref (ad 0), .int (nI i)]) (rest := []) ⟨hx, hb, hml, hown, hts⟩ (c_L_stateOf l hst D cy ad σ sz (nI i) (σ 1 i) (wS hi)) (vx_cwSW 2 hts gL_match_L_stateOf rfl rfl rfl (by decide +kernel) ⟨Nat.le_of_ble_eq_true rfl, Nat.le_of_ble_eq_true rfl⟩) ⟨cx_bl, cx_S hP hK NoA_z hxk hS⟩ rfl rfl hl.1 rfl (lv_room (Nat.le_of_ble_eq_true rfl)) dL_match_24 ⟨by show _ ≤ 8; omega, by show _ ≤ 48; omega⟩) hS (fun H locs hS hg => ?_)
        have hP := hP.grown hg
        have hPa := hPa.grown hg
        have hPm := hPm.grown hg
        refine W.eq (g2 := F0 m 27 ls [.int (σ 1 i)]) rfl ?_
        by_cases hs0 : σ 1 i = 0
        · refine W.eq (g2 := F0 m 27 ls [.int 0]) (by rw [hs0]) ?_
          refine lv_if_le (tgt := 118) hx hb dL_match_27 (by decide) (fun c_25 => ?_) (fun c_25 => absurd ((Int32.le_refl _)) c_25)
          refine lv_iconst (v := 0) hx hb dL_match_118 (by decide) ?_
          refine lv_istore (lv' := [(6, .int 0), (5, .int (nI (7 - k))), (4, .int (nI b)), (0, .ref (ad 0)), (1, .ref qa), (2, .ref qm), (3, .int (nI i))]) hx hb dL_match_119 hl (by decide) rfl (fun ls hl => ?_)
          refine lv_iload hx hb dL_match_121 (lv_at hl 0 rfl) ?_
          refine lv_if_eq (tgt := 153) hx hb dL_match_123 (by decide) (fun c_26 => ?_) (fun c_26 => absurd ((by decide : (0 : Int32) = 0)) c_26)
          refine lv_iload hx hb dL_match_153 (lv_at hl 2 rfl) ?_
          refine lv_istore (lv' := [(4, .int (nI b)), (6, .int 0), (5, .int (nI (7 - k))), (0, .ref (ad 0)), (1, .ref qa), (2, .ref qm), (3, .int (nI i))]) hx hb dL_match_155 hl (by decide) rfl (fun ls hl => ?_)
          refine lv_iinc (v := dn (k + 1)) (lv' := [(5, .int (dn (k + 1))), (4, .int (nI b)), (6, .int 0), (0, .ref (ad 0)), (1, .ref qa), (2, .ref qm), (3, .int (nI i))]) hx hb dL_match_157 hl (k := 2) rfl (dn_s hk) (by decide) rfl (fun ls hl => ?_)
          refine lv_goto (tgt := 7) hx hb dL_match_160 (by decide) ?_
          have hmt : sMt σ (7 - k) i = false := by simp [sMt, h11, c_23, c_24, hs0, c_25]
          have hnx : bsd (fun k => sMt σ k i) (σ 12) (k + 1) = some b := (bsd_n hmt).trans hbs
          have e70 : oI (bsd (fun k => sMt σ k i) (σ 12) (k + 1)) = nI b := by rw [hnx]; rfl
          exact ih7 H locs ls _ _ (by omega) (by omega) (show lv_has ls 7 [(5, .int (dn (k + 1))), (4, .int (oI (bsd (fun k => sMt σ k i) (σ 12) (k + 1)))), (0, .ref (ad 0)), (1, .ref qa), (2, .ref qm), (3, .int (nI i))] from by rw [e70]; exact lv_sub hl [0, 1, 3, 4, 5, 6] rfl) ⟨hP, hPa, hPm⟩ hS
        · refine lv_if_le (tgt := 118) hx hb dL_match_27 (by decide) (fun c_27 => absurd c_27 ((fun z9 => by obtain ⟨s8, hs8, es8⟩ := hs7; rw [es8] at z9; exact hs0 (by rw [es8]; rw [show s8 = 0 from Nat.le_zero.mp ((nI_leI (a := s8) (b := 0) (by omega) (by omega)).mp z9)]; rfl)))) (fun c_27 => ?_)
          refine lv_aload_n hx hb dL_match_30 rfl (lv_at hl 3 rfl) ?_
          refine lv_iconst (v := 4) hx hb dL_match_31 (by decide) ?_
          refine lv_iload_n hx hb dL_match_32 rfl (lv_at hl 5 rfl) ?_
          refine lv_imul hx hb dL_match_33 ?_
          refine W.eq (congrArg (fun z9 => F0 m 34 ls [.int z9, .ref qa]) (pk_mul 4 i)) ?_
          refine lv_iconst (v := 1) hx hb dL_match_34 (by decide) ?_
          refine lv_iadd hx hb dL_match_35 ?_
          refine W.eq (congrArg (fun z9 => F0 m 36 ls [.int z9, .ref qa]) (nI_add (4 * i) 1)) ?_
          refine raW (x := σ 3 i) hx hb hK hPa (show 4 * i + 1 < 64 by omega) (by decide) ((hT.1 i hi).2.1) dL_match_36 ?_
          refine lv_aload_n hx hb dL_match_37 rfl (lv_at hl 4 rfl) ?_
          refine lv_bipush (v := 6) hx hb dL_match_38 (by decide) ?_
          refine lv_iload hx hb dL_match_40 (lv_at hl 0 rfl) ?_
          refine lv_imul hx hb dL_match_42 ?_
          refine W.eq (congrArg (fun z9 => F0 m 43 ls [.int z9, .ref qm, .int (σ 3 i)]) (pk_mul 6 (7 - k))) ?_
          refine lv_iconst (v := 1) hx hb dL_match_43 (by decide) ?_
          refine lv_iadd hx hb dL_match_44 ?_
          refine W.eq (congrArg (fun z9 => F0 m 45 ls [.int z9, .ref qm, .int (σ 3 i)]) (nI_add (6 * (7 - k)) 1)) ?_
          refine raW (x := σ 13 (7 - k)) hx hb hK hPm (show 6 * (7 - k) + 1 < 48 by omega) (by decide) m1 dL_match_45 ?_
          refine lv_icmp_lt (tgt := 118) hx hb dL_match_46 (by decide) (fun c_28 => ?_) (fun c_28 => ?_)
          · have d_28 := Int32.not_le.mpr c_28
            refine lv_iconst (v := 0) hx hb dL_match_118 (by decide) ?_
            refine lv_istore (lv' := [(6, .int 0), (5, .int (nI (7 - k))), (4, .int (nI b)), (0, .ref (ad 0)), (1, .ref qa), (2, .ref qm), (3, .int (nI i))]) hx hb dL_match_119 hl (by decide) rfl (fun ls hl => ?_)
            refine lv_iload hx hb dL_match_121 (lv_at hl 0 rfl) ?_
            refine lv_if_eq (tgt := 153) hx hb dL_match_123 (by decide) (fun c_29 => ?_) (fun c_29 => absurd ((by decide : (0 : Int32) = 0)) c_29)
            refine lv_iload hx hb dL_match_153 (lv_at hl 2 rfl) ?_
            refine lv_istore (lv' := [(4, .int (nI b)), (6, .int 0), (5, .int (nI (7 - k))), (0, .ref (ad 0)), (1, .ref qa), (2, .ref qm), (3, .int (nI i))]) hx hb dL_match_155 hl (by decide) rfl (fun ls hl => ?_)
            refine lv_iinc (v := dn (k + 1)) (lv' := [(5, .int (dn (k + 1))), (4, .int (nI b)), (6, .int 0), (0, .ref (ad 0)), (1, .ref qa), (2, .ref qm), (3, .int (nI i))]) hx hb dL_match_157 hl (k := 2) rfl (dn_s hk) (by decide) rfl (fun ls hl => ?_)
            refine lv_goto (tgt := 7) hx hb dL_match_160 (by decide) ?_
            have hmt : sMt σ (7 - k) i = false := by simp [sMt, h11, c_23, c_24, hs0, c_27, c_28, d_28]
            have hnx : bsd (fun k => sMt σ k i) (σ 12) (k + 1) = some b := (bsd_n hmt).trans hbs
            have e70 : oI (bsd (fun k => sMt σ k i) (σ 12) (k + 1)) = nI b := by rw [hnx]; rfl
            exact ih7 H locs ls _ _ (by omega) (by omega) (show lv_has ls 7 [(5, .int (dn (k + 1))), (4, .int (oI (bsd (fun k => sMt σ k i) (σ 12) (k + 1)))), (0, .ref (ad 0)), (1, .ref qa), (2, .ref qm), (3, .int (nI i))] from by rw [e70]; exact lv_sub hl [0, 1, 3, 4, 5, 6] rfl) ⟨hP, hPa, hPm⟩ hS
          · have d_28 := Int32.not_lt.mp c_28
            refine lv_aload_n hx hb dL_match_49 rfl (lv_at hl 4 rfl) ?_
            refine lv_bipush (v := 6) hx hb dL_match_50 (by decide) ?_
            refine lv_iload hx hb dL_match_52 (lv_at hl 0 rfl) ?_
            refine lv_imul hx hb dL_match_54 ?_
            refine W.eq (congrArg (fun z9 => F0 m 55 ls [.int z9, .ref qm]) (pk_mul 6 (7 - k))) ?_
            refine lv_iconst (v := 2) hx hb dL_match_55 (by decide) ?_
            refine lv_iadd hx hb dL_match_56 ?_
            refine W.eq (congrArg (fun z9 => F0 m 57 ls [.int z9, .ref qm]) (nI_add (6 * (7 - k)) 2)) ?_
            refine raW (x := σ 14 (7 - k)) hx hb hK hPm (show 6 * (7 - k) + 2 < 48 by omega) (by decide) m2 dL_match_57 ?_
            refine lv_aload_n hx hb dL_match_58 rfl (lv_at hl 3 rfl) ?_
            refine lv_iconst (v := 4) hx hb dL_match_59 (by decide) ?_
            refine lv_iload_n hx hb dL_match_60 rfl (lv_at hl 5 rfl) ?_
            refine lv_imul hx hb dL_match_61 ?_
            refine W.eq (congrArg (fun z9 => F0 m 62 ls [.int z9, .ref qa, .int (σ 14 (7 - k))]) (pk_mul 4 i)) ?_
            refine lv_iconst (v := 2) hx hb dL_match_62 (by decide) ?_
            refine lv_iadd hx hb dL_match_63 ?_
            refine W.eq (congrArg (fun z9 => F0 m 64 ls [.int z9, .ref qa, .int (σ 14 (7 - k))]) (nI_add (4 * i) 2)) ?_
            refine raW (x := σ 4 i) hx hb hK hPa (show 4 * i + 2 < 64 by omega) (by decide) ((hT.1 i hi).2.2.1) dL_match_64 ?_
            refine lv_ishr hx hb dL_match_65 ?_
            refine lv_iconst (v := 1) hx hb dL_match_66 (by decide) ?_
            refine lv_iand hx hb dL_match_67 ?_
            refine lv_iconst (v := 1) hx hb dL_match_68 (by decide) ?_
            refine lv_icmp_ne (tgt := 118) hx hb dL_match_69 (by decide) (fun c_30 => ?_) (fun c_30 => ?_)
            · refine lv_iconst (v := 0) hx hb dL_match_118 (by decide) ?_
              refine lv_istore (lv' := [(6, .int 0), (5, .int (nI (7 - k))), (4, .int (nI b)), (0, .ref (ad 0)), (1, .ref qa), (2, .ref qm), (3, .int (nI i))]) hx hb dL_match_119 hl (by decide) rfl (fun ls hl => ?_)
              refine lv_iload hx hb dL_match_121 (lv_at hl 0 rfl) ?_
              refine lv_if_eq (tgt := 153) hx hb dL_match_123 (by decide) (fun c_31 => ?_) (fun c_31 => absurd ((by decide : (0 : Int32) = 0)) c_31)
              refine lv_iload hx hb dL_match_153 (lv_at hl 2 rfl) ?_
              refine lv_istore (lv' := [(4, .int (nI b)), (6, .int 0), (5, .int (nI (7 - k))), (0, .ref (ad 0)), (1, .ref qa), (2, .ref qm), (3, .int (nI i))]) hx hb dL_match_155 hl (by decide) rfl (fun ls hl => ?_)
              refine lv_iinc (v := dn (k + 1)) (lv' := [(5, .int (dn (k + 1))), (4, .int (nI b)), (6, .int 0), (0, .ref (ad 0)), (1, .ref qa), (2, .ref qm), (3, .int (nI i))]) hx hb dL_match_157 hl (k := 2) rfl (dn_s hk) (by decide) rfl (fun ls hl => ?_)
              refine lv_goto (tgt := 7) hx hb dL_match_160 (by decide) ?_
              have hmt : sMt σ (7 - k) i = false := by simp [sMt, h11, c_23, c_24, hs0, c_27, c_28, d_28, c_30]
              have hnx : bsd (fun k => sMt σ k i) (σ 12) (k + 1) = some b := (bsd_n hmt).trans hbs
              have e70 : oI (bsd (fun k => sMt σ k i) (σ 12) (k + 1)) = nI b := by rw [hnx]; rfl
              exact ih7 H locs ls _ _ (by omega) (by omega) (show lv_has ls 7 [(5, .int (dn (k + 1))), (4, .int (oI (bsd (fun k => sMt σ k i) (σ 12) (k + 1)))), (0, .ref (ad 0)), (1, .ref qa), (2, .ref qm), (3, .int (nI i))] from by rw [e70]; exact lv_sub hl [0, 1, 3, 4, 5, 6] rfl) ⟨hP, hPa, hPm⟩ hS
            · refine lv_aload_n hx hb dL_match_72 rfl (lv_at hl 3 rfl) ?_
              refine lv_iconst (v := 4) hx hb dL_match_73 (by decide) ?_
              refine lv_iload_n hx hb dL_match_74 rfl (lv_at hl 5 rfl) ?_
              refine lv_imul hx hb dL_match_75 ?_
              refine W.eq (congrArg (fun z9 => F0 m 76 ls [.int z9, .ref qa]) (pk_mul 4 i)) ?_
              refine lv_iconst (v := 3) hx hb dL_match_76 (by decide) ?_
              refine lv_iadd hx hb dL_match_77 ?_
              refine W.eq (congrArg (fun z9 => F0 m 78 ls [.int z9, .ref qa]) (nI_add (4 * i) 3)) ?_
              refine raW (x := σ 5 i) hx hb hK hPa (show 4 * i + 3 < 64 by omega) (by decide) ((hT.1 i hi).2.2.2) dL_match_78 ?_
              refine lv_iconst (v := (-1)) hx hb dL_match_79 (by decide) ?_
              refine lv_ixor hx hb dL_match_80 ?_
              refine lv_aload_n hx hb dL_match_81 rfl (lv_at hl 4 rfl) ?_
              refine lv_bipush (v := 6) hx hb dL_match_82 (by decide) ?_
              refine lv_iload hx hb dL_match_84 (lv_at hl 0 rfl) ?_
              refine lv_imul hx hb dL_match_86 ?_
              refine W.eq (congrArg (fun z9 => F0 m 87 ls [.int z9, .ref qm, .int ((σ 5 i) ^^^ (-1))]) (pk_mul 6 (7 - k))) ?_
              refine lv_iconst (v := 3) hx hb dL_match_87 (by decide) ?_
              refine lv_iadd hx hb dL_match_88 ?_
              refine W.eq (congrArg (fun z9 => F0 m 89 ls [.int z9, .ref qm, .int ((σ 5 i) ^^^ (-1))]) (nI_add (6 * (7 - k)) 3)) ?_
              refine raW (x := σ 15 (7 - k)) hx hb hK hPm (show 6 * (7 - k) + 3 < 48 by omega) (by decide) m3 dL_match_89 ?_
              refine lv_iand hx hb dL_match_90 ?_
              refine lv_if_ne (tgt := 118) hx hb dL_match_91 (by decide) (fun c_32 => ?_) (fun c_32 => ?_)
              · have f_32 := (not_congr (mt_bits _ _)).mp c_32
                refine lv_iconst (v := 0) hx hb dL_match_118 (by decide) ?_
                refine lv_istore (lv' := [(6, .int 0), (5, .int (nI (7 - k))), (4, .int (nI b)), (0, .ref (ad 0)), (1, .ref qa), (2, .ref qm), (3, .int (nI i))]) hx hb dL_match_119 hl (by decide) rfl (fun ls hl => ?_)
                refine lv_iload hx hb dL_match_121 (lv_at hl 0 rfl) ?_
                refine lv_if_eq (tgt := 153) hx hb dL_match_123 (by decide) (fun c_33 => ?_) (fun c_33 => absurd ((by decide : (0 : Int32) = 0)) c_33)
                refine lv_iload hx hb dL_match_153 (lv_at hl 2 rfl) ?_
                refine lv_istore (lv' := [(4, .int (nI b)), (6, .int 0), (5, .int (nI (7 - k))), (0, .ref (ad 0)), (1, .ref qa), (2, .ref qm), (3, .int (nI i))]) hx hb dL_match_155 hl (by decide) rfl (fun ls hl => ?_)
                refine lv_iinc (v := dn (k + 1)) (lv' := [(5, .int (dn (k + 1))), (4, .int (nI b)), (6, .int 0), (0, .ref (ad 0)), (1, .ref qa), (2, .ref qm), (3, .int (nI i))]) hx hb dL_match_157 hl (k := 2) rfl (dn_s hk) (by decide) rfl (fun ls hl => ?_)
                refine lv_goto (tgt := 7) hx hb dL_match_160 (by decide) ?_
                have hmt : sMt σ (7 - k) i = false := by simp [sMt, h11, c_23, c_24, hs0, c_27, c_28, d_28, c_30, f_32]
                have hnx : bsd (fun k => sMt σ k i) (σ 12) (k + 1) = some b := (bsd_n hmt).trans hbs
                have e70 : oI (bsd (fun k => sMt σ k i) (σ 12) (k + 1)) = nI b := by rw [hnx]; rfl
                exact ih7 H locs ls _ _ (by omega) (by omega) (show lv_has ls 7 [(5, .int (dn (k + 1))), (4, .int (oI (bsd (fun k => sMt σ k i) (σ 12) (k + 1)))), (0, .ref (ad 0)), (1, .ref qa), (2, .ref qm), (3, .int (nI i))] from by rw [e70]; exact lv_sub hl [0, 1, 3, 4, 5, 6] rfl) ⟨hP, hPa, hPm⟩ hS
              · have f_32 := (mt_bits _ _).mp c_32
                refine lv_aload_n hx hb dL_match_94 rfl (lv_at hl 3 rfl) ?_
                refine lv_iconst (v := 4) hx hb dL_match_95 (by decide) ?_
                refine lv_iload_n hx hb dL_match_96 rfl (lv_at hl 5 rfl) ?_
                refine lv_imul hx hb dL_match_97 ?_
                refine W.eq (congrArg (fun z9 => F0 m 98 ls [.int z9, .ref qa]) (pk_mul 4 i)) ?_
                refine lv_iconst (v := 3) hx hb dL_match_98 (by decide) ?_
                refine lv_iadd hx hb dL_match_99 ?_
                refine W.eq (congrArg (fun z9 => F0 m 100 ls [.int z9, .ref qa]) (nI_add (4 * i) 3)) ?_
                refine raW (x := σ 5 i) hx hb hK hPa (show 4 * i + 3 < 64 by omega) (by decide) ((hT.1 i hi).2.2.2) dL_match_100 ?_
                refine lv_aload_n hx hb dL_match_101 rfl (lv_at hl 4 rfl) ?_
                refine lv_bipush (v := 6) hx hb dL_match_102 (by decide) ?_
                refine lv_iload hx hb dL_match_104 (lv_at hl 0 rfl) ?_
                refine lv_imul hx hb dL_match_106 ?_
                refine W.eq (congrArg (fun z9 => F0 m 107 ls [.int z9, .ref qm, .int (σ 5 i)]) (pk_mul 6 (7 - k))) ?_
                refine lv_iconst (v := 4) hx hb dL_match_107 (by decide) ?_
                refine lv_iadd hx hb dL_match_108 ?_
                refine W.eq (congrArg (fun z9 => F0 m 109 ls [.int z9, .ref qm, .int (σ 5 i)]) (nI_add (6 * (7 - k)) 4)) ?_
                refine raW (x := σ 16 (7 - k)) hx hb hK hPm (show 6 * (7 - k) + 4 < 48 by omega) (by decide) m4 dL_match_109 ?_
                refine lv_iand hx hb dL_match_110 ?_
                refine lv_if_ne (tgt := 118) hx hb dL_match_111 (by decide) (fun c_34 => ?_) (fun c_34 => ?_)
                · refine lv_iconst (v := 0) hx hb dL_match_118 (by decide) ?_
                  refine lv_istore (lv' := [(6, .int 0), (5, .int (nI (7 - k))), (4, .int (nI b)), (0, .ref (ad 0)), (1, .ref qa), (2, .ref qm), (3, .int (nI i))]) hx hb dL_match_119 hl (by decide) rfl (fun ls hl => ?_)
                  refine lv_iload hx hb dL_match_121 (lv_at hl 0 rfl) ?_
                  refine lv_if_eq (tgt := 153) hx hb dL_match_123 (by decide) (fun c_35 => ?_) (fun c_35 => absurd ((by decide : (0 : Int32) = 0)) c_35)
                  refine lv_iload hx hb dL_match_153 (lv_at hl 2 rfl) ?_
                  refine lv_istore (lv' := [(4, .int (nI b)), (6, .int 0), (5, .int (nI (7 - k))), (0, .ref (ad 0)), (1, .ref qa), (2, .ref qm), (3, .int (nI i))]) hx hb dL_match_155 hl (by decide) rfl (fun ls hl => ?_)
                  refine lv_iinc (v := dn (k + 1)) (lv' := [(5, .int (dn (k + 1))), (4, .int (nI b)), (6, .int 0), (0, .ref (ad 0)), (1, .ref qa), (2, .ref qm), (3, .int (nI i))]) hx hb dL_match_157 hl (k := 2) rfl (dn_s hk) (by decide) rfl (fun ls hl => ?_)
                  refine lv_goto (tgt := 7) hx hb dL_match_160 (by decide) ?_
                  have hmt : sMt σ (7 - k) i = false := by simp [sMt, h11, c_23, c_24, hs0, c_27, c_28, d_28, c_30, f_32, c_34]
                  have hnx : bsd (fun k => sMt σ k i) (σ 12) (k + 1) = some b := (bsd_n hmt).trans hbs
                  have e70 : oI (bsd (fun k => sMt σ k i) (σ 12) (k + 1)) = nI b := by rw [hnx]; rfl
                  exact ih7 H locs ls _ _ (by omega) (by omega) (show lv_has ls 7 [(5, .int (dn (k + 1))), (4, .int (oI (bsd (fun k => sMt σ k i) (σ 12) (k + 1)))), (0, .ref (ad 0)), (1, .ref qa), (2, .ref qm), (3, .int (nI i))] from by rw [e70]; exact lv_sub hl [0, 1, 3, 4, 5, 6] rfl) ⟨hP, hPa, hPm⟩ hS
                · refine lv_iconst (v := 1) hx hb dL_match_114 (by decide) ?_
                  refine lv_goto (tgt := 119) hx hb dL_match_115 (by decide) ?_
                  refine lv_istore (lv' := [(6, .int 1), (5, .int (nI (7 - k))), (4, .int (nI b)), (0, .ref (ad 0)), (1, .ref qa), (2, .ref qm), (3, .int (nI i))]) hx hb dL_match_119 hl (by decide) rfl (fun ls hl => ?_)
                  refine lv_iload hx hb dL_match_121 (lv_at hl 0 rfl) ?_
                  refine lv_if_eq (tgt := 153) hx hb dL_match_123 (by decide) (fun c_36 => absurd c_36 ((by decide : ¬ (1 : Int32) = 0))) (fun c_36 => ?_)
                  refine lv_iload hx hb dL_match_126 (lv_at hl 2 rfl) ?_
                  refine lv_if_lt (tgt := 148) hx hb dL_match_128 (by decide) (fun c_37 => absurd c_37 ((nI_pos (n := b) (by omega)))) (fun c_37 => ?_)
                  refine lv_aload_n hx hb dL_match_131 rfl (lv_at hl 5 rfl) ?_
                  refine lv_bipush (v := 6) hx hb dL_match_132 (by decide) ?_
                  refine lv_iload hx hb dL_match_134 (lv_at hl 1 rfl) ?_
                  refine lv_imul hx hb dL_match_136 ?_
                  refine W.eq (congrArg (fun z9 => F0 m 137 ls [.int z9, .ref qm]) (pk_mul 6 (7 - k))) ?_
                  refine raW (x := σ 12 (7 - k)) hx hb hK hPm (show 6 * (7 - k) < 48 by omega) (by decide) m0 dL_match_137 ?_
                  refine lv_aload_n hx hb dL_match_138 rfl (lv_at hl 5 rfl) ?_
                  refine lv_bipush (v := 6) hx hb dL_match_139 (by decide) ?_
                  refine lv_iload hx hb dL_match_141 (lv_at hl 2 rfl) ?_
                  refine lv_imul hx hb dL_match_143 ?_
                  refine W.eq (congrArg (fun z9 => F0 m 144 ls [.int z9, .ref qm, .int (σ 12 (7 - k))]) (pk_mul 6 b)) ?_
                  refine raW (x := σ 12 b) hx hb hK hPm (show 6 * b < 48 by omega) (by decide) b0 dL_match_144 ?_
                  refine lv_icmp_lt (tgt := 153) hx hb dL_match_145 (by decide) (fun c_38 => ?_) (fun c_38 => ?_)
                  · have d_38 := Int32.not_le.mpr c_38
                    refine lv_iload hx hb dL_match_153 (lv_at hl 2 rfl) ?_
                    refine lv_istore (lv' := [(4, .int (nI b)), (6, .int 1), (5, .int (nI (7 - k))), (0, .ref (ad 0)), (1, .ref qa), (2, .ref qm), (3, .int (nI i))]) hx hb dL_match_155 hl (by decide) rfl (fun ls hl => ?_)
                    refine lv_iinc (v := dn (k + 1)) (lv' := [(5, .int (dn (k + 1))), (4, .int (nI b)), (6, .int 1), (0, .ref (ad 0)), (1, .ref qa), (2, .ref qm), (3, .int (nI i))]) hx hb dL_match_157 hl (k := 2) rfl (dn_s hk) (by decide) rfl (fun ls hl => ?_)
                    refine lv_goto (tgt := 7) hx hb dL_match_160 (by decide) ?_
                    have hmt : sMt σ (7 - k) i = true := by simp [sMt, h11, c_23, c_24, hs0, c_27, c_28, d_28, c_30, f_32, c_34]
                    have hnx : bsd (fun k => sMt σ k i) (σ 12) (k + 1) = some b := bsd_o hbs (Int32.not_le.mpr c_38)
                    have e70 : oI (bsd (fun k => sMt σ k i) (σ 12) (k + 1)) = nI b := by rw [hnx]; rfl
                    exact ih7 H locs ls _ _ (by omega) (by omega) (show lv_has ls 7 [(5, .int (dn (k + 1))), (4, .int (oI (bsd (fun k => sMt σ k i) (σ 12) (k + 1)))), (0, .ref (ad 0)), (1, .ref qa), (2, .ref qm), (3, .int (nI i))] from by rw [e70]; exact lv_sub hl [0, 1, 3, 4, 5, 6] rfl) ⟨hP, hPa, hPm⟩ hS
                  · have d_38 := Int32.not_lt.mp c_38
                    refine lv_iload hx hb dL_match_148 (lv_at hl 1 rfl) ?_
                    refine lv_goto (tgt := 155) hx hb dL_match_150 (by decide) ?_
                    refine lv_istore (lv' := [(4, .int (nI (7 - k))), (6, .int 1), (5, .int (nI (7 - k))), (0, .ref (ad 0)), (1, .ref qa), (2, .ref qm), (3, .int (nI i))]) hx hb dL_match_155 hl (by decide) rfl (fun ls hl => ?_)
                    refine lv_iinc (v := dn (k + 1)) (lv' := [(5, .int (dn (k + 1))), (4, .int (nI (7 - k))), (6, .int 1), (0, .ref (ad 0)), (1, .ref qa), (2, .ref qm), (3, .int (nI i))]) hx hb dL_match_157 hl (k := 2) rfl (dn_s hk) (by decide) rfl (fun ls hl => ?_)
                    refine lv_goto (tgt := 7) hx hb dL_match_160 (by decide) ?_
                    have hmt : sMt σ (7 - k) i = true := by simp [sMt, h11, c_23, c_24, hs0, c_27, c_28, d_28, c_30, f_32, c_34]
                    have hnx : bsd (fun k => sMt σ k i) (σ 12) (k + 1) = some (7 - k) := bsd_y hmt hbs (Int32.not_lt.mp c_38)
                    have e70 : oI (bsd (fun k => sMt σ k i) (σ 12) (k + 1)) = nI (7 - k) := by rw [hnx]; rfl
                    exact ih7 H locs ls _ _ (by omega) (by omega) (show lv_has ls 7 [(5, .int (dn (k + 1))), (4, .int (oI (bsd (fun k => sMt σ k i) (σ 12) (k + 1)))), (0, .ref (ad 0)), (1, .ref qa), (2, .ref qm), (3, .int (nI i))] from by rw [e70]; exact lv_sub hl [0, 1, 3, 4, 5, 6] rfl) ⟨hP, hPa, hPm⟩ hS
set_option maxHeartbeats 4000000 in
set_option maxRecDepth 100000 in
/-- goes -/
theorem c_L_goes (l : Launch) (hst : l.stackTraces = false) (D : va_G) (cy : Nat → ClassId) (ad : Nat → Nat) (σ : Mem) (sz : Nat) (qa qm qb : Nat) (fa fm fb : Nat → Int32) (h N i : Nat) (hi : i < 16) (hh9 : h < 900000) (hI : Inv PN h N σ) (hT : Tell fa fm fb σ) : Met l yL_goes wsL_goes ({ frames := 10, cells := 20, slots := 120, locals := 172 }) (va_Pc [.ref (ad 0), .ref qa, .ref qm, .ref qb, .int (nI i)] (aX D cy ad σ sz qa 64 fa qm 48 fm)) (QI 1 (fun _ => True) NoA) 20 120 NoA := by
  refine Met.ofW (cc := cL_goes) (maxL := 13) (ret := (some .boolean)) (by decide) rfl ?_
  intro p e s m args below meth c s₁ B hml hv
  obtain ⟨rfl, ⟨⟨hP, hK⟩, hxk⟩, hPa, hPm⟩ := hv
  have hx := B.exec
  have hb := B.bytes
  have hr := B.returns
  have hts := atoms_spec (ws := wsL_goes) B.pre
  have hown : s.vm.findClass RL = some m.cls := findClass_of_methodNamed B.named
  have hlocks := B.notSynchronized
  have hS : va_S NoA s.heap s.heap [] := va_S.rf
  have hl := lv_entry ([.ref (ad 0), .ref qa, .ref qm, .ref qb, .int (nI i)]) (n := 13) (Nat.le_of_ble_eq_true rfl)
  rw [lg_entry_eq]
  generalize (lg_sl ([.ref (ad 0), .ref qa, .ref qm, .ref qb, .int (nI i)]) ++ List.replicate (13 - (lg_sl ([.ref (ad 0), .ref qa, .ref qm, .ref qb, .int (nI i)])).length) Slot.unset).toArray = ls at hl ⊢
  have hl : lv_has ls 13 [(0, .ref (ad 0)), (1, .ref qa), (2, .ref qm), (3, .ref qb), (4, .int (nI i))] := hl
  have hmo := hI.2.1 i hi
  obtain ⟨s8, r8, n8, x1, x2, x3, x4, x5, x6, x7, x8, x9, x10, x11⟩ := hmo
  have hB := bears_of x1 x2
  have hE := ends_of x1 x2
  have hh := hI.1
  rcases (show s8 = 0 ∨ s8 = 1 ∨ s8 = 2 ∨ s8 = 3 ∨ s8 = 4 ∨ s8 = 5 ∨ s8 = 6 ∨ s8 = 7 by omega) with rfl | rfl | rfl | rfl | rfl | rfl | rfl | rfl
  · have xs : σ 1 i = 0 := x2
    have hend : (if sEnds σ i = true then σ 8 i else -1) = -1 := by rw [hE.2 (by omega)]; rfl
    have himg : (if sBears σ i = true then σ 7 i else -1) = -1 := by rw [hB.2 (by omega)]; rfl
    have n0 := x8 (by omega)
    rcases hbs : sBst σ i with _ | b
    · refine lv_aload_n hx hb dL_goes_0 rfl (lv_at hl 0 rfl) ?_
      refine lv_iload hx hb dL_goes_1 (lv_at hl 4 rfl) ?_
      refine rMi (vx_runSW (As := [.ref (ad 0), .int (nI i)]) (rest := []) ⟨hx, hb, hml, hown, hts⟩ (c_L_stateOf l hst D cy ad σ sz (nI i) (0) ((wS hi).trans xs)) (vx_cwSW 2 hts gL_goes_L_stateOf rfl rfl rfl (by decide +kernel) ⟨Nat.le_of_ble_eq_true rfl, Nat.le_of_ble_eq_true rfl⟩) ⟨cx_bl, cx_S hP hK NoA_z hxk hS⟩ rfl rfl hl.1 rfl (lv_room (Nat.le_of_ble_eq_true rfl)) dL_goes_3 ⟨by show _ ≤ 20; omega, by show _ ≤ 120; omega⟩) hS (fun H locs hS hg => ?_)
      have hP := hP.grown hg
      have hPa := hPa.grown hg
      have hPm := hPm.grown hg
      refine W.eq (g2 := F0 m 6 ls [.int 0]) rfl ?_
      refine lv_istore (lv' := [(5, .int 0), (0, .ref (ad 0)), (1, .ref qa), (2, .ref qm), (3, .ref qb), (4, .int (nI i))]) hx hb dL_goes_6 hl (by decide) rfl (fun ls hl => ?_)
      refine lv_aload_n hx hb dL_goes_8 rfl (lv_at hl 1 rfl) ?_
      refine lv_aload_n hx hb dL_goes_9 rfl (lv_at hl 2 rfl) ?_
      refine lv_aload_n hx hb dL_goes_10 rfl (lv_at hl 3 rfl) ?_
      refine lv_iload hx hb dL_goes_11 (lv_at hl 5 rfl) ?_
      refine rMi (va_runS (As := [.ref (ad 0), .ref qa, .ref qm, .int (nI i)]) (rest := []) ⟨hx, hb, hml, hown, hts⟩ (c_L_match l hst D cy ad σ sz qa qm fa fm fb i hi ⟨_, x1, x2⟩ hT) (va_cwS 4 hts gL_goes_L_match rfl rfl rfl (by decide +kernel) ⟨Nat.le_of_ble_eq_true rfl, Nat.le_of_ble_eq_true rfl⟩) ⟨aX_bl, aX_S hP hK NoA_z hxk hS hPa hPm⟩ rfl rfl hl.1 rfl (lv_room (Nat.le_of_ble_eq_true rfl)) dL_goes_13 ⟨by show _ ≤ 20; omega, by show _ ≤ 120; omega⟩) hS (fun H locs hS hg => ?_)
      have hP := hP.grown hg
      have hPa := hPa.grown hg
      have hPm := hPm.grown hg
      refine W.eq (g2 := F0 m 16 ls [.int (-1)]) (by rw [hbs]; rfl) ?_
      refine lv_istore (lv' := [(6, .int (-1)), (5, .int 0), (0, .ref (ad 0)), (1, .ref qa), (2, .ref qm), (3, .ref qb), (4, .int (nI i))]) hx hb dL_goes_16 hl (by decide) rfl (fun ls hl => ?_)
      refine lv_aload_n hx hb dL_goes_18 rfl (lv_at hl 2 rfl) ?_
      refine lv_iload hx hb dL_goes_19 (lv_at hl 6 rfl) ?_
      refine rMi (vx_runSW (As := [.ref (ad 0), .int (nI i)]) (rest := []) ⟨hx, hb, hml, hown, hts⟩ (c_L_endOf l hst D cy ad σ sz (nI i) ((-1)) ((wE hi).trans hend)) (vx_cwSW 2 hts gL_goes_L_endOf rfl rfl rfl (by decide +kernel) ⟨Nat.le_of_ble_eq_true rfl, Nat.le_of_ble_eq_true rfl⟩) ⟨cx_bl, cx_S hP hK NoA_z hxk hS⟩ rfl rfl hl.1 rfl (lv_room (Nat.le_of_ble_eq_true rfl)) dL_goes_21 ⟨by show _ ≤ 20; omega, by show _ ≤ 120; omega⟩) hS (fun H locs hS hg => ?_)
      have hP := hP.grown hg
      have hPa := hPa.grown hg
      have hPm := hPm.grown hg
      refine W.eq (g2 := F0 m 24 ls [.int (-1)]) rfl ?_
      refine lv_istore (lv' := [(7, .int (-1)), (6, .int (-1)), (5, .int 0), (0, .ref (ad 0)), (1, .ref qa), (2, .ref qm), (3, .ref qb), (4, .int (nI i))]) hx hb dL_goes_24 hl (by decide) rfl (fun ls hl => ?_)
      refine lv_aload_n hx hb dL_goes_26 rfl (lv_at hl 3 rfl) ?_
      refine lv_iload hx hb dL_goes_27 (lv_at hl 7 rfl) ?_
      refine rMi (vx_runSW (As := [.ref (ad 0), .int (nI i)]) (rest := []) ⟨hx, hb, hml, hown, hts⟩ (c_L_failuresOf l hst D cy ad σ sz (nI i) (nI n8) ((wF hi).trans x5)) (vx_cwSW 2 hts gL_goes_L_failuresOf rfl rfl rfl (by decide +kernel) ⟨Nat.le_of_ble_eq_true rfl, Nat.le_of_ble_eq_true rfl⟩) ⟨cx_bl, cx_S hP hK NoA_z hxk hS⟩ rfl rfl hl.1 rfl (lv_room (Nat.le_of_ble_eq_true rfl)) dL_goes_29 ⟨by show _ ≤ 20; omega, by show _ ≤ 120; omega⟩) hS (fun H locs hS hg => ?_)
      have hP := hP.grown hg
      have hPa := hPa.grown hg
      have hPm := hPm.grown hg
      refine W.eq (g2 := F0 m 32 ls [.int (nI n8)]) rfl ?_
      refine lv_istore (lv' := [(8, .int (nI n8)), (7, .int (-1)), (6, .int (-1)), (5, .int 0), (0, .ref (ad 0)), (1, .ref qa), (2, .ref qm), (3, .ref qb), (4, .int (nI i))]) hx hb dL_goes_32 hl (by decide) rfl (fun ls hl => ?_)
      refine lv_iload hx hb dL_goes_34 (lv_at hl 3 rfl) ?_
      refine lv_iconst (v := 3) hx hb dL_goes_36 (by decide) ?_
      refine lv_icmp_eq (tgt := 53) hx hb dL_goes_37 (by decide) (fun c_1 => absurd c_1 ((by decide : ¬ (0 : Int32) = 3))) (fun c_1 => ?_)
      refine lv_iload hx hb dL_goes_40 (lv_at hl 3 rfl) ?_
      refine lv_iconst (v := 4) hx hb dL_goes_42 (by decide) ?_
      refine lv_icmp_eq (tgt := 53) hx hb dL_goes_43 (by decide) (fun c_2 => absurd c_2 ((by decide : ¬ (0 : Int32) = 4))) (fun c_2 => ?_)
      refine lv_iload hx hb dL_goes_46 (lv_at hl 3 rfl) ?_
      refine lv_bipush (v := 6) hx hb dL_goes_48 (by decide) ?_
      refine lv_icmp_ne (tgt := 57) hx hb dL_goes_50 (by decide) (fun c_3 => ?_) (fun c_3 => absurd c_3 ((by decide : ¬ (0 : Int32) = 6)))
      refine lv_iconst (v := 0) hx hb dL_goes_57 (by decide) ?_
      refine lv_istore (lv' := [(9, .int 0), (8, .int (nI n8)), (7, .int (-1)), (6, .int (-1)), (5, .int 0), (0, .ref (ad 0)), (1, .ref qa), (2, .ref qm), (3, .ref qb), (4, .int (nI i))]) hx hb dL_goes_58 hl (by decide) rfl (fun ls hl => ?_)
      refine lv_iload hx hb dL_goes_60 (lv_at hl 4 rfl) ?_
      refine lv_iconst (v := 3) hx hb dL_goes_62 (by decide) ?_
      refine lv_icmp_eq (tgt := 79) hx hb dL_goes_63 (by decide) (fun c_4 => absurd c_4 ((by decide : ¬ (0 : Int32) = 3))) (fun c_4 => ?_)
      refine lv_iload hx hb dL_goes_66 (lv_at hl 4 rfl) ?_
      refine lv_iconst (v := 5) hx hb dL_goes_68 (by decide) ?_
      refine lv_icmp_eq (tgt := 79) hx hb dL_goes_69 (by decide) (fun c_5 => absurd c_5 ((by decide : ¬ (0 : Int32) = 5))) (fun c_5 => ?_)
      refine lv_iload hx hb dL_goes_72 (lv_at hl 4 rfl) ?_
      refine lv_bipush (v := 6) hx hb dL_goes_74 (by decide) ?_
      refine lv_icmp_ne (tgt := 83) hx hb dL_goes_76 (by decide) (fun c_6 => ?_) (fun c_6 => absurd c_6 ((by decide : ¬ (0 : Int32) = 6)))
      refine lv_iconst (v := 0) hx hb dL_goes_83 (by decide) ?_
      refine lv_istore (lv' := [(10, .int 0), (9, .int 0), (8, .int (nI n8)), (7, .int (-1)), (6, .int (-1)), (5, .int 0), (0, .ref (ad 0)), (1, .ref qa), (2, .ref qm), (3, .ref qb), (4, .int (nI i))]) hx hb dL_goes_84 hl (by decide) rfl (fun ls hl => ?_)
      refine lv_aload_n hx hb dL_goes_86 rfl (lv_at hl 6 rfl) ?_
      refine lv_iload hx hb dL_goes_87 (lv_at hl 10 rfl) ?_
      refine rMi (vx_runSW (As := [.ref (ad 0), .int (nI i)]) (rest := []) ⟨hx, hb, hml, hown, hts⟩ (c_L_imageOf l hst D cy ad σ sz (nI i) ((-1)) ((wI hi).trans himg)) (vx_cwSW 2 hts gL_goes_L_imageOf rfl rfl rfl (by decide +kernel) ⟨Nat.le_of_ble_eq_true rfl, Nat.le_of_ble_eq_true rfl⟩) ⟨cx_bl, cx_S hP hK NoA_z hxk hS⟩ rfl rfl hl.1 rfl (lv_room (Nat.le_of_ble_eq_true rfl)) dL_goes_89 ⟨by show _ ≤ 20; omega, by show _ ≤ 120; omega⟩) hS (fun H locs hS hg => ?_)
      have hP := hP.grown hg
      have hPa := hPa.grown hg
      have hPm := hPm.grown hg
      refine W.eq (g2 := F0 m 92 ls [.int (-1)]) rfl ?_
      refine lv_istore (lv' := [(11, .int (-1)), (10, .int 0), (9, .int 0), (8, .int (nI n8)), (7, .int (-1)), (6, .int (-1)), (5, .int 0), (0, .ref (ad 0)), (1, .ref qa), (2, .ref qm), (3, .ref qb), (4, .int (nI i))]) hx hb dL_goes_92 hl (by decide) rfl (fun ls hl => ?_)
      refine lv_iload hx hb dL_goes_94 (lv_at hl 6 rfl) ?_
      refine lv_iconst (v := 5) hx hb dL_goes_96 (by decide) ?_
      refine lv_icmp_ne (tgt := 104) hx hb dL_goes_97 (by decide) (fun c_7 => ?_) (fun c_7 => absurd c_7 ((by decide : ¬ (0 : Int32) = 5)))
      refine lv_iload hx hb dL_goes_104 (lv_at hl 6 rfl) ?_
      refine lv_if_ne (tgt := 113) hx hb dL_goes_106 (by decide) (fun c_8 => absurd ((by decide : (0 : Int32) = 0)) c_8) (fun c_8 => ?_)
      refine lv_iconst (v := 1) hx hb dL_goes_109 (by decide) ?_
      refine lv_goto (tgt := 183) hx hb dL_goes_110 (by decide) ?_
      refine lv_istore (lv' := [(12, .int 1), (11, .int (-1)), (10, .int 0), (9, .int 0), (8, .int (nI n8)), (7, .int (-1)), (6, .int (-1)), (5, .int 0), (0, .ref (ad 0)), (1, .ref qa), (2, .ref qm), (3, .ref qb), (4, .int (nI i))]) hx hb dL_goes_183 hl (by decide) rfl (fun ls hl => ?_)
      refine lv_iload hx hb dL_goes_185 (lv_at hl 7 rfl) ?_
      refine lv_if_lt (tgt := 343) hx hb dL_goes_187 (by decide) (fun c_9 => absurd c_9 ((by decide : ¬ (0 : Int32) < 0))) (fun c_9 => ?_)
      refine lv_iload hx hb dL_goes_190 (lv_at hl 7 rfl) ?_
      refine lv_bipush (v := 8) hx hb dL_goes_192 (by decide) ?_
      refine lv_icmp_ge (tgt := 343) hx hb dL_goes_194 (by decide) (fun c_10 => absurd c_10 ((by decide : ¬ (8 : Int32) ≤ 0))) (fun c_10 => ?_)
      refine lv_aload_n hx hb dL_goes_197 rfl (lv_at hl 8 rfl) ?_
      refine lv_iload hx hb dL_goes_198 (lv_at hl 12 rfl) ?_
      refine rMi (vx_runSW (As := [.ref (ad 0), .int (nI i)]) (rest := []) ⟨hx, hb, hml, hown, hts⟩ (c_L_matchOf l hst D cy ad σ sz (nI i) ((-1)) ((wM hi).trans (by rw [hbs]; rfl))) (vx_cwSW 2 hts gL_goes_L_matchOf rfl rfl rfl (by decide +kernel) ⟨Nat.le_of_ble_eq_true rfl, Nat.le_of_ble_eq_true rfl⟩) ⟨cx_bl, cx_S hP hK NoA_z hxk hS⟩ rfl rfl hl.1 rfl (lv_room (Nat.le_of_ble_eq_true rfl)) dL_goes_200 ⟨by show _ ≤ 20; omega, by show _ ≤ 120; omega⟩) hS (fun H locs hS hg => ?_)
      have hP := hP.grown hg
      have hPa := hPa.grown hg
      have hPm := hPm.grown hg
      refine W.eq (g2 := F0 m 203 ls [.int (-1)]) rfl ?_
      refine lv_iload hx hb dL_goes_203 (lv_at hl 6 rfl) ?_
      refine lv_icmp_ne (tgt := 343) hx hb dL_goes_205 (by decide) (fun c_11 => absurd ((by decide : (-1 : Int32) = -1)) c_11) (fun c_11 => ?_)
      refine lv_aload_n hx hb dL_goes_208 rfl (lv_at hl 8 rfl) ?_
      refine lv_iload hx hb dL_goes_209 (lv_at hl 12 rfl) ?_
      refine rMi (vx_runSW (As := [.ref (ad 0), .int (nI i)]) (rest := []) ⟨hx, hb, hml, hown, hts⟩ (c_L_reason l hst D cy ad σ sz (nI i) (1) ((wR hi).trans (by rw [hbs, xs]; rfl))) (vx_cwSW 2 hts gL_goes_L_reason rfl rfl rfl (by decide +kernel) ⟨Nat.le_of_ble_eq_true rfl, Nat.le_of_ble_eq_true rfl⟩) ⟨cx_bl, cx_S hP hK NoA_z hxk hS⟩ rfl rfl hl.1 rfl (lv_room (Nat.le_of_ble_eq_true rfl)) dL_goes_211 ⟨by show _ ≤ 20; omega, by show _ ≤ 120; omega⟩) hS (fun H locs hS hg => ?_)
      have hP := hP.grown hg
      have hPa := hPa.grown hg
      have hPm := hPm.grown hg
      refine W.eq (g2 := F0 m 214 ls [.int 1]) rfl ?_
      refine lv_iload hx hb dL_goes_214 (lv_at hl 0 rfl) ?_
      refine lv_icmp_ne (tgt := 343) hx hb dL_goes_216 (by decide) (fun c_12 => absurd ((by decide : (1 : Int32) = 1)) c_12) (fun c_12 => ?_)
      refine lv_iload hx hb dL_goes_219 (lv_at hl 3 rfl) ?_
      refine lv_if_eq (tgt := 254) hx hb dL_goes_221 (by decide) (fun c_13 => ?_) (fun c_13 => absurd ((by decide : (0 : Int32) = 0)) c_13)
      refine lv_iload hx hb dL_goes_254 (lv_at hl 5 rfl) ?_
      refine lv_iconst (v := (-1)) hx hb dL_goes_256 (by decide) ?_
      refine lv_icmp_ne (tgt := 343) hx hb dL_goes_257 (by decide) (fun c_14 => absurd ((by decide : (-1 : Int32) = -1)) c_14) (fun c_14 => ?_)
      refine lv_iload hx hb dL_goes_260 (lv_at hl 2 rfl) ?_
      refine lv_if_eq (tgt := 280) hx hb dL_goes_262 (by decide) (fun c_15 => ?_) (fun c_15 => absurd ((by decide : (0 : Int32) = 0)) c_15)
      refine lv_iload hx hb dL_goes_280 (lv_at hl 1 rfl) ?_
      refine lv_iconst (v := (-1)) hx hb dL_goes_282 (by decide) ?_
      refine lv_icmp_ne (tgt := 343) hx hb dL_goes_283 (by decide) (fun c_16 => absurd ((by decide : (-1 : Int32) = -1)) c_16) (fun c_16 => ?_)
      refine lv_iload hx hb dL_goes_286 (lv_at hl 4 rfl) ?_
      refine lv_if_lt (tgt := 343) hx hb dL_goes_288 (by decide) (fun c_17 => absurd c_17 ((fun z9 => absurd ((nI_ltI (a := n8) (b := 0) (by omega) (by omega)).mp z9) (by omega)))) (fun c_17 => ?_)
      refine lv_iload hx hb dL_goes_291 (lv_at hl 4 rfl) ?_
      refine lv_bipush (v := 10) hx hb dL_goes_293 (by decide) ?_
      refine lv_icmp_ge (tgt := 343) hx hb dL_goes_295 (by decide) (fun c_18 => absurd c_18 ((fun z9 => absurd ((nI_leI (a := 10) (b := n8) (by omega) (by omega)).mp z9) (by omega)))) (fun c_18 => ?_)
      refine lv_iload hx hb dL_goes_298 (lv_at hl 7 rfl) ?_
      refine lv_iconst (v := 5) hx hb dL_goes_300 (by decide) ?_
      refine lv_icmp_eq (tgt := 316) hx hb dL_goes_301 (by decide) (fun c_19 => absurd c_19 ((by decide : ¬ (0 : Int32) = 5))) (fun c_19 => ?_)
      refine lv_iload hx hb dL_goes_304 (lv_at hl 7 rfl) ?_
      refine lv_bipush (v := 6) hx hb dL_goes_306 (by decide) ?_
      refine lv_icmp_eq (tgt := 316) hx hb dL_goes_308 (by decide) (fun c_20 => absurd c_20 ((by decide : ¬ (0 : Int32) = 6))) (fun c_20 => ?_)
      refine lv_iload hx hb dL_goes_311 (lv_at hl 7 rfl) ?_
      refine lv_if_ne (tgt := 321) hx hb dL_goes_313 (by decide) (fun c_21 => absurd ((by decide : (0 : Int32) = 0)) c_21) (fun c_21 => ?_)
      refine lv_iload hx hb dL_goes_316 (lv_at hl 4 rfl) ?_
      refine lv_if_ne (tgt := 343) hx hb dL_goes_318 (by decide) (fun c_22 => absurd (((nI_eq (a := n8) (b := 0) (by omega) (by omega)).mpr (by omega))) c_22) (fun c_22 => ?_)
      refine lv_iload hx hb dL_goes_321 (lv_at hl 7 rfl) ?_
      refine lv_iconst (v := 4) hx hb dL_goes_323 (by decide) ?_
      refine lv_icmp_eq (tgt := 334) hx hb dL_goes_324 (by decide) (fun c_23 => absurd c_23 ((by decide : ¬ (0 : Int32) = 4))) (fun c_23 => ?_)
      refine lv_iload hx hb dL_goes_327 (lv_at hl 7 rfl) ?_
      refine lv_bipush (v := 7) hx hb dL_goes_329 (by decide) ?_
      refine lv_icmp_ne (tgt := 339) hx hb dL_goes_331 (by decide) (fun c_24 => ?_) (fun c_24 => absurd c_24 ((by decide : ¬ (0 : Int32) = 7)))
      refine lv_iconst (v := 1) hx hb dL_goes_339 (by decide) ?_
      refine lv_goto (tgt := 344) hx hb dL_goes_340 (by decide) ?_
      refine W.widen (k := 20) (n := 120) (by omega) (by omega) ?_
      exact W.zret (v := 1) hx hb hr rfl (fun t ht hW => ⟨⟨_, (), rfl, rfl, trivial⟩, hS.F ht⟩) hS.2.2 dL_goes_344
    · have hb8 : b < 8 := bst_lt (n := 8) hbs
      refine lv_aload_n hx hb dL_goes_0 rfl (lv_at hl 0 rfl) ?_
      refine lv_iload hx hb dL_goes_1 (lv_at hl 4 rfl) ?_
      refine rMi (vx_runSW (As := [.ref (ad 0), .int (nI i)]) (rest := []) ⟨hx, hb, hml, hown, hts⟩ (c_L_stateOf l hst D cy ad σ sz (nI i) (0) ((wS hi).trans xs)) (vx_cwSW 2 hts gL_goes_L_stateOf rfl rfl rfl (by decide +kernel) ⟨Nat.le_of_ble_eq_true rfl, Nat.le_of_ble_eq_true rfl⟩) ⟨cx_bl, cx_S hP hK NoA_z hxk hS⟩ rfl rfl hl.1 rfl (lv_room (Nat.le_of_ble_eq_true rfl)) dL_goes_3 ⟨by show _ ≤ 20; omega, by show _ ≤ 120; omega⟩) hS (fun H locs hS hg => ?_)
      have hP := hP.grown hg
      have hPa := hPa.grown hg
      have hPm := hPm.grown hg
      refine W.eq (g2 := F0 m 6 ls [.int 0]) rfl ?_
      refine lv_istore (lv' := [(5, .int 0), (0, .ref (ad 0)), (1, .ref qa), (2, .ref qm), (3, .ref qb), (4, .int (nI i))]) hx hb dL_goes_6 hl (by decide) rfl (fun ls hl => ?_)
      refine lv_aload_n hx hb dL_goes_8 rfl (lv_at hl 1 rfl) ?_
      refine lv_aload_n hx hb dL_goes_9 rfl (lv_at hl 2 rfl) ?_
      refine lv_aload_n hx hb dL_goes_10 rfl (lv_at hl 3 rfl) ?_
      refine lv_iload hx hb dL_goes_11 (lv_at hl 5 rfl) ?_
      refine rMi (va_runS (As := [.ref (ad 0), .ref qa, .ref qm, .int (nI i)]) (rest := []) ⟨hx, hb, hml, hown, hts⟩ (c_L_match l hst D cy ad σ sz qa qm fa fm fb i hi ⟨_, x1, x2⟩ hT) (va_cwS 4 hts gL_goes_L_match rfl rfl rfl (by decide +kernel) ⟨Nat.le_of_ble_eq_true rfl, Nat.le_of_ble_eq_true rfl⟩) ⟨aX_bl, aX_S hP hK NoA_z hxk hS hPa hPm⟩ rfl rfl hl.1 rfl (lv_room (Nat.le_of_ble_eq_true rfl)) dL_goes_13 ⟨by show _ ≤ 20; omega, by show _ ≤ 120; omega⟩) hS (fun H locs hS hg => ?_)
      have hP := hP.grown hg
      have hPa := hPa.grown hg
      have hPm := hPm.grown hg
      refine W.eq (g2 := F0 m 16 ls [.int (nI b)]) (by rw [hbs]; rfl) ?_
      refine lv_istore (lv' := [(6, .int (nI b)), (5, .int 0), (0, .ref (ad 0)), (1, .ref qa), (2, .ref qm), (3, .ref qb), (4, .int (nI i))]) hx hb dL_goes_16 hl (by decide) rfl (fun ls hl => ?_)
      refine lv_aload_n hx hb dL_goes_18 rfl (lv_at hl 2 rfl) ?_
      refine lv_iload hx hb dL_goes_19 (lv_at hl 6 rfl) ?_
      refine rMi (vx_runSW (As := [.ref (ad 0), .int (nI i)]) (rest := []) ⟨hx, hb, hml, hown, hts⟩ (c_L_endOf l hst D cy ad σ sz (nI i) ((-1)) ((wE hi).trans hend)) (vx_cwSW 2 hts gL_goes_L_endOf rfl rfl rfl (by decide +kernel) ⟨Nat.le_of_ble_eq_true rfl, Nat.le_of_ble_eq_true rfl⟩) ⟨cx_bl, cx_S hP hK NoA_z hxk hS⟩ rfl rfl hl.1 rfl (lv_room (Nat.le_of_ble_eq_true rfl)) dL_goes_21 ⟨by show _ ≤ 20; omega, by show _ ≤ 120; omega⟩) hS (fun H locs hS hg => ?_)
      have hP := hP.grown hg
      have hPa := hPa.grown hg
      have hPm := hPm.grown hg
      refine W.eq (g2 := F0 m 24 ls [.int (-1)]) rfl ?_
      refine lv_istore (lv' := [(7, .int (-1)), (6, .int (nI b)), (5, .int 0), (0, .ref (ad 0)), (1, .ref qa), (2, .ref qm), (3, .ref qb), (4, .int (nI i))]) hx hb dL_goes_24 hl (by decide) rfl (fun ls hl => ?_)
      refine lv_aload_n hx hb dL_goes_26 rfl (lv_at hl 3 rfl) ?_
      refine lv_iload hx hb dL_goes_27 (lv_at hl 7 rfl) ?_
      refine rMi (vx_runSW (As := [.ref (ad 0), .int (nI i)]) (rest := []) ⟨hx, hb, hml, hown, hts⟩ (c_L_failuresOf l hst D cy ad σ sz (nI i) (nI n8) ((wF hi).trans x5)) (vx_cwSW 2 hts gL_goes_L_failuresOf rfl rfl rfl (by decide +kernel) ⟨Nat.le_of_ble_eq_true rfl, Nat.le_of_ble_eq_true rfl⟩) ⟨cx_bl, cx_S hP hK NoA_z hxk hS⟩ rfl rfl hl.1 rfl (lv_room (Nat.le_of_ble_eq_true rfl)) dL_goes_29 ⟨by show _ ≤ 20; omega, by show _ ≤ 120; omega⟩) hS (fun H locs hS hg => ?_)
      have hP := hP.grown hg
      have hPa := hPa.grown hg
      have hPm := hPm.grown hg
      refine W.eq (g2 := F0 m 32 ls [.int (nI n8)]) rfl ?_
      refine lv_istore (lv' := [(8, .int (nI n8)), (7, .int (-1)), (6, .int (nI b)), (5, .int 0), (0, .ref (ad 0)), (1, .ref qa), (2, .ref qm), (3, .ref qb), (4, .int (nI i))]) hx hb dL_goes_32 hl (by decide) rfl (fun ls hl => ?_)
      refine lv_iload hx hb dL_goes_34 (lv_at hl 3 rfl) ?_
      refine lv_iconst (v := 3) hx hb dL_goes_36 (by decide) ?_
      refine lv_icmp_eq (tgt := 53) hx hb dL_goes_37 (by decide) (fun c_25 => absurd c_25 ((by decide : ¬ (0 : Int32) = 3))) (fun c_25 => ?_)
      refine lv_iload hx hb dL_goes_40 (lv_at hl 3 rfl) ?_
      refine lv_iconst (v := 4) hx hb dL_goes_42 (by decide) ?_
      refine lv_icmp_eq (tgt := 53) hx hb dL_goes_43 (by decide) (fun c_26 => absurd c_26 ((by decide : ¬ (0 : Int32) = 4))) (fun c_26 => ?_)
      refine lv_iload hx hb dL_goes_46 (lv_at hl 3 rfl) ?_
      refine lv_bipush (v := 6) hx hb dL_goes_48 (by decide) ?_
      refine lv_icmp_ne (tgt := 57) hx hb dL_goes_50 (by decide) (fun c_27 => ?_) (fun c_27 => absurd c_27 ((by decide : ¬ (0 : Int32) = 6)))
      refine lv_iconst (v := 0) hx hb dL_goes_57 (by decide) ?_
      refine lv_istore (lv' := [(9, .int 0), (8, .int (nI n8)), (7, .int (-1)), (6, .int (nI b)), (5, .int 0), (0, .ref (ad 0)), (1, .ref qa), (2, .ref qm), (3, .ref qb), (4, .int (nI i))]) hx hb dL_goes_58 hl (by decide) rfl (fun ls hl => ?_)
      refine lv_iload hx hb dL_goes_60 (lv_at hl 4 rfl) ?_
      refine lv_iconst (v := 3) hx hb dL_goes_62 (by decide) ?_
      refine lv_icmp_eq (tgt := 79) hx hb dL_goes_63 (by decide) (fun c_28 => absurd c_28 ((by decide : ¬ (0 : Int32) = 3))) (fun c_28 => ?_)
      refine lv_iload hx hb dL_goes_66 (lv_at hl 4 rfl) ?_
      refine lv_iconst (v := 5) hx hb dL_goes_68 (by decide) ?_
      refine lv_icmp_eq (tgt := 79) hx hb dL_goes_69 (by decide) (fun c_29 => absurd c_29 ((by decide : ¬ (0 : Int32) = 5))) (fun c_29 => ?_)
      refine lv_iload hx hb dL_goes_72 (lv_at hl 4 rfl) ?_
      refine lv_bipush (v := 6) hx hb dL_goes_74 (by decide) ?_
      refine lv_icmp_ne (tgt := 83) hx hb dL_goes_76 (by decide) (fun c_30 => ?_) (fun c_30 => absurd c_30 ((by decide : ¬ (0 : Int32) = 6)))
      refine lv_iconst (v := 0) hx hb dL_goes_83 (by decide) ?_
      refine lv_istore (lv' := [(10, .int 0), (9, .int 0), (8, .int (nI n8)), (7, .int (-1)), (6, .int (nI b)), (5, .int 0), (0, .ref (ad 0)), (1, .ref qa), (2, .ref qm), (3, .ref qb), (4, .int (nI i))]) hx hb dL_goes_84 hl (by decide) rfl (fun ls hl => ?_)
      refine lv_aload_n hx hb dL_goes_86 rfl (lv_at hl 6 rfl) ?_
      refine lv_iload hx hb dL_goes_87 (lv_at hl 10 rfl) ?_
      refine rMi (vx_runSW (As := [.ref (ad 0), .int (nI i)]) (rest := []) ⟨hx, hb, hml, hown, hts⟩ (c_L_imageOf l hst D cy ad σ sz (nI i) ((-1)) ((wI hi).trans himg)) (vx_cwSW 2 hts gL_goes_L_imageOf rfl rfl rfl (by decide +kernel) ⟨Nat.le_of_ble_eq_true rfl, Nat.le_of_ble_eq_true rfl⟩) ⟨cx_bl, cx_S hP hK NoA_z hxk hS⟩ rfl rfl hl.1 rfl (lv_room (Nat.le_of_ble_eq_true rfl)) dL_goes_89 ⟨by show _ ≤ 20; omega, by show _ ≤ 120; omega⟩) hS (fun H locs hS hg => ?_)
      have hP := hP.grown hg
      have hPa := hPa.grown hg
      have hPm := hPm.grown hg
      refine W.eq (g2 := F0 m 92 ls [.int (-1)]) rfl ?_
      refine lv_istore (lv' := [(11, .int (-1)), (10, .int 0), (9, .int 0), (8, .int (nI n8)), (7, .int (-1)), (6, .int (nI b)), (5, .int 0), (0, .ref (ad 0)), (1, .ref qa), (2, .ref qm), (3, .ref qb), (4, .int (nI i))]) hx hb dL_goes_92 hl (by decide) rfl (fun ls hl => ?_)
      refine lv_iload hx hb dL_goes_94 (lv_at hl 6 rfl) ?_
      refine lv_iconst (v := 5) hx hb dL_goes_96 (by decide) ?_
      refine lv_icmp_ne (tgt := 104) hx hb dL_goes_97 (by decide) (fun c_31 => ?_) (fun c_31 => absurd c_31 ((by decide : ¬ (0 : Int32) = 5)))
      refine lv_iload hx hb dL_goes_104 (lv_at hl 6 rfl) ?_
      refine lv_if_ne (tgt := 113) hx hb dL_goes_106 (by decide) (fun c_32 => absurd ((by decide : (0 : Int32) = 0)) c_32) (fun c_32 => ?_)
      refine lv_iconst (v := 1) hx hb dL_goes_109 (by decide) ?_
      refine lv_goto (tgt := 183) hx hb dL_goes_110 (by decide) ?_
      refine lv_istore (lv' := [(12, .int 1), (11, .int (-1)), (10, .int 0), (9, .int 0), (8, .int (nI n8)), (7, .int (-1)), (6, .int (nI b)), (5, .int 0), (0, .ref (ad 0)), (1, .ref qa), (2, .ref qm), (3, .ref qb), (4, .int (nI i))]) hx hb dL_goes_183 hl (by decide) rfl (fun ls hl => ?_)
      refine lv_iload hx hb dL_goes_185 (lv_at hl 7 rfl) ?_
      refine lv_if_lt (tgt := 343) hx hb dL_goes_187 (by decide) (fun c_33 => absurd c_33 ((by decide : ¬ (0 : Int32) < 0))) (fun c_33 => ?_)
      refine lv_iload hx hb dL_goes_190 (lv_at hl 7 rfl) ?_
      refine lv_bipush (v := 8) hx hb dL_goes_192 (by decide) ?_
      refine lv_icmp_ge (tgt := 343) hx hb dL_goes_194 (by decide) (fun c_34 => absurd c_34 ((by decide : ¬ (8 : Int32) ≤ 0))) (fun c_34 => ?_)
      refine lv_aload_n hx hb dL_goes_197 rfl (lv_at hl 8 rfl) ?_
      refine lv_iload hx hb dL_goes_198 (lv_at hl 12 rfl) ?_
      refine rMi (vx_runSW (As := [.ref (ad 0), .int (nI i)]) (rest := []) ⟨hx, hb, hml, hown, hts⟩ (c_L_matchOf l hst D cy ad σ sz (nI i) (nI b) ((wM hi).trans (by rw [hbs]; rfl))) (vx_cwSW 2 hts gL_goes_L_matchOf rfl rfl rfl (by decide +kernel) ⟨Nat.le_of_ble_eq_true rfl, Nat.le_of_ble_eq_true rfl⟩) ⟨cx_bl, cx_S hP hK NoA_z hxk hS⟩ rfl rfl hl.1 rfl (lv_room (Nat.le_of_ble_eq_true rfl)) dL_goes_200 ⟨by show _ ≤ 20; omega, by show _ ≤ 120; omega⟩) hS (fun H locs hS hg => ?_)
      have hP := hP.grown hg
      have hPa := hPa.grown hg
      have hPm := hPm.grown hg
      refine W.eq (g2 := F0 m 203 ls [.int (nI b)]) rfl ?_
      refine lv_iload hx hb dL_goes_203 (lv_at hl 6 rfl) ?_
      refine lv_icmp_ne (tgt := 343) hx hb dL_goes_205 (by decide) (fun c_35 => absurd (rfl) c_35) (fun c_35 => ?_)
      refine lv_aload_n hx hb dL_goes_208 rfl (lv_at hl 8 rfl) ?_
      refine lv_iload hx hb dL_goes_209 (lv_at hl 12 rfl) ?_
      refine rMi (vx_runSW (As := [.ref (ad 0), .int (nI i)]) (rest := []) ⟨hx, hb, hml, hown, hts⟩ (c_L_reason l hst D cy ad σ sz (nI i) (1) ((wR hi).trans (by rw [hbs, xs]; rfl))) (vx_cwSW 2 hts gL_goes_L_reason rfl rfl rfl (by decide +kernel) ⟨Nat.le_of_ble_eq_true rfl, Nat.le_of_ble_eq_true rfl⟩) ⟨cx_bl, cx_S hP hK NoA_z hxk hS⟩ rfl rfl hl.1 rfl (lv_room (Nat.le_of_ble_eq_true rfl)) dL_goes_211 ⟨by show _ ≤ 20; omega, by show _ ≤ 120; omega⟩) hS (fun H locs hS hg => ?_)
      have hP := hP.grown hg
      have hPa := hPa.grown hg
      have hPm := hPm.grown hg
      refine W.eq (g2 := F0 m 214 ls [.int 1]) rfl ?_
      refine lv_iload hx hb dL_goes_214 (lv_at hl 0 rfl) ?_
      refine lv_icmp_ne (tgt := 343) hx hb dL_goes_216 (by decide) (fun c_36 => absurd ((by decide : (1 : Int32) = 1)) c_36) (fun c_36 => ?_)
      refine lv_iload hx hb dL_goes_219 (lv_at hl 3 rfl) ?_
      refine lv_if_eq (tgt := 254) hx hb dL_goes_221 (by decide) (fun c_37 => ?_) (fun c_37 => absurd ((by decide : (0 : Int32) = 0)) c_37)
      refine lv_iload hx hb dL_goes_254 (lv_at hl 5 rfl) ?_
      refine lv_iconst (v := (-1)) hx hb dL_goes_256 (by decide) ?_
      refine lv_icmp_ne (tgt := 343) hx hb dL_goes_257 (by decide) (fun c_38 => absurd ((by decide : (-1 : Int32) = -1)) c_38) (fun c_38 => ?_)
      refine lv_iload hx hb dL_goes_260 (lv_at hl 2 rfl) ?_
      refine lv_if_eq (tgt := 280) hx hb dL_goes_262 (by decide) (fun c_39 => ?_) (fun c_39 => absurd ((by decide : (0 : Int32) = 0)) c_39)
      refine lv_iload hx hb dL_goes_280 (lv_at hl 1 rfl) ?_
      refine lv_iconst (v := (-1)) hx hb dL_goes_282 (by decide) ?_
      refine lv_icmp_ne (tgt := 343) hx hb dL_goes_283 (by decide) (fun c_40 => absurd ((by decide : (-1 : Int32) = -1)) c_40) (fun c_40 => ?_)
      refine lv_iload hx hb dL_goes_286 (lv_at hl 4 rfl) ?_
      refine lv_if_lt (tgt := 343) hx hb dL_goes_288 (by decide) (fun c_41 => absurd c_41 ((fun z9 => absurd ((nI_ltI (a := n8) (b := 0) (by omega) (by omega)).mp z9) (by omega)))) (fun c_41 => ?_)
      refine lv_iload hx hb dL_goes_291 (lv_at hl 4 rfl) ?_
      refine lv_bipush (v := 10) hx hb dL_goes_293 (by decide) ?_
      refine lv_icmp_ge (tgt := 343) hx hb dL_goes_295 (by decide) (fun c_42 => absurd c_42 ((fun z9 => absurd ((nI_leI (a := 10) (b := n8) (by omega) (by omega)).mp z9) (by omega)))) (fun c_42 => ?_)
      refine lv_iload hx hb dL_goes_298 (lv_at hl 7 rfl) ?_
      refine lv_iconst (v := 5) hx hb dL_goes_300 (by decide) ?_
      refine lv_icmp_eq (tgt := 316) hx hb dL_goes_301 (by decide) (fun c_43 => absurd c_43 ((by decide : ¬ (0 : Int32) = 5))) (fun c_43 => ?_)
      refine lv_iload hx hb dL_goes_304 (lv_at hl 7 rfl) ?_
      refine lv_bipush (v := 6) hx hb dL_goes_306 (by decide) ?_
      refine lv_icmp_eq (tgt := 316) hx hb dL_goes_308 (by decide) (fun c_44 => absurd c_44 ((by decide : ¬ (0 : Int32) = 6))) (fun c_44 => ?_)
      refine lv_iload hx hb dL_goes_311 (lv_at hl 7 rfl) ?_
      refine lv_if_ne (tgt := 321) hx hb dL_goes_313 (by decide) (fun c_45 => absurd ((by decide : (0 : Int32) = 0)) c_45) (fun c_45 => ?_)
      refine lv_iload hx hb dL_goes_316 (lv_at hl 4 rfl) ?_
      refine lv_if_ne (tgt := 343) hx hb dL_goes_318 (by decide) (fun c_46 => absurd (((nI_eq (a := n8) (b := 0) (by omega) (by omega)).mpr (by omega))) c_46) (fun c_46 => ?_)
      refine lv_iload hx hb dL_goes_321 (lv_at hl 7 rfl) ?_
      refine lv_iconst (v := 4) hx hb dL_goes_323 (by decide) ?_
      refine lv_icmp_eq (tgt := 334) hx hb dL_goes_324 (by decide) (fun c_47 => absurd c_47 ((by decide : ¬ (0 : Int32) = 4))) (fun c_47 => ?_)
      refine lv_iload hx hb dL_goes_327 (lv_at hl 7 rfl) ?_
      refine lv_bipush (v := 7) hx hb dL_goes_329 (by decide) ?_
      refine lv_icmp_ne (tgt := 339) hx hb dL_goes_331 (by decide) (fun c_48 => ?_) (fun c_48 => absurd c_48 ((by decide : ¬ (0 : Int32) = 7)))
      refine lv_iconst (v := 1) hx hb dL_goes_339 (by decide) ?_
      refine lv_goto (tgt := 344) hx hb dL_goes_340 (by decide) ?_
      refine W.widen (k := 20) (n := 120) (by omega) (by omega) ?_
      exact W.zret (v := 1) hx hb hr rfl (fun t ht hW => ⟨⟨_, (), rfl, rfl, trivial⟩, hS.F ht⟩) hS.2.2 dL_goes_344
  · have xs : σ 1 i = 1 := x2
    have hend : (if sEnds σ i = true then σ 8 i else -1) = -1 := by rw [hE.2 (by omega)]; rfl
    have himg : (if sBears σ i = true then σ 7 i else -1) = -1 := by rw [hB.2 (by omega)]; rfl
    rcases hbs : sBst σ i with _ | b
    · refine lv_aload_n hx hb dL_goes_0 rfl (lv_at hl 0 rfl) ?_
      refine lv_iload hx hb dL_goes_1 (lv_at hl 4 rfl) ?_
      refine rMi (vx_runSW (As := [.ref (ad 0), .int (nI i)]) (rest := []) ⟨hx, hb, hml, hown, hts⟩ (c_L_stateOf l hst D cy ad σ sz (nI i) (1) ((wS hi).trans xs)) (vx_cwSW 2 hts gL_goes_L_stateOf rfl rfl rfl (by decide +kernel) ⟨Nat.le_of_ble_eq_true rfl, Nat.le_of_ble_eq_true rfl⟩) ⟨cx_bl, cx_S hP hK NoA_z hxk hS⟩ rfl rfl hl.1 rfl (lv_room (Nat.le_of_ble_eq_true rfl)) dL_goes_3 ⟨by show _ ≤ 20; omega, by show _ ≤ 120; omega⟩) hS (fun H locs hS hg => ?_)
      have hP := hP.grown hg
      have hPa := hPa.grown hg
      have hPm := hPm.grown hg
      refine W.eq (g2 := F0 m 6 ls [.int 1]) rfl ?_
      refine lv_istore (lv' := [(5, .int 1), (0, .ref (ad 0)), (1, .ref qa), (2, .ref qm), (3, .ref qb), (4, .int (nI i))]) hx hb dL_goes_6 hl (by decide) rfl (fun ls hl => ?_)
      refine lv_aload_n hx hb dL_goes_8 rfl (lv_at hl 1 rfl) ?_
      refine lv_aload_n hx hb dL_goes_9 rfl (lv_at hl 2 rfl) ?_
      refine lv_aload_n hx hb dL_goes_10 rfl (lv_at hl 3 rfl) ?_
      refine lv_iload hx hb dL_goes_11 (lv_at hl 5 rfl) ?_
      refine rMi (va_runS (As := [.ref (ad 0), .ref qa, .ref qm, .int (nI i)]) (rest := []) ⟨hx, hb, hml, hown, hts⟩ (c_L_match l hst D cy ad σ sz qa qm fa fm fb i hi ⟨_, x1, x2⟩ hT) (va_cwS 4 hts gL_goes_L_match rfl rfl rfl (by decide +kernel) ⟨Nat.le_of_ble_eq_true rfl, Nat.le_of_ble_eq_true rfl⟩) ⟨aX_bl, aX_S hP hK NoA_z hxk hS hPa hPm⟩ rfl rfl hl.1 rfl (lv_room (Nat.le_of_ble_eq_true rfl)) dL_goes_13 ⟨by show _ ≤ 20; omega, by show _ ≤ 120; omega⟩) hS (fun H locs hS hg => ?_)
      have hP := hP.grown hg
      have hPa := hPa.grown hg
      have hPm := hPm.grown hg
      refine W.eq (g2 := F0 m 16 ls [.int (-1)]) (by rw [hbs]; rfl) ?_
      refine lv_istore (lv' := [(6, .int (-1)), (5, .int 1), (0, .ref (ad 0)), (1, .ref qa), (2, .ref qm), (3, .ref qb), (4, .int (nI i))]) hx hb dL_goes_16 hl (by decide) rfl (fun ls hl => ?_)
      refine lv_aload_n hx hb dL_goes_18 rfl (lv_at hl 2 rfl) ?_
      refine lv_iload hx hb dL_goes_19 (lv_at hl 6 rfl) ?_
      refine rMi (vx_runSW (As := [.ref (ad 0), .int (nI i)]) (rest := []) ⟨hx, hb, hml, hown, hts⟩ (c_L_endOf l hst D cy ad σ sz (nI i) ((-1)) ((wE hi).trans hend)) (vx_cwSW 2 hts gL_goes_L_endOf rfl rfl rfl (by decide +kernel) ⟨Nat.le_of_ble_eq_true rfl, Nat.le_of_ble_eq_true rfl⟩) ⟨cx_bl, cx_S hP hK NoA_z hxk hS⟩ rfl rfl hl.1 rfl (lv_room (Nat.le_of_ble_eq_true rfl)) dL_goes_21 ⟨by show _ ≤ 20; omega, by show _ ≤ 120; omega⟩) hS (fun H locs hS hg => ?_)
      have hP := hP.grown hg
      have hPa := hPa.grown hg
      have hPm := hPm.grown hg
      refine W.eq (g2 := F0 m 24 ls [.int (-1)]) rfl ?_
      refine lv_istore (lv' := [(7, .int (-1)), (6, .int (-1)), (5, .int 1), (0, .ref (ad 0)), (1, .ref qa), (2, .ref qm), (3, .ref qb), (4, .int (nI i))]) hx hb dL_goes_24 hl (by decide) rfl (fun ls hl => ?_)
      refine lv_aload_n hx hb dL_goes_26 rfl (lv_at hl 3 rfl) ?_
      refine lv_iload hx hb dL_goes_27 (lv_at hl 7 rfl) ?_
      refine rMi (vx_runSW (As := [.ref (ad 0), .int (nI i)]) (rest := []) ⟨hx, hb, hml, hown, hts⟩ (c_L_failuresOf l hst D cy ad σ sz (nI i) (nI n8) ((wF hi).trans x5)) (vx_cwSW 2 hts gL_goes_L_failuresOf rfl rfl rfl (by decide +kernel) ⟨Nat.le_of_ble_eq_true rfl, Nat.le_of_ble_eq_true rfl⟩) ⟨cx_bl, cx_S hP hK NoA_z hxk hS⟩ rfl rfl hl.1 rfl (lv_room (Nat.le_of_ble_eq_true rfl)) dL_goes_29 ⟨by show _ ≤ 20; omega, by show _ ≤ 120; omega⟩) hS (fun H locs hS hg => ?_)
      have hP := hP.grown hg
      have hPa := hPa.grown hg
      have hPm := hPm.grown hg
      refine W.eq (g2 := F0 m 32 ls [.int (nI n8)]) rfl ?_
      refine lv_istore (lv' := [(8, .int (nI n8)), (7, .int (-1)), (6, .int (-1)), (5, .int 1), (0, .ref (ad 0)), (1, .ref qa), (2, .ref qm), (3, .ref qb), (4, .int (nI i))]) hx hb dL_goes_32 hl (by decide) rfl (fun ls hl => ?_)
      refine lv_iload hx hb dL_goes_34 (lv_at hl 3 rfl) ?_
      refine lv_iconst (v := 3) hx hb dL_goes_36 (by decide) ?_
      refine lv_icmp_eq (tgt := 53) hx hb dL_goes_37 (by decide) (fun c_49 => absurd c_49 ((by decide : ¬ (1 : Int32) = 3))) (fun c_49 => ?_)
      refine lv_iload hx hb dL_goes_40 (lv_at hl 3 rfl) ?_
      refine lv_iconst (v := 4) hx hb dL_goes_42 (by decide) ?_
      refine lv_icmp_eq (tgt := 53) hx hb dL_goes_43 (by decide) (fun c_50 => absurd c_50 ((by decide : ¬ (1 : Int32) = 4))) (fun c_50 => ?_)
      refine lv_iload hx hb dL_goes_46 (lv_at hl 3 rfl) ?_
      refine lv_bipush (v := 6) hx hb dL_goes_48 (by decide) ?_
      refine lv_icmp_ne (tgt := 57) hx hb dL_goes_50 (by decide) (fun c_51 => ?_) (fun c_51 => absurd c_51 ((by decide : ¬ (1 : Int32) = 6)))
      refine lv_iconst (v := 0) hx hb dL_goes_57 (by decide) ?_
      refine lv_istore (lv' := [(9, .int 0), (8, .int (nI n8)), (7, .int (-1)), (6, .int (-1)), (5, .int 1), (0, .ref (ad 0)), (1, .ref qa), (2, .ref qm), (3, .ref qb), (4, .int (nI i))]) hx hb dL_goes_58 hl (by decide) rfl (fun ls hl => ?_)
      refine lv_iload hx hb dL_goes_60 (lv_at hl 4 rfl) ?_
      refine lv_iconst (v := 3) hx hb dL_goes_62 (by decide) ?_
      refine lv_icmp_eq (tgt := 79) hx hb dL_goes_63 (by decide) (fun c_52 => absurd c_52 ((by decide : ¬ (1 : Int32) = 3))) (fun c_52 => ?_)
      refine lv_iload hx hb dL_goes_66 (lv_at hl 4 rfl) ?_
      refine lv_iconst (v := 5) hx hb dL_goes_68 (by decide) ?_
      refine lv_icmp_eq (tgt := 79) hx hb dL_goes_69 (by decide) (fun c_53 => absurd c_53 ((by decide : ¬ (1 : Int32) = 5))) (fun c_53 => ?_)
      refine lv_iload hx hb dL_goes_72 (lv_at hl 4 rfl) ?_
      refine lv_bipush (v := 6) hx hb dL_goes_74 (by decide) ?_
      refine lv_icmp_ne (tgt := 83) hx hb dL_goes_76 (by decide) (fun c_54 => ?_) (fun c_54 => absurd c_54 ((by decide : ¬ (1 : Int32) = 6)))
      refine lv_iconst (v := 0) hx hb dL_goes_83 (by decide) ?_
      refine lv_istore (lv' := [(10, .int 0), (9, .int 0), (8, .int (nI n8)), (7, .int (-1)), (6, .int (-1)), (5, .int 1), (0, .ref (ad 0)), (1, .ref qa), (2, .ref qm), (3, .ref qb), (4, .int (nI i))]) hx hb dL_goes_84 hl (by decide) rfl (fun ls hl => ?_)
      refine lv_aload_n hx hb dL_goes_86 rfl (lv_at hl 6 rfl) ?_
      refine lv_iload hx hb dL_goes_87 (lv_at hl 10 rfl) ?_
      refine rMi (vx_runSW (As := [.ref (ad 0), .int (nI i)]) (rest := []) ⟨hx, hb, hml, hown, hts⟩ (c_L_imageOf l hst D cy ad σ sz (nI i) ((-1)) ((wI hi).trans himg)) (vx_cwSW 2 hts gL_goes_L_imageOf rfl rfl rfl (by decide +kernel) ⟨Nat.le_of_ble_eq_true rfl, Nat.le_of_ble_eq_true rfl⟩) ⟨cx_bl, cx_S hP hK NoA_z hxk hS⟩ rfl rfl hl.1 rfl (lv_room (Nat.le_of_ble_eq_true rfl)) dL_goes_89 ⟨by show _ ≤ 20; omega, by show _ ≤ 120; omega⟩) hS (fun H locs hS hg => ?_)
      have hP := hP.grown hg
      have hPa := hPa.grown hg
      have hPm := hPm.grown hg
      refine W.eq (g2 := F0 m 92 ls [.int (-1)]) rfl ?_
      refine lv_istore (lv' := [(11, .int (-1)), (10, .int 0), (9, .int 0), (8, .int (nI n8)), (7, .int (-1)), (6, .int (-1)), (5, .int 1), (0, .ref (ad 0)), (1, .ref qa), (2, .ref qm), (3, .ref qb), (4, .int (nI i))]) hx hb dL_goes_92 hl (by decide) rfl (fun ls hl => ?_)
      refine lv_iload hx hb dL_goes_94 (lv_at hl 6 rfl) ?_
      refine lv_iconst (v := 5) hx hb dL_goes_96 (by decide) ?_
      refine lv_icmp_ne (tgt := 104) hx hb dL_goes_97 (by decide) (fun c_55 => ?_) (fun c_55 => absurd c_55 ((by decide : ¬ (1 : Int32) = 5)))
      refine lv_iload hx hb dL_goes_104 (lv_at hl 6 rfl) ?_
      refine lv_if_ne (tgt := 113) hx hb dL_goes_106 (by decide) (fun c_56 => ?_) (fun c_56 => absurd c_56 ((by decide : ¬ (1 : Int32) = 0)))
      refine lv_iload hx hb dL_goes_113 (lv_at hl 6 rfl) ?_
      refine lv_iconst (v := 3) hx hb dL_goes_115 (by decide) ?_
      refine lv_icmp_ge (tgt := 128) hx hb dL_goes_116 (by decide) (fun c_57 => absurd c_57 ((by decide : ¬ (3 : Int32) ≤ 1))) (fun c_57 => ?_)
      refine lv_iload hx hb dL_goes_119 (lv_at hl 5 rfl) ?_
      refine lv_if_ge (tgt := 128) hx hb dL_goes_121 (by decide) (fun c_58 => absurd c_58 ((by decide : ¬ (0 : Int32) ≤ -1))) (fun c_58 => ?_)
      refine lv_iconst (v := 2) hx hb dL_goes_124 (by decide) ?_
      refine lv_goto (tgt := 183) hx hb dL_goes_125 (by decide) ?_
      refine lv_istore (lv' := [(12, .int 2), (11, .int (-1)), (10, .int 0), (9, .int 0), (8, .int (nI n8)), (7, .int (-1)), (6, .int (-1)), (5, .int 1), (0, .ref (ad 0)), (1, .ref qa), (2, .ref qm), (3, .ref qb), (4, .int (nI i))]) hx hb dL_goes_183 hl (by decide) rfl (fun ls hl => ?_)
      refine lv_iload hx hb dL_goes_185 (lv_at hl 7 rfl) ?_
      refine lv_if_lt (tgt := 343) hx hb dL_goes_187 (by decide) (fun c_59 => absurd c_59 ((by decide : ¬ (1 : Int32) < 0))) (fun c_59 => ?_)
      refine lv_iload hx hb dL_goes_190 (lv_at hl 7 rfl) ?_
      refine lv_bipush (v := 8) hx hb dL_goes_192 (by decide) ?_
      refine lv_icmp_ge (tgt := 343) hx hb dL_goes_194 (by decide) (fun c_60 => absurd c_60 ((by decide : ¬ (8 : Int32) ≤ 1))) (fun c_60 => ?_)
      refine lv_aload_n hx hb dL_goes_197 rfl (lv_at hl 8 rfl) ?_
      refine lv_iload hx hb dL_goes_198 (lv_at hl 12 rfl) ?_
      refine rMi (vx_runSW (As := [.ref (ad 0), .int (nI i)]) (rest := []) ⟨hx, hb, hml, hown, hts⟩ (c_L_matchOf l hst D cy ad σ sz (nI i) ((-1)) ((wM hi).trans (by rw [hbs]; rfl))) (vx_cwSW 2 hts gL_goes_L_matchOf rfl rfl rfl (by decide +kernel) ⟨Nat.le_of_ble_eq_true rfl, Nat.le_of_ble_eq_true rfl⟩) ⟨cx_bl, cx_S hP hK NoA_z hxk hS⟩ rfl rfl hl.1 rfl (lv_room (Nat.le_of_ble_eq_true rfl)) dL_goes_200 ⟨by show _ ≤ 20; omega, by show _ ≤ 120; omega⟩) hS (fun H locs hS hg => ?_)
      have hP := hP.grown hg
      have hPa := hPa.grown hg
      have hPm := hPm.grown hg
      refine W.eq (g2 := F0 m 203 ls [.int (-1)]) rfl ?_
      refine lv_iload hx hb dL_goes_203 (lv_at hl 6 rfl) ?_
      refine lv_icmp_ne (tgt := 343) hx hb dL_goes_205 (by decide) (fun c_61 => absurd ((by decide : (-1 : Int32) = -1)) c_61) (fun c_61 => ?_)
      refine lv_aload_n hx hb dL_goes_208 rfl (lv_at hl 8 rfl) ?_
      refine lv_iload hx hb dL_goes_209 (lv_at hl 12 rfl) ?_
      refine rMi (vx_runSW (As := [.ref (ad 0), .int (nI i)]) (rest := []) ⟨hx, hb, hml, hown, hts⟩ (c_L_reason l hst D cy ad σ sz (nI i) (2) ((wR hi).trans (by rw [hbs, xs]; rfl))) (vx_cwSW 2 hts gL_goes_L_reason rfl rfl rfl (by decide +kernel) ⟨Nat.le_of_ble_eq_true rfl, Nat.le_of_ble_eq_true rfl⟩) ⟨cx_bl, cx_S hP hK NoA_z hxk hS⟩ rfl rfl hl.1 rfl (lv_room (Nat.le_of_ble_eq_true rfl)) dL_goes_211 ⟨by show _ ≤ 20; omega, by show _ ≤ 120; omega⟩) hS (fun H locs hS hg => ?_)
      have hP := hP.grown hg
      have hPa := hPa.grown hg
      have hPm := hPm.grown hg
      refine W.eq (g2 := F0 m 214 ls [.int 2]) rfl ?_
      refine lv_iload hx hb dL_goes_214 (lv_at hl 0 rfl) ?_
      refine lv_icmp_ne (tgt := 343) hx hb dL_goes_216 (by decide) (fun c_62 => absurd ((by decide : (2 : Int32) = 2)) c_62) (fun c_62 => ?_)
      refine lv_iload hx hb dL_goes_219 (lv_at hl 3 rfl) ?_
      refine lv_if_eq (tgt := 254) hx hb dL_goes_221 (by decide) (fun c_63 => ?_) (fun c_63 => absurd ((by decide : (0 : Int32) = 0)) c_63)
      refine lv_iload hx hb dL_goes_254 (lv_at hl 5 rfl) ?_
      refine lv_iconst (v := (-1)) hx hb dL_goes_256 (by decide) ?_
      refine lv_icmp_ne (tgt := 343) hx hb dL_goes_257 (by decide) (fun c_64 => absurd ((by decide : (-1 : Int32) = -1)) c_64) (fun c_64 => ?_)
      refine lv_iload hx hb dL_goes_260 (lv_at hl 2 rfl) ?_
      refine lv_if_eq (tgt := 280) hx hb dL_goes_262 (by decide) (fun c_65 => ?_) (fun c_65 => absurd ((by decide : (0 : Int32) = 0)) c_65)
      refine lv_iload hx hb dL_goes_280 (lv_at hl 1 rfl) ?_
      refine lv_iconst (v := (-1)) hx hb dL_goes_282 (by decide) ?_
      refine lv_icmp_ne (tgt := 343) hx hb dL_goes_283 (by decide) (fun c_66 => absurd ((by decide : (-1 : Int32) = -1)) c_66) (fun c_66 => ?_)
      refine lv_iload hx hb dL_goes_286 (lv_at hl 4 rfl) ?_
      refine lv_if_lt (tgt := 343) hx hb dL_goes_288 (by decide) (fun c_67 => absurd c_67 ((fun z9 => absurd ((nI_ltI (a := n8) (b := 0) (by omega) (by omega)).mp z9) (by omega)))) (fun c_67 => ?_)
      refine lv_iload hx hb dL_goes_291 (lv_at hl 4 rfl) ?_
      refine lv_bipush (v := 10) hx hb dL_goes_293 (by decide) ?_
      refine lv_icmp_ge (tgt := 343) hx hb dL_goes_295 (by decide) (fun c_68 => absurd c_68 ((fun z9 => absurd ((nI_leI (a := 10) (b := n8) (by omega) (by omega)).mp z9) (by omega)))) (fun c_68 => ?_)
      refine lv_iload hx hb dL_goes_298 (lv_at hl 7 rfl) ?_
      refine lv_iconst (v := 5) hx hb dL_goes_300 (by decide) ?_
      refine lv_icmp_eq (tgt := 316) hx hb dL_goes_301 (by decide) (fun c_69 => absurd c_69 ((by decide : ¬ (1 : Int32) = 5))) (fun c_69 => ?_)
      refine lv_iload hx hb dL_goes_304 (lv_at hl 7 rfl) ?_
      refine lv_bipush (v := 6) hx hb dL_goes_306 (by decide) ?_
      refine lv_icmp_eq (tgt := 316) hx hb dL_goes_308 (by decide) (fun c_70 => absurd c_70 ((by decide : ¬ (1 : Int32) = 6))) (fun c_70 => ?_)
      refine lv_iload hx hb dL_goes_311 (lv_at hl 7 rfl) ?_
      refine lv_if_ne (tgt := 321) hx hb dL_goes_313 (by decide) (fun c_71 => ?_) (fun c_71 => absurd c_71 ((by decide : ¬ (1 : Int32) = 0)))
      refine lv_iload hx hb dL_goes_321 (lv_at hl 7 rfl) ?_
      refine lv_iconst (v := 4) hx hb dL_goes_323 (by decide) ?_
      refine lv_icmp_eq (tgt := 334) hx hb dL_goes_324 (by decide) (fun c_72 => absurd c_72 ((by decide : ¬ (1 : Int32) = 4))) (fun c_72 => ?_)
      refine lv_iload hx hb dL_goes_327 (lv_at hl 7 rfl) ?_
      refine lv_bipush (v := 7) hx hb dL_goes_329 (by decide) ?_
      refine lv_icmp_ne (tgt := 339) hx hb dL_goes_331 (by decide) (fun c_73 => ?_) (fun c_73 => absurd c_73 ((by decide : ¬ (1 : Int32) = 7)))
      refine lv_iconst (v := 1) hx hb dL_goes_339 (by decide) ?_
      refine lv_goto (tgt := 344) hx hb dL_goes_340 (by decide) ?_
      refine W.widen (k := 20) (n := 120) (by omega) (by omega) ?_
      exact W.zret (v := 1) hx hb hr rfl (fun t ht hW => ⟨⟨_, (), rfl, rfl, trivial⟩, hS.F ht⟩) hS.2.2 dL_goes_344
    · have hb8 : b < 8 := bst_lt (n := 8) hbs
      refine lv_aload_n hx hb dL_goes_0 rfl (lv_at hl 0 rfl) ?_
      refine lv_iload hx hb dL_goes_1 (lv_at hl 4 rfl) ?_
      refine rMi (vx_runSW (As := [.ref (ad 0), .int (nI i)]) (rest := []) ⟨hx, hb, hml, hown, hts⟩ (c_L_stateOf l hst D cy ad σ sz (nI i) (1) ((wS hi).trans xs)) (vx_cwSW 2 hts gL_goes_L_stateOf rfl rfl rfl (by decide +kernel) ⟨Nat.le_of_ble_eq_true rfl, Nat.le_of_ble_eq_true rfl⟩) ⟨cx_bl, cx_S hP hK NoA_z hxk hS⟩ rfl rfl hl.1 rfl (lv_room (Nat.le_of_ble_eq_true rfl)) dL_goes_3 ⟨by show _ ≤ 20; omega, by show _ ≤ 120; omega⟩) hS (fun H locs hS hg => ?_)
      have hP := hP.grown hg
      have hPa := hPa.grown hg
      have hPm := hPm.grown hg
      refine W.eq (g2 := F0 m 6 ls [.int 1]) rfl ?_
      refine lv_istore (lv' := [(5, .int 1), (0, .ref (ad 0)), (1, .ref qa), (2, .ref qm), (3, .ref qb), (4, .int (nI i))]) hx hb dL_goes_6 hl (by decide) rfl (fun ls hl => ?_)
      refine lv_aload_n hx hb dL_goes_8 rfl (lv_at hl 1 rfl) ?_
      refine lv_aload_n hx hb dL_goes_9 rfl (lv_at hl 2 rfl) ?_
      refine lv_aload_n hx hb dL_goes_10 rfl (lv_at hl 3 rfl) ?_
      refine lv_iload hx hb dL_goes_11 (lv_at hl 5 rfl) ?_
      refine rMi (va_runS (As := [.ref (ad 0), .ref qa, .ref qm, .int (nI i)]) (rest := []) ⟨hx, hb, hml, hown, hts⟩ (c_L_match l hst D cy ad σ sz qa qm fa fm fb i hi ⟨_, x1, x2⟩ hT) (va_cwS 4 hts gL_goes_L_match rfl rfl rfl (by decide +kernel) ⟨Nat.le_of_ble_eq_true rfl, Nat.le_of_ble_eq_true rfl⟩) ⟨aX_bl, aX_S hP hK NoA_z hxk hS hPa hPm⟩ rfl rfl hl.1 rfl (lv_room (Nat.le_of_ble_eq_true rfl)) dL_goes_13 ⟨by show _ ≤ 20; omega, by show _ ≤ 120; omega⟩) hS (fun H locs hS hg => ?_)
      have hP := hP.grown hg
      have hPa := hPa.grown hg
      have hPm := hPm.grown hg
      refine W.eq (g2 := F0 m 16 ls [.int (nI b)]) (by rw [hbs]; rfl) ?_
      refine lv_istore (lv' := [(6, .int (nI b)), (5, .int 1), (0, .ref (ad 0)), (1, .ref qa), (2, .ref qm), (3, .ref qb), (4, .int (nI i))]) hx hb dL_goes_16 hl (by decide) rfl (fun ls hl => ?_)
      refine lv_aload_n hx hb dL_goes_18 rfl (lv_at hl 2 rfl) ?_
      refine lv_iload hx hb dL_goes_19 (lv_at hl 6 rfl) ?_
      refine rMi (vx_runSW (As := [.ref (ad 0), .int (nI i)]) (rest := []) ⟨hx, hb, hml, hown, hts⟩ (c_L_endOf l hst D cy ad σ sz (nI i) ((-1)) ((wE hi).trans hend)) (vx_cwSW 2 hts gL_goes_L_endOf rfl rfl rfl (by decide +kernel) ⟨Nat.le_of_ble_eq_true rfl, Nat.le_of_ble_eq_true rfl⟩) ⟨cx_bl, cx_S hP hK NoA_z hxk hS⟩ rfl rfl hl.1 rfl (lv_room (Nat.le_of_ble_eq_true rfl)) dL_goes_21 ⟨by show _ ≤ 20; omega, by show _ ≤ 120; omega⟩) hS (fun H locs hS hg => ?_)
      have hP := hP.grown hg
      have hPa := hPa.grown hg
      have hPm := hPm.grown hg
      refine W.eq (g2 := F0 m 24 ls [.int (-1)]) rfl ?_
      refine lv_istore (lv' := [(7, .int (-1)), (6, .int (nI b)), (5, .int 1), (0, .ref (ad 0)), (1, .ref qa), (2, .ref qm), (3, .ref qb), (4, .int (nI i))]) hx hb dL_goes_24 hl (by decide) rfl (fun ls hl => ?_)
      refine lv_aload_n hx hb dL_goes_26 rfl (lv_at hl 3 rfl) ?_
      refine lv_iload hx hb dL_goes_27 (lv_at hl 7 rfl) ?_
      refine rMi (vx_runSW (As := [.ref (ad 0), .int (nI i)]) (rest := []) ⟨hx, hb, hml, hown, hts⟩ (c_L_failuresOf l hst D cy ad σ sz (nI i) (nI n8) ((wF hi).trans x5)) (vx_cwSW 2 hts gL_goes_L_failuresOf rfl rfl rfl (by decide +kernel) ⟨Nat.le_of_ble_eq_true rfl, Nat.le_of_ble_eq_true rfl⟩) ⟨cx_bl, cx_S hP hK NoA_z hxk hS⟩ rfl rfl hl.1 rfl (lv_room (Nat.le_of_ble_eq_true rfl)) dL_goes_29 ⟨by show _ ≤ 20; omega, by show _ ≤ 120; omega⟩) hS (fun H locs hS hg => ?_)
      have hP := hP.grown hg
      have hPa := hPa.grown hg
      have hPm := hPm.grown hg
      refine W.eq (g2 := F0 m 32 ls [.int (nI n8)]) rfl ?_
      refine lv_istore (lv' := [(8, .int (nI n8)), (7, .int (-1)), (6, .int (nI b)), (5, .int 1), (0, .ref (ad 0)), (1, .ref qa), (2, .ref qm), (3, .ref qb), (4, .int (nI i))]) hx hb dL_goes_32 hl (by decide) rfl (fun ls hl => ?_)
      refine lv_iload hx hb dL_goes_34 (lv_at hl 3 rfl) ?_
      refine lv_iconst (v := 3) hx hb dL_goes_36 (by decide) ?_
      refine lv_icmp_eq (tgt := 53) hx hb dL_goes_37 (by decide) (fun c_74 => absurd c_74 ((by decide : ¬ (1 : Int32) = 3))) (fun c_74 => ?_)
      refine lv_iload hx hb dL_goes_40 (lv_at hl 3 rfl) ?_
      refine lv_iconst (v := 4) hx hb dL_goes_42 (by decide) ?_
      refine lv_icmp_eq (tgt := 53) hx hb dL_goes_43 (by decide) (fun c_75 => absurd c_75 ((by decide : ¬ (1 : Int32) = 4))) (fun c_75 => ?_)
      refine lv_iload hx hb dL_goes_46 (lv_at hl 3 rfl) ?_
      refine lv_bipush (v := 6) hx hb dL_goes_48 (by decide) ?_
      refine lv_icmp_ne (tgt := 57) hx hb dL_goes_50 (by decide) (fun c_76 => ?_) (fun c_76 => absurd c_76 ((by decide : ¬ (1 : Int32) = 6)))
      refine lv_iconst (v := 0) hx hb dL_goes_57 (by decide) ?_
      refine lv_istore (lv' := [(9, .int 0), (8, .int (nI n8)), (7, .int (-1)), (6, .int (nI b)), (5, .int 1), (0, .ref (ad 0)), (1, .ref qa), (2, .ref qm), (3, .ref qb), (4, .int (nI i))]) hx hb dL_goes_58 hl (by decide) rfl (fun ls hl => ?_)
      refine lv_iload hx hb dL_goes_60 (lv_at hl 4 rfl) ?_
      refine lv_iconst (v := 3) hx hb dL_goes_62 (by decide) ?_
      refine lv_icmp_eq (tgt := 79) hx hb dL_goes_63 (by decide) (fun c_77 => absurd c_77 ((by decide : ¬ (1 : Int32) = 3))) (fun c_77 => ?_)
      refine lv_iload hx hb dL_goes_66 (lv_at hl 4 rfl) ?_
      refine lv_iconst (v := 5) hx hb dL_goes_68 (by decide) ?_
      refine lv_icmp_eq (tgt := 79) hx hb dL_goes_69 (by decide) (fun c_78 => absurd c_78 ((by decide : ¬ (1 : Int32) = 5))) (fun c_78 => ?_)
      refine lv_iload hx hb dL_goes_72 (lv_at hl 4 rfl) ?_
      refine lv_bipush (v := 6) hx hb dL_goes_74 (by decide) ?_
      refine lv_icmp_ne (tgt := 83) hx hb dL_goes_76 (by decide) (fun c_79 => ?_) (fun c_79 => absurd c_79 ((by decide : ¬ (1 : Int32) = 6)))
      refine lv_iconst (v := 0) hx hb dL_goes_83 (by decide) ?_
      refine lv_istore (lv' := [(10, .int 0), (9, .int 0), (8, .int (nI n8)), (7, .int (-1)), (6, .int (nI b)), (5, .int 1), (0, .ref (ad 0)), (1, .ref qa), (2, .ref qm), (3, .ref qb), (4, .int (nI i))]) hx hb dL_goes_84 hl (by decide) rfl (fun ls hl => ?_)
      refine lv_aload_n hx hb dL_goes_86 rfl (lv_at hl 6 rfl) ?_
      refine lv_iload hx hb dL_goes_87 (lv_at hl 10 rfl) ?_
      refine rMi (vx_runSW (As := [.ref (ad 0), .int (nI i)]) (rest := []) ⟨hx, hb, hml, hown, hts⟩ (c_L_imageOf l hst D cy ad σ sz (nI i) ((-1)) ((wI hi).trans himg)) (vx_cwSW 2 hts gL_goes_L_imageOf rfl rfl rfl (by decide +kernel) ⟨Nat.le_of_ble_eq_true rfl, Nat.le_of_ble_eq_true rfl⟩) ⟨cx_bl, cx_S hP hK NoA_z hxk hS⟩ rfl rfl hl.1 rfl (lv_room (Nat.le_of_ble_eq_true rfl)) dL_goes_89 ⟨by show _ ≤ 20; omega, by show _ ≤ 120; omega⟩) hS (fun H locs hS hg => ?_)
      have hP := hP.grown hg
      have hPa := hPa.grown hg
      have hPm := hPm.grown hg
      refine W.eq (g2 := F0 m 92 ls [.int (-1)]) rfl ?_
      refine lv_istore (lv' := [(11, .int (-1)), (10, .int 0), (9, .int 0), (8, .int (nI n8)), (7, .int (-1)), (6, .int (nI b)), (5, .int 1), (0, .ref (ad 0)), (1, .ref qa), (2, .ref qm), (3, .ref qb), (4, .int (nI i))]) hx hb dL_goes_92 hl (by decide) rfl (fun ls hl => ?_)
      refine lv_iload hx hb dL_goes_94 (lv_at hl 6 rfl) ?_
      refine lv_iconst (v := 5) hx hb dL_goes_96 (by decide) ?_
      refine lv_icmp_ne (tgt := 104) hx hb dL_goes_97 (by decide) (fun c_80 => ?_) (fun c_80 => absurd c_80 ((by decide : ¬ (1 : Int32) = 5)))
      refine lv_iload hx hb dL_goes_104 (lv_at hl 6 rfl) ?_
      refine lv_if_ne (tgt := 113) hx hb dL_goes_106 (by decide) (fun c_81 => ?_) (fun c_81 => absurd c_81 ((by decide : ¬ (1 : Int32) = 0)))
      refine lv_iload hx hb dL_goes_113 (lv_at hl 6 rfl) ?_
      refine lv_iconst (v := 3) hx hb dL_goes_115 (by decide) ?_
      refine lv_icmp_ge (tgt := 128) hx hb dL_goes_116 (by decide) (fun c_82 => absurd c_82 ((by decide : ¬ (3 : Int32) ≤ 1))) (fun c_82 => ?_)
      refine lv_iload hx hb dL_goes_119 (lv_at hl 5 rfl) ?_
      refine lv_if_ge (tgt := 128) hx hb dL_goes_121 (by decide) (fun c_83 => ?_) (fun c_83 => absurd (((nI_leI (a := 0) (b := b) (by omega) (by omega)).mpr (by omega))) c_83)
      refine lv_iload hx hb dL_goes_128 (lv_at hl 6 rfl) ?_
      refine lv_iconst (v := 1) hx hb dL_goes_130 (by decide) ?_
      refine lv_icmp_ne (tgt := 138) hx hb dL_goes_131 (by decide) (fun c_84 => absurd ((by decide : (1 : Int32) = 1)) c_84) (fun c_84 => ?_)
      refine lv_iconst (v := 3) hx hb dL_goes_134 (by decide) ?_
      refine lv_goto (tgt := 183) hx hb dL_goes_135 (by decide) ?_
      refine lv_istore (lv' := [(12, .int 3), (11, .int (-1)), (10, .int 0), (9, .int 0), (8, .int (nI n8)), (7, .int (-1)), (6, .int (nI b)), (5, .int 1), (0, .ref (ad 0)), (1, .ref qa), (2, .ref qm), (3, .ref qb), (4, .int (nI i))]) hx hb dL_goes_183 hl (by decide) rfl (fun ls hl => ?_)
      refine lv_iload hx hb dL_goes_185 (lv_at hl 7 rfl) ?_
      refine lv_if_lt (tgt := 343) hx hb dL_goes_187 (by decide) (fun c_85 => absurd c_85 ((by decide : ¬ (1 : Int32) < 0))) (fun c_85 => ?_)
      refine lv_iload hx hb dL_goes_190 (lv_at hl 7 rfl) ?_
      refine lv_bipush (v := 8) hx hb dL_goes_192 (by decide) ?_
      refine lv_icmp_ge (tgt := 343) hx hb dL_goes_194 (by decide) (fun c_86 => absurd c_86 ((by decide : ¬ (8 : Int32) ≤ 1))) (fun c_86 => ?_)
      refine lv_aload_n hx hb dL_goes_197 rfl (lv_at hl 8 rfl) ?_
      refine lv_iload hx hb dL_goes_198 (lv_at hl 12 rfl) ?_
      refine rMi (vx_runSW (As := [.ref (ad 0), .int (nI i)]) (rest := []) ⟨hx, hb, hml, hown, hts⟩ (c_L_matchOf l hst D cy ad σ sz (nI i) (nI b) ((wM hi).trans (by rw [hbs]; rfl))) (vx_cwSW 2 hts gL_goes_L_matchOf rfl rfl rfl (by decide +kernel) ⟨Nat.le_of_ble_eq_true rfl, Nat.le_of_ble_eq_true rfl⟩) ⟨cx_bl, cx_S hP hK NoA_z hxk hS⟩ rfl rfl hl.1 rfl (lv_room (Nat.le_of_ble_eq_true rfl)) dL_goes_200 ⟨by show _ ≤ 20; omega, by show _ ≤ 120; omega⟩) hS (fun H locs hS hg => ?_)
      have hP := hP.grown hg
      have hPa := hPa.grown hg
      have hPm := hPm.grown hg
      refine W.eq (g2 := F0 m 203 ls [.int (nI b)]) rfl ?_
      refine lv_iload hx hb dL_goes_203 (lv_at hl 6 rfl) ?_
      refine lv_icmp_ne (tgt := 343) hx hb dL_goes_205 (by decide) (fun c_87 => absurd (rfl) c_87) (fun c_87 => ?_)
      refine lv_aload_n hx hb dL_goes_208 rfl (lv_at hl 8 rfl) ?_
      refine lv_iload hx hb dL_goes_209 (lv_at hl 12 rfl) ?_
      refine rMi (vx_runSW (As := [.ref (ad 0), .int (nI i)]) (rest := []) ⟨hx, hb, hml, hown, hts⟩ (c_L_reason l hst D cy ad σ sz (nI i) (3) ((wR hi).trans (by rw [hbs, xs]; rfl))) (vx_cwSW 2 hts gL_goes_L_reason rfl rfl rfl (by decide +kernel) ⟨Nat.le_of_ble_eq_true rfl, Nat.le_of_ble_eq_true rfl⟩) ⟨cx_bl, cx_S hP hK NoA_z hxk hS⟩ rfl rfl hl.1 rfl (lv_room (Nat.le_of_ble_eq_true rfl)) dL_goes_211 ⟨by show _ ≤ 20; omega, by show _ ≤ 120; omega⟩) hS (fun H locs hS hg => ?_)
      have hP := hP.grown hg
      have hPa := hPa.grown hg
      have hPm := hPm.grown hg
      refine W.eq (g2 := F0 m 214 ls [.int 3]) rfl ?_
      refine lv_iload hx hb dL_goes_214 (lv_at hl 0 rfl) ?_
      refine lv_icmp_ne (tgt := 343) hx hb dL_goes_216 (by decide) (fun c_88 => absurd ((by decide : (3 : Int32) = 3)) c_88) (fun c_88 => ?_)
      refine lv_iload hx hb dL_goes_219 (lv_at hl 3 rfl) ?_
      refine lv_if_eq (tgt := 254) hx hb dL_goes_221 (by decide) (fun c_89 => ?_) (fun c_89 => absurd ((by decide : (0 : Int32) = 0)) c_89)
      refine lv_iload hx hb dL_goes_254 (lv_at hl 5 rfl) ?_
      refine lv_iconst (v := (-1)) hx hb dL_goes_256 (by decide) ?_
      refine lv_icmp_ne (tgt := 343) hx hb dL_goes_257 (by decide) (fun c_90 => absurd ((by decide : (-1 : Int32) = -1)) c_90) (fun c_90 => ?_)
      refine lv_iload hx hb dL_goes_260 (lv_at hl 2 rfl) ?_
      refine lv_if_eq (tgt := 280) hx hb dL_goes_262 (by decide) (fun c_91 => ?_) (fun c_91 => absurd ((by decide : (0 : Int32) = 0)) c_91)
      refine lv_iload hx hb dL_goes_280 (lv_at hl 1 rfl) ?_
      refine lv_iconst (v := (-1)) hx hb dL_goes_282 (by decide) ?_
      refine lv_icmp_ne (tgt := 343) hx hb dL_goes_283 (by decide) (fun c_92 => absurd ((by decide : (-1 : Int32) = -1)) c_92) (fun c_92 => ?_)
      refine lv_iload hx hb dL_goes_286 (lv_at hl 4 rfl) ?_
      refine lv_if_lt (tgt := 343) hx hb dL_goes_288 (by decide) (fun c_93 => absurd c_93 ((fun z9 => absurd ((nI_ltI (a := n8) (b := 0) (by omega) (by omega)).mp z9) (by omega)))) (fun c_93 => ?_)
      refine lv_iload hx hb dL_goes_291 (lv_at hl 4 rfl) ?_
      refine lv_bipush (v := 10) hx hb dL_goes_293 (by decide) ?_
      refine lv_icmp_ge (tgt := 343) hx hb dL_goes_295 (by decide) (fun c_94 => absurd c_94 ((fun z9 => absurd ((nI_leI (a := 10) (b := n8) (by omega) (by omega)).mp z9) (by omega)))) (fun c_94 => ?_)
      refine lv_iload hx hb dL_goes_298 (lv_at hl 7 rfl) ?_
      refine lv_iconst (v := 5) hx hb dL_goes_300 (by decide) ?_
      refine lv_icmp_eq (tgt := 316) hx hb dL_goes_301 (by decide) (fun c_95 => absurd c_95 ((by decide : ¬ (1 : Int32) = 5))) (fun c_95 => ?_)
      refine lv_iload hx hb dL_goes_304 (lv_at hl 7 rfl) ?_
      refine lv_bipush (v := 6) hx hb dL_goes_306 (by decide) ?_
      refine lv_icmp_eq (tgt := 316) hx hb dL_goes_308 (by decide) (fun c_96 => absurd c_96 ((by decide : ¬ (1 : Int32) = 6))) (fun c_96 => ?_)
      refine lv_iload hx hb dL_goes_311 (lv_at hl 7 rfl) ?_
      refine lv_if_ne (tgt := 321) hx hb dL_goes_313 (by decide) (fun c_97 => ?_) (fun c_97 => absurd c_97 ((by decide : ¬ (1 : Int32) = 0)))
      refine lv_iload hx hb dL_goes_321 (lv_at hl 7 rfl) ?_
      refine lv_iconst (v := 4) hx hb dL_goes_323 (by decide) ?_
      refine lv_icmp_eq (tgt := 334) hx hb dL_goes_324 (by decide) (fun c_98 => absurd c_98 ((by decide : ¬ (1 : Int32) = 4))) (fun c_98 => ?_)
      refine lv_iload hx hb dL_goes_327 (lv_at hl 7 rfl) ?_
      refine lv_bipush (v := 7) hx hb dL_goes_329 (by decide) ?_
      refine lv_icmp_ne (tgt := 339) hx hb dL_goes_331 (by decide) (fun c_99 => ?_) (fun c_99 => absurd c_99 ((by decide : ¬ (1 : Int32) = 7)))
      refine lv_iconst (v := 1) hx hb dL_goes_339 (by decide) ?_
      refine lv_goto (tgt := 344) hx hb dL_goes_340 (by decide) ?_
      refine W.widen (k := 20) (n := 120) (by omega) (by omega) ?_
      exact W.zret (v := 1) hx hb hr rfl (fun t ht hW => ⟨⟨_, (), rfl, rfl, trivial⟩, hS.F ht⟩) hS.2.2 dL_goes_344
  · have xs : σ 1 i = 2 := x2
    have hend : (if sEnds σ i = true then σ 8 i else -1) = -1 := by rw [hE.2 (by omega)]; rfl
    have himg : (if sBears σ i = true then σ 7 i else -1) = -1 := by rw [hB.2 (by omega)]; rfl
    rcases hbs : sBst σ i with _ | b
    · refine lv_aload_n hx hb dL_goes_0 rfl (lv_at hl 0 rfl) ?_
      refine lv_iload hx hb dL_goes_1 (lv_at hl 4 rfl) ?_
      refine rMi (vx_runSW (As := [.ref (ad 0), .int (nI i)]) (rest := []) ⟨hx, hb, hml, hown, hts⟩ (c_L_stateOf l hst D cy ad σ sz (nI i) (2) ((wS hi).trans xs)) (vx_cwSW 2 hts gL_goes_L_stateOf rfl rfl rfl (by decide +kernel) ⟨Nat.le_of_ble_eq_true rfl, Nat.le_of_ble_eq_true rfl⟩) ⟨cx_bl, cx_S hP hK NoA_z hxk hS⟩ rfl rfl hl.1 rfl (lv_room (Nat.le_of_ble_eq_true rfl)) dL_goes_3 ⟨by show _ ≤ 20; omega, by show _ ≤ 120; omega⟩) hS (fun H locs hS hg => ?_)
      have hP := hP.grown hg
      have hPa := hPa.grown hg
      have hPm := hPm.grown hg
      refine W.eq (g2 := F0 m 6 ls [.int 2]) rfl ?_
      refine lv_istore (lv' := [(5, .int 2), (0, .ref (ad 0)), (1, .ref qa), (2, .ref qm), (3, .ref qb), (4, .int (nI i))]) hx hb dL_goes_6 hl (by decide) rfl (fun ls hl => ?_)
      refine lv_aload_n hx hb dL_goes_8 rfl (lv_at hl 1 rfl) ?_
      refine lv_aload_n hx hb dL_goes_9 rfl (lv_at hl 2 rfl) ?_
      refine lv_aload_n hx hb dL_goes_10 rfl (lv_at hl 3 rfl) ?_
      refine lv_iload hx hb dL_goes_11 (lv_at hl 5 rfl) ?_
      refine rMi (va_runS (As := [.ref (ad 0), .ref qa, .ref qm, .int (nI i)]) (rest := []) ⟨hx, hb, hml, hown, hts⟩ (c_L_match l hst D cy ad σ sz qa qm fa fm fb i hi ⟨_, x1, x2⟩ hT) (va_cwS 4 hts gL_goes_L_match rfl rfl rfl (by decide +kernel) ⟨Nat.le_of_ble_eq_true rfl, Nat.le_of_ble_eq_true rfl⟩) ⟨aX_bl, aX_S hP hK NoA_z hxk hS hPa hPm⟩ rfl rfl hl.1 rfl (lv_room (Nat.le_of_ble_eq_true rfl)) dL_goes_13 ⟨by show _ ≤ 20; omega, by show _ ≤ 120; omega⟩) hS (fun H locs hS hg => ?_)
      have hP := hP.grown hg
      have hPa := hPa.grown hg
      have hPm := hPm.grown hg
      refine W.eq (g2 := F0 m 16 ls [.int (-1)]) (by rw [hbs]; rfl) ?_
      refine lv_istore (lv' := [(6, .int (-1)), (5, .int 2), (0, .ref (ad 0)), (1, .ref qa), (2, .ref qm), (3, .ref qb), (4, .int (nI i))]) hx hb dL_goes_16 hl (by decide) rfl (fun ls hl => ?_)
      refine lv_aload_n hx hb dL_goes_18 rfl (lv_at hl 2 rfl) ?_
      refine lv_iload hx hb dL_goes_19 (lv_at hl 6 rfl) ?_
      refine rMi (vx_runSW (As := [.ref (ad 0), .int (nI i)]) (rest := []) ⟨hx, hb, hml, hown, hts⟩ (c_L_endOf l hst D cy ad σ sz (nI i) ((-1)) ((wE hi).trans hend)) (vx_cwSW 2 hts gL_goes_L_endOf rfl rfl rfl (by decide +kernel) ⟨Nat.le_of_ble_eq_true rfl, Nat.le_of_ble_eq_true rfl⟩) ⟨cx_bl, cx_S hP hK NoA_z hxk hS⟩ rfl rfl hl.1 rfl (lv_room (Nat.le_of_ble_eq_true rfl)) dL_goes_21 ⟨by show _ ≤ 20; omega, by show _ ≤ 120; omega⟩) hS (fun H locs hS hg => ?_)
      have hP := hP.grown hg
      have hPa := hPa.grown hg
      have hPm := hPm.grown hg
      refine W.eq (g2 := F0 m 24 ls [.int (-1)]) rfl ?_
      refine lv_istore (lv' := [(7, .int (-1)), (6, .int (-1)), (5, .int 2), (0, .ref (ad 0)), (1, .ref qa), (2, .ref qm), (3, .ref qb), (4, .int (nI i))]) hx hb dL_goes_24 hl (by decide) rfl (fun ls hl => ?_)
      refine lv_aload_n hx hb dL_goes_26 rfl (lv_at hl 3 rfl) ?_
      refine lv_iload hx hb dL_goes_27 (lv_at hl 7 rfl) ?_
      refine rMi (vx_runSW (As := [.ref (ad 0), .int (nI i)]) (rest := []) ⟨hx, hb, hml, hown, hts⟩ (c_L_failuresOf l hst D cy ad σ sz (nI i) (nI n8) ((wF hi).trans x5)) (vx_cwSW 2 hts gL_goes_L_failuresOf rfl rfl rfl (by decide +kernel) ⟨Nat.le_of_ble_eq_true rfl, Nat.le_of_ble_eq_true rfl⟩) ⟨cx_bl, cx_S hP hK NoA_z hxk hS⟩ rfl rfl hl.1 rfl (lv_room (Nat.le_of_ble_eq_true rfl)) dL_goes_29 ⟨by show _ ≤ 20; omega, by show _ ≤ 120; omega⟩) hS (fun H locs hS hg => ?_)
      have hP := hP.grown hg
      have hPa := hPa.grown hg
      have hPm := hPm.grown hg
      refine W.eq (g2 := F0 m 32 ls [.int (nI n8)]) rfl ?_
      refine lv_istore (lv' := [(8, .int (nI n8)), (7, .int (-1)), (6, .int (-1)), (5, .int 2), (0, .ref (ad 0)), (1, .ref qa), (2, .ref qm), (3, .ref qb), (4, .int (nI i))]) hx hb dL_goes_32 hl (by decide) rfl (fun ls hl => ?_)
      refine lv_iload hx hb dL_goes_34 (lv_at hl 3 rfl) ?_
      refine lv_iconst (v := 3) hx hb dL_goes_36 (by decide) ?_
      refine lv_icmp_eq (tgt := 53) hx hb dL_goes_37 (by decide) (fun c_100 => absurd c_100 ((by decide : ¬ (2 : Int32) = 3))) (fun c_100 => ?_)
      refine lv_iload hx hb dL_goes_40 (lv_at hl 3 rfl) ?_
      refine lv_iconst (v := 4) hx hb dL_goes_42 (by decide) ?_
      refine lv_icmp_eq (tgt := 53) hx hb dL_goes_43 (by decide) (fun c_101 => absurd c_101 ((by decide : ¬ (2 : Int32) = 4))) (fun c_101 => ?_)
      refine lv_iload hx hb dL_goes_46 (lv_at hl 3 rfl) ?_
      refine lv_bipush (v := 6) hx hb dL_goes_48 (by decide) ?_
      refine lv_icmp_ne (tgt := 57) hx hb dL_goes_50 (by decide) (fun c_102 => ?_) (fun c_102 => absurd c_102 ((by decide : ¬ (2 : Int32) = 6)))
      refine lv_iconst (v := 0) hx hb dL_goes_57 (by decide) ?_
      refine lv_istore (lv' := [(9, .int 0), (8, .int (nI n8)), (7, .int (-1)), (6, .int (-1)), (5, .int 2), (0, .ref (ad 0)), (1, .ref qa), (2, .ref qm), (3, .ref qb), (4, .int (nI i))]) hx hb dL_goes_58 hl (by decide) rfl (fun ls hl => ?_)
      refine lv_iload hx hb dL_goes_60 (lv_at hl 4 rfl) ?_
      refine lv_iconst (v := 3) hx hb dL_goes_62 (by decide) ?_
      refine lv_icmp_eq (tgt := 79) hx hb dL_goes_63 (by decide) (fun c_103 => absurd c_103 ((by decide : ¬ (2 : Int32) = 3))) (fun c_103 => ?_)
      refine lv_iload hx hb dL_goes_66 (lv_at hl 4 rfl) ?_
      refine lv_iconst (v := 5) hx hb dL_goes_68 (by decide) ?_
      refine lv_icmp_eq (tgt := 79) hx hb dL_goes_69 (by decide) (fun c_104 => absurd c_104 ((by decide : ¬ (2 : Int32) = 5))) (fun c_104 => ?_)
      refine lv_iload hx hb dL_goes_72 (lv_at hl 4 rfl) ?_
      refine lv_bipush (v := 6) hx hb dL_goes_74 (by decide) ?_
      refine lv_icmp_ne (tgt := 83) hx hb dL_goes_76 (by decide) (fun c_105 => ?_) (fun c_105 => absurd c_105 ((by decide : ¬ (2 : Int32) = 6)))
      refine lv_iconst (v := 0) hx hb dL_goes_83 (by decide) ?_
      refine lv_istore (lv' := [(10, .int 0), (9, .int 0), (8, .int (nI n8)), (7, .int (-1)), (6, .int (-1)), (5, .int 2), (0, .ref (ad 0)), (1, .ref qa), (2, .ref qm), (3, .ref qb), (4, .int (nI i))]) hx hb dL_goes_84 hl (by decide) rfl (fun ls hl => ?_)
      refine lv_aload_n hx hb dL_goes_86 rfl (lv_at hl 6 rfl) ?_
      refine lv_iload hx hb dL_goes_87 (lv_at hl 10 rfl) ?_
      refine rMi (vx_runSW (As := [.ref (ad 0), .int (nI i)]) (rest := []) ⟨hx, hb, hml, hown, hts⟩ (c_L_imageOf l hst D cy ad σ sz (nI i) ((-1)) ((wI hi).trans himg)) (vx_cwSW 2 hts gL_goes_L_imageOf rfl rfl rfl (by decide +kernel) ⟨Nat.le_of_ble_eq_true rfl, Nat.le_of_ble_eq_true rfl⟩) ⟨cx_bl, cx_S hP hK NoA_z hxk hS⟩ rfl rfl hl.1 rfl (lv_room (Nat.le_of_ble_eq_true rfl)) dL_goes_89 ⟨by show _ ≤ 20; omega, by show _ ≤ 120; omega⟩) hS (fun H locs hS hg => ?_)
      have hP := hP.grown hg
      have hPa := hPa.grown hg
      have hPm := hPm.grown hg
      refine W.eq (g2 := F0 m 92 ls [.int (-1)]) rfl ?_
      refine lv_istore (lv' := [(11, .int (-1)), (10, .int 0), (9, .int 0), (8, .int (nI n8)), (7, .int (-1)), (6, .int (-1)), (5, .int 2), (0, .ref (ad 0)), (1, .ref qa), (2, .ref qm), (3, .ref qb), (4, .int (nI i))]) hx hb dL_goes_92 hl (by decide) rfl (fun ls hl => ?_)
      refine lv_iload hx hb dL_goes_94 (lv_at hl 6 rfl) ?_
      refine lv_iconst (v := 5) hx hb dL_goes_96 (by decide) ?_
      refine lv_icmp_ne (tgt := 104) hx hb dL_goes_97 (by decide) (fun c_106 => ?_) (fun c_106 => absurd c_106 ((by decide : ¬ (2 : Int32) = 5)))
      refine lv_iload hx hb dL_goes_104 (lv_at hl 6 rfl) ?_
      refine lv_if_ne (tgt := 113) hx hb dL_goes_106 (by decide) (fun c_107 => ?_) (fun c_107 => absurd c_107 ((by decide : ¬ (2 : Int32) = 0)))
      refine lv_iload hx hb dL_goes_113 (lv_at hl 6 rfl) ?_
      refine lv_iconst (v := 3) hx hb dL_goes_115 (by decide) ?_
      refine lv_icmp_ge (tgt := 128) hx hb dL_goes_116 (by decide) (fun c_108 => absurd c_108 ((by decide : ¬ (3 : Int32) ≤ 2))) (fun c_108 => ?_)
      refine lv_iload hx hb dL_goes_119 (lv_at hl 5 rfl) ?_
      refine lv_if_ge (tgt := 128) hx hb dL_goes_121 (by decide) (fun c_109 => absurd c_109 ((by decide : ¬ (0 : Int32) ≤ -1))) (fun c_109 => ?_)
      refine lv_iconst (v := 2) hx hb dL_goes_124 (by decide) ?_
      refine lv_goto (tgt := 183) hx hb dL_goes_125 (by decide) ?_
      refine lv_istore (lv' := [(12, .int 2), (11, .int (-1)), (10, .int 0), (9, .int 0), (8, .int (nI n8)), (7, .int (-1)), (6, .int (-1)), (5, .int 2), (0, .ref (ad 0)), (1, .ref qa), (2, .ref qm), (3, .ref qb), (4, .int (nI i))]) hx hb dL_goes_183 hl (by decide) rfl (fun ls hl => ?_)
      refine lv_iload hx hb dL_goes_185 (lv_at hl 7 rfl) ?_
      refine lv_if_lt (tgt := 343) hx hb dL_goes_187 (by decide) (fun c_110 => absurd c_110 ((by decide : ¬ (2 : Int32) < 0))) (fun c_110 => ?_)
      refine lv_iload hx hb dL_goes_190 (lv_at hl 7 rfl) ?_
      refine lv_bipush (v := 8) hx hb dL_goes_192 (by decide) ?_
      refine lv_icmp_ge (tgt := 343) hx hb dL_goes_194 (by decide) (fun c_111 => absurd c_111 ((by decide : ¬ (8 : Int32) ≤ 2))) (fun c_111 => ?_)
      refine lv_aload_n hx hb dL_goes_197 rfl (lv_at hl 8 rfl) ?_
      refine lv_iload hx hb dL_goes_198 (lv_at hl 12 rfl) ?_
      refine rMi (vx_runSW (As := [.ref (ad 0), .int (nI i)]) (rest := []) ⟨hx, hb, hml, hown, hts⟩ (c_L_matchOf l hst D cy ad σ sz (nI i) ((-1)) ((wM hi).trans (by rw [hbs]; rfl))) (vx_cwSW 2 hts gL_goes_L_matchOf rfl rfl rfl (by decide +kernel) ⟨Nat.le_of_ble_eq_true rfl, Nat.le_of_ble_eq_true rfl⟩) ⟨cx_bl, cx_S hP hK NoA_z hxk hS⟩ rfl rfl hl.1 rfl (lv_room (Nat.le_of_ble_eq_true rfl)) dL_goes_200 ⟨by show _ ≤ 20; omega, by show _ ≤ 120; omega⟩) hS (fun H locs hS hg => ?_)
      have hP := hP.grown hg
      have hPa := hPa.grown hg
      have hPm := hPm.grown hg
      refine W.eq (g2 := F0 m 203 ls [.int (-1)]) rfl ?_
      refine lv_iload hx hb dL_goes_203 (lv_at hl 6 rfl) ?_
      refine lv_icmp_ne (tgt := 343) hx hb dL_goes_205 (by decide) (fun c_112 => absurd ((by decide : (-1 : Int32) = -1)) c_112) (fun c_112 => ?_)
      refine lv_aload_n hx hb dL_goes_208 rfl (lv_at hl 8 rfl) ?_
      refine lv_iload hx hb dL_goes_209 (lv_at hl 12 rfl) ?_
      refine rMi (vx_runSW (As := [.ref (ad 0), .int (nI i)]) (rest := []) ⟨hx, hb, hml, hown, hts⟩ (c_L_reason l hst D cy ad σ sz (nI i) (2) ((wR hi).trans (by rw [hbs, xs]; rfl))) (vx_cwSW 2 hts gL_goes_L_reason rfl rfl rfl (by decide +kernel) ⟨Nat.le_of_ble_eq_true rfl, Nat.le_of_ble_eq_true rfl⟩) ⟨cx_bl, cx_S hP hK NoA_z hxk hS⟩ rfl rfl hl.1 rfl (lv_room (Nat.le_of_ble_eq_true rfl)) dL_goes_211 ⟨by show _ ≤ 20; omega, by show _ ≤ 120; omega⟩) hS (fun H locs hS hg => ?_)
      have hP := hP.grown hg
      have hPa := hPa.grown hg
      have hPm := hPm.grown hg
      refine W.eq (g2 := F0 m 214 ls [.int 2]) rfl ?_
      refine lv_iload hx hb dL_goes_214 (lv_at hl 0 rfl) ?_
      refine lv_icmp_ne (tgt := 343) hx hb dL_goes_216 (by decide) (fun c_113 => absurd ((by decide : (2 : Int32) = 2)) c_113) (fun c_113 => ?_)
      refine lv_iload hx hb dL_goes_219 (lv_at hl 3 rfl) ?_
      refine lv_if_eq (tgt := 254) hx hb dL_goes_221 (by decide) (fun c_114 => ?_) (fun c_114 => absurd ((by decide : (0 : Int32) = 0)) c_114)
      refine lv_iload hx hb dL_goes_254 (lv_at hl 5 rfl) ?_
      refine lv_iconst (v := (-1)) hx hb dL_goes_256 (by decide) ?_
      refine lv_icmp_ne (tgt := 343) hx hb dL_goes_257 (by decide) (fun c_115 => absurd ((by decide : (-1 : Int32) = -1)) c_115) (fun c_115 => ?_)
      refine lv_iload hx hb dL_goes_260 (lv_at hl 2 rfl) ?_
      refine lv_if_eq (tgt := 280) hx hb dL_goes_262 (by decide) (fun c_116 => ?_) (fun c_116 => absurd ((by decide : (0 : Int32) = 0)) c_116)
      refine lv_iload hx hb dL_goes_280 (lv_at hl 1 rfl) ?_
      refine lv_iconst (v := (-1)) hx hb dL_goes_282 (by decide) ?_
      refine lv_icmp_ne (tgt := 343) hx hb dL_goes_283 (by decide) (fun c_117 => absurd ((by decide : (-1 : Int32) = -1)) c_117) (fun c_117 => ?_)
      refine lv_iload hx hb dL_goes_286 (lv_at hl 4 rfl) ?_
      refine lv_if_lt (tgt := 343) hx hb dL_goes_288 (by decide) (fun c_118 => absurd c_118 ((fun z9 => absurd ((nI_ltI (a := n8) (b := 0) (by omega) (by omega)).mp z9) (by omega)))) (fun c_118 => ?_)
      refine lv_iload hx hb dL_goes_291 (lv_at hl 4 rfl) ?_
      refine lv_bipush (v := 10) hx hb dL_goes_293 (by decide) ?_
      refine lv_icmp_ge (tgt := 343) hx hb dL_goes_295 (by decide) (fun c_119 => absurd c_119 ((fun z9 => absurd ((nI_leI (a := 10) (b := n8) (by omega) (by omega)).mp z9) (by omega)))) (fun c_119 => ?_)
      refine lv_iload hx hb dL_goes_298 (lv_at hl 7 rfl) ?_
      refine lv_iconst (v := 5) hx hb dL_goes_300 (by decide) ?_
      refine lv_icmp_eq (tgt := 316) hx hb dL_goes_301 (by decide) (fun c_120 => absurd c_120 ((by decide : ¬ (2 : Int32) = 5))) (fun c_120 => ?_)
      refine lv_iload hx hb dL_goes_304 (lv_at hl 7 rfl) ?_
      refine lv_bipush (v := 6) hx hb dL_goes_306 (by decide) ?_
      refine lv_icmp_eq (tgt := 316) hx hb dL_goes_308 (by decide) (fun c_121 => absurd c_121 ((by decide : ¬ (2 : Int32) = 6))) (fun c_121 => ?_)
      refine lv_iload hx hb dL_goes_311 (lv_at hl 7 rfl) ?_
      refine lv_if_ne (tgt := 321) hx hb dL_goes_313 (by decide) (fun c_122 => ?_) (fun c_122 => absurd c_122 ((by decide : ¬ (2 : Int32) = 0)))
      refine lv_iload hx hb dL_goes_321 (lv_at hl 7 rfl) ?_
      refine lv_iconst (v := 4) hx hb dL_goes_323 (by decide) ?_
      refine lv_icmp_eq (tgt := 334) hx hb dL_goes_324 (by decide) (fun c_123 => absurd c_123 ((by decide : ¬ (2 : Int32) = 4))) (fun c_123 => ?_)
      refine lv_iload hx hb dL_goes_327 (lv_at hl 7 rfl) ?_
      refine lv_bipush (v := 7) hx hb dL_goes_329 (by decide) ?_
      refine lv_icmp_ne (tgt := 339) hx hb dL_goes_331 (by decide) (fun c_124 => ?_) (fun c_124 => absurd c_124 ((by decide : ¬ (2 : Int32) = 7)))
      refine lv_iconst (v := 1) hx hb dL_goes_339 (by decide) ?_
      refine lv_goto (tgt := 344) hx hb dL_goes_340 (by decide) ?_
      refine W.widen (k := 20) (n := 120) (by omega) (by omega) ?_
      exact W.zret (v := 1) hx hb hr rfl (fun t ht hW => ⟨⟨_, (), rfl, rfl, trivial⟩, hS.F ht⟩) hS.2.2 dL_goes_344
    · have hb8 : b < 8 := bst_lt (n := 8) hbs
      refine lv_aload_n hx hb dL_goes_0 rfl (lv_at hl 0 rfl) ?_
      refine lv_iload hx hb dL_goes_1 (lv_at hl 4 rfl) ?_
      refine rMi (vx_runSW (As := [.ref (ad 0), .int (nI i)]) (rest := []) ⟨hx, hb, hml, hown, hts⟩ (c_L_stateOf l hst D cy ad σ sz (nI i) (2) ((wS hi).trans xs)) (vx_cwSW 2 hts gL_goes_L_stateOf rfl rfl rfl (by decide +kernel) ⟨Nat.le_of_ble_eq_true rfl, Nat.le_of_ble_eq_true rfl⟩) ⟨cx_bl, cx_S hP hK NoA_z hxk hS⟩ rfl rfl hl.1 rfl (lv_room (Nat.le_of_ble_eq_true rfl)) dL_goes_3 ⟨by show _ ≤ 20; omega, by show _ ≤ 120; omega⟩) hS (fun H locs hS hg => ?_)
      have hP := hP.grown hg
      have hPa := hPa.grown hg
      have hPm := hPm.grown hg
      refine W.eq (g2 := F0 m 6 ls [.int 2]) rfl ?_
      refine lv_istore (lv' := [(5, .int 2), (0, .ref (ad 0)), (1, .ref qa), (2, .ref qm), (3, .ref qb), (4, .int (nI i))]) hx hb dL_goes_6 hl (by decide) rfl (fun ls hl => ?_)
      refine lv_aload_n hx hb dL_goes_8 rfl (lv_at hl 1 rfl) ?_
      refine lv_aload_n hx hb dL_goes_9 rfl (lv_at hl 2 rfl) ?_
      refine lv_aload_n hx hb dL_goes_10 rfl (lv_at hl 3 rfl) ?_
      refine lv_iload hx hb dL_goes_11 (lv_at hl 5 rfl) ?_
      refine rMi (va_runS (As := [.ref (ad 0), .ref qa, .ref qm, .int (nI i)]) (rest := []) ⟨hx, hb, hml, hown, hts⟩ (c_L_match l hst D cy ad σ sz qa qm fa fm fb i hi ⟨_, x1, x2⟩ hT) (va_cwS 4 hts gL_goes_L_match rfl rfl rfl (by decide +kernel) ⟨Nat.le_of_ble_eq_true rfl, Nat.le_of_ble_eq_true rfl⟩) ⟨aX_bl, aX_S hP hK NoA_z hxk hS hPa hPm⟩ rfl rfl hl.1 rfl (lv_room (Nat.le_of_ble_eq_true rfl)) dL_goes_13 ⟨by show _ ≤ 20; omega, by show _ ≤ 120; omega⟩) hS (fun H locs hS hg => ?_)
      have hP := hP.grown hg
      have hPa := hPa.grown hg
      have hPm := hPm.grown hg
      refine W.eq (g2 := F0 m 16 ls [.int (nI b)]) (by rw [hbs]; rfl) ?_
      refine lv_istore (lv' := [(6, .int (nI b)), (5, .int 2), (0, .ref (ad 0)), (1, .ref qa), (2, .ref qm), (3, .ref qb), (4, .int (nI i))]) hx hb dL_goes_16 hl (by decide) rfl (fun ls hl => ?_)
      refine lv_aload_n hx hb dL_goes_18 rfl (lv_at hl 2 rfl) ?_
      refine lv_iload hx hb dL_goes_19 (lv_at hl 6 rfl) ?_
      refine rMi (vx_runSW (As := [.ref (ad 0), .int (nI i)]) (rest := []) ⟨hx, hb, hml, hown, hts⟩ (c_L_endOf l hst D cy ad σ sz (nI i) ((-1)) ((wE hi).trans hend)) (vx_cwSW 2 hts gL_goes_L_endOf rfl rfl rfl (by decide +kernel) ⟨Nat.le_of_ble_eq_true rfl, Nat.le_of_ble_eq_true rfl⟩) ⟨cx_bl, cx_S hP hK NoA_z hxk hS⟩ rfl rfl hl.1 rfl (lv_room (Nat.le_of_ble_eq_true rfl)) dL_goes_21 ⟨by show _ ≤ 20; omega, by show _ ≤ 120; omega⟩) hS (fun H locs hS hg => ?_)
      have hP := hP.grown hg
      have hPa := hPa.grown hg
      have hPm := hPm.grown hg
      refine W.eq (g2 := F0 m 24 ls [.int (-1)]) rfl ?_
      refine lv_istore (lv' := [(7, .int (-1)), (6, .int (nI b)), (5, .int 2), (0, .ref (ad 0)), (1, .ref qa), (2, .ref qm), (3, .ref qb), (4, .int (nI i))]) hx hb dL_goes_24 hl (by decide) rfl (fun ls hl => ?_)
      refine lv_aload_n hx hb dL_goes_26 rfl (lv_at hl 3 rfl) ?_
      refine lv_iload hx hb dL_goes_27 (lv_at hl 7 rfl) ?_
      refine rMi (vx_runSW (As := [.ref (ad 0), .int (nI i)]) (rest := []) ⟨hx, hb, hml, hown, hts⟩ (c_L_failuresOf l hst D cy ad σ sz (nI i) (nI n8) ((wF hi).trans x5)) (vx_cwSW 2 hts gL_goes_L_failuresOf rfl rfl rfl (by decide +kernel) ⟨Nat.le_of_ble_eq_true rfl, Nat.le_of_ble_eq_true rfl⟩) ⟨cx_bl, cx_S hP hK NoA_z hxk hS⟩ rfl rfl hl.1 rfl (lv_room (Nat.le_of_ble_eq_true rfl)) dL_goes_29 ⟨by show _ ≤ 20; omega, by show _ ≤ 120; omega⟩) hS (fun H locs hS hg => ?_)
      have hP := hP.grown hg
      have hPa := hPa.grown hg
      have hPm := hPm.grown hg
      refine W.eq (g2 := F0 m 32 ls [.int (nI n8)]) rfl ?_
      refine lv_istore (lv' := [(8, .int (nI n8)), (7, .int (-1)), (6, .int (nI b)), (5, .int 2), (0, .ref (ad 0)), (1, .ref qa), (2, .ref qm), (3, .ref qb), (4, .int (nI i))]) hx hb dL_goes_32 hl (by decide) rfl (fun ls hl => ?_)
      refine lv_iload hx hb dL_goes_34 (lv_at hl 3 rfl) ?_
      refine lv_iconst (v := 3) hx hb dL_goes_36 (by decide) ?_
      refine lv_icmp_eq (tgt := 53) hx hb dL_goes_37 (by decide) (fun c_125 => absurd c_125 ((by decide : ¬ (2 : Int32) = 3))) (fun c_125 => ?_)
      refine lv_iload hx hb dL_goes_40 (lv_at hl 3 rfl) ?_
      refine lv_iconst (v := 4) hx hb dL_goes_42 (by decide) ?_
      refine lv_icmp_eq (tgt := 53) hx hb dL_goes_43 (by decide) (fun c_126 => absurd c_126 ((by decide : ¬ (2 : Int32) = 4))) (fun c_126 => ?_)
      refine lv_iload hx hb dL_goes_46 (lv_at hl 3 rfl) ?_
      refine lv_bipush (v := 6) hx hb dL_goes_48 (by decide) ?_
      refine lv_icmp_ne (tgt := 57) hx hb dL_goes_50 (by decide) (fun c_127 => ?_) (fun c_127 => absurd c_127 ((by decide : ¬ (2 : Int32) = 6)))
      refine lv_iconst (v := 0) hx hb dL_goes_57 (by decide) ?_
      refine lv_istore (lv' := [(9, .int 0), (8, .int (nI n8)), (7, .int (-1)), (6, .int (nI b)), (5, .int 2), (0, .ref (ad 0)), (1, .ref qa), (2, .ref qm), (3, .ref qb), (4, .int (nI i))]) hx hb dL_goes_58 hl (by decide) rfl (fun ls hl => ?_)
      refine lv_iload hx hb dL_goes_60 (lv_at hl 4 rfl) ?_
      refine lv_iconst (v := 3) hx hb dL_goes_62 (by decide) ?_
      refine lv_icmp_eq (tgt := 79) hx hb dL_goes_63 (by decide) (fun c_128 => absurd c_128 ((by decide : ¬ (2 : Int32) = 3))) (fun c_128 => ?_)
      refine lv_iload hx hb dL_goes_66 (lv_at hl 4 rfl) ?_
      refine lv_iconst (v := 5) hx hb dL_goes_68 (by decide) ?_
      refine lv_icmp_eq (tgt := 79) hx hb dL_goes_69 (by decide) (fun c_129 => absurd c_129 ((by decide : ¬ (2 : Int32) = 5))) (fun c_129 => ?_)
      refine lv_iload hx hb dL_goes_72 (lv_at hl 4 rfl) ?_
      refine lv_bipush (v := 6) hx hb dL_goes_74 (by decide) ?_
      refine lv_icmp_ne (tgt := 83) hx hb dL_goes_76 (by decide) (fun c_130 => ?_) (fun c_130 => absurd c_130 ((by decide : ¬ (2 : Int32) = 6)))
      refine lv_iconst (v := 0) hx hb dL_goes_83 (by decide) ?_
      refine lv_istore (lv' := [(10, .int 0), (9, .int 0), (8, .int (nI n8)), (7, .int (-1)), (6, .int (nI b)), (5, .int 2), (0, .ref (ad 0)), (1, .ref qa), (2, .ref qm), (3, .ref qb), (4, .int (nI i))]) hx hb dL_goes_84 hl (by decide) rfl (fun ls hl => ?_)
      refine lv_aload_n hx hb dL_goes_86 rfl (lv_at hl 6 rfl) ?_
      refine lv_iload hx hb dL_goes_87 (lv_at hl 10 rfl) ?_
      refine rMi (vx_runSW (As := [.ref (ad 0), .int (nI i)]) (rest := []) ⟨hx, hb, hml, hown, hts⟩ (c_L_imageOf l hst D cy ad σ sz (nI i) ((-1)) ((wI hi).trans himg)) (vx_cwSW 2 hts gL_goes_L_imageOf rfl rfl rfl (by decide +kernel) ⟨Nat.le_of_ble_eq_true rfl, Nat.le_of_ble_eq_true rfl⟩) ⟨cx_bl, cx_S hP hK NoA_z hxk hS⟩ rfl rfl hl.1 rfl (lv_room (Nat.le_of_ble_eq_true rfl)) dL_goes_89 ⟨by show _ ≤ 20; omega, by show _ ≤ 120; omega⟩) hS (fun H locs hS hg => ?_)
      have hP := hP.grown hg
      have hPa := hPa.grown hg
      have hPm := hPm.grown hg
      refine W.eq (g2 := F0 m 92 ls [.int (-1)]) rfl ?_
      refine lv_istore (lv' := [(11, .int (-1)), (10, .int 0), (9, .int 0), (8, .int (nI n8)), (7, .int (-1)), (6, .int (nI b)), (5, .int 2), (0, .ref (ad 0)), (1, .ref qa), (2, .ref qm), (3, .ref qb), (4, .int (nI i))]) hx hb dL_goes_92 hl (by decide) rfl (fun ls hl => ?_)
      refine lv_iload hx hb dL_goes_94 (lv_at hl 6 rfl) ?_
      refine lv_iconst (v := 5) hx hb dL_goes_96 (by decide) ?_
      refine lv_icmp_ne (tgt := 104) hx hb dL_goes_97 (by decide) (fun c_131 => ?_) (fun c_131 => absurd c_131 ((by decide : ¬ (2 : Int32) = 5)))
      refine lv_iload hx hb dL_goes_104 (lv_at hl 6 rfl) ?_
      refine lv_if_ne (tgt := 113) hx hb dL_goes_106 (by decide) (fun c_132 => ?_) (fun c_132 => absurd c_132 ((by decide : ¬ (2 : Int32) = 0)))
      refine lv_iload hx hb dL_goes_113 (lv_at hl 6 rfl) ?_
      refine lv_iconst (v := 3) hx hb dL_goes_115 (by decide) ?_
      refine lv_icmp_ge (tgt := 128) hx hb dL_goes_116 (by decide) (fun c_133 => absurd c_133 ((by decide : ¬ (3 : Int32) ≤ 2))) (fun c_133 => ?_)
      refine lv_iload hx hb dL_goes_119 (lv_at hl 5 rfl) ?_
      refine lv_if_ge (tgt := 128) hx hb dL_goes_121 (by decide) (fun c_134 => ?_) (fun c_134 => absurd (((nI_leI (a := 0) (b := b) (by omega) (by omega)).mpr (by omega))) c_134)
      refine lv_iload hx hb dL_goes_128 (lv_at hl 6 rfl) ?_
      refine lv_iconst (v := 1) hx hb dL_goes_130 (by decide) ?_
      refine lv_icmp_ne (tgt := 138) hx hb dL_goes_131 (by decide) (fun c_135 => ?_) (fun c_135 => absurd c_135 ((by decide : ¬ (2 : Int32) = 1)))
      refine lv_iload hx hb dL_goes_138 (lv_at hl 6 rfl) ?_
      refine lv_iconst (v := 2) hx hb dL_goes_140 (by decide) ?_
      refine lv_icmp_ne (tgt := 148) hx hb dL_goes_141 (by decide) (fun c_136 => absurd ((by decide : (2 : Int32) = 2)) c_136) (fun c_136 => ?_)
      refine lv_iconst (v := 4) hx hb dL_goes_144 (by decide) ?_
      refine lv_goto (tgt := 183) hx hb dL_goes_145 (by decide) ?_
      refine lv_istore (lv' := [(12, .int 4), (11, .int (-1)), (10, .int 0), (9, .int 0), (8, .int (nI n8)), (7, .int (-1)), (6, .int (nI b)), (5, .int 2), (0, .ref (ad 0)), (1, .ref qa), (2, .ref qm), (3, .ref qb), (4, .int (nI i))]) hx hb dL_goes_183 hl (by decide) rfl (fun ls hl => ?_)
      refine lv_iload hx hb dL_goes_185 (lv_at hl 7 rfl) ?_
      refine lv_if_lt (tgt := 343) hx hb dL_goes_187 (by decide) (fun c_137 => absurd c_137 ((by decide : ¬ (2 : Int32) < 0))) (fun c_137 => ?_)
      refine lv_iload hx hb dL_goes_190 (lv_at hl 7 rfl) ?_
      refine lv_bipush (v := 8) hx hb dL_goes_192 (by decide) ?_
      refine lv_icmp_ge (tgt := 343) hx hb dL_goes_194 (by decide) (fun c_138 => absurd c_138 ((by decide : ¬ (8 : Int32) ≤ 2))) (fun c_138 => ?_)
      refine lv_aload_n hx hb dL_goes_197 rfl (lv_at hl 8 rfl) ?_
      refine lv_iload hx hb dL_goes_198 (lv_at hl 12 rfl) ?_
      refine rMi (vx_runSW (As := [.ref (ad 0), .int (nI i)]) (rest := []) ⟨hx, hb, hml, hown, hts⟩ (c_L_matchOf l hst D cy ad σ sz (nI i) (nI b) ((wM hi).trans (by rw [hbs]; rfl))) (vx_cwSW 2 hts gL_goes_L_matchOf rfl rfl rfl (by decide +kernel) ⟨Nat.le_of_ble_eq_true rfl, Nat.le_of_ble_eq_true rfl⟩) ⟨cx_bl, cx_S hP hK NoA_z hxk hS⟩ rfl rfl hl.1 rfl (lv_room (Nat.le_of_ble_eq_true rfl)) dL_goes_200 ⟨by show _ ≤ 20; omega, by show _ ≤ 120; omega⟩) hS (fun H locs hS hg => ?_)
      have hP := hP.grown hg
      have hPa := hPa.grown hg
      have hPm := hPm.grown hg
      refine W.eq (g2 := F0 m 203 ls [.int (nI b)]) rfl ?_
      refine lv_iload hx hb dL_goes_203 (lv_at hl 6 rfl) ?_
      refine lv_icmp_ne (tgt := 343) hx hb dL_goes_205 (by decide) (fun c_139 => absurd (rfl) c_139) (fun c_139 => ?_)
      refine lv_aload_n hx hb dL_goes_208 rfl (lv_at hl 8 rfl) ?_
      refine lv_iload hx hb dL_goes_209 (lv_at hl 12 rfl) ?_
      refine rMi (vx_runSW (As := [.ref (ad 0), .int (nI i)]) (rest := []) ⟨hx, hb, hml, hown, hts⟩ (c_L_reason l hst D cy ad σ sz (nI i) (4) ((wR hi).trans (by rw [hbs, xs]; rfl))) (vx_cwSW 2 hts gL_goes_L_reason rfl rfl rfl (by decide +kernel) ⟨Nat.le_of_ble_eq_true rfl, Nat.le_of_ble_eq_true rfl⟩) ⟨cx_bl, cx_S hP hK NoA_z hxk hS⟩ rfl rfl hl.1 rfl (lv_room (Nat.le_of_ble_eq_true rfl)) dL_goes_211 ⟨by show _ ≤ 20; omega, by show _ ≤ 120; omega⟩) hS (fun H locs hS hg => ?_)
      have hP := hP.grown hg
      have hPa := hPa.grown hg
      have hPm := hPm.grown hg
      refine W.eq (g2 := F0 m 214 ls [.int 4]) rfl ?_
      refine lv_iload hx hb dL_goes_214 (lv_at hl 0 rfl) ?_
      refine lv_icmp_ne (tgt := 343) hx hb dL_goes_216 (by decide) (fun c_140 => absurd ((by decide : (4 : Int32) = 4)) c_140) (fun c_140 => ?_)
      refine lv_iload hx hb dL_goes_219 (lv_at hl 3 rfl) ?_
      refine lv_if_eq (tgt := 254) hx hb dL_goes_221 (by decide) (fun c_141 => ?_) (fun c_141 => absurd ((by decide : (0 : Int32) = 0)) c_141)
      refine lv_iload hx hb dL_goes_254 (lv_at hl 5 rfl) ?_
      refine lv_iconst (v := (-1)) hx hb dL_goes_256 (by decide) ?_
      refine lv_icmp_ne (tgt := 343) hx hb dL_goes_257 (by decide) (fun c_142 => absurd ((by decide : (-1 : Int32) = -1)) c_142) (fun c_142 => ?_)
      refine lv_iload hx hb dL_goes_260 (lv_at hl 2 rfl) ?_
      refine lv_if_eq (tgt := 280) hx hb dL_goes_262 (by decide) (fun c_143 => ?_) (fun c_143 => absurd ((by decide : (0 : Int32) = 0)) c_143)
      refine lv_iload hx hb dL_goes_280 (lv_at hl 1 rfl) ?_
      refine lv_iconst (v := (-1)) hx hb dL_goes_282 (by decide) ?_
      refine lv_icmp_ne (tgt := 343) hx hb dL_goes_283 (by decide) (fun c_144 => absurd ((by decide : (-1 : Int32) = -1)) c_144) (fun c_144 => ?_)
      refine lv_iload hx hb dL_goes_286 (lv_at hl 4 rfl) ?_
      refine lv_if_lt (tgt := 343) hx hb dL_goes_288 (by decide) (fun c_145 => absurd c_145 ((fun z9 => absurd ((nI_ltI (a := n8) (b := 0) (by omega) (by omega)).mp z9) (by omega)))) (fun c_145 => ?_)
      refine lv_iload hx hb dL_goes_291 (lv_at hl 4 rfl) ?_
      refine lv_bipush (v := 10) hx hb dL_goes_293 (by decide) ?_
      refine lv_icmp_ge (tgt := 343) hx hb dL_goes_295 (by decide) (fun c_146 => absurd c_146 ((fun z9 => absurd ((nI_leI (a := 10) (b := n8) (by omega) (by omega)).mp z9) (by omega)))) (fun c_146 => ?_)
      refine lv_iload hx hb dL_goes_298 (lv_at hl 7 rfl) ?_
      refine lv_iconst (v := 5) hx hb dL_goes_300 (by decide) ?_
      refine lv_icmp_eq (tgt := 316) hx hb dL_goes_301 (by decide) (fun c_147 => absurd c_147 ((by decide : ¬ (2 : Int32) = 5))) (fun c_147 => ?_)
      refine lv_iload hx hb dL_goes_304 (lv_at hl 7 rfl) ?_
      refine lv_bipush (v := 6) hx hb dL_goes_306 (by decide) ?_
      refine lv_icmp_eq (tgt := 316) hx hb dL_goes_308 (by decide) (fun c_148 => absurd c_148 ((by decide : ¬ (2 : Int32) = 6))) (fun c_148 => ?_)
      refine lv_iload hx hb dL_goes_311 (lv_at hl 7 rfl) ?_
      refine lv_if_ne (tgt := 321) hx hb dL_goes_313 (by decide) (fun c_149 => ?_) (fun c_149 => absurd c_149 ((by decide : ¬ (2 : Int32) = 0)))
      refine lv_iload hx hb dL_goes_321 (lv_at hl 7 rfl) ?_
      refine lv_iconst (v := 4) hx hb dL_goes_323 (by decide) ?_
      refine lv_icmp_eq (tgt := 334) hx hb dL_goes_324 (by decide) (fun c_150 => absurd c_150 ((by decide : ¬ (2 : Int32) = 4))) (fun c_150 => ?_)
      refine lv_iload hx hb dL_goes_327 (lv_at hl 7 rfl) ?_
      refine lv_bipush (v := 7) hx hb dL_goes_329 (by decide) ?_
      refine lv_icmp_ne (tgt := 339) hx hb dL_goes_331 (by decide) (fun c_151 => ?_) (fun c_151 => absurd c_151 ((by decide : ¬ (2 : Int32) = 7)))
      refine lv_iconst (v := 1) hx hb dL_goes_339 (by decide) ?_
      refine lv_goto (tgt := 344) hx hb dL_goes_340 (by decide) ?_
      refine W.widen (k := 20) (n := 120) (by omega) (by omega) ?_
      exact W.zret (v := 1) hx hb hr rfl (fun t ht hW => ⟨⟨_, (), rfl, rfl, trivial⟩, hS.F ht⟩) hS.2.2 dL_goes_344
  · have xs : σ 1 i = 3 := x2
    obtain ⟨e8, y1, y2, y3, y4, y5⟩ := x11 (by omega)
    have y6 : ¬ e8 = h := y5
    have y7 := y4 (by omega)
    have hend : (if sEnds σ i = true then σ 8 i else -1) = nI e8 := by rw [if_pos (hE.1 (by omega))]; exact y1
    obtain ⟨k8, z1, z2⟩ := x10 (by omega)
    have himg : (if sBears σ i = true then σ 7 i else -1) = nI k8 := by rw [if_pos (hB.1 (by omega))]; exact z2
    rcases hbs : sBst σ i with _ | b
    · refine lv_aload_n hx hb dL_goes_0 rfl (lv_at hl 0 rfl) ?_
      refine lv_iload hx hb dL_goes_1 (lv_at hl 4 rfl) ?_
      refine rMi (vx_runSW (As := [.ref (ad 0), .int (nI i)]) (rest := []) ⟨hx, hb, hml, hown, hts⟩ (c_L_stateOf l hst D cy ad σ sz (nI i) (3) ((wS hi).trans xs)) (vx_cwSW 2 hts gL_goes_L_stateOf rfl rfl rfl (by decide +kernel) ⟨Nat.le_of_ble_eq_true rfl, Nat.le_of_ble_eq_true rfl⟩) ⟨cx_bl, cx_S hP hK NoA_z hxk hS⟩ rfl rfl hl.1 rfl (lv_room (Nat.le_of_ble_eq_true rfl)) dL_goes_3 ⟨by show _ ≤ 20; omega, by show _ ≤ 120; omega⟩) hS (fun H locs hS hg => ?_)
      have hP := hP.grown hg
      have hPa := hPa.grown hg
      have hPm := hPm.grown hg
      refine W.eq (g2 := F0 m 6 ls [.int 3]) rfl ?_
      refine lv_istore (lv' := [(5, .int 3), (0, .ref (ad 0)), (1, .ref qa), (2, .ref qm), (3, .ref qb), (4, .int (nI i))]) hx hb dL_goes_6 hl (by decide) rfl (fun ls hl => ?_)
      refine lv_aload_n hx hb dL_goes_8 rfl (lv_at hl 1 rfl) ?_
      refine lv_aload_n hx hb dL_goes_9 rfl (lv_at hl 2 rfl) ?_
      refine lv_aload_n hx hb dL_goes_10 rfl (lv_at hl 3 rfl) ?_
      refine lv_iload hx hb dL_goes_11 (lv_at hl 5 rfl) ?_
      refine rMi (va_runS (As := [.ref (ad 0), .ref qa, .ref qm, .int (nI i)]) (rest := []) ⟨hx, hb, hml, hown, hts⟩ (c_L_match l hst D cy ad σ sz qa qm fa fm fb i hi ⟨_, x1, x2⟩ hT) (va_cwS 4 hts gL_goes_L_match rfl rfl rfl (by decide +kernel) ⟨Nat.le_of_ble_eq_true rfl, Nat.le_of_ble_eq_true rfl⟩) ⟨aX_bl, aX_S hP hK NoA_z hxk hS hPa hPm⟩ rfl rfl hl.1 rfl (lv_room (Nat.le_of_ble_eq_true rfl)) dL_goes_13 ⟨by show _ ≤ 20; omega, by show _ ≤ 120; omega⟩) hS (fun H locs hS hg => ?_)
      have hP := hP.grown hg
      have hPa := hPa.grown hg
      have hPm := hPm.grown hg
      refine W.eq (g2 := F0 m 16 ls [.int (-1)]) (by rw [hbs]; rfl) ?_
      refine lv_istore (lv' := [(6, .int (-1)), (5, .int 3), (0, .ref (ad 0)), (1, .ref qa), (2, .ref qm), (3, .ref qb), (4, .int (nI i))]) hx hb dL_goes_16 hl (by decide) rfl (fun ls hl => ?_)
      refine lv_aload_n hx hb dL_goes_18 rfl (lv_at hl 2 rfl) ?_
      refine lv_iload hx hb dL_goes_19 (lv_at hl 6 rfl) ?_
      refine rMi (vx_runSW (As := [.ref (ad 0), .int (nI i)]) (rest := []) ⟨hx, hb, hml, hown, hts⟩ (c_L_endOf l hst D cy ad σ sz (nI i) (nI e8) ((wE hi).trans hend)) (vx_cwSW 2 hts gL_goes_L_endOf rfl rfl rfl (by decide +kernel) ⟨Nat.le_of_ble_eq_true rfl, Nat.le_of_ble_eq_true rfl⟩) ⟨cx_bl, cx_S hP hK NoA_z hxk hS⟩ rfl rfl hl.1 rfl (lv_room (Nat.le_of_ble_eq_true rfl)) dL_goes_21 ⟨by show _ ≤ 20; omega, by show _ ≤ 120; omega⟩) hS (fun H locs hS hg => ?_)
      have hP := hP.grown hg
      have hPa := hPa.grown hg
      have hPm := hPm.grown hg
      refine W.eq (g2 := F0 m 24 ls [.int (nI e8)]) rfl ?_
      refine lv_istore (lv' := [(7, .int (nI e8)), (6, .int (-1)), (5, .int 3), (0, .ref (ad 0)), (1, .ref qa), (2, .ref qm), (3, .ref qb), (4, .int (nI i))]) hx hb dL_goes_24 hl (by decide) rfl (fun ls hl => ?_)
      refine lv_aload_n hx hb dL_goes_26 rfl (lv_at hl 3 rfl) ?_
      refine lv_iload hx hb dL_goes_27 (lv_at hl 7 rfl) ?_
      refine rMi (vx_runSW (As := [.ref (ad 0), .int (nI i)]) (rest := []) ⟨hx, hb, hml, hown, hts⟩ (c_L_failuresOf l hst D cy ad σ sz (nI i) (nI n8) ((wF hi).trans x5)) (vx_cwSW 2 hts gL_goes_L_failuresOf rfl rfl rfl (by decide +kernel) ⟨Nat.le_of_ble_eq_true rfl, Nat.le_of_ble_eq_true rfl⟩) ⟨cx_bl, cx_S hP hK NoA_z hxk hS⟩ rfl rfl hl.1 rfl (lv_room (Nat.le_of_ble_eq_true rfl)) dL_goes_29 ⟨by show _ ≤ 20; omega, by show _ ≤ 120; omega⟩) hS (fun H locs hS hg => ?_)
      have hP := hP.grown hg
      have hPa := hPa.grown hg
      have hPm := hPm.grown hg
      refine W.eq (g2 := F0 m 32 ls [.int (nI n8)]) rfl ?_
      refine lv_istore (lv' := [(8, .int (nI n8)), (7, .int (nI e8)), (6, .int (-1)), (5, .int 3), (0, .ref (ad 0)), (1, .ref qa), (2, .ref qm), (3, .ref qb), (4, .int (nI i))]) hx hb dL_goes_32 hl (by decide) rfl (fun ls hl => ?_)
      refine lv_iload hx hb dL_goes_34 (lv_at hl 3 rfl) ?_
      refine lv_iconst (v := 3) hx hb dL_goes_36 (by decide) ?_
      refine lv_icmp_eq (tgt := 53) hx hb dL_goes_37 (by decide) (fun c_152 => ?_) (fun c_152 => absurd ((by decide : (3 : Int32) = 3)) c_152)
      refine lv_iconst (v := 1) hx hb dL_goes_53 (by decide) ?_
      refine lv_goto (tgt := 58) hx hb dL_goes_54 (by decide) ?_
      refine lv_istore (lv' := [(9, .int 1), (8, .int (nI n8)), (7, .int (nI e8)), (6, .int (-1)), (5, .int 3), (0, .ref (ad 0)), (1, .ref qa), (2, .ref qm), (3, .ref qb), (4, .int (nI i))]) hx hb dL_goes_58 hl (by decide) rfl (fun ls hl => ?_)
      refine lv_iload hx hb dL_goes_60 (lv_at hl 4 rfl) ?_
      refine lv_iconst (v := 3) hx hb dL_goes_62 (by decide) ?_
      refine lv_icmp_eq (tgt := 79) hx hb dL_goes_63 (by decide) (fun c_153 => ?_) (fun c_153 => absurd ((by decide : (3 : Int32) = 3)) c_153)
      refine lv_iconst (v := 1) hx hb dL_goes_79 (by decide) ?_
      refine lv_goto (tgt := 84) hx hb dL_goes_80 (by decide) ?_
      refine lv_istore (lv' := [(10, .int 1), (9, .int 1), (8, .int (nI n8)), (7, .int (nI e8)), (6, .int (-1)), (5, .int 3), (0, .ref (ad 0)), (1, .ref qa), (2, .ref qm), (3, .ref qb), (4, .int (nI i))]) hx hb dL_goes_84 hl (by decide) rfl (fun ls hl => ?_)
      refine lv_aload_n hx hb dL_goes_86 rfl (lv_at hl 6 rfl) ?_
      refine lv_iload hx hb dL_goes_87 (lv_at hl 10 rfl) ?_
      refine rMi (vx_runSW (As := [.ref (ad 0), .int (nI i)]) (rest := []) ⟨hx, hb, hml, hown, hts⟩ (c_L_imageOf l hst D cy ad σ sz (nI i) (nI k8) ((wI hi).trans himg)) (vx_cwSW 2 hts gL_goes_L_imageOf rfl rfl rfl (by decide +kernel) ⟨Nat.le_of_ble_eq_true rfl, Nat.le_of_ble_eq_true rfl⟩) ⟨cx_bl, cx_S hP hK NoA_z hxk hS⟩ rfl rfl hl.1 rfl (lv_room (Nat.le_of_ble_eq_true rfl)) dL_goes_89 ⟨by show _ ≤ 20; omega, by show _ ≤ 120; omega⟩) hS (fun H locs hS hg => ?_)
      have hP := hP.grown hg
      have hPa := hPa.grown hg
      have hPm := hPm.grown hg
      refine W.eq (g2 := F0 m 92 ls [.int (nI k8)]) rfl ?_
      refine lv_istore (lv' := [(11, .int (nI k8)), (10, .int 1), (9, .int 1), (8, .int (nI n8)), (7, .int (nI e8)), (6, .int (-1)), (5, .int 3), (0, .ref (ad 0)), (1, .ref qa), (2, .ref qm), (3, .ref qb), (4, .int (nI i))]) hx hb dL_goes_92 hl (by decide) rfl (fun ls hl => ?_)
      refine lv_iload hx hb dL_goes_94 (lv_at hl 6 rfl) ?_
      refine lv_iconst (v := 5) hx hb dL_goes_96 (by decide) ?_
      refine lv_icmp_ne (tgt := 104) hx hb dL_goes_97 (by decide) (fun c_154 => ?_) (fun c_154 => absurd c_154 ((by decide : ¬ (3 : Int32) = 5)))
      refine lv_iload hx hb dL_goes_104 (lv_at hl 6 rfl) ?_
      refine lv_if_ne (tgt := 113) hx hb dL_goes_106 (by decide) (fun c_155 => ?_) (fun c_155 => absurd c_155 ((by decide : ¬ (3 : Int32) = 0)))
      refine lv_iload hx hb dL_goes_113 (lv_at hl 6 rfl) ?_
      refine lv_iconst (v := 3) hx hb dL_goes_115 (by decide) ?_
      refine lv_icmp_ge (tgt := 128) hx hb dL_goes_116 (by decide) (fun c_156 => ?_) (fun c_156 => absurd ((by decide : (3 : Int32) ≤ 3)) c_156)
      refine lv_iload hx hb dL_goes_128 (lv_at hl 6 rfl) ?_
      refine lv_iconst (v := 1) hx hb dL_goes_130 (by decide) ?_
      refine lv_icmp_ne (tgt := 138) hx hb dL_goes_131 (by decide) (fun c_157 => ?_) (fun c_157 => absurd c_157 ((by decide : ¬ (3 : Int32) = 1)))
      refine lv_iload hx hb dL_goes_138 (lv_at hl 6 rfl) ?_
      refine lv_iconst (v := 2) hx hb dL_goes_140 (by decide) ?_
      refine lv_icmp_ne (tgt := 148) hx hb dL_goes_141 (by decide) (fun c_158 => ?_) (fun c_158 => absurd c_158 ((by decide : ¬ (3 : Int32) = 2)))
      refine lv_iload hx hb dL_goes_148 (lv_at hl 6 rfl) ?_
      refine lv_iconst (v := 3) hx hb dL_goes_150 (by decide) ?_
      refine lv_icmp_ne (tgt := 158) hx hb dL_goes_151 (by decide) (fun c_159 => absurd ((by decide : (3 : Int32) = 3)) c_159) (fun c_159 => ?_)
      refine lv_iconst (v := 5) hx hb dL_goes_154 (by decide) ?_
      refine lv_goto (tgt := 183) hx hb dL_goes_155 (by decide) ?_
      refine lv_istore (lv' := [(12, .int 5), (11, .int (nI k8)), (10, .int 1), (9, .int 1), (8, .int (nI n8)), (7, .int (nI e8)), (6, .int (-1)), (5, .int 3), (0, .ref (ad 0)), (1, .ref qa), (2, .ref qm), (3, .ref qb), (4, .int (nI i))]) hx hb dL_goes_183 hl (by decide) rfl (fun ls hl => ?_)
      refine lv_iload hx hb dL_goes_185 (lv_at hl 7 rfl) ?_
      refine lv_if_lt (tgt := 343) hx hb dL_goes_187 (by decide) (fun c_160 => absurd c_160 ((by decide : ¬ (3 : Int32) < 0))) (fun c_160 => ?_)
      refine lv_iload hx hb dL_goes_190 (lv_at hl 7 rfl) ?_
      refine lv_bipush (v := 8) hx hb dL_goes_192 (by decide) ?_
      refine lv_icmp_ge (tgt := 343) hx hb dL_goes_194 (by decide) (fun c_161 => absurd c_161 ((by decide : ¬ (8 : Int32) ≤ 3))) (fun c_161 => ?_)
      refine lv_aload_n hx hb dL_goes_197 rfl (lv_at hl 8 rfl) ?_
      refine lv_iload hx hb dL_goes_198 (lv_at hl 12 rfl) ?_
      refine rMi (vx_runSW (As := [.ref (ad 0), .int (nI i)]) (rest := []) ⟨hx, hb, hml, hown, hts⟩ (c_L_matchOf l hst D cy ad σ sz (nI i) ((-1)) ((wM hi).trans (by rw [hbs]; rfl))) (vx_cwSW 2 hts gL_goes_L_matchOf rfl rfl rfl (by decide +kernel) ⟨Nat.le_of_ble_eq_true rfl, Nat.le_of_ble_eq_true rfl⟩) ⟨cx_bl, cx_S hP hK NoA_z hxk hS⟩ rfl rfl hl.1 rfl (lv_room (Nat.le_of_ble_eq_true rfl)) dL_goes_200 ⟨by show _ ≤ 20; omega, by show _ ≤ 120; omega⟩) hS (fun H locs hS hg => ?_)
      have hP := hP.grown hg
      have hPa := hPa.grown hg
      have hPm := hPm.grown hg
      refine W.eq (g2 := F0 m 203 ls [.int (-1)]) rfl ?_
      refine lv_iload hx hb dL_goes_203 (lv_at hl 6 rfl) ?_
      refine lv_icmp_ne (tgt := 343) hx hb dL_goes_205 (by decide) (fun c_162 => absurd ((by decide : (-1 : Int32) = -1)) c_162) (fun c_162 => ?_)
      refine lv_aload_n hx hb dL_goes_208 rfl (lv_at hl 8 rfl) ?_
      refine lv_iload hx hb dL_goes_209 (lv_at hl 12 rfl) ?_
      refine rMi (vx_runSW (As := [.ref (ad 0), .int (nI i)]) (rest := []) ⟨hx, hb, hml, hown, hts⟩ (c_L_reason l hst D cy ad σ sz (nI i) (5) ((wR hi).trans (by rw [hbs, xs]; rfl))) (vx_cwSW 2 hts gL_goes_L_reason rfl rfl rfl (by decide +kernel) ⟨Nat.le_of_ble_eq_true rfl, Nat.le_of_ble_eq_true rfl⟩) ⟨cx_bl, cx_S hP hK NoA_z hxk hS⟩ rfl rfl hl.1 rfl (lv_room (Nat.le_of_ble_eq_true rfl)) dL_goes_211 ⟨by show _ ≤ 20; omega, by show _ ≤ 120; omega⟩) hS (fun H locs hS hg => ?_)
      have hP := hP.grown hg
      have hPa := hPa.grown hg
      have hPm := hPm.grown hg
      refine W.eq (g2 := F0 m 214 ls [.int 5]) rfl ?_
      refine lv_iload hx hb dL_goes_214 (lv_at hl 0 rfl) ?_
      refine lv_icmp_ne (tgt := 343) hx hb dL_goes_216 (by decide) (fun c_163 => absurd ((by decide : (5 : Int32) = 5)) c_163) (fun c_163 => ?_)
      refine lv_iload hx hb dL_goes_219 (lv_at hl 3 rfl) ?_
      refine lv_if_eq (tgt := 254) hx hb dL_goes_221 (by decide) (fun c_164 => absurd c_164 ((by decide : ¬ (1 : Int32) = 0))) (fun c_164 => ?_)
      refine lv_iload hx hb dL_goes_224 (lv_at hl 5 rfl) ?_
      refine lv_aload_n hx hb dL_goes_226 rfl (lv_at hl 8 rfl) ?_
      refine cS (W.runV (As := []) (rest := [.int (nI e8)]) ⟨hx, hb, hml, hown, hts⟩ (c_X3_now l D cy ad σ) (cwV 0 hts gL_goes_X3_now rfl rfl rfl (by decide +kernel) ⟨Nat.le_of_ble_eq_true rfl, Nat.le_of_ble_eq_true rfl⟩) ⟨cw_bl, cw_F hP hK, cw_at hP hK⟩ rfl rfl hl.1 rfl (lv_room (Nat.le_of_ble_eq_true rfl)) dL_goes_227 ⟨by show _ ≤ 20; omega, by show _ ≤ 120; omega⟩) (fun _ _ => ?_)
      refine W.eq (g2 := F0 m 230 ls [.int (σ 20 6), .int (nI e8)]) rfl ?_
      refine W.eq (g2 := F0 m 230 ls [.int (nI h), .int (nI e8)]) (by rw [hh]) ?_
      refine lv_icmp_le (tgt := 343) hx hb dL_goes_230 (by decide) (fun c_165 => absurd c_165 ((fun z9 => absurd ((nI_leI (a := e8) (b := h) (by omega) (by omega)).mp z9) (by omega)))) (fun c_165 => ?_)
      refine lv_iload hx hb dL_goes_233 (lv_at hl 7 rfl) ?_
      refine lv_iconst (v := 4) hx hb dL_goes_235 (by decide) ?_
      refine lv_icmp_eq (tgt := 260) hx hb dL_goes_236 (by decide) (fun c_166 => absurd c_166 ((by decide : ¬ (3 : Int32) = 4))) (fun c_166 => ?_)
      refine lv_iload hx hb dL_goes_239 (lv_at hl 5 rfl) ?_
      refine lv_aload_n hx hb dL_goes_241 rfl (lv_at hl 8 rfl) ?_
      refine cS (W.runV (As := []) (rest := [.int (nI e8)]) ⟨hx, hb, hml, hown, hts⟩ (c_X3_now l D cy ad σ) (cwV 0 hts gL_goes_X3_now rfl rfl rfl (by decide +kernel) ⟨Nat.le_of_ble_eq_true rfl, Nat.le_of_ble_eq_true rfl⟩) ⟨cw_bl, cw_F hP hK, cw_at hP hK⟩ rfl rfl hl.1 rfl (lv_room (Nat.le_of_ble_eq_true rfl)) dL_goes_242 ⟨by show _ ≤ 20; omega, by show _ ≤ 120; omega⟩) (fun _ _ => ?_)
      refine W.eq (g2 := F0 m 245 ls [.int (σ 20 6), .int (nI e8)]) rfl ?_
      refine W.eq (g2 := F0 m 245 ls [.int (nI h), .int (nI e8)]) (by rw [hh]) ?_
      refine lv_bipush (v := 48) hx hb dL_goes_245 (by decide) ?_
      refine lv_iadd hx hb dL_goes_247 ?_
      refine W.eq (congrArg (fun z9 => F0 m 248 ls [.int z9, .int (nI e8)]) (nI_add h 48)) ?_
      refine lv_icmp_gt (tgt := 343) hx hb dL_goes_248 (by decide) (fun c_167 => absurd c_167 ((fun z9 => absurd ((nI_ltI (a := h + 48) (b := e8) (by omega) (by omega)).mp z9) (by omega)))) (fun c_167 => ?_)
      refine lv_goto (tgt := 260) hx hb dL_goes_251 (by decide) ?_
      refine lv_iload hx hb dL_goes_260 (lv_at hl 2 rfl) ?_
      refine lv_if_eq (tgt := 280) hx hb dL_goes_262 (by decide) (fun c_168 => absurd c_168 ((by decide : ¬ (1 : Int32) = 0))) (fun c_168 => ?_)
      refine lv_iload hx hb dL_goes_265 (lv_at hl 1 rfl) ?_
      refine lv_if_lt (tgt := 343) hx hb dL_goes_267 (by decide) (fun c_169 => absurd c_169 ((fun z9 => absurd ((nI_ltI (a := k8) (b := 0) (by omega) (by omega)).mp z9) (by omega)))) (fun c_169 => ?_)
      refine lv_iload hx hb dL_goes_270 (lv_at hl 1 rfl) ?_
      refine lv_bipush (v := 8) hx hb dL_goes_272 (by decide) ?_
      refine lv_icmp_ge (tgt := 343) hx hb dL_goes_274 (by decide) (fun c_170 => absurd c_170 ((fun z9 => absurd ((nI_leI (a := 8) (b := k8) (by omega) (by omega)).mp z9) (by omega)))) (fun c_170 => ?_)
      refine lv_goto (tgt := 286) hx hb dL_goes_277 (by decide) ?_
      refine lv_iload hx hb dL_goes_286 (lv_at hl 4 rfl) ?_
      refine lv_if_lt (tgt := 343) hx hb dL_goes_288 (by decide) (fun c_171 => absurd c_171 ((fun z9 => absurd ((nI_ltI (a := n8) (b := 0) (by omega) (by omega)).mp z9) (by omega)))) (fun c_171 => ?_)
      refine lv_iload hx hb dL_goes_291 (lv_at hl 4 rfl) ?_
      refine lv_bipush (v := 10) hx hb dL_goes_293 (by decide) ?_
      refine lv_icmp_ge (tgt := 343) hx hb dL_goes_295 (by decide) (fun c_172 => absurd c_172 ((fun z9 => absurd ((nI_leI (a := 10) (b := n8) (by omega) (by omega)).mp z9) (by omega)))) (fun c_172 => ?_)
      refine lv_iload hx hb dL_goes_298 (lv_at hl 7 rfl) ?_
      refine lv_iconst (v := 5) hx hb dL_goes_300 (by decide) ?_
      refine lv_icmp_eq (tgt := 316) hx hb dL_goes_301 (by decide) (fun c_173 => absurd c_173 ((by decide : ¬ (3 : Int32) = 5))) (fun c_173 => ?_)
      refine lv_iload hx hb dL_goes_304 (lv_at hl 7 rfl) ?_
      refine lv_bipush (v := 6) hx hb dL_goes_306 (by decide) ?_
      refine lv_icmp_eq (tgt := 316) hx hb dL_goes_308 (by decide) (fun c_174 => absurd c_174 ((by decide : ¬ (3 : Int32) = 6))) (fun c_174 => ?_)
      refine lv_iload hx hb dL_goes_311 (lv_at hl 7 rfl) ?_
      refine lv_if_ne (tgt := 321) hx hb dL_goes_313 (by decide) (fun c_175 => ?_) (fun c_175 => absurd c_175 ((by decide : ¬ (3 : Int32) = 0)))
      refine lv_iload hx hb dL_goes_321 (lv_at hl 7 rfl) ?_
      refine lv_iconst (v := 4) hx hb dL_goes_323 (by decide) ?_
      refine lv_icmp_eq (tgt := 334) hx hb dL_goes_324 (by decide) (fun c_176 => absurd c_176 ((by decide : ¬ (3 : Int32) = 4))) (fun c_176 => ?_)
      refine lv_iload hx hb dL_goes_327 (lv_at hl 7 rfl) ?_
      refine lv_bipush (v := 7) hx hb dL_goes_329 (by decide) ?_
      refine lv_icmp_ne (tgt := 339) hx hb dL_goes_331 (by decide) (fun c_177 => ?_) (fun c_177 => absurd c_177 ((by decide : ¬ (3 : Int32) = 7)))
      refine lv_iconst (v := 1) hx hb dL_goes_339 (by decide) ?_
      refine lv_goto (tgt := 344) hx hb dL_goes_340 (by decide) ?_
      refine W.widen (k := 20) (n := 120) (by omega) (by omega) ?_
      exact W.zret (v := 1) hx hb hr rfl (fun t ht hW => ⟨⟨_, (), rfl, rfl, trivial⟩, hS.F ht⟩) hS.2.2 dL_goes_344
    · have hb8 : b < 8 := bst_lt (n := 8) hbs
      refine lv_aload_n hx hb dL_goes_0 rfl (lv_at hl 0 rfl) ?_
      refine lv_iload hx hb dL_goes_1 (lv_at hl 4 rfl) ?_
      refine rMi (vx_runSW (As := [.ref (ad 0), .int (nI i)]) (rest := []) ⟨hx, hb, hml, hown, hts⟩ (c_L_stateOf l hst D cy ad σ sz (nI i) (3) ((wS hi).trans xs)) (vx_cwSW 2 hts gL_goes_L_stateOf rfl rfl rfl (by decide +kernel) ⟨Nat.le_of_ble_eq_true rfl, Nat.le_of_ble_eq_true rfl⟩) ⟨cx_bl, cx_S hP hK NoA_z hxk hS⟩ rfl rfl hl.1 rfl (lv_room (Nat.le_of_ble_eq_true rfl)) dL_goes_3 ⟨by show _ ≤ 20; omega, by show _ ≤ 120; omega⟩) hS (fun H locs hS hg => ?_)
      have hP := hP.grown hg
      have hPa := hPa.grown hg
      have hPm := hPm.grown hg
      refine W.eq (g2 := F0 m 6 ls [.int 3]) rfl ?_
      refine lv_istore (lv' := [(5, .int 3), (0, .ref (ad 0)), (1, .ref qa), (2, .ref qm), (3, .ref qb), (4, .int (nI i))]) hx hb dL_goes_6 hl (by decide) rfl (fun ls hl => ?_)
      refine lv_aload_n hx hb dL_goes_8 rfl (lv_at hl 1 rfl) ?_
      refine lv_aload_n hx hb dL_goes_9 rfl (lv_at hl 2 rfl) ?_
      refine lv_aload_n hx hb dL_goes_10 rfl (lv_at hl 3 rfl) ?_
      refine lv_iload hx hb dL_goes_11 (lv_at hl 5 rfl) ?_
      refine rMi (va_runS (As := [.ref (ad 0), .ref qa, .ref qm, .int (nI i)]) (rest := []) ⟨hx, hb, hml, hown, hts⟩ (c_L_match l hst D cy ad σ sz qa qm fa fm fb i hi ⟨_, x1, x2⟩ hT) (va_cwS 4 hts gL_goes_L_match rfl rfl rfl (by decide +kernel) ⟨Nat.le_of_ble_eq_true rfl, Nat.le_of_ble_eq_true rfl⟩) ⟨aX_bl, aX_S hP hK NoA_z hxk hS hPa hPm⟩ rfl rfl hl.1 rfl (lv_room (Nat.le_of_ble_eq_true rfl)) dL_goes_13 ⟨by show _ ≤ 20; omega, by show _ ≤ 120; omega⟩) hS (fun H locs hS hg => ?_)
      have hP := hP.grown hg
      have hPa := hPa.grown hg
      have hPm := hPm.grown hg
      refine W.eq (g2 := F0 m 16 ls [.int (nI b)]) (by rw [hbs]; rfl) ?_
      refine lv_istore (lv' := [(6, .int (nI b)), (5, .int 3), (0, .ref (ad 0)), (1, .ref qa), (2, .ref qm), (3, .ref qb), (4, .int (nI i))]) hx hb dL_goes_16 hl (by decide) rfl (fun ls hl => ?_)
      refine lv_aload_n hx hb dL_goes_18 rfl (lv_at hl 2 rfl) ?_
      refine lv_iload hx hb dL_goes_19 (lv_at hl 6 rfl) ?_
      refine rMi (vx_runSW (As := [.ref (ad 0), .int (nI i)]) (rest := []) ⟨hx, hb, hml, hown, hts⟩ (c_L_endOf l hst D cy ad σ sz (nI i) (nI e8) ((wE hi).trans hend)) (vx_cwSW 2 hts gL_goes_L_endOf rfl rfl rfl (by decide +kernel) ⟨Nat.le_of_ble_eq_true rfl, Nat.le_of_ble_eq_true rfl⟩) ⟨cx_bl, cx_S hP hK NoA_z hxk hS⟩ rfl rfl hl.1 rfl (lv_room (Nat.le_of_ble_eq_true rfl)) dL_goes_21 ⟨by show _ ≤ 20; omega, by show _ ≤ 120; omega⟩) hS (fun H locs hS hg => ?_)
      have hP := hP.grown hg
      have hPa := hPa.grown hg
      have hPm := hPm.grown hg
      refine W.eq (g2 := F0 m 24 ls [.int (nI e8)]) rfl ?_
      refine lv_istore (lv' := [(7, .int (nI e8)), (6, .int (nI b)), (5, .int 3), (0, .ref (ad 0)), (1, .ref qa), (2, .ref qm), (3, .ref qb), (4, .int (nI i))]) hx hb dL_goes_24 hl (by decide) rfl (fun ls hl => ?_)
      refine lv_aload_n hx hb dL_goes_26 rfl (lv_at hl 3 rfl) ?_
      refine lv_iload hx hb dL_goes_27 (lv_at hl 7 rfl) ?_
      refine rMi (vx_runSW (As := [.ref (ad 0), .int (nI i)]) (rest := []) ⟨hx, hb, hml, hown, hts⟩ (c_L_failuresOf l hst D cy ad σ sz (nI i) (nI n8) ((wF hi).trans x5)) (vx_cwSW 2 hts gL_goes_L_failuresOf rfl rfl rfl (by decide +kernel) ⟨Nat.le_of_ble_eq_true rfl, Nat.le_of_ble_eq_true rfl⟩) ⟨cx_bl, cx_S hP hK NoA_z hxk hS⟩ rfl rfl hl.1 rfl (lv_room (Nat.le_of_ble_eq_true rfl)) dL_goes_29 ⟨by show _ ≤ 20; omega, by show _ ≤ 120; omega⟩) hS (fun H locs hS hg => ?_)
      have hP := hP.grown hg
      have hPa := hPa.grown hg
      have hPm := hPm.grown hg
      refine W.eq (g2 := F0 m 32 ls [.int (nI n8)]) rfl ?_
      refine lv_istore (lv' := [(8, .int (nI n8)), (7, .int (nI e8)), (6, .int (nI b)), (5, .int 3), (0, .ref (ad 0)), (1, .ref qa), (2, .ref qm), (3, .ref qb), (4, .int (nI i))]) hx hb dL_goes_32 hl (by decide) rfl (fun ls hl => ?_)
      refine lv_iload hx hb dL_goes_34 (lv_at hl 3 rfl) ?_
      refine lv_iconst (v := 3) hx hb dL_goes_36 (by decide) ?_
      refine lv_icmp_eq (tgt := 53) hx hb dL_goes_37 (by decide) (fun c_178 => ?_) (fun c_178 => absurd ((by decide : (3 : Int32) = 3)) c_178)
      refine lv_iconst (v := 1) hx hb dL_goes_53 (by decide) ?_
      refine lv_goto (tgt := 58) hx hb dL_goes_54 (by decide) ?_
      refine lv_istore (lv' := [(9, .int 1), (8, .int (nI n8)), (7, .int (nI e8)), (6, .int (nI b)), (5, .int 3), (0, .ref (ad 0)), (1, .ref qa), (2, .ref qm), (3, .ref qb), (4, .int (nI i))]) hx hb dL_goes_58 hl (by decide) rfl (fun ls hl => ?_)
      refine lv_iload hx hb dL_goes_60 (lv_at hl 4 rfl) ?_
      refine lv_iconst (v := 3) hx hb dL_goes_62 (by decide) ?_
      refine lv_icmp_eq (tgt := 79) hx hb dL_goes_63 (by decide) (fun c_179 => ?_) (fun c_179 => absurd ((by decide : (3 : Int32) = 3)) c_179)
      refine lv_iconst (v := 1) hx hb dL_goes_79 (by decide) ?_
      refine lv_goto (tgt := 84) hx hb dL_goes_80 (by decide) ?_
      refine lv_istore (lv' := [(10, .int 1), (9, .int 1), (8, .int (nI n8)), (7, .int (nI e8)), (6, .int (nI b)), (5, .int 3), (0, .ref (ad 0)), (1, .ref qa), (2, .ref qm), (3, .ref qb), (4, .int (nI i))]) hx hb dL_goes_84 hl (by decide) rfl (fun ls hl => ?_)
      refine lv_aload_n hx hb dL_goes_86 rfl (lv_at hl 6 rfl) ?_
      refine lv_iload hx hb dL_goes_87 (lv_at hl 10 rfl) ?_
      refine rMi (vx_runSW (As := [.ref (ad 0), .int (nI i)]) (rest := []) ⟨hx, hb, hml, hown, hts⟩ (c_L_imageOf l hst D cy ad σ sz (nI i) (nI k8) ((wI hi).trans himg)) (vx_cwSW 2 hts gL_goes_L_imageOf rfl rfl rfl (by decide +kernel) ⟨Nat.le_of_ble_eq_true rfl, Nat.le_of_ble_eq_true rfl⟩) ⟨cx_bl, cx_S hP hK NoA_z hxk hS⟩ rfl rfl hl.1 rfl (lv_room (Nat.le_of_ble_eq_true rfl)) dL_goes_89 ⟨by show _ ≤ 20; omega, by show _ ≤ 120; omega⟩) hS (fun H locs hS hg => ?_)
      have hP := hP.grown hg
      have hPa := hPa.grown hg
      have hPm := hPm.grown hg
      refine W.eq (g2 := F0 m 92 ls [.int (nI k8)]) rfl ?_
      refine lv_istore (lv' := [(11, .int (nI k8)), (10, .int 1), (9, .int 1), (8, .int (nI n8)), (7, .int (nI e8)), (6, .int (nI b)), (5, .int 3), (0, .ref (ad 0)), (1, .ref qa), (2, .ref qm), (3, .ref qb), (4, .int (nI i))]) hx hb dL_goes_92 hl (by decide) rfl (fun ls hl => ?_)
      refine lv_iload hx hb dL_goes_94 (lv_at hl 6 rfl) ?_
      refine lv_iconst (v := 5) hx hb dL_goes_96 (by decide) ?_
      refine lv_icmp_ne (tgt := 104) hx hb dL_goes_97 (by decide) (fun c_180 => ?_) (fun c_180 => absurd c_180 ((by decide : ¬ (3 : Int32) = 5)))
      refine lv_iload hx hb dL_goes_104 (lv_at hl 6 rfl) ?_
      refine lv_if_ne (tgt := 113) hx hb dL_goes_106 (by decide) (fun c_181 => ?_) (fun c_181 => absurd c_181 ((by decide : ¬ (3 : Int32) = 0)))
      refine lv_iload hx hb dL_goes_113 (lv_at hl 6 rfl) ?_
      refine lv_iconst (v := 3) hx hb dL_goes_115 (by decide) ?_
      refine lv_icmp_ge (tgt := 128) hx hb dL_goes_116 (by decide) (fun c_182 => ?_) (fun c_182 => absurd ((by decide : (3 : Int32) ≤ 3)) c_182)
      refine lv_iload hx hb dL_goes_128 (lv_at hl 6 rfl) ?_
      refine lv_iconst (v := 1) hx hb dL_goes_130 (by decide) ?_
      refine lv_icmp_ne (tgt := 138) hx hb dL_goes_131 (by decide) (fun c_183 => ?_) (fun c_183 => absurd c_183 ((by decide : ¬ (3 : Int32) = 1)))
      refine lv_iload hx hb dL_goes_138 (lv_at hl 6 rfl) ?_
      refine lv_iconst (v := 2) hx hb dL_goes_140 (by decide) ?_
      refine lv_icmp_ne (tgt := 148) hx hb dL_goes_141 (by decide) (fun c_184 => ?_) (fun c_184 => absurd c_184 ((by decide : ¬ (3 : Int32) = 2)))
      refine lv_iload hx hb dL_goes_148 (lv_at hl 6 rfl) ?_
      refine lv_iconst (v := 3) hx hb dL_goes_150 (by decide) ?_
      refine lv_icmp_ne (tgt := 158) hx hb dL_goes_151 (by decide) (fun c_185 => absurd ((by decide : (3 : Int32) = 3)) c_185) (fun c_185 => ?_)
      refine lv_iconst (v := 5) hx hb dL_goes_154 (by decide) ?_
      refine lv_goto (tgt := 183) hx hb dL_goes_155 (by decide) ?_
      refine lv_istore (lv' := [(12, .int 5), (11, .int (nI k8)), (10, .int 1), (9, .int 1), (8, .int (nI n8)), (7, .int (nI e8)), (6, .int (nI b)), (5, .int 3), (0, .ref (ad 0)), (1, .ref qa), (2, .ref qm), (3, .ref qb), (4, .int (nI i))]) hx hb dL_goes_183 hl (by decide) rfl (fun ls hl => ?_)
      refine lv_iload hx hb dL_goes_185 (lv_at hl 7 rfl) ?_
      refine lv_if_lt (tgt := 343) hx hb dL_goes_187 (by decide) (fun c_186 => absurd c_186 ((by decide : ¬ (3 : Int32) < 0))) (fun c_186 => ?_)
      refine lv_iload hx hb dL_goes_190 (lv_at hl 7 rfl) ?_
      refine lv_bipush (v := 8) hx hb dL_goes_192 (by decide) ?_
      refine lv_icmp_ge (tgt := 343) hx hb dL_goes_194 (by decide) (fun c_187 => absurd c_187 ((by decide : ¬ (8 : Int32) ≤ 3))) (fun c_187 => ?_)
      refine lv_aload_n hx hb dL_goes_197 rfl (lv_at hl 8 rfl) ?_
      refine lv_iload hx hb dL_goes_198 (lv_at hl 12 rfl) ?_
      refine rMi (vx_runSW (As := [.ref (ad 0), .int (nI i)]) (rest := []) ⟨hx, hb, hml, hown, hts⟩ (c_L_matchOf l hst D cy ad σ sz (nI i) (nI b) ((wM hi).trans (by rw [hbs]; rfl))) (vx_cwSW 2 hts gL_goes_L_matchOf rfl rfl rfl (by decide +kernel) ⟨Nat.le_of_ble_eq_true rfl, Nat.le_of_ble_eq_true rfl⟩) ⟨cx_bl, cx_S hP hK NoA_z hxk hS⟩ rfl rfl hl.1 rfl (lv_room (Nat.le_of_ble_eq_true rfl)) dL_goes_200 ⟨by show _ ≤ 20; omega, by show _ ≤ 120; omega⟩) hS (fun H locs hS hg => ?_)
      have hP := hP.grown hg
      have hPa := hPa.grown hg
      have hPm := hPm.grown hg
      refine W.eq (g2 := F0 m 203 ls [.int (nI b)]) rfl ?_
      refine lv_iload hx hb dL_goes_203 (lv_at hl 6 rfl) ?_
      refine lv_icmp_ne (tgt := 343) hx hb dL_goes_205 (by decide) (fun c_188 => absurd (rfl) c_188) (fun c_188 => ?_)
      refine lv_aload_n hx hb dL_goes_208 rfl (lv_at hl 8 rfl) ?_
      refine lv_iload hx hb dL_goes_209 (lv_at hl 12 rfl) ?_
      refine rMi (vx_runSW (As := [.ref (ad 0), .int (nI i)]) (rest := []) ⟨hx, hb, hml, hown, hts⟩ (c_L_reason l hst D cy ad σ sz (nI i) (5) ((wR hi).trans (by rw [hbs, xs]; rfl))) (vx_cwSW 2 hts gL_goes_L_reason rfl rfl rfl (by decide +kernel) ⟨Nat.le_of_ble_eq_true rfl, Nat.le_of_ble_eq_true rfl⟩) ⟨cx_bl, cx_S hP hK NoA_z hxk hS⟩ rfl rfl hl.1 rfl (lv_room (Nat.le_of_ble_eq_true rfl)) dL_goes_211 ⟨by show _ ≤ 20; omega, by show _ ≤ 120; omega⟩) hS (fun H locs hS hg => ?_)
      have hP := hP.grown hg
      have hPa := hPa.grown hg
      have hPm := hPm.grown hg
      refine W.eq (g2 := F0 m 214 ls [.int 5]) rfl ?_
      refine lv_iload hx hb dL_goes_214 (lv_at hl 0 rfl) ?_
      refine lv_icmp_ne (tgt := 343) hx hb dL_goes_216 (by decide) (fun c_189 => absurd ((by decide : (5 : Int32) = 5)) c_189) (fun c_189 => ?_)
      refine lv_iload hx hb dL_goes_219 (lv_at hl 3 rfl) ?_
      refine lv_if_eq (tgt := 254) hx hb dL_goes_221 (by decide) (fun c_190 => absurd c_190 ((by decide : ¬ (1 : Int32) = 0))) (fun c_190 => ?_)
      refine lv_iload hx hb dL_goes_224 (lv_at hl 5 rfl) ?_
      refine lv_aload_n hx hb dL_goes_226 rfl (lv_at hl 8 rfl) ?_
      refine cS (W.runV (As := []) (rest := [.int (nI e8)]) ⟨hx, hb, hml, hown, hts⟩ (c_X3_now l D cy ad σ) (cwV 0 hts gL_goes_X3_now rfl rfl rfl (by decide +kernel) ⟨Nat.le_of_ble_eq_true rfl, Nat.le_of_ble_eq_true rfl⟩) ⟨cw_bl, cw_F hP hK, cw_at hP hK⟩ rfl rfl hl.1 rfl (lv_room (Nat.le_of_ble_eq_true rfl)) dL_goes_227 ⟨by show _ ≤ 20; omega, by show _ ≤ 120; omega⟩) (fun _ _ => ?_)
      refine W.eq (g2 := F0 m 230 ls [.int (σ 20 6), .int (nI e8)]) rfl ?_
      refine W.eq (g2 := F0 m 230 ls [.int (nI h), .int (nI e8)]) (by rw [hh]) ?_
      refine lv_icmp_le (tgt := 343) hx hb dL_goes_230 (by decide) (fun c_191 => absurd c_191 ((fun z9 => absurd ((nI_leI (a := e8) (b := h) (by omega) (by omega)).mp z9) (by omega)))) (fun c_191 => ?_)
      refine lv_iload hx hb dL_goes_233 (lv_at hl 7 rfl) ?_
      refine lv_iconst (v := 4) hx hb dL_goes_235 (by decide) ?_
      refine lv_icmp_eq (tgt := 260) hx hb dL_goes_236 (by decide) (fun c_192 => absurd c_192 ((by decide : ¬ (3 : Int32) = 4))) (fun c_192 => ?_)
      refine lv_iload hx hb dL_goes_239 (lv_at hl 5 rfl) ?_
      refine lv_aload_n hx hb dL_goes_241 rfl (lv_at hl 8 rfl) ?_
      refine cS (W.runV (As := []) (rest := [.int (nI e8)]) ⟨hx, hb, hml, hown, hts⟩ (c_X3_now l D cy ad σ) (cwV 0 hts gL_goes_X3_now rfl rfl rfl (by decide +kernel) ⟨Nat.le_of_ble_eq_true rfl, Nat.le_of_ble_eq_true rfl⟩) ⟨cw_bl, cw_F hP hK, cw_at hP hK⟩ rfl rfl hl.1 rfl (lv_room (Nat.le_of_ble_eq_true rfl)) dL_goes_242 ⟨by show _ ≤ 20; omega, by show _ ≤ 120; omega⟩) (fun _ _ => ?_)
      refine W.eq (g2 := F0 m 245 ls [.int (σ 20 6), .int (nI e8)]) rfl ?_
      refine W.eq (g2 := F0 m 245 ls [.int (nI h), .int (nI e8)]) (by rw [hh]) ?_
      refine lv_bipush (v := 48) hx hb dL_goes_245 (by decide) ?_
      refine lv_iadd hx hb dL_goes_247 ?_
      refine W.eq (congrArg (fun z9 => F0 m 248 ls [.int z9, .int (nI e8)]) (nI_add h 48)) ?_
      refine lv_icmp_gt (tgt := 343) hx hb dL_goes_248 (by decide) (fun c_193 => absurd c_193 ((fun z9 => absurd ((nI_ltI (a := h + 48) (b := e8) (by omega) (by omega)).mp z9) (by omega)))) (fun c_193 => ?_)
      refine lv_goto (tgt := 260) hx hb dL_goes_251 (by decide) ?_
      refine lv_iload hx hb dL_goes_260 (lv_at hl 2 rfl) ?_
      refine lv_if_eq (tgt := 280) hx hb dL_goes_262 (by decide) (fun c_194 => absurd c_194 ((by decide : ¬ (1 : Int32) = 0))) (fun c_194 => ?_)
      refine lv_iload hx hb dL_goes_265 (lv_at hl 1 rfl) ?_
      refine lv_if_lt (tgt := 343) hx hb dL_goes_267 (by decide) (fun c_195 => absurd c_195 ((fun z9 => absurd ((nI_ltI (a := k8) (b := 0) (by omega) (by omega)).mp z9) (by omega)))) (fun c_195 => ?_)
      refine lv_iload hx hb dL_goes_270 (lv_at hl 1 rfl) ?_
      refine lv_bipush (v := 8) hx hb dL_goes_272 (by decide) ?_
      refine lv_icmp_ge (tgt := 343) hx hb dL_goes_274 (by decide) (fun c_196 => absurd c_196 ((fun z9 => absurd ((nI_leI (a := 8) (b := k8) (by omega) (by omega)).mp z9) (by omega)))) (fun c_196 => ?_)
      refine lv_goto (tgt := 286) hx hb dL_goes_277 (by decide) ?_
      refine lv_iload hx hb dL_goes_286 (lv_at hl 4 rfl) ?_
      refine lv_if_lt (tgt := 343) hx hb dL_goes_288 (by decide) (fun c_197 => absurd c_197 ((fun z9 => absurd ((nI_ltI (a := n8) (b := 0) (by omega) (by omega)).mp z9) (by omega)))) (fun c_197 => ?_)
      refine lv_iload hx hb dL_goes_291 (lv_at hl 4 rfl) ?_
      refine lv_bipush (v := 10) hx hb dL_goes_293 (by decide) ?_
      refine lv_icmp_ge (tgt := 343) hx hb dL_goes_295 (by decide) (fun c_198 => absurd c_198 ((fun z9 => absurd ((nI_leI (a := 10) (b := n8) (by omega) (by omega)).mp z9) (by omega)))) (fun c_198 => ?_)
      refine lv_iload hx hb dL_goes_298 (lv_at hl 7 rfl) ?_
      refine lv_iconst (v := 5) hx hb dL_goes_300 (by decide) ?_
      refine lv_icmp_eq (tgt := 316) hx hb dL_goes_301 (by decide) (fun c_199 => absurd c_199 ((by decide : ¬ (3 : Int32) = 5))) (fun c_199 => ?_)
      refine lv_iload hx hb dL_goes_304 (lv_at hl 7 rfl) ?_
      refine lv_bipush (v := 6) hx hb dL_goes_306 (by decide) ?_
      refine lv_icmp_eq (tgt := 316) hx hb dL_goes_308 (by decide) (fun c_200 => absurd c_200 ((by decide : ¬ (3 : Int32) = 6))) (fun c_200 => ?_)
      refine lv_iload hx hb dL_goes_311 (lv_at hl 7 rfl) ?_
      refine lv_if_ne (tgt := 321) hx hb dL_goes_313 (by decide) (fun c_201 => ?_) (fun c_201 => absurd c_201 ((by decide : ¬ (3 : Int32) = 0)))
      refine lv_iload hx hb dL_goes_321 (lv_at hl 7 rfl) ?_
      refine lv_iconst (v := 4) hx hb dL_goes_323 (by decide) ?_
      refine lv_icmp_eq (tgt := 334) hx hb dL_goes_324 (by decide) (fun c_202 => absurd c_202 ((by decide : ¬ (3 : Int32) = 4))) (fun c_202 => ?_)
      refine lv_iload hx hb dL_goes_327 (lv_at hl 7 rfl) ?_
      refine lv_bipush (v := 7) hx hb dL_goes_329 (by decide) ?_
      refine lv_icmp_ne (tgt := 339) hx hb dL_goes_331 (by decide) (fun c_203 => ?_) (fun c_203 => absurd c_203 ((by decide : ¬ (3 : Int32) = 7)))
      refine lv_iconst (v := 1) hx hb dL_goes_339 (by decide) ?_
      refine lv_goto (tgt := 344) hx hb dL_goes_340 (by decide) ?_
      refine W.widen (k := 20) (n := 120) (by omega) (by omega) ?_
      exact W.zret (v := 1) hx hb hr rfl (fun t ht hW => ⟨⟨_, (), rfl, rfl, trivial⟩, hS.F ht⟩) hS.2.2 dL_goes_344
  · have xs : σ 1 i = 4 := x2
    obtain ⟨e8, y1, y2, y3, y4, y5⟩ := x11 (by omega)
    have y6 : ¬ e8 = h := y5
    have hend : (if sEnds σ i = true then σ 8 i else -1) = nI e8 := by rw [if_pos (hE.1 (by omega))]; exact y1
    have himg : (if sBears σ i = true then σ 7 i else -1) = -1 := by rw [hB.2 (by omega)]; rfl
    have n0 := x9 (by omega)
    rcases hbs : sBst σ i with _ | b
    · refine lv_aload_n hx hb dL_goes_0 rfl (lv_at hl 0 rfl) ?_
      refine lv_iload hx hb dL_goes_1 (lv_at hl 4 rfl) ?_
      refine rMi (vx_runSW (As := [.ref (ad 0), .int (nI i)]) (rest := []) ⟨hx, hb, hml, hown, hts⟩ (c_L_stateOf l hst D cy ad σ sz (nI i) (4) ((wS hi).trans xs)) (vx_cwSW 2 hts gL_goes_L_stateOf rfl rfl rfl (by decide +kernel) ⟨Nat.le_of_ble_eq_true rfl, Nat.le_of_ble_eq_true rfl⟩) ⟨cx_bl, cx_S hP hK NoA_z hxk hS⟩ rfl rfl hl.1 rfl (lv_room (Nat.le_of_ble_eq_true rfl)) dL_goes_3 ⟨by show _ ≤ 20; omega, by show _ ≤ 120; omega⟩) hS (fun H locs hS hg => ?_)
      have hP := hP.grown hg
      have hPa := hPa.grown hg
      have hPm := hPm.grown hg
      refine W.eq (g2 := F0 m 6 ls [.int 4]) rfl ?_
      refine lv_istore (lv' := [(5, .int 4), (0, .ref (ad 0)), (1, .ref qa), (2, .ref qm), (3, .ref qb), (4, .int (nI i))]) hx hb dL_goes_6 hl (by decide) rfl (fun ls hl => ?_)
      refine lv_aload_n hx hb dL_goes_8 rfl (lv_at hl 1 rfl) ?_
      refine lv_aload_n hx hb dL_goes_9 rfl (lv_at hl 2 rfl) ?_
      refine lv_aload_n hx hb dL_goes_10 rfl (lv_at hl 3 rfl) ?_
      refine lv_iload hx hb dL_goes_11 (lv_at hl 5 rfl) ?_
      refine rMi (va_runS (As := [.ref (ad 0), .ref qa, .ref qm, .int (nI i)]) (rest := []) ⟨hx, hb, hml, hown, hts⟩ (c_L_match l hst D cy ad σ sz qa qm fa fm fb i hi ⟨_, x1, x2⟩ hT) (va_cwS 4 hts gL_goes_L_match rfl rfl rfl (by decide +kernel) ⟨Nat.le_of_ble_eq_true rfl, Nat.le_of_ble_eq_true rfl⟩) ⟨aX_bl, aX_S hP hK NoA_z hxk hS hPa hPm⟩ rfl rfl hl.1 rfl (lv_room (Nat.le_of_ble_eq_true rfl)) dL_goes_13 ⟨by show _ ≤ 20; omega, by show _ ≤ 120; omega⟩) hS (fun H locs hS hg => ?_)
      have hP := hP.grown hg
      have hPa := hPa.grown hg
      have hPm := hPm.grown hg
      refine W.eq (g2 := F0 m 16 ls [.int (-1)]) (by rw [hbs]; rfl) ?_
      refine lv_istore (lv' := [(6, .int (-1)), (5, .int 4), (0, .ref (ad 0)), (1, .ref qa), (2, .ref qm), (3, .ref qb), (4, .int (nI i))]) hx hb dL_goes_16 hl (by decide) rfl (fun ls hl => ?_)
      refine lv_aload_n hx hb dL_goes_18 rfl (lv_at hl 2 rfl) ?_
      refine lv_iload hx hb dL_goes_19 (lv_at hl 6 rfl) ?_
      refine rMi (vx_runSW (As := [.ref (ad 0), .int (nI i)]) (rest := []) ⟨hx, hb, hml, hown, hts⟩ (c_L_endOf l hst D cy ad σ sz (nI i) (nI e8) ((wE hi).trans hend)) (vx_cwSW 2 hts gL_goes_L_endOf rfl rfl rfl (by decide +kernel) ⟨Nat.le_of_ble_eq_true rfl, Nat.le_of_ble_eq_true rfl⟩) ⟨cx_bl, cx_S hP hK NoA_z hxk hS⟩ rfl rfl hl.1 rfl (lv_room (Nat.le_of_ble_eq_true rfl)) dL_goes_21 ⟨by show _ ≤ 20; omega, by show _ ≤ 120; omega⟩) hS (fun H locs hS hg => ?_)
      have hP := hP.grown hg
      have hPa := hPa.grown hg
      have hPm := hPm.grown hg
      refine W.eq (g2 := F0 m 24 ls [.int (nI e8)]) rfl ?_
      refine lv_istore (lv' := [(7, .int (nI e8)), (6, .int (-1)), (5, .int 4), (0, .ref (ad 0)), (1, .ref qa), (2, .ref qm), (3, .ref qb), (4, .int (nI i))]) hx hb dL_goes_24 hl (by decide) rfl (fun ls hl => ?_)
      refine lv_aload_n hx hb dL_goes_26 rfl (lv_at hl 3 rfl) ?_
      refine lv_iload hx hb dL_goes_27 (lv_at hl 7 rfl) ?_
      refine rMi (vx_runSW (As := [.ref (ad 0), .int (nI i)]) (rest := []) ⟨hx, hb, hml, hown, hts⟩ (c_L_failuresOf l hst D cy ad σ sz (nI i) (nI n8) ((wF hi).trans x5)) (vx_cwSW 2 hts gL_goes_L_failuresOf rfl rfl rfl (by decide +kernel) ⟨Nat.le_of_ble_eq_true rfl, Nat.le_of_ble_eq_true rfl⟩) ⟨cx_bl, cx_S hP hK NoA_z hxk hS⟩ rfl rfl hl.1 rfl (lv_room (Nat.le_of_ble_eq_true rfl)) dL_goes_29 ⟨by show _ ≤ 20; omega, by show _ ≤ 120; omega⟩) hS (fun H locs hS hg => ?_)
      have hP := hP.grown hg
      have hPa := hPa.grown hg
      have hPm := hPm.grown hg
      refine W.eq (g2 := F0 m 32 ls [.int (nI n8)]) rfl ?_
      refine lv_istore (lv' := [(8, .int (nI n8)), (7, .int (nI e8)), (6, .int (-1)), (5, .int 4), (0, .ref (ad 0)), (1, .ref qa), (2, .ref qm), (3, .ref qb), (4, .int (nI i))]) hx hb dL_goes_32 hl (by decide) rfl (fun ls hl => ?_)
      refine lv_iload hx hb dL_goes_34 (lv_at hl 3 rfl) ?_
      refine lv_iconst (v := 3) hx hb dL_goes_36 (by decide) ?_
      refine lv_icmp_eq (tgt := 53) hx hb dL_goes_37 (by decide) (fun c_204 => absurd c_204 ((by decide : ¬ (4 : Int32) = 3))) (fun c_204 => ?_)
      refine lv_iload hx hb dL_goes_40 (lv_at hl 3 rfl) ?_
      refine lv_iconst (v := 4) hx hb dL_goes_42 (by decide) ?_
      refine lv_icmp_eq (tgt := 53) hx hb dL_goes_43 (by decide) (fun c_205 => ?_) (fun c_205 => absurd ((by decide : (4 : Int32) = 4)) c_205)
      refine lv_iconst (v := 1) hx hb dL_goes_53 (by decide) ?_
      refine lv_goto (tgt := 58) hx hb dL_goes_54 (by decide) ?_
      refine lv_istore (lv' := [(9, .int 1), (8, .int (nI n8)), (7, .int (nI e8)), (6, .int (-1)), (5, .int 4), (0, .ref (ad 0)), (1, .ref qa), (2, .ref qm), (3, .ref qb), (4, .int (nI i))]) hx hb dL_goes_58 hl (by decide) rfl (fun ls hl => ?_)
      refine lv_iload hx hb dL_goes_60 (lv_at hl 4 rfl) ?_
      refine lv_iconst (v := 3) hx hb dL_goes_62 (by decide) ?_
      refine lv_icmp_eq (tgt := 79) hx hb dL_goes_63 (by decide) (fun c_206 => absurd c_206 ((by decide : ¬ (4 : Int32) = 3))) (fun c_206 => ?_)
      refine lv_iload hx hb dL_goes_66 (lv_at hl 4 rfl) ?_
      refine lv_iconst (v := 5) hx hb dL_goes_68 (by decide) ?_
      refine lv_icmp_eq (tgt := 79) hx hb dL_goes_69 (by decide) (fun c_207 => absurd c_207 ((by decide : ¬ (4 : Int32) = 5))) (fun c_207 => ?_)
      refine lv_iload hx hb dL_goes_72 (lv_at hl 4 rfl) ?_
      refine lv_bipush (v := 6) hx hb dL_goes_74 (by decide) ?_
      refine lv_icmp_ne (tgt := 83) hx hb dL_goes_76 (by decide) (fun c_208 => ?_) (fun c_208 => absurd c_208 ((by decide : ¬ (4 : Int32) = 6)))
      refine lv_iconst (v := 0) hx hb dL_goes_83 (by decide) ?_
      refine lv_istore (lv' := [(10, .int 0), (9, .int 1), (8, .int (nI n8)), (7, .int (nI e8)), (6, .int (-1)), (5, .int 4), (0, .ref (ad 0)), (1, .ref qa), (2, .ref qm), (3, .ref qb), (4, .int (nI i))]) hx hb dL_goes_84 hl (by decide) rfl (fun ls hl => ?_)
      refine lv_aload_n hx hb dL_goes_86 rfl (lv_at hl 6 rfl) ?_
      refine lv_iload hx hb dL_goes_87 (lv_at hl 10 rfl) ?_
      refine rMi (vx_runSW (As := [.ref (ad 0), .int (nI i)]) (rest := []) ⟨hx, hb, hml, hown, hts⟩ (c_L_imageOf l hst D cy ad σ sz (nI i) ((-1)) ((wI hi).trans himg)) (vx_cwSW 2 hts gL_goes_L_imageOf rfl rfl rfl (by decide +kernel) ⟨Nat.le_of_ble_eq_true rfl, Nat.le_of_ble_eq_true rfl⟩) ⟨cx_bl, cx_S hP hK NoA_z hxk hS⟩ rfl rfl hl.1 rfl (lv_room (Nat.le_of_ble_eq_true rfl)) dL_goes_89 ⟨by show _ ≤ 20; omega, by show _ ≤ 120; omega⟩) hS (fun H locs hS hg => ?_)
      have hP := hP.grown hg
      have hPa := hPa.grown hg
      have hPm := hPm.grown hg
      refine W.eq (g2 := F0 m 92 ls [.int (-1)]) rfl ?_
      refine lv_istore (lv' := [(11, .int (-1)), (10, .int 0), (9, .int 1), (8, .int (nI n8)), (7, .int (nI e8)), (6, .int (-1)), (5, .int 4), (0, .ref (ad 0)), (1, .ref qa), (2, .ref qm), (3, .ref qb), (4, .int (nI i))]) hx hb dL_goes_92 hl (by decide) rfl (fun ls hl => ?_)
      refine lv_iload hx hb dL_goes_94 (lv_at hl 6 rfl) ?_
      refine lv_iconst (v := 5) hx hb dL_goes_96 (by decide) ?_
      refine lv_icmp_ne (tgt := 104) hx hb dL_goes_97 (by decide) (fun c_209 => ?_) (fun c_209 => absurd c_209 ((by decide : ¬ (4 : Int32) = 5)))
      refine lv_iload hx hb dL_goes_104 (lv_at hl 6 rfl) ?_
      refine lv_if_ne (tgt := 113) hx hb dL_goes_106 (by decide) (fun c_210 => ?_) (fun c_210 => absurd c_210 ((by decide : ¬ (4 : Int32) = 0)))
      refine lv_iload hx hb dL_goes_113 (lv_at hl 6 rfl) ?_
      refine lv_iconst (v := 3) hx hb dL_goes_115 (by decide) ?_
      refine lv_icmp_ge (tgt := 128) hx hb dL_goes_116 (by decide) (fun c_211 => ?_) (fun c_211 => absurd ((by decide : (3 : Int32) ≤ 4)) c_211)
      refine lv_iload hx hb dL_goes_128 (lv_at hl 6 rfl) ?_
      refine lv_iconst (v := 1) hx hb dL_goes_130 (by decide) ?_
      refine lv_icmp_ne (tgt := 138) hx hb dL_goes_131 (by decide) (fun c_212 => ?_) (fun c_212 => absurd c_212 ((by decide : ¬ (4 : Int32) = 1)))
      refine lv_iload hx hb dL_goes_138 (lv_at hl 6 rfl) ?_
      refine lv_iconst (v := 2) hx hb dL_goes_140 (by decide) ?_
      refine lv_icmp_ne (tgt := 148) hx hb dL_goes_141 (by decide) (fun c_213 => ?_) (fun c_213 => absurd c_213 ((by decide : ¬ (4 : Int32) = 2)))
      refine lv_iload hx hb dL_goes_148 (lv_at hl 6 rfl) ?_
      refine lv_iconst (v := 3) hx hb dL_goes_150 (by decide) ?_
      refine lv_icmp_ne (tgt := 158) hx hb dL_goes_151 (by decide) (fun c_214 => ?_) (fun c_214 => absurd c_214 ((by decide : ¬ (4 : Int32) = 3)))
      refine lv_iload hx hb dL_goes_158 (lv_at hl 6 rfl) ?_
      refine lv_iconst (v := 4) hx hb dL_goes_160 (by decide) ?_
      refine lv_icmp_ne (tgt := 169) hx hb dL_goes_161 (by decide) (fun c_215 => absurd ((by decide : (4 : Int32) = 4)) c_215) (fun c_215 => ?_)
      refine lv_bipush (v := 6) hx hb dL_goes_164 (by decide) ?_
      refine lv_goto (tgt := 183) hx hb dL_goes_166 (by decide) ?_
      refine lv_istore (lv' := [(12, .int 6), (11, .int (-1)), (10, .int 0), (9, .int 1), (8, .int (nI n8)), (7, .int (nI e8)), (6, .int (-1)), (5, .int 4), (0, .ref (ad 0)), (1, .ref qa), (2, .ref qm), (3, .ref qb), (4, .int (nI i))]) hx hb dL_goes_183 hl (by decide) rfl (fun ls hl => ?_)
      refine lv_iload hx hb dL_goes_185 (lv_at hl 7 rfl) ?_
      refine lv_if_lt (tgt := 343) hx hb dL_goes_187 (by decide) (fun c_216 => absurd c_216 ((by decide : ¬ (4 : Int32) < 0))) (fun c_216 => ?_)
      refine lv_iload hx hb dL_goes_190 (lv_at hl 7 rfl) ?_
      refine lv_bipush (v := 8) hx hb dL_goes_192 (by decide) ?_
      refine lv_icmp_ge (tgt := 343) hx hb dL_goes_194 (by decide) (fun c_217 => absurd c_217 ((by decide : ¬ (8 : Int32) ≤ 4))) (fun c_217 => ?_)
      refine lv_aload_n hx hb dL_goes_197 rfl (lv_at hl 8 rfl) ?_
      refine lv_iload hx hb dL_goes_198 (lv_at hl 12 rfl) ?_
      refine rMi (vx_runSW (As := [.ref (ad 0), .int (nI i)]) (rest := []) ⟨hx, hb, hml, hown, hts⟩ (c_L_matchOf l hst D cy ad σ sz (nI i) ((-1)) ((wM hi).trans (by rw [hbs]; rfl))) (vx_cwSW 2 hts gL_goes_L_matchOf rfl rfl rfl (by decide +kernel) ⟨Nat.le_of_ble_eq_true rfl, Nat.le_of_ble_eq_true rfl⟩) ⟨cx_bl, cx_S hP hK NoA_z hxk hS⟩ rfl rfl hl.1 rfl (lv_room (Nat.le_of_ble_eq_true rfl)) dL_goes_200 ⟨by show _ ≤ 20; omega, by show _ ≤ 120; omega⟩) hS (fun H locs hS hg => ?_)
      have hP := hP.grown hg
      have hPa := hPa.grown hg
      have hPm := hPm.grown hg
      refine W.eq (g2 := F0 m 203 ls [.int (-1)]) rfl ?_
      refine lv_iload hx hb dL_goes_203 (lv_at hl 6 rfl) ?_
      refine lv_icmp_ne (tgt := 343) hx hb dL_goes_205 (by decide) (fun c_218 => absurd ((by decide : (-1 : Int32) = -1)) c_218) (fun c_218 => ?_)
      refine lv_aload_n hx hb dL_goes_208 rfl (lv_at hl 8 rfl) ?_
      refine lv_iload hx hb dL_goes_209 (lv_at hl 12 rfl) ?_
      refine rMi (vx_runSW (As := [.ref (ad 0), .int (nI i)]) (rest := []) ⟨hx, hb, hml, hown, hts⟩ (c_L_reason l hst D cy ad σ sz (nI i) (6) ((wR hi).trans (by rw [hbs, xs]; rfl))) (vx_cwSW 2 hts gL_goes_L_reason rfl rfl rfl (by decide +kernel) ⟨Nat.le_of_ble_eq_true rfl, Nat.le_of_ble_eq_true rfl⟩) ⟨cx_bl, cx_S hP hK NoA_z hxk hS⟩ rfl rfl hl.1 rfl (lv_room (Nat.le_of_ble_eq_true rfl)) dL_goes_211 ⟨by show _ ≤ 20; omega, by show _ ≤ 120; omega⟩) hS (fun H locs hS hg => ?_)
      have hP := hP.grown hg
      have hPa := hPa.grown hg
      have hPm := hPm.grown hg
      refine W.eq (g2 := F0 m 214 ls [.int 6]) rfl ?_
      refine lv_iload hx hb dL_goes_214 (lv_at hl 0 rfl) ?_
      refine lv_icmp_ne (tgt := 343) hx hb dL_goes_216 (by decide) (fun c_219 => absurd ((by decide : (6 : Int32) = 6)) c_219) (fun c_219 => ?_)
      refine lv_iload hx hb dL_goes_219 (lv_at hl 3 rfl) ?_
      refine lv_if_eq (tgt := 254) hx hb dL_goes_221 (by decide) (fun c_220 => absurd c_220 ((by decide : ¬ (1 : Int32) = 0))) (fun c_220 => ?_)
      refine lv_iload hx hb dL_goes_224 (lv_at hl 5 rfl) ?_
      refine lv_aload_n hx hb dL_goes_226 rfl (lv_at hl 8 rfl) ?_
      refine cS (W.runV (As := []) (rest := [.int (nI e8)]) ⟨hx, hb, hml, hown, hts⟩ (c_X3_now l D cy ad σ) (cwV 0 hts gL_goes_X3_now rfl rfl rfl (by decide +kernel) ⟨Nat.le_of_ble_eq_true rfl, Nat.le_of_ble_eq_true rfl⟩) ⟨cw_bl, cw_F hP hK, cw_at hP hK⟩ rfl rfl hl.1 rfl (lv_room (Nat.le_of_ble_eq_true rfl)) dL_goes_227 ⟨by show _ ≤ 20; omega, by show _ ≤ 120; omega⟩) (fun _ _ => ?_)
      refine W.eq (g2 := F0 m 230 ls [.int (σ 20 6), .int (nI e8)]) rfl ?_
      refine W.eq (g2 := F0 m 230 ls [.int (nI h), .int (nI e8)]) (by rw [hh]) ?_
      refine lv_icmp_le (tgt := 343) hx hb dL_goes_230 (by decide) (fun c_221 => absurd c_221 ((fun z9 => absurd ((nI_leI (a := e8) (b := h) (by omega) (by omega)).mp z9) (by omega)))) (fun c_221 => ?_)
      refine lv_iload hx hb dL_goes_233 (lv_at hl 7 rfl) ?_
      refine lv_iconst (v := 4) hx hb dL_goes_235 (by decide) ?_
      refine lv_icmp_eq (tgt := 260) hx hb dL_goes_236 (by decide) (fun c_222 => ?_) (fun c_222 => absurd ((by decide : (4 : Int32) = 4)) c_222)
      refine lv_iload hx hb dL_goes_260 (lv_at hl 2 rfl) ?_
      refine lv_if_eq (tgt := 280) hx hb dL_goes_262 (by decide) (fun c_223 => ?_) (fun c_223 => absurd ((by decide : (0 : Int32) = 0)) c_223)
      refine lv_iload hx hb dL_goes_280 (lv_at hl 1 rfl) ?_
      refine lv_iconst (v := (-1)) hx hb dL_goes_282 (by decide) ?_
      refine lv_icmp_ne (tgt := 343) hx hb dL_goes_283 (by decide) (fun c_224 => absurd ((by decide : (-1 : Int32) = -1)) c_224) (fun c_224 => ?_)
      refine lv_iload hx hb dL_goes_286 (lv_at hl 4 rfl) ?_
      refine lv_if_lt (tgt := 343) hx hb dL_goes_288 (by decide) (fun c_225 => absurd c_225 ((fun z9 => absurd ((nI_ltI (a := n8) (b := 0) (by omega) (by omega)).mp z9) (by omega)))) (fun c_225 => ?_)
      refine lv_iload hx hb dL_goes_291 (lv_at hl 4 rfl) ?_
      refine lv_bipush (v := 10) hx hb dL_goes_293 (by decide) ?_
      refine lv_icmp_ge (tgt := 343) hx hb dL_goes_295 (by decide) (fun c_226 => absurd c_226 ((fun z9 => absurd ((nI_leI (a := 10) (b := n8) (by omega) (by omega)).mp z9) (by omega)))) (fun c_226 => ?_)
      refine lv_iload hx hb dL_goes_298 (lv_at hl 7 rfl) ?_
      refine lv_iconst (v := 5) hx hb dL_goes_300 (by decide) ?_
      refine lv_icmp_eq (tgt := 316) hx hb dL_goes_301 (by decide) (fun c_227 => absurd c_227 ((by decide : ¬ (4 : Int32) = 5))) (fun c_227 => ?_)
      refine lv_iload hx hb dL_goes_304 (lv_at hl 7 rfl) ?_
      refine lv_bipush (v := 6) hx hb dL_goes_306 (by decide) ?_
      refine lv_icmp_eq (tgt := 316) hx hb dL_goes_308 (by decide) (fun c_228 => absurd c_228 ((by decide : ¬ (4 : Int32) = 6))) (fun c_228 => ?_)
      refine lv_iload hx hb dL_goes_311 (lv_at hl 7 rfl) ?_
      refine lv_if_ne (tgt := 321) hx hb dL_goes_313 (by decide) (fun c_229 => ?_) (fun c_229 => absurd c_229 ((by decide : ¬ (4 : Int32) = 0)))
      refine lv_iload hx hb dL_goes_321 (lv_at hl 7 rfl) ?_
      refine lv_iconst (v := 4) hx hb dL_goes_323 (by decide) ?_
      refine lv_icmp_eq (tgt := 334) hx hb dL_goes_324 (by decide) (fun c_230 => ?_) (fun c_230 => absurd ((by decide : (4 : Int32) = 4)) c_230)
      refine lv_iload hx hb dL_goes_334 (lv_at hl 4 rfl) ?_
      refine lv_if_le (tgt := 343) hx hb dL_goes_336 (by decide) (fun c_231 => absurd c_231 ((fun z9 => absurd ((nI_leI (a := n8) (b := 0) (by omega) (by omega)).mp z9) (by omega)))) (fun c_231 => ?_)
      refine lv_iconst (v := 1) hx hb dL_goes_339 (by decide) ?_
      refine lv_goto (tgt := 344) hx hb dL_goes_340 (by decide) ?_
      refine W.widen (k := 20) (n := 120) (by omega) (by omega) ?_
      exact W.zret (v := 1) hx hb hr rfl (fun t ht hW => ⟨⟨_, (), rfl, rfl, trivial⟩, hS.F ht⟩) hS.2.2 dL_goes_344
    · have hb8 : b < 8 := bst_lt (n := 8) hbs
      refine lv_aload_n hx hb dL_goes_0 rfl (lv_at hl 0 rfl) ?_
      refine lv_iload hx hb dL_goes_1 (lv_at hl 4 rfl) ?_
      refine rMi (vx_runSW (As := [.ref (ad 0), .int (nI i)]) (rest := []) ⟨hx, hb, hml, hown, hts⟩ (c_L_stateOf l hst D cy ad σ sz (nI i) (4) ((wS hi).trans xs)) (vx_cwSW 2 hts gL_goes_L_stateOf rfl rfl rfl (by decide +kernel) ⟨Nat.le_of_ble_eq_true rfl, Nat.le_of_ble_eq_true rfl⟩) ⟨cx_bl, cx_S hP hK NoA_z hxk hS⟩ rfl rfl hl.1 rfl (lv_room (Nat.le_of_ble_eq_true rfl)) dL_goes_3 ⟨by show _ ≤ 20; omega, by show _ ≤ 120; omega⟩) hS (fun H locs hS hg => ?_)
      have hP := hP.grown hg
      have hPa := hPa.grown hg
      have hPm := hPm.grown hg
      refine W.eq (g2 := F0 m 6 ls [.int 4]) rfl ?_
      refine lv_istore (lv' := [(5, .int 4), (0, .ref (ad 0)), (1, .ref qa), (2, .ref qm), (3, .ref qb), (4, .int (nI i))]) hx hb dL_goes_6 hl (by decide) rfl (fun ls hl => ?_)
      refine lv_aload_n hx hb dL_goes_8 rfl (lv_at hl 1 rfl) ?_
      refine lv_aload_n hx hb dL_goes_9 rfl (lv_at hl 2 rfl) ?_
      refine lv_aload_n hx hb dL_goes_10 rfl (lv_at hl 3 rfl) ?_
      refine lv_iload hx hb dL_goes_11 (lv_at hl 5 rfl) ?_
      refine rMi (va_runS (As := [.ref (ad 0), .ref qa, .ref qm, .int (nI i)]) (rest := []) ⟨hx, hb, hml, hown, hts⟩ (c_L_match l hst D cy ad σ sz qa qm fa fm fb i hi ⟨_, x1, x2⟩ hT) (va_cwS 4 hts gL_goes_L_match rfl rfl rfl (by decide +kernel) ⟨Nat.le_of_ble_eq_true rfl, Nat.le_of_ble_eq_true rfl⟩) ⟨aX_bl, aX_S hP hK NoA_z hxk hS hPa hPm⟩ rfl rfl hl.1 rfl (lv_room (Nat.le_of_ble_eq_true rfl)) dL_goes_13 ⟨by show _ ≤ 20; omega, by show _ ≤ 120; omega⟩) hS (fun H locs hS hg => ?_)
      have hP := hP.grown hg
      have hPa := hPa.grown hg
      have hPm := hPm.grown hg
      refine W.eq (g2 := F0 m 16 ls [.int (nI b)]) (by rw [hbs]; rfl) ?_
      refine lv_istore (lv' := [(6, .int (nI b)), (5, .int 4), (0, .ref (ad 0)), (1, .ref qa), (2, .ref qm), (3, .ref qb), (4, .int (nI i))]) hx hb dL_goes_16 hl (by decide) rfl (fun ls hl => ?_)
      refine lv_aload_n hx hb dL_goes_18 rfl (lv_at hl 2 rfl) ?_
      refine lv_iload hx hb dL_goes_19 (lv_at hl 6 rfl) ?_
      refine rMi (vx_runSW (As := [.ref (ad 0), .int (nI i)]) (rest := []) ⟨hx, hb, hml, hown, hts⟩ (c_L_endOf l hst D cy ad σ sz (nI i) (nI e8) ((wE hi).trans hend)) (vx_cwSW 2 hts gL_goes_L_endOf rfl rfl rfl (by decide +kernel) ⟨Nat.le_of_ble_eq_true rfl, Nat.le_of_ble_eq_true rfl⟩) ⟨cx_bl, cx_S hP hK NoA_z hxk hS⟩ rfl rfl hl.1 rfl (lv_room (Nat.le_of_ble_eq_true rfl)) dL_goes_21 ⟨by show _ ≤ 20; omega, by show _ ≤ 120; omega⟩) hS (fun H locs hS hg => ?_)
      have hP := hP.grown hg
      have hPa := hPa.grown hg
      have hPm := hPm.grown hg
      refine W.eq (g2 := F0 m 24 ls [.int (nI e8)]) rfl ?_
      refine lv_istore (lv' := [(7, .int (nI e8)), (6, .int (nI b)), (5, .int 4), (0, .ref (ad 0)), (1, .ref qa), (2, .ref qm), (3, .ref qb), (4, .int (nI i))]) hx hb dL_goes_24 hl (by decide) rfl (fun ls hl => ?_)
      refine lv_aload_n hx hb dL_goes_26 rfl (lv_at hl 3 rfl) ?_
      refine lv_iload hx hb dL_goes_27 (lv_at hl 7 rfl) ?_
      refine rMi (vx_runSW (As := [.ref (ad 0), .int (nI i)]) (rest := []) ⟨hx, hb, hml, hown, hts⟩ (c_L_failuresOf l hst D cy ad σ sz (nI i) (nI n8) ((wF hi).trans x5)) (vx_cwSW 2 hts gL_goes_L_failuresOf rfl rfl rfl (by decide +kernel) ⟨Nat.le_of_ble_eq_true rfl, Nat.le_of_ble_eq_true rfl⟩) ⟨cx_bl, cx_S hP hK NoA_z hxk hS⟩ rfl rfl hl.1 rfl (lv_room (Nat.le_of_ble_eq_true rfl)) dL_goes_29 ⟨by show _ ≤ 20; omega, by show _ ≤ 120; omega⟩) hS (fun H locs hS hg => ?_)
      have hP := hP.grown hg
      have hPa := hPa.grown hg
      have hPm := hPm.grown hg
      refine W.eq (g2 := F0 m 32 ls [.int (nI n8)]) rfl ?_
      refine lv_istore (lv' := [(8, .int (nI n8)), (7, .int (nI e8)), (6, .int (nI b)), (5, .int 4), (0, .ref (ad 0)), (1, .ref qa), (2, .ref qm), (3, .ref qb), (4, .int (nI i))]) hx hb dL_goes_32 hl (by decide) rfl (fun ls hl => ?_)
      refine lv_iload hx hb dL_goes_34 (lv_at hl 3 rfl) ?_
      refine lv_iconst (v := 3) hx hb dL_goes_36 (by decide) ?_
      refine lv_icmp_eq (tgt := 53) hx hb dL_goes_37 (by decide) (fun c_232 => absurd c_232 ((by decide : ¬ (4 : Int32) = 3))) (fun c_232 => ?_)
      refine lv_iload hx hb dL_goes_40 (lv_at hl 3 rfl) ?_
      refine lv_iconst (v := 4) hx hb dL_goes_42 (by decide) ?_
      refine lv_icmp_eq (tgt := 53) hx hb dL_goes_43 (by decide) (fun c_233 => ?_) (fun c_233 => absurd ((by decide : (4 : Int32) = 4)) c_233)
      refine lv_iconst (v := 1) hx hb dL_goes_53 (by decide) ?_
      refine lv_goto (tgt := 58) hx hb dL_goes_54 (by decide) ?_
      refine lv_istore (lv' := [(9, .int 1), (8, .int (nI n8)), (7, .int (nI e8)), (6, .int (nI b)), (5, .int 4), (0, .ref (ad 0)), (1, .ref qa), (2, .ref qm), (3, .ref qb), (4, .int (nI i))]) hx hb dL_goes_58 hl (by decide) rfl (fun ls hl => ?_)
      refine lv_iload hx hb dL_goes_60 (lv_at hl 4 rfl) ?_
      refine lv_iconst (v := 3) hx hb dL_goes_62 (by decide) ?_
      refine lv_icmp_eq (tgt := 79) hx hb dL_goes_63 (by decide) (fun c_234 => absurd c_234 ((by decide : ¬ (4 : Int32) = 3))) (fun c_234 => ?_)
      refine lv_iload hx hb dL_goes_66 (lv_at hl 4 rfl) ?_
      refine lv_iconst (v := 5) hx hb dL_goes_68 (by decide) ?_
      refine lv_icmp_eq (tgt := 79) hx hb dL_goes_69 (by decide) (fun c_235 => absurd c_235 ((by decide : ¬ (4 : Int32) = 5))) (fun c_235 => ?_)
      refine lv_iload hx hb dL_goes_72 (lv_at hl 4 rfl) ?_
      refine lv_bipush (v := 6) hx hb dL_goes_74 (by decide) ?_
      refine lv_icmp_ne (tgt := 83) hx hb dL_goes_76 (by decide) (fun c_236 => ?_) (fun c_236 => absurd c_236 ((by decide : ¬ (4 : Int32) = 6)))
      refine lv_iconst (v := 0) hx hb dL_goes_83 (by decide) ?_
      refine lv_istore (lv' := [(10, .int 0), (9, .int 1), (8, .int (nI n8)), (7, .int (nI e8)), (6, .int (nI b)), (5, .int 4), (0, .ref (ad 0)), (1, .ref qa), (2, .ref qm), (3, .ref qb), (4, .int (nI i))]) hx hb dL_goes_84 hl (by decide) rfl (fun ls hl => ?_)
      refine lv_aload_n hx hb dL_goes_86 rfl (lv_at hl 6 rfl) ?_
      refine lv_iload hx hb dL_goes_87 (lv_at hl 10 rfl) ?_
      refine rMi (vx_runSW (As := [.ref (ad 0), .int (nI i)]) (rest := []) ⟨hx, hb, hml, hown, hts⟩ (c_L_imageOf l hst D cy ad σ sz (nI i) ((-1)) ((wI hi).trans himg)) (vx_cwSW 2 hts gL_goes_L_imageOf rfl rfl rfl (by decide +kernel) ⟨Nat.le_of_ble_eq_true rfl, Nat.le_of_ble_eq_true rfl⟩) ⟨cx_bl, cx_S hP hK NoA_z hxk hS⟩ rfl rfl hl.1 rfl (lv_room (Nat.le_of_ble_eq_true rfl)) dL_goes_89 ⟨by show _ ≤ 20; omega, by show _ ≤ 120; omega⟩) hS (fun H locs hS hg => ?_)
      have hP := hP.grown hg
      have hPa := hPa.grown hg
      have hPm := hPm.grown hg
      refine W.eq (g2 := F0 m 92 ls [.int (-1)]) rfl ?_
      refine lv_istore (lv' := [(11, .int (-1)), (10, .int 0), (9, .int 1), (8, .int (nI n8)), (7, .int (nI e8)), (6, .int (nI b)), (5, .int 4), (0, .ref (ad 0)), (1, .ref qa), (2, .ref qm), (3, .ref qb), (4, .int (nI i))]) hx hb dL_goes_92 hl (by decide) rfl (fun ls hl => ?_)
      refine lv_iload hx hb dL_goes_94 (lv_at hl 6 rfl) ?_
      refine lv_iconst (v := 5) hx hb dL_goes_96 (by decide) ?_
      refine lv_icmp_ne (tgt := 104) hx hb dL_goes_97 (by decide) (fun c_237 => ?_) (fun c_237 => absurd c_237 ((by decide : ¬ (4 : Int32) = 5)))
      refine lv_iload hx hb dL_goes_104 (lv_at hl 6 rfl) ?_
      refine lv_if_ne (tgt := 113) hx hb dL_goes_106 (by decide) (fun c_238 => ?_) (fun c_238 => absurd c_238 ((by decide : ¬ (4 : Int32) = 0)))
      refine lv_iload hx hb dL_goes_113 (lv_at hl 6 rfl) ?_
      refine lv_iconst (v := 3) hx hb dL_goes_115 (by decide) ?_
      refine lv_icmp_ge (tgt := 128) hx hb dL_goes_116 (by decide) (fun c_239 => ?_) (fun c_239 => absurd ((by decide : (3 : Int32) ≤ 4)) c_239)
      refine lv_iload hx hb dL_goes_128 (lv_at hl 6 rfl) ?_
      refine lv_iconst (v := 1) hx hb dL_goes_130 (by decide) ?_
      refine lv_icmp_ne (tgt := 138) hx hb dL_goes_131 (by decide) (fun c_240 => ?_) (fun c_240 => absurd c_240 ((by decide : ¬ (4 : Int32) = 1)))
      refine lv_iload hx hb dL_goes_138 (lv_at hl 6 rfl) ?_
      refine lv_iconst (v := 2) hx hb dL_goes_140 (by decide) ?_
      refine lv_icmp_ne (tgt := 148) hx hb dL_goes_141 (by decide) (fun c_241 => ?_) (fun c_241 => absurd c_241 ((by decide : ¬ (4 : Int32) = 2)))
      refine lv_iload hx hb dL_goes_148 (lv_at hl 6 rfl) ?_
      refine lv_iconst (v := 3) hx hb dL_goes_150 (by decide) ?_
      refine lv_icmp_ne (tgt := 158) hx hb dL_goes_151 (by decide) (fun c_242 => ?_) (fun c_242 => absurd c_242 ((by decide : ¬ (4 : Int32) = 3)))
      refine lv_iload hx hb dL_goes_158 (lv_at hl 6 rfl) ?_
      refine lv_iconst (v := 4) hx hb dL_goes_160 (by decide) ?_
      refine lv_icmp_ne (tgt := 169) hx hb dL_goes_161 (by decide) (fun c_243 => absurd ((by decide : (4 : Int32) = 4)) c_243) (fun c_243 => ?_)
      refine lv_bipush (v := 6) hx hb dL_goes_164 (by decide) ?_
      refine lv_goto (tgt := 183) hx hb dL_goes_166 (by decide) ?_
      refine lv_istore (lv' := [(12, .int 6), (11, .int (-1)), (10, .int 0), (9, .int 1), (8, .int (nI n8)), (7, .int (nI e8)), (6, .int (nI b)), (5, .int 4), (0, .ref (ad 0)), (1, .ref qa), (2, .ref qm), (3, .ref qb), (4, .int (nI i))]) hx hb dL_goes_183 hl (by decide) rfl (fun ls hl => ?_)
      refine lv_iload hx hb dL_goes_185 (lv_at hl 7 rfl) ?_
      refine lv_if_lt (tgt := 343) hx hb dL_goes_187 (by decide) (fun c_244 => absurd c_244 ((by decide : ¬ (4 : Int32) < 0))) (fun c_244 => ?_)
      refine lv_iload hx hb dL_goes_190 (lv_at hl 7 rfl) ?_
      refine lv_bipush (v := 8) hx hb dL_goes_192 (by decide) ?_
      refine lv_icmp_ge (tgt := 343) hx hb dL_goes_194 (by decide) (fun c_245 => absurd c_245 ((by decide : ¬ (8 : Int32) ≤ 4))) (fun c_245 => ?_)
      refine lv_aload_n hx hb dL_goes_197 rfl (lv_at hl 8 rfl) ?_
      refine lv_iload hx hb dL_goes_198 (lv_at hl 12 rfl) ?_
      refine rMi (vx_runSW (As := [.ref (ad 0), .int (nI i)]) (rest := []) ⟨hx, hb, hml, hown, hts⟩ (c_L_matchOf l hst D cy ad σ sz (nI i) (nI b) ((wM hi).trans (by rw [hbs]; rfl))) (vx_cwSW 2 hts gL_goes_L_matchOf rfl rfl rfl (by decide +kernel) ⟨Nat.le_of_ble_eq_true rfl, Nat.le_of_ble_eq_true rfl⟩) ⟨cx_bl, cx_S hP hK NoA_z hxk hS⟩ rfl rfl hl.1 rfl (lv_room (Nat.le_of_ble_eq_true rfl)) dL_goes_200 ⟨by show _ ≤ 20; omega, by show _ ≤ 120; omega⟩) hS (fun H locs hS hg => ?_)
      have hP := hP.grown hg
      have hPa := hPa.grown hg
      have hPm := hPm.grown hg
      refine W.eq (g2 := F0 m 203 ls [.int (nI b)]) rfl ?_
      refine lv_iload hx hb dL_goes_203 (lv_at hl 6 rfl) ?_
      refine lv_icmp_ne (tgt := 343) hx hb dL_goes_205 (by decide) (fun c_246 => absurd (rfl) c_246) (fun c_246 => ?_)
      refine lv_aload_n hx hb dL_goes_208 rfl (lv_at hl 8 rfl) ?_
      refine lv_iload hx hb dL_goes_209 (lv_at hl 12 rfl) ?_
      refine rMi (vx_runSW (As := [.ref (ad 0), .int (nI i)]) (rest := []) ⟨hx, hb, hml, hown, hts⟩ (c_L_reason l hst D cy ad σ sz (nI i) (6) ((wR hi).trans (by rw [hbs, xs]; rfl))) (vx_cwSW 2 hts gL_goes_L_reason rfl rfl rfl (by decide +kernel) ⟨Nat.le_of_ble_eq_true rfl, Nat.le_of_ble_eq_true rfl⟩) ⟨cx_bl, cx_S hP hK NoA_z hxk hS⟩ rfl rfl hl.1 rfl (lv_room (Nat.le_of_ble_eq_true rfl)) dL_goes_211 ⟨by show _ ≤ 20; omega, by show _ ≤ 120; omega⟩) hS (fun H locs hS hg => ?_)
      have hP := hP.grown hg
      have hPa := hPa.grown hg
      have hPm := hPm.grown hg
      refine W.eq (g2 := F0 m 214 ls [.int 6]) rfl ?_
      refine lv_iload hx hb dL_goes_214 (lv_at hl 0 rfl) ?_
      refine lv_icmp_ne (tgt := 343) hx hb dL_goes_216 (by decide) (fun c_247 => absurd ((by decide : (6 : Int32) = 6)) c_247) (fun c_247 => ?_)
      refine lv_iload hx hb dL_goes_219 (lv_at hl 3 rfl) ?_
      refine lv_if_eq (tgt := 254) hx hb dL_goes_221 (by decide) (fun c_248 => absurd c_248 ((by decide : ¬ (1 : Int32) = 0))) (fun c_248 => ?_)
      refine lv_iload hx hb dL_goes_224 (lv_at hl 5 rfl) ?_
      refine lv_aload_n hx hb dL_goes_226 rfl (lv_at hl 8 rfl) ?_
      refine cS (W.runV (As := []) (rest := [.int (nI e8)]) ⟨hx, hb, hml, hown, hts⟩ (c_X3_now l D cy ad σ) (cwV 0 hts gL_goes_X3_now rfl rfl rfl (by decide +kernel) ⟨Nat.le_of_ble_eq_true rfl, Nat.le_of_ble_eq_true rfl⟩) ⟨cw_bl, cw_F hP hK, cw_at hP hK⟩ rfl rfl hl.1 rfl (lv_room (Nat.le_of_ble_eq_true rfl)) dL_goes_227 ⟨by show _ ≤ 20; omega, by show _ ≤ 120; omega⟩) (fun _ _ => ?_)
      refine W.eq (g2 := F0 m 230 ls [.int (σ 20 6), .int (nI e8)]) rfl ?_
      refine W.eq (g2 := F0 m 230 ls [.int (nI h), .int (nI e8)]) (by rw [hh]) ?_
      refine lv_icmp_le (tgt := 343) hx hb dL_goes_230 (by decide) (fun c_249 => absurd c_249 ((fun z9 => absurd ((nI_leI (a := e8) (b := h) (by omega) (by omega)).mp z9) (by omega)))) (fun c_249 => ?_)
      refine lv_iload hx hb dL_goes_233 (lv_at hl 7 rfl) ?_
      refine lv_iconst (v := 4) hx hb dL_goes_235 (by decide) ?_
      refine lv_icmp_eq (tgt := 260) hx hb dL_goes_236 (by decide) (fun c_250 => ?_) (fun c_250 => absurd ((by decide : (4 : Int32) = 4)) c_250)
      refine lv_iload hx hb dL_goes_260 (lv_at hl 2 rfl) ?_
      refine lv_if_eq (tgt := 280) hx hb dL_goes_262 (by decide) (fun c_251 => ?_) (fun c_251 => absurd ((by decide : (0 : Int32) = 0)) c_251)
      refine lv_iload hx hb dL_goes_280 (lv_at hl 1 rfl) ?_
      refine lv_iconst (v := (-1)) hx hb dL_goes_282 (by decide) ?_
      refine lv_icmp_ne (tgt := 343) hx hb dL_goes_283 (by decide) (fun c_252 => absurd ((by decide : (-1 : Int32) = -1)) c_252) (fun c_252 => ?_)
      refine lv_iload hx hb dL_goes_286 (lv_at hl 4 rfl) ?_
      refine lv_if_lt (tgt := 343) hx hb dL_goes_288 (by decide) (fun c_253 => absurd c_253 ((fun z9 => absurd ((nI_ltI (a := n8) (b := 0) (by omega) (by omega)).mp z9) (by omega)))) (fun c_253 => ?_)
      refine lv_iload hx hb dL_goes_291 (lv_at hl 4 rfl) ?_
      refine lv_bipush (v := 10) hx hb dL_goes_293 (by decide) ?_
      refine lv_icmp_ge (tgt := 343) hx hb dL_goes_295 (by decide) (fun c_254 => absurd c_254 ((fun z9 => absurd ((nI_leI (a := 10) (b := n8) (by omega) (by omega)).mp z9) (by omega)))) (fun c_254 => ?_)
      refine lv_iload hx hb dL_goes_298 (lv_at hl 7 rfl) ?_
      refine lv_iconst (v := 5) hx hb dL_goes_300 (by decide) ?_
      refine lv_icmp_eq (tgt := 316) hx hb dL_goes_301 (by decide) (fun c_255 => absurd c_255 ((by decide : ¬ (4 : Int32) = 5))) (fun c_255 => ?_)
      refine lv_iload hx hb dL_goes_304 (lv_at hl 7 rfl) ?_
      refine lv_bipush (v := 6) hx hb dL_goes_306 (by decide) ?_
      refine lv_icmp_eq (tgt := 316) hx hb dL_goes_308 (by decide) (fun c_256 => absurd c_256 ((by decide : ¬ (4 : Int32) = 6))) (fun c_256 => ?_)
      refine lv_iload hx hb dL_goes_311 (lv_at hl 7 rfl) ?_
      refine lv_if_ne (tgt := 321) hx hb dL_goes_313 (by decide) (fun c_257 => ?_) (fun c_257 => absurd c_257 ((by decide : ¬ (4 : Int32) = 0)))
      refine lv_iload hx hb dL_goes_321 (lv_at hl 7 rfl) ?_
      refine lv_iconst (v := 4) hx hb dL_goes_323 (by decide) ?_
      refine lv_icmp_eq (tgt := 334) hx hb dL_goes_324 (by decide) (fun c_258 => ?_) (fun c_258 => absurd ((by decide : (4 : Int32) = 4)) c_258)
      refine lv_iload hx hb dL_goes_334 (lv_at hl 4 rfl) ?_
      refine lv_if_le (tgt := 343) hx hb dL_goes_336 (by decide) (fun c_259 => absurd c_259 ((fun z9 => absurd ((nI_leI (a := n8) (b := 0) (by omega) (by omega)).mp z9) (by omega)))) (fun c_259 => ?_)
      refine lv_iconst (v := 1) hx hb dL_goes_339 (by decide) ?_
      refine lv_goto (tgt := 344) hx hb dL_goes_340 (by decide) ?_
      refine W.widen (k := 20) (n := 120) (by omega) (by omega) ?_
      exact W.zret (v := 1) hx hb hr rfl (fun t ht hW => ⟨⟨_, (), rfl, rfl, trivial⟩, hS.F ht⟩) hS.2.2 dL_goes_344
  · have xs : σ 1 i = 5 := x2
    have hend : (if sEnds σ i = true then σ 8 i else -1) = -1 := by rw [hE.2 (by omega)]; rfl
    obtain ⟨k8, z1, z2⟩ := x10 (by omega)
    have himg : (if sBears σ i = true then σ 7 i else -1) = nI k8 := by rw [if_pos (hB.1 (by omega))]; exact z2
    have n0 := x8 (by omega)
    rcases hbs : sBst σ i with _ | b
    · refine lv_aload_n hx hb dL_goes_0 rfl (lv_at hl 0 rfl) ?_
      refine lv_iload hx hb dL_goes_1 (lv_at hl 4 rfl) ?_
      refine rMi (vx_runSW (As := [.ref (ad 0), .int (nI i)]) (rest := []) ⟨hx, hb, hml, hown, hts⟩ (c_L_stateOf l hst D cy ad σ sz (nI i) (5) ((wS hi).trans xs)) (vx_cwSW 2 hts gL_goes_L_stateOf rfl rfl rfl (by decide +kernel) ⟨Nat.le_of_ble_eq_true rfl, Nat.le_of_ble_eq_true rfl⟩) ⟨cx_bl, cx_S hP hK NoA_z hxk hS⟩ rfl rfl hl.1 rfl (lv_room (Nat.le_of_ble_eq_true rfl)) dL_goes_3 ⟨by show _ ≤ 20; omega, by show _ ≤ 120; omega⟩) hS (fun H locs hS hg => ?_)
      have hP := hP.grown hg
      have hPa := hPa.grown hg
      have hPm := hPm.grown hg
      refine W.eq (g2 := F0 m 6 ls [.int 5]) rfl ?_
      refine lv_istore (lv' := [(5, .int 5), (0, .ref (ad 0)), (1, .ref qa), (2, .ref qm), (3, .ref qb), (4, .int (nI i))]) hx hb dL_goes_6 hl (by decide) rfl (fun ls hl => ?_)
      refine lv_aload_n hx hb dL_goes_8 rfl (lv_at hl 1 rfl) ?_
      refine lv_aload_n hx hb dL_goes_9 rfl (lv_at hl 2 rfl) ?_
      refine lv_aload_n hx hb dL_goes_10 rfl (lv_at hl 3 rfl) ?_
      refine lv_iload hx hb dL_goes_11 (lv_at hl 5 rfl) ?_
      refine rMi (va_runS (As := [.ref (ad 0), .ref qa, .ref qm, .int (nI i)]) (rest := []) ⟨hx, hb, hml, hown, hts⟩ (c_L_match l hst D cy ad σ sz qa qm fa fm fb i hi ⟨_, x1, x2⟩ hT) (va_cwS 4 hts gL_goes_L_match rfl rfl rfl (by decide +kernel) ⟨Nat.le_of_ble_eq_true rfl, Nat.le_of_ble_eq_true rfl⟩) ⟨aX_bl, aX_S hP hK NoA_z hxk hS hPa hPm⟩ rfl rfl hl.1 rfl (lv_room (Nat.le_of_ble_eq_true rfl)) dL_goes_13 ⟨by show _ ≤ 20; omega, by show _ ≤ 120; omega⟩) hS (fun H locs hS hg => ?_)
      have hP := hP.grown hg
      have hPa := hPa.grown hg
      have hPm := hPm.grown hg
      refine W.eq (g2 := F0 m 16 ls [.int (-1)]) (by rw [hbs]; rfl) ?_
      refine lv_istore (lv' := [(6, .int (-1)), (5, .int 5), (0, .ref (ad 0)), (1, .ref qa), (2, .ref qm), (3, .ref qb), (4, .int (nI i))]) hx hb dL_goes_16 hl (by decide) rfl (fun ls hl => ?_)
      refine lv_aload_n hx hb dL_goes_18 rfl (lv_at hl 2 rfl) ?_
      refine lv_iload hx hb dL_goes_19 (lv_at hl 6 rfl) ?_
      refine rMi (vx_runSW (As := [.ref (ad 0), .int (nI i)]) (rest := []) ⟨hx, hb, hml, hown, hts⟩ (c_L_endOf l hst D cy ad σ sz (nI i) ((-1)) ((wE hi).trans hend)) (vx_cwSW 2 hts gL_goes_L_endOf rfl rfl rfl (by decide +kernel) ⟨Nat.le_of_ble_eq_true rfl, Nat.le_of_ble_eq_true rfl⟩) ⟨cx_bl, cx_S hP hK NoA_z hxk hS⟩ rfl rfl hl.1 rfl (lv_room (Nat.le_of_ble_eq_true rfl)) dL_goes_21 ⟨by show _ ≤ 20; omega, by show _ ≤ 120; omega⟩) hS (fun H locs hS hg => ?_)
      have hP := hP.grown hg
      have hPa := hPa.grown hg
      have hPm := hPm.grown hg
      refine W.eq (g2 := F0 m 24 ls [.int (-1)]) rfl ?_
      refine lv_istore (lv' := [(7, .int (-1)), (6, .int (-1)), (5, .int 5), (0, .ref (ad 0)), (1, .ref qa), (2, .ref qm), (3, .ref qb), (4, .int (nI i))]) hx hb dL_goes_24 hl (by decide) rfl (fun ls hl => ?_)
      refine lv_aload_n hx hb dL_goes_26 rfl (lv_at hl 3 rfl) ?_
      refine lv_iload hx hb dL_goes_27 (lv_at hl 7 rfl) ?_
      refine rMi (vx_runSW (As := [.ref (ad 0), .int (nI i)]) (rest := []) ⟨hx, hb, hml, hown, hts⟩ (c_L_failuresOf l hst D cy ad σ sz (nI i) (nI n8) ((wF hi).trans x5)) (vx_cwSW 2 hts gL_goes_L_failuresOf rfl rfl rfl (by decide +kernel) ⟨Nat.le_of_ble_eq_true rfl, Nat.le_of_ble_eq_true rfl⟩) ⟨cx_bl, cx_S hP hK NoA_z hxk hS⟩ rfl rfl hl.1 rfl (lv_room (Nat.le_of_ble_eq_true rfl)) dL_goes_29 ⟨by show _ ≤ 20; omega, by show _ ≤ 120; omega⟩) hS (fun H locs hS hg => ?_)
      have hP := hP.grown hg
      have hPa := hPa.grown hg
      have hPm := hPm.grown hg
      refine W.eq (g2 := F0 m 32 ls [.int (nI n8)]) rfl ?_
      refine lv_istore (lv' := [(8, .int (nI n8)), (7, .int (-1)), (6, .int (-1)), (5, .int 5), (0, .ref (ad 0)), (1, .ref qa), (2, .ref qm), (3, .ref qb), (4, .int (nI i))]) hx hb dL_goes_32 hl (by decide) rfl (fun ls hl => ?_)
      refine lv_iload hx hb dL_goes_34 (lv_at hl 3 rfl) ?_
      refine lv_iconst (v := 3) hx hb dL_goes_36 (by decide) ?_
      refine lv_icmp_eq (tgt := 53) hx hb dL_goes_37 (by decide) (fun c_260 => absurd c_260 ((by decide : ¬ (5 : Int32) = 3))) (fun c_260 => ?_)
      refine lv_iload hx hb dL_goes_40 (lv_at hl 3 rfl) ?_
      refine lv_iconst (v := 4) hx hb dL_goes_42 (by decide) ?_
      refine lv_icmp_eq (tgt := 53) hx hb dL_goes_43 (by decide) (fun c_261 => absurd c_261 ((by decide : ¬ (5 : Int32) = 4))) (fun c_261 => ?_)
      refine lv_iload hx hb dL_goes_46 (lv_at hl 3 rfl) ?_
      refine lv_bipush (v := 6) hx hb dL_goes_48 (by decide) ?_
      refine lv_icmp_ne (tgt := 57) hx hb dL_goes_50 (by decide) (fun c_262 => ?_) (fun c_262 => absurd c_262 ((by decide : ¬ (5 : Int32) = 6)))
      refine lv_iconst (v := 0) hx hb dL_goes_57 (by decide) ?_
      refine lv_istore (lv' := [(9, .int 0), (8, .int (nI n8)), (7, .int (-1)), (6, .int (-1)), (5, .int 5), (0, .ref (ad 0)), (1, .ref qa), (2, .ref qm), (3, .ref qb), (4, .int (nI i))]) hx hb dL_goes_58 hl (by decide) rfl (fun ls hl => ?_)
      refine lv_iload hx hb dL_goes_60 (lv_at hl 4 rfl) ?_
      refine lv_iconst (v := 3) hx hb dL_goes_62 (by decide) ?_
      refine lv_icmp_eq (tgt := 79) hx hb dL_goes_63 (by decide) (fun c_263 => absurd c_263 ((by decide : ¬ (5 : Int32) = 3))) (fun c_263 => ?_)
      refine lv_iload hx hb dL_goes_66 (lv_at hl 4 rfl) ?_
      refine lv_iconst (v := 5) hx hb dL_goes_68 (by decide) ?_
      refine lv_icmp_eq (tgt := 79) hx hb dL_goes_69 (by decide) (fun c_264 => ?_) (fun c_264 => absurd ((by decide : (5 : Int32) = 5)) c_264)
      refine lv_iconst (v := 1) hx hb dL_goes_79 (by decide) ?_
      refine lv_goto (tgt := 84) hx hb dL_goes_80 (by decide) ?_
      refine lv_istore (lv' := [(10, .int 1), (9, .int 0), (8, .int (nI n8)), (7, .int (-1)), (6, .int (-1)), (5, .int 5), (0, .ref (ad 0)), (1, .ref qa), (2, .ref qm), (3, .ref qb), (4, .int (nI i))]) hx hb dL_goes_84 hl (by decide) rfl (fun ls hl => ?_)
      refine lv_aload_n hx hb dL_goes_86 rfl (lv_at hl 6 rfl) ?_
      refine lv_iload hx hb dL_goes_87 (lv_at hl 10 rfl) ?_
      refine rMi (vx_runSW (As := [.ref (ad 0), .int (nI i)]) (rest := []) ⟨hx, hb, hml, hown, hts⟩ (c_L_imageOf l hst D cy ad σ sz (nI i) (nI k8) ((wI hi).trans himg)) (vx_cwSW 2 hts gL_goes_L_imageOf rfl rfl rfl (by decide +kernel) ⟨Nat.le_of_ble_eq_true rfl, Nat.le_of_ble_eq_true rfl⟩) ⟨cx_bl, cx_S hP hK NoA_z hxk hS⟩ rfl rfl hl.1 rfl (lv_room (Nat.le_of_ble_eq_true rfl)) dL_goes_89 ⟨by show _ ≤ 20; omega, by show _ ≤ 120; omega⟩) hS (fun H locs hS hg => ?_)
      have hP := hP.grown hg
      have hPa := hPa.grown hg
      have hPm := hPm.grown hg
      refine W.eq (g2 := F0 m 92 ls [.int (nI k8)]) rfl ?_
      refine lv_istore (lv' := [(11, .int (nI k8)), (10, .int 1), (9, .int 0), (8, .int (nI n8)), (7, .int (-1)), (6, .int (-1)), (5, .int 5), (0, .ref (ad 0)), (1, .ref qa), (2, .ref qm), (3, .ref qb), (4, .int (nI i))]) hx hb dL_goes_92 hl (by decide) rfl (fun ls hl => ?_)
      refine lv_iload hx hb dL_goes_94 (lv_at hl 6 rfl) ?_
      refine lv_iconst (v := 5) hx hb dL_goes_96 (by decide) ?_
      refine lv_icmp_ne (tgt := 104) hx hb dL_goes_97 (by decide) (fun c_265 => absurd ((by decide : (5 : Int32) = 5)) c_265) (fun c_265 => ?_)
      refine lv_iconst (v := 0) hx hb dL_goes_100 (by decide) ?_
      refine lv_goto (tgt := 183) hx hb dL_goes_101 (by decide) ?_
      refine lv_istore (lv' := [(12, .int 0), (11, .int (nI k8)), (10, .int 1), (9, .int 0), (8, .int (nI n8)), (7, .int (-1)), (6, .int (-1)), (5, .int 5), (0, .ref (ad 0)), (1, .ref qa), (2, .ref qm), (3, .ref qb), (4, .int (nI i))]) hx hb dL_goes_183 hl (by decide) rfl (fun ls hl => ?_)
      refine lv_iload hx hb dL_goes_185 (lv_at hl 7 rfl) ?_
      refine lv_if_lt (tgt := 343) hx hb dL_goes_187 (by decide) (fun c_266 => absurd c_266 ((by decide : ¬ (5 : Int32) < 0))) (fun c_266 => ?_)
      refine lv_iload hx hb dL_goes_190 (lv_at hl 7 rfl) ?_
      refine lv_bipush (v := 8) hx hb dL_goes_192 (by decide) ?_
      refine lv_icmp_ge (tgt := 343) hx hb dL_goes_194 (by decide) (fun c_267 => absurd c_267 ((by decide : ¬ (8 : Int32) ≤ 5))) (fun c_267 => ?_)
      refine lv_aload_n hx hb dL_goes_197 rfl (lv_at hl 8 rfl) ?_
      refine lv_iload hx hb dL_goes_198 (lv_at hl 12 rfl) ?_
      refine rMi (vx_runSW (As := [.ref (ad 0), .int (nI i)]) (rest := []) ⟨hx, hb, hml, hown, hts⟩ (c_L_matchOf l hst D cy ad σ sz (nI i) ((-1)) ((wM hi).trans (by rw [hbs]; rfl))) (vx_cwSW 2 hts gL_goes_L_matchOf rfl rfl rfl (by decide +kernel) ⟨Nat.le_of_ble_eq_true rfl, Nat.le_of_ble_eq_true rfl⟩) ⟨cx_bl, cx_S hP hK NoA_z hxk hS⟩ rfl rfl hl.1 rfl (lv_room (Nat.le_of_ble_eq_true rfl)) dL_goes_200 ⟨by show _ ≤ 20; omega, by show _ ≤ 120; omega⟩) hS (fun H locs hS hg => ?_)
      have hP := hP.grown hg
      have hPa := hPa.grown hg
      have hPm := hPm.grown hg
      refine W.eq (g2 := F0 m 203 ls [.int (-1)]) rfl ?_
      refine lv_iload hx hb dL_goes_203 (lv_at hl 6 rfl) ?_
      refine lv_icmp_ne (tgt := 343) hx hb dL_goes_205 (by decide) (fun c_268 => absurd ((by decide : (-1 : Int32) = -1)) c_268) (fun c_268 => ?_)
      refine lv_aload_n hx hb dL_goes_208 rfl (lv_at hl 8 rfl) ?_
      refine lv_iload hx hb dL_goes_209 (lv_at hl 12 rfl) ?_
      refine rMi (vx_runSW (As := [.ref (ad 0), .int (nI i)]) (rest := []) ⟨hx, hb, hml, hown, hts⟩ (c_L_reason l hst D cy ad σ sz (nI i) (0) ((wR hi).trans (by rw [hbs, xs]; rfl))) (vx_cwSW 2 hts gL_goes_L_reason rfl rfl rfl (by decide +kernel) ⟨Nat.le_of_ble_eq_true rfl, Nat.le_of_ble_eq_true rfl⟩) ⟨cx_bl, cx_S hP hK NoA_z hxk hS⟩ rfl rfl hl.1 rfl (lv_room (Nat.le_of_ble_eq_true rfl)) dL_goes_211 ⟨by show _ ≤ 20; omega, by show _ ≤ 120; omega⟩) hS (fun H locs hS hg => ?_)
      have hP := hP.grown hg
      have hPa := hPa.grown hg
      have hPm := hPm.grown hg
      refine W.eq (g2 := F0 m 214 ls [.int 0]) rfl ?_
      refine lv_iload hx hb dL_goes_214 (lv_at hl 0 rfl) ?_
      refine lv_icmp_ne (tgt := 343) hx hb dL_goes_216 (by decide) (fun c_269 => absurd ((by decide : (0 : Int32) = 0)) c_269) (fun c_269 => ?_)
      refine lv_iload hx hb dL_goes_219 (lv_at hl 3 rfl) ?_
      refine lv_if_eq (tgt := 254) hx hb dL_goes_221 (by decide) (fun c_270 => ?_) (fun c_270 => absurd ((by decide : (0 : Int32) = 0)) c_270)
      refine lv_iload hx hb dL_goes_254 (lv_at hl 5 rfl) ?_
      refine lv_iconst (v := (-1)) hx hb dL_goes_256 (by decide) ?_
      refine lv_icmp_ne (tgt := 343) hx hb dL_goes_257 (by decide) (fun c_271 => absurd ((by decide : (-1 : Int32) = -1)) c_271) (fun c_271 => ?_)
      refine lv_iload hx hb dL_goes_260 (lv_at hl 2 rfl) ?_
      refine lv_if_eq (tgt := 280) hx hb dL_goes_262 (by decide) (fun c_272 => absurd c_272 ((by decide : ¬ (1 : Int32) = 0))) (fun c_272 => ?_)
      refine lv_iload hx hb dL_goes_265 (lv_at hl 1 rfl) ?_
      refine lv_if_lt (tgt := 343) hx hb dL_goes_267 (by decide) (fun c_273 => absurd c_273 ((fun z9 => absurd ((nI_ltI (a := k8) (b := 0) (by omega) (by omega)).mp z9) (by omega)))) (fun c_273 => ?_)
      refine lv_iload hx hb dL_goes_270 (lv_at hl 1 rfl) ?_
      refine lv_bipush (v := 8) hx hb dL_goes_272 (by decide) ?_
      refine lv_icmp_ge (tgt := 343) hx hb dL_goes_274 (by decide) (fun c_274 => absurd c_274 ((fun z9 => absurd ((nI_leI (a := 8) (b := k8) (by omega) (by omega)).mp z9) (by omega)))) (fun c_274 => ?_)
      refine lv_goto (tgt := 286) hx hb dL_goes_277 (by decide) ?_
      refine lv_iload hx hb dL_goes_286 (lv_at hl 4 rfl) ?_
      refine lv_if_lt (tgt := 343) hx hb dL_goes_288 (by decide) (fun c_275 => absurd c_275 ((fun z9 => absurd ((nI_ltI (a := n8) (b := 0) (by omega) (by omega)).mp z9) (by omega)))) (fun c_275 => ?_)
      refine lv_iload hx hb dL_goes_291 (lv_at hl 4 rfl) ?_
      refine lv_bipush (v := 10) hx hb dL_goes_293 (by decide) ?_
      refine lv_icmp_ge (tgt := 343) hx hb dL_goes_295 (by decide) (fun c_276 => absurd c_276 ((fun z9 => absurd ((nI_leI (a := 10) (b := n8) (by omega) (by omega)).mp z9) (by omega)))) (fun c_276 => ?_)
      refine lv_iload hx hb dL_goes_298 (lv_at hl 7 rfl) ?_
      refine lv_iconst (v := 5) hx hb dL_goes_300 (by decide) ?_
      refine lv_icmp_eq (tgt := 316) hx hb dL_goes_301 (by decide) (fun c_277 => ?_) (fun c_277 => absurd ((by decide : (5 : Int32) = 5)) c_277)
      refine lv_iload hx hb dL_goes_316 (lv_at hl 4 rfl) ?_
      refine lv_if_ne (tgt := 343) hx hb dL_goes_318 (by decide) (fun c_278 => absurd (((nI_eq (a := n8) (b := 0) (by omega) (by omega)).mpr (by omega))) c_278) (fun c_278 => ?_)
      refine lv_iload hx hb dL_goes_321 (lv_at hl 7 rfl) ?_
      refine lv_iconst (v := 4) hx hb dL_goes_323 (by decide) ?_
      refine lv_icmp_eq (tgt := 334) hx hb dL_goes_324 (by decide) (fun c_279 => absurd c_279 ((by decide : ¬ (5 : Int32) = 4))) (fun c_279 => ?_)
      refine lv_iload hx hb dL_goes_327 (lv_at hl 7 rfl) ?_
      refine lv_bipush (v := 7) hx hb dL_goes_329 (by decide) ?_
      refine lv_icmp_ne (tgt := 339) hx hb dL_goes_331 (by decide) (fun c_280 => ?_) (fun c_280 => absurd c_280 ((by decide : ¬ (5 : Int32) = 7)))
      refine lv_iconst (v := 1) hx hb dL_goes_339 (by decide) ?_
      refine lv_goto (tgt := 344) hx hb dL_goes_340 (by decide) ?_
      refine W.widen (k := 20) (n := 120) (by omega) (by omega) ?_
      exact W.zret (v := 1) hx hb hr rfl (fun t ht hW => ⟨⟨_, (), rfl, rfl, trivial⟩, hS.F ht⟩) hS.2.2 dL_goes_344
    · have hb8 : b < 8 := bst_lt (n := 8) hbs
      refine lv_aload_n hx hb dL_goes_0 rfl (lv_at hl 0 rfl) ?_
      refine lv_iload hx hb dL_goes_1 (lv_at hl 4 rfl) ?_
      refine rMi (vx_runSW (As := [.ref (ad 0), .int (nI i)]) (rest := []) ⟨hx, hb, hml, hown, hts⟩ (c_L_stateOf l hst D cy ad σ sz (nI i) (5) ((wS hi).trans xs)) (vx_cwSW 2 hts gL_goes_L_stateOf rfl rfl rfl (by decide +kernel) ⟨Nat.le_of_ble_eq_true rfl, Nat.le_of_ble_eq_true rfl⟩) ⟨cx_bl, cx_S hP hK NoA_z hxk hS⟩ rfl rfl hl.1 rfl (lv_room (Nat.le_of_ble_eq_true rfl)) dL_goes_3 ⟨by show _ ≤ 20; omega, by show _ ≤ 120; omega⟩) hS (fun H locs hS hg => ?_)
      have hP := hP.grown hg
      have hPa := hPa.grown hg
      have hPm := hPm.grown hg
      refine W.eq (g2 := F0 m 6 ls [.int 5]) rfl ?_
      refine lv_istore (lv' := [(5, .int 5), (0, .ref (ad 0)), (1, .ref qa), (2, .ref qm), (3, .ref qb), (4, .int (nI i))]) hx hb dL_goes_6 hl (by decide) rfl (fun ls hl => ?_)
      refine lv_aload_n hx hb dL_goes_8 rfl (lv_at hl 1 rfl) ?_
      refine lv_aload_n hx hb dL_goes_9 rfl (lv_at hl 2 rfl) ?_
      refine lv_aload_n hx hb dL_goes_10 rfl (lv_at hl 3 rfl) ?_
      refine lv_iload hx hb dL_goes_11 (lv_at hl 5 rfl) ?_
      refine rMi (va_runS (As := [.ref (ad 0), .ref qa, .ref qm, .int (nI i)]) (rest := []) ⟨hx, hb, hml, hown, hts⟩ (c_L_match l hst D cy ad σ sz qa qm fa fm fb i hi ⟨_, x1, x2⟩ hT) (va_cwS 4 hts gL_goes_L_match rfl rfl rfl (by decide +kernel) ⟨Nat.le_of_ble_eq_true rfl, Nat.le_of_ble_eq_true rfl⟩) ⟨aX_bl, aX_S hP hK NoA_z hxk hS hPa hPm⟩ rfl rfl hl.1 rfl (lv_room (Nat.le_of_ble_eq_true rfl)) dL_goes_13 ⟨by show _ ≤ 20; omega, by show _ ≤ 120; omega⟩) hS (fun H locs hS hg => ?_)
      have hP := hP.grown hg
      have hPa := hPa.grown hg
      have hPm := hPm.grown hg
      refine W.eq (g2 := F0 m 16 ls [.int (nI b)]) (by rw [hbs]; rfl) ?_
      refine lv_istore (lv' := [(6, .int (nI b)), (5, .int 5), (0, .ref (ad 0)), (1, .ref qa), (2, .ref qm), (3, .ref qb), (4, .int (nI i))]) hx hb dL_goes_16 hl (by decide) rfl (fun ls hl => ?_)
      refine lv_aload_n hx hb dL_goes_18 rfl (lv_at hl 2 rfl) ?_
      refine lv_iload hx hb dL_goes_19 (lv_at hl 6 rfl) ?_
      refine rMi (vx_runSW (As := [.ref (ad 0), .int (nI i)]) (rest := []) ⟨hx, hb, hml, hown, hts⟩ (c_L_endOf l hst D cy ad σ sz (nI i) ((-1)) ((wE hi).trans hend)) (vx_cwSW 2 hts gL_goes_L_endOf rfl rfl rfl (by decide +kernel) ⟨Nat.le_of_ble_eq_true rfl, Nat.le_of_ble_eq_true rfl⟩) ⟨cx_bl, cx_S hP hK NoA_z hxk hS⟩ rfl rfl hl.1 rfl (lv_room (Nat.le_of_ble_eq_true rfl)) dL_goes_21 ⟨by show _ ≤ 20; omega, by show _ ≤ 120; omega⟩) hS (fun H locs hS hg => ?_)
      have hP := hP.grown hg
      have hPa := hPa.grown hg
      have hPm := hPm.grown hg
      refine W.eq (g2 := F0 m 24 ls [.int (-1)]) rfl ?_
      refine lv_istore (lv' := [(7, .int (-1)), (6, .int (nI b)), (5, .int 5), (0, .ref (ad 0)), (1, .ref qa), (2, .ref qm), (3, .ref qb), (4, .int (nI i))]) hx hb dL_goes_24 hl (by decide) rfl (fun ls hl => ?_)
      refine lv_aload_n hx hb dL_goes_26 rfl (lv_at hl 3 rfl) ?_
      refine lv_iload hx hb dL_goes_27 (lv_at hl 7 rfl) ?_
      refine rMi (vx_runSW (As := [.ref (ad 0), .int (nI i)]) (rest := []) ⟨hx, hb, hml, hown, hts⟩ (c_L_failuresOf l hst D cy ad σ sz (nI i) (nI n8) ((wF hi).trans x5)) (vx_cwSW 2 hts gL_goes_L_failuresOf rfl rfl rfl (by decide +kernel) ⟨Nat.le_of_ble_eq_true rfl, Nat.le_of_ble_eq_true rfl⟩) ⟨cx_bl, cx_S hP hK NoA_z hxk hS⟩ rfl rfl hl.1 rfl (lv_room (Nat.le_of_ble_eq_true rfl)) dL_goes_29 ⟨by show _ ≤ 20; omega, by show _ ≤ 120; omega⟩) hS (fun H locs hS hg => ?_)
      have hP := hP.grown hg
      have hPa := hPa.grown hg
      have hPm := hPm.grown hg
      refine W.eq (g2 := F0 m 32 ls [.int (nI n8)]) rfl ?_
      refine lv_istore (lv' := [(8, .int (nI n8)), (7, .int (-1)), (6, .int (nI b)), (5, .int 5), (0, .ref (ad 0)), (1, .ref qa), (2, .ref qm), (3, .ref qb), (4, .int (nI i))]) hx hb dL_goes_32 hl (by decide) rfl (fun ls hl => ?_)
      refine lv_iload hx hb dL_goes_34 (lv_at hl 3 rfl) ?_
      refine lv_iconst (v := 3) hx hb dL_goes_36 (by decide) ?_
      refine lv_icmp_eq (tgt := 53) hx hb dL_goes_37 (by decide) (fun c_281 => absurd c_281 ((by decide : ¬ (5 : Int32) = 3))) (fun c_281 => ?_)
      refine lv_iload hx hb dL_goes_40 (lv_at hl 3 rfl) ?_
      refine lv_iconst (v := 4) hx hb dL_goes_42 (by decide) ?_
      refine lv_icmp_eq (tgt := 53) hx hb dL_goes_43 (by decide) (fun c_282 => absurd c_282 ((by decide : ¬ (5 : Int32) = 4))) (fun c_282 => ?_)
      refine lv_iload hx hb dL_goes_46 (lv_at hl 3 rfl) ?_
      refine lv_bipush (v := 6) hx hb dL_goes_48 (by decide) ?_
      refine lv_icmp_ne (tgt := 57) hx hb dL_goes_50 (by decide) (fun c_283 => ?_) (fun c_283 => absurd c_283 ((by decide : ¬ (5 : Int32) = 6)))
      refine lv_iconst (v := 0) hx hb dL_goes_57 (by decide) ?_
      refine lv_istore (lv' := [(9, .int 0), (8, .int (nI n8)), (7, .int (-1)), (6, .int (nI b)), (5, .int 5), (0, .ref (ad 0)), (1, .ref qa), (2, .ref qm), (3, .ref qb), (4, .int (nI i))]) hx hb dL_goes_58 hl (by decide) rfl (fun ls hl => ?_)
      refine lv_iload hx hb dL_goes_60 (lv_at hl 4 rfl) ?_
      refine lv_iconst (v := 3) hx hb dL_goes_62 (by decide) ?_
      refine lv_icmp_eq (tgt := 79) hx hb dL_goes_63 (by decide) (fun c_284 => absurd c_284 ((by decide : ¬ (5 : Int32) = 3))) (fun c_284 => ?_)
      refine lv_iload hx hb dL_goes_66 (lv_at hl 4 rfl) ?_
      refine lv_iconst (v := 5) hx hb dL_goes_68 (by decide) ?_
      refine lv_icmp_eq (tgt := 79) hx hb dL_goes_69 (by decide) (fun c_285 => ?_) (fun c_285 => absurd ((by decide : (5 : Int32) = 5)) c_285)
      refine lv_iconst (v := 1) hx hb dL_goes_79 (by decide) ?_
      refine lv_goto (tgt := 84) hx hb dL_goes_80 (by decide) ?_
      refine lv_istore (lv' := [(10, .int 1), (9, .int 0), (8, .int (nI n8)), (7, .int (-1)), (6, .int (nI b)), (5, .int 5), (0, .ref (ad 0)), (1, .ref qa), (2, .ref qm), (3, .ref qb), (4, .int (nI i))]) hx hb dL_goes_84 hl (by decide) rfl (fun ls hl => ?_)
      refine lv_aload_n hx hb dL_goes_86 rfl (lv_at hl 6 rfl) ?_
      refine lv_iload hx hb dL_goes_87 (lv_at hl 10 rfl) ?_
      refine rMi (vx_runSW (As := [.ref (ad 0), .int (nI i)]) (rest := []) ⟨hx, hb, hml, hown, hts⟩ (c_L_imageOf l hst D cy ad σ sz (nI i) (nI k8) ((wI hi).trans himg)) (vx_cwSW 2 hts gL_goes_L_imageOf rfl rfl rfl (by decide +kernel) ⟨Nat.le_of_ble_eq_true rfl, Nat.le_of_ble_eq_true rfl⟩) ⟨cx_bl, cx_S hP hK NoA_z hxk hS⟩ rfl rfl hl.1 rfl (lv_room (Nat.le_of_ble_eq_true rfl)) dL_goes_89 ⟨by show _ ≤ 20; omega, by show _ ≤ 120; omega⟩) hS (fun H locs hS hg => ?_)
      have hP := hP.grown hg
      have hPa := hPa.grown hg
      have hPm := hPm.grown hg
      refine W.eq (g2 := F0 m 92 ls [.int (nI k8)]) rfl ?_
      refine lv_istore (lv' := [(11, .int (nI k8)), (10, .int 1), (9, .int 0), (8, .int (nI n8)), (7, .int (-1)), (6, .int (nI b)), (5, .int 5), (0, .ref (ad 0)), (1, .ref qa), (2, .ref qm), (3, .ref qb), (4, .int (nI i))]) hx hb dL_goes_92 hl (by decide) rfl (fun ls hl => ?_)
      refine lv_iload hx hb dL_goes_94 (lv_at hl 6 rfl) ?_
      refine lv_iconst (v := 5) hx hb dL_goes_96 (by decide) ?_
      refine lv_icmp_ne (tgt := 104) hx hb dL_goes_97 (by decide) (fun c_286 => absurd ((by decide : (5 : Int32) = 5)) c_286) (fun c_286 => ?_)
      refine lv_iconst (v := 0) hx hb dL_goes_100 (by decide) ?_
      refine lv_goto (tgt := 183) hx hb dL_goes_101 (by decide) ?_
      refine lv_istore (lv' := [(12, .int 0), (11, .int (nI k8)), (10, .int 1), (9, .int 0), (8, .int (nI n8)), (7, .int (-1)), (6, .int (nI b)), (5, .int 5), (0, .ref (ad 0)), (1, .ref qa), (2, .ref qm), (3, .ref qb), (4, .int (nI i))]) hx hb dL_goes_183 hl (by decide) rfl (fun ls hl => ?_)
      refine lv_iload hx hb dL_goes_185 (lv_at hl 7 rfl) ?_
      refine lv_if_lt (tgt := 343) hx hb dL_goes_187 (by decide) (fun c_287 => absurd c_287 ((by decide : ¬ (5 : Int32) < 0))) (fun c_287 => ?_)
      refine lv_iload hx hb dL_goes_190 (lv_at hl 7 rfl) ?_
      refine lv_bipush (v := 8) hx hb dL_goes_192 (by decide) ?_
      refine lv_icmp_ge (tgt := 343) hx hb dL_goes_194 (by decide) (fun c_288 => absurd c_288 ((by decide : ¬ (8 : Int32) ≤ 5))) (fun c_288 => ?_)
      refine lv_aload_n hx hb dL_goes_197 rfl (lv_at hl 8 rfl) ?_
      refine lv_iload hx hb dL_goes_198 (lv_at hl 12 rfl) ?_
      refine rMi (vx_runSW (As := [.ref (ad 0), .int (nI i)]) (rest := []) ⟨hx, hb, hml, hown, hts⟩ (c_L_matchOf l hst D cy ad σ sz (nI i) (nI b) ((wM hi).trans (by rw [hbs]; rfl))) (vx_cwSW 2 hts gL_goes_L_matchOf rfl rfl rfl (by decide +kernel) ⟨Nat.le_of_ble_eq_true rfl, Nat.le_of_ble_eq_true rfl⟩) ⟨cx_bl, cx_S hP hK NoA_z hxk hS⟩ rfl rfl hl.1 rfl (lv_room (Nat.le_of_ble_eq_true rfl)) dL_goes_200 ⟨by show _ ≤ 20; omega, by show _ ≤ 120; omega⟩) hS (fun H locs hS hg => ?_)
      have hP := hP.grown hg
      have hPa := hPa.grown hg
      have hPm := hPm.grown hg
      refine W.eq (g2 := F0 m 203 ls [.int (nI b)]) rfl ?_
      refine lv_iload hx hb dL_goes_203 (lv_at hl 6 rfl) ?_
      refine lv_icmp_ne (tgt := 343) hx hb dL_goes_205 (by decide) (fun c_289 => absurd (rfl) c_289) (fun c_289 => ?_)
      refine lv_aload_n hx hb dL_goes_208 rfl (lv_at hl 8 rfl) ?_
      refine lv_iload hx hb dL_goes_209 (lv_at hl 12 rfl) ?_
      refine rMi (vx_runSW (As := [.ref (ad 0), .int (nI i)]) (rest := []) ⟨hx, hb, hml, hown, hts⟩ (c_L_reason l hst D cy ad σ sz (nI i) (0) ((wR hi).trans (by rw [hbs, xs]; rfl))) (vx_cwSW 2 hts gL_goes_L_reason rfl rfl rfl (by decide +kernel) ⟨Nat.le_of_ble_eq_true rfl, Nat.le_of_ble_eq_true rfl⟩) ⟨cx_bl, cx_S hP hK NoA_z hxk hS⟩ rfl rfl hl.1 rfl (lv_room (Nat.le_of_ble_eq_true rfl)) dL_goes_211 ⟨by show _ ≤ 20; omega, by show _ ≤ 120; omega⟩) hS (fun H locs hS hg => ?_)
      have hP := hP.grown hg
      have hPa := hPa.grown hg
      have hPm := hPm.grown hg
      refine W.eq (g2 := F0 m 214 ls [.int 0]) rfl ?_
      refine lv_iload hx hb dL_goes_214 (lv_at hl 0 rfl) ?_
      refine lv_icmp_ne (tgt := 343) hx hb dL_goes_216 (by decide) (fun c_290 => absurd ((by decide : (0 : Int32) = 0)) c_290) (fun c_290 => ?_)
      refine lv_iload hx hb dL_goes_219 (lv_at hl 3 rfl) ?_
      refine lv_if_eq (tgt := 254) hx hb dL_goes_221 (by decide) (fun c_291 => ?_) (fun c_291 => absurd ((by decide : (0 : Int32) = 0)) c_291)
      refine lv_iload hx hb dL_goes_254 (lv_at hl 5 rfl) ?_
      refine lv_iconst (v := (-1)) hx hb dL_goes_256 (by decide) ?_
      refine lv_icmp_ne (tgt := 343) hx hb dL_goes_257 (by decide) (fun c_292 => absurd ((by decide : (-1 : Int32) = -1)) c_292) (fun c_292 => ?_)
      refine lv_iload hx hb dL_goes_260 (lv_at hl 2 rfl) ?_
      refine lv_if_eq (tgt := 280) hx hb dL_goes_262 (by decide) (fun c_293 => absurd c_293 ((by decide : ¬ (1 : Int32) = 0))) (fun c_293 => ?_)
      refine lv_iload hx hb dL_goes_265 (lv_at hl 1 rfl) ?_
      refine lv_if_lt (tgt := 343) hx hb dL_goes_267 (by decide) (fun c_294 => absurd c_294 ((fun z9 => absurd ((nI_ltI (a := k8) (b := 0) (by omega) (by omega)).mp z9) (by omega)))) (fun c_294 => ?_)
      refine lv_iload hx hb dL_goes_270 (lv_at hl 1 rfl) ?_
      refine lv_bipush (v := 8) hx hb dL_goes_272 (by decide) ?_
      refine lv_icmp_ge (tgt := 343) hx hb dL_goes_274 (by decide) (fun c_295 => absurd c_295 ((fun z9 => absurd ((nI_leI (a := 8) (b := k8) (by omega) (by omega)).mp z9) (by omega)))) (fun c_295 => ?_)
      refine lv_goto (tgt := 286) hx hb dL_goes_277 (by decide) ?_
      refine lv_iload hx hb dL_goes_286 (lv_at hl 4 rfl) ?_
      refine lv_if_lt (tgt := 343) hx hb dL_goes_288 (by decide) (fun c_296 => absurd c_296 ((fun z9 => absurd ((nI_ltI (a := n8) (b := 0) (by omega) (by omega)).mp z9) (by omega)))) (fun c_296 => ?_)
      refine lv_iload hx hb dL_goes_291 (lv_at hl 4 rfl) ?_
      refine lv_bipush (v := 10) hx hb dL_goes_293 (by decide) ?_
      refine lv_icmp_ge (tgt := 343) hx hb dL_goes_295 (by decide) (fun c_297 => absurd c_297 ((fun z9 => absurd ((nI_leI (a := 10) (b := n8) (by omega) (by omega)).mp z9) (by omega)))) (fun c_297 => ?_)
      refine lv_iload hx hb dL_goes_298 (lv_at hl 7 rfl) ?_
      refine lv_iconst (v := 5) hx hb dL_goes_300 (by decide) ?_
      refine lv_icmp_eq (tgt := 316) hx hb dL_goes_301 (by decide) (fun c_298 => ?_) (fun c_298 => absurd ((by decide : (5 : Int32) = 5)) c_298)
      refine lv_iload hx hb dL_goes_316 (lv_at hl 4 rfl) ?_
      refine lv_if_ne (tgt := 343) hx hb dL_goes_318 (by decide) (fun c_299 => absurd (((nI_eq (a := n8) (b := 0) (by omega) (by omega)).mpr (by omega))) c_299) (fun c_299 => ?_)
      refine lv_iload hx hb dL_goes_321 (lv_at hl 7 rfl) ?_
      refine lv_iconst (v := 4) hx hb dL_goes_323 (by decide) ?_
      refine lv_icmp_eq (tgt := 334) hx hb dL_goes_324 (by decide) (fun c_300 => absurd c_300 ((by decide : ¬ (5 : Int32) = 4))) (fun c_300 => ?_)
      refine lv_iload hx hb dL_goes_327 (lv_at hl 7 rfl) ?_
      refine lv_bipush (v := 7) hx hb dL_goes_329 (by decide) ?_
      refine lv_icmp_ne (tgt := 339) hx hb dL_goes_331 (by decide) (fun c_301 => ?_) (fun c_301 => absurd c_301 ((by decide : ¬ (5 : Int32) = 7)))
      refine lv_iconst (v := 1) hx hb dL_goes_339 (by decide) ?_
      refine lv_goto (tgt := 344) hx hb dL_goes_340 (by decide) ?_
      refine W.widen (k := 20) (n := 120) (by omega) (by omega) ?_
      exact W.zret (v := 1) hx hb hr rfl (fun t ht hW => ⟨⟨_, (), rfl, rfl, trivial⟩, hS.F ht⟩) hS.2.2 dL_goes_344
  · have xs : σ 1 i = 6 := x2
    obtain ⟨e8, y1, y2, y3, y4, y5⟩ := x11 (by omega)
    have y6 : ¬ e8 = h := y5
    have y7 := y4 (by omega)
    have hend : (if sEnds σ i = true then σ 8 i else -1) = nI e8 := by rw [if_pos (hE.1 (by omega))]; exact y1
    obtain ⟨k8, z1, z2⟩ := x10 (by omega)
    have himg : (if sBears σ i = true then σ 7 i else -1) = nI k8 := by rw [if_pos (hB.1 (by omega))]; exact z2
    have n0 := x8 (by omega)
    rcases hbs : sBst σ i with _ | b
    · refine lv_aload_n hx hb dL_goes_0 rfl (lv_at hl 0 rfl) ?_
      refine lv_iload hx hb dL_goes_1 (lv_at hl 4 rfl) ?_
      refine rMi (vx_runSW (As := [.ref (ad 0), .int (nI i)]) (rest := []) ⟨hx, hb, hml, hown, hts⟩ (c_L_stateOf l hst D cy ad σ sz (nI i) (6) ((wS hi).trans xs)) (vx_cwSW 2 hts gL_goes_L_stateOf rfl rfl rfl (by decide +kernel) ⟨Nat.le_of_ble_eq_true rfl, Nat.le_of_ble_eq_true rfl⟩) ⟨cx_bl, cx_S hP hK NoA_z hxk hS⟩ rfl rfl hl.1 rfl (lv_room (Nat.le_of_ble_eq_true rfl)) dL_goes_3 ⟨by show _ ≤ 20; omega, by show _ ≤ 120; omega⟩) hS (fun H locs hS hg => ?_)
      have hP := hP.grown hg
      have hPa := hPa.grown hg
      have hPm := hPm.grown hg
      refine W.eq (g2 := F0 m 6 ls [.int 6]) rfl ?_
      refine lv_istore (lv' := [(5, .int 6), (0, .ref (ad 0)), (1, .ref qa), (2, .ref qm), (3, .ref qb), (4, .int (nI i))]) hx hb dL_goes_6 hl (by decide) rfl (fun ls hl => ?_)
      refine lv_aload_n hx hb dL_goes_8 rfl (lv_at hl 1 rfl) ?_
      refine lv_aload_n hx hb dL_goes_9 rfl (lv_at hl 2 rfl) ?_
      refine lv_aload_n hx hb dL_goes_10 rfl (lv_at hl 3 rfl) ?_
      refine lv_iload hx hb dL_goes_11 (lv_at hl 5 rfl) ?_
      refine rMi (va_runS (As := [.ref (ad 0), .ref qa, .ref qm, .int (nI i)]) (rest := []) ⟨hx, hb, hml, hown, hts⟩ (c_L_match l hst D cy ad σ sz qa qm fa fm fb i hi ⟨_, x1, x2⟩ hT) (va_cwS 4 hts gL_goes_L_match rfl rfl rfl (by decide +kernel) ⟨Nat.le_of_ble_eq_true rfl, Nat.le_of_ble_eq_true rfl⟩) ⟨aX_bl, aX_S hP hK NoA_z hxk hS hPa hPm⟩ rfl rfl hl.1 rfl (lv_room (Nat.le_of_ble_eq_true rfl)) dL_goes_13 ⟨by show _ ≤ 20; omega, by show _ ≤ 120; omega⟩) hS (fun H locs hS hg => ?_)
      have hP := hP.grown hg
      have hPa := hPa.grown hg
      have hPm := hPm.grown hg
      refine W.eq (g2 := F0 m 16 ls [.int (-1)]) (by rw [hbs]; rfl) ?_
      refine lv_istore (lv' := [(6, .int (-1)), (5, .int 6), (0, .ref (ad 0)), (1, .ref qa), (2, .ref qm), (3, .ref qb), (4, .int (nI i))]) hx hb dL_goes_16 hl (by decide) rfl (fun ls hl => ?_)
      refine lv_aload_n hx hb dL_goes_18 rfl (lv_at hl 2 rfl) ?_
      refine lv_iload hx hb dL_goes_19 (lv_at hl 6 rfl) ?_
      refine rMi (vx_runSW (As := [.ref (ad 0), .int (nI i)]) (rest := []) ⟨hx, hb, hml, hown, hts⟩ (c_L_endOf l hst D cy ad σ sz (nI i) (nI e8) ((wE hi).trans hend)) (vx_cwSW 2 hts gL_goes_L_endOf rfl rfl rfl (by decide +kernel) ⟨Nat.le_of_ble_eq_true rfl, Nat.le_of_ble_eq_true rfl⟩) ⟨cx_bl, cx_S hP hK NoA_z hxk hS⟩ rfl rfl hl.1 rfl (lv_room (Nat.le_of_ble_eq_true rfl)) dL_goes_21 ⟨by show _ ≤ 20; omega, by show _ ≤ 120; omega⟩) hS (fun H locs hS hg => ?_)
      have hP := hP.grown hg
      have hPa := hPa.grown hg
      have hPm := hPm.grown hg
      refine W.eq (g2 := F0 m 24 ls [.int (nI e8)]) rfl ?_
      refine lv_istore (lv' := [(7, .int (nI e8)), (6, .int (-1)), (5, .int 6), (0, .ref (ad 0)), (1, .ref qa), (2, .ref qm), (3, .ref qb), (4, .int (nI i))]) hx hb dL_goes_24 hl (by decide) rfl (fun ls hl => ?_)
      refine lv_aload_n hx hb dL_goes_26 rfl (lv_at hl 3 rfl) ?_
      refine lv_iload hx hb dL_goes_27 (lv_at hl 7 rfl) ?_
      refine rMi (vx_runSW (As := [.ref (ad 0), .int (nI i)]) (rest := []) ⟨hx, hb, hml, hown, hts⟩ (c_L_failuresOf l hst D cy ad σ sz (nI i) (nI n8) ((wF hi).trans x5)) (vx_cwSW 2 hts gL_goes_L_failuresOf rfl rfl rfl (by decide +kernel) ⟨Nat.le_of_ble_eq_true rfl, Nat.le_of_ble_eq_true rfl⟩) ⟨cx_bl, cx_S hP hK NoA_z hxk hS⟩ rfl rfl hl.1 rfl (lv_room (Nat.le_of_ble_eq_true rfl)) dL_goes_29 ⟨by show _ ≤ 20; omega, by show _ ≤ 120; omega⟩) hS (fun H locs hS hg => ?_)
      have hP := hP.grown hg
      have hPa := hPa.grown hg
      have hPm := hPm.grown hg
      refine W.eq (g2 := F0 m 32 ls [.int (nI n8)]) rfl ?_
      refine lv_istore (lv' := [(8, .int (nI n8)), (7, .int (nI e8)), (6, .int (-1)), (5, .int 6), (0, .ref (ad 0)), (1, .ref qa), (2, .ref qm), (3, .ref qb), (4, .int (nI i))]) hx hb dL_goes_32 hl (by decide) rfl (fun ls hl => ?_)
      refine lv_iload hx hb dL_goes_34 (lv_at hl 3 rfl) ?_
      refine lv_iconst (v := 3) hx hb dL_goes_36 (by decide) ?_
      refine lv_icmp_eq (tgt := 53) hx hb dL_goes_37 (by decide) (fun c_302 => absurd c_302 ((by decide : ¬ (6 : Int32) = 3))) (fun c_302 => ?_)
      refine lv_iload hx hb dL_goes_40 (lv_at hl 3 rfl) ?_
      refine lv_iconst (v := 4) hx hb dL_goes_42 (by decide) ?_
      refine lv_icmp_eq (tgt := 53) hx hb dL_goes_43 (by decide) (fun c_303 => absurd c_303 ((by decide : ¬ (6 : Int32) = 4))) (fun c_303 => ?_)
      refine lv_iload hx hb dL_goes_46 (lv_at hl 3 rfl) ?_
      refine lv_bipush (v := 6) hx hb dL_goes_48 (by decide) ?_
      refine lv_icmp_ne (tgt := 57) hx hb dL_goes_50 (by decide) (fun c_304 => absurd ((by decide : (6 : Int32) = 6)) c_304) (fun c_304 => ?_)
      refine lv_iconst (v := 1) hx hb dL_goes_53 (by decide) ?_
      refine lv_goto (tgt := 58) hx hb dL_goes_54 (by decide) ?_
      refine lv_istore (lv' := [(9, .int 1), (8, .int (nI n8)), (7, .int (nI e8)), (6, .int (-1)), (5, .int 6), (0, .ref (ad 0)), (1, .ref qa), (2, .ref qm), (3, .ref qb), (4, .int (nI i))]) hx hb dL_goes_58 hl (by decide) rfl (fun ls hl => ?_)
      refine lv_iload hx hb dL_goes_60 (lv_at hl 4 rfl) ?_
      refine lv_iconst (v := 3) hx hb dL_goes_62 (by decide) ?_
      refine lv_icmp_eq (tgt := 79) hx hb dL_goes_63 (by decide) (fun c_305 => absurd c_305 ((by decide : ¬ (6 : Int32) = 3))) (fun c_305 => ?_)
      refine lv_iload hx hb dL_goes_66 (lv_at hl 4 rfl) ?_
      refine lv_iconst (v := 5) hx hb dL_goes_68 (by decide) ?_
      refine lv_icmp_eq (tgt := 79) hx hb dL_goes_69 (by decide) (fun c_306 => absurd c_306 ((by decide : ¬ (6 : Int32) = 5))) (fun c_306 => ?_)
      refine lv_iload hx hb dL_goes_72 (lv_at hl 4 rfl) ?_
      refine lv_bipush (v := 6) hx hb dL_goes_74 (by decide) ?_
      refine lv_icmp_ne (tgt := 83) hx hb dL_goes_76 (by decide) (fun c_307 => absurd ((by decide : (6 : Int32) = 6)) c_307) (fun c_307 => ?_)
      refine lv_iconst (v := 1) hx hb dL_goes_79 (by decide) ?_
      refine lv_goto (tgt := 84) hx hb dL_goes_80 (by decide) ?_
      refine lv_istore (lv' := [(10, .int 1), (9, .int 1), (8, .int (nI n8)), (7, .int (nI e8)), (6, .int (-1)), (5, .int 6), (0, .ref (ad 0)), (1, .ref qa), (2, .ref qm), (3, .ref qb), (4, .int (nI i))]) hx hb dL_goes_84 hl (by decide) rfl (fun ls hl => ?_)
      refine lv_aload_n hx hb dL_goes_86 rfl (lv_at hl 6 rfl) ?_
      refine lv_iload hx hb dL_goes_87 (lv_at hl 10 rfl) ?_
      refine rMi (vx_runSW (As := [.ref (ad 0), .int (nI i)]) (rest := []) ⟨hx, hb, hml, hown, hts⟩ (c_L_imageOf l hst D cy ad σ sz (nI i) (nI k8) ((wI hi).trans himg)) (vx_cwSW 2 hts gL_goes_L_imageOf rfl rfl rfl (by decide +kernel) ⟨Nat.le_of_ble_eq_true rfl, Nat.le_of_ble_eq_true rfl⟩) ⟨cx_bl, cx_S hP hK NoA_z hxk hS⟩ rfl rfl hl.1 rfl (lv_room (Nat.le_of_ble_eq_true rfl)) dL_goes_89 ⟨by show _ ≤ 20; omega, by show _ ≤ 120; omega⟩) hS (fun H locs hS hg => ?_)
      have hP := hP.grown hg
      have hPa := hPa.grown hg
      have hPm := hPm.grown hg
      refine W.eq (g2 := F0 m 92 ls [.int (nI k8)]) rfl ?_
      refine lv_istore (lv' := [(11, .int (nI k8)), (10, .int 1), (9, .int 1), (8, .int (nI n8)), (7, .int (nI e8)), (6, .int (-1)), (5, .int 6), (0, .ref (ad 0)), (1, .ref qa), (2, .ref qm), (3, .ref qb), (4, .int (nI i))]) hx hb dL_goes_92 hl (by decide) rfl (fun ls hl => ?_)
      refine lv_iload hx hb dL_goes_94 (lv_at hl 6 rfl) ?_
      refine lv_iconst (v := 5) hx hb dL_goes_96 (by decide) ?_
      refine lv_icmp_ne (tgt := 104) hx hb dL_goes_97 (by decide) (fun c_308 => ?_) (fun c_308 => absurd c_308 ((by decide : ¬ (6 : Int32) = 5)))
      refine lv_iload hx hb dL_goes_104 (lv_at hl 6 rfl) ?_
      refine lv_if_ne (tgt := 113) hx hb dL_goes_106 (by decide) (fun c_309 => ?_) (fun c_309 => absurd c_309 ((by decide : ¬ (6 : Int32) = 0)))
      refine lv_iload hx hb dL_goes_113 (lv_at hl 6 rfl) ?_
      refine lv_iconst (v := 3) hx hb dL_goes_115 (by decide) ?_
      refine lv_icmp_ge (tgt := 128) hx hb dL_goes_116 (by decide) (fun c_310 => ?_) (fun c_310 => absurd ((by decide : (3 : Int32) ≤ 6)) c_310)
      refine lv_iload hx hb dL_goes_128 (lv_at hl 6 rfl) ?_
      refine lv_iconst (v := 1) hx hb dL_goes_130 (by decide) ?_
      refine lv_icmp_ne (tgt := 138) hx hb dL_goes_131 (by decide) (fun c_311 => ?_) (fun c_311 => absurd c_311 ((by decide : ¬ (6 : Int32) = 1)))
      refine lv_iload hx hb dL_goes_138 (lv_at hl 6 rfl) ?_
      refine lv_iconst (v := 2) hx hb dL_goes_140 (by decide) ?_
      refine lv_icmp_ne (tgt := 148) hx hb dL_goes_141 (by decide) (fun c_312 => ?_) (fun c_312 => absurd c_312 ((by decide : ¬ (6 : Int32) = 2)))
      refine lv_iload hx hb dL_goes_148 (lv_at hl 6 rfl) ?_
      refine lv_iconst (v := 3) hx hb dL_goes_150 (by decide) ?_
      refine lv_icmp_ne (tgt := 158) hx hb dL_goes_151 (by decide) (fun c_313 => ?_) (fun c_313 => absurd c_313 ((by decide : ¬ (6 : Int32) = 3)))
      refine lv_iload hx hb dL_goes_158 (lv_at hl 6 rfl) ?_
      refine lv_iconst (v := 4) hx hb dL_goes_160 (by decide) ?_
      refine lv_icmp_ne (tgt := 169) hx hb dL_goes_161 (by decide) (fun c_314 => ?_) (fun c_314 => absurd c_314 ((by decide : ¬ (6 : Int32) = 4)))
      refine lv_iload hx hb dL_goes_169 (lv_at hl 6 rfl) ?_
      refine lv_bipush (v := 6) hx hb dL_goes_171 (by decide) ?_
      refine lv_icmp_ne (tgt := 181) hx hb dL_goes_173 (by decide) (fun c_315 => absurd ((by decide : (6 : Int32) = 6)) c_315) (fun c_315 => ?_)
      refine lv_bipush (v := 7) hx hb dL_goes_176 (by decide) ?_
      refine lv_goto (tgt := 183) hx hb dL_goes_178 (by decide) ?_
      refine lv_istore (lv' := [(12, .int 7), (11, .int (nI k8)), (10, .int 1), (9, .int 1), (8, .int (nI n8)), (7, .int (nI e8)), (6, .int (-1)), (5, .int 6), (0, .ref (ad 0)), (1, .ref qa), (2, .ref qm), (3, .ref qb), (4, .int (nI i))]) hx hb dL_goes_183 hl (by decide) rfl (fun ls hl => ?_)
      refine lv_iload hx hb dL_goes_185 (lv_at hl 7 rfl) ?_
      refine lv_if_lt (tgt := 343) hx hb dL_goes_187 (by decide) (fun c_316 => absurd c_316 ((by decide : ¬ (6 : Int32) < 0))) (fun c_316 => ?_)
      refine lv_iload hx hb dL_goes_190 (lv_at hl 7 rfl) ?_
      refine lv_bipush (v := 8) hx hb dL_goes_192 (by decide) ?_
      refine lv_icmp_ge (tgt := 343) hx hb dL_goes_194 (by decide) (fun c_317 => absurd c_317 ((by decide : ¬ (8 : Int32) ≤ 6))) (fun c_317 => ?_)
      refine lv_aload_n hx hb dL_goes_197 rfl (lv_at hl 8 rfl) ?_
      refine lv_iload hx hb dL_goes_198 (lv_at hl 12 rfl) ?_
      refine rMi (vx_runSW (As := [.ref (ad 0), .int (nI i)]) (rest := []) ⟨hx, hb, hml, hown, hts⟩ (c_L_matchOf l hst D cy ad σ sz (nI i) ((-1)) ((wM hi).trans (by rw [hbs]; rfl))) (vx_cwSW 2 hts gL_goes_L_matchOf rfl rfl rfl (by decide +kernel) ⟨Nat.le_of_ble_eq_true rfl, Nat.le_of_ble_eq_true rfl⟩) ⟨cx_bl, cx_S hP hK NoA_z hxk hS⟩ rfl rfl hl.1 rfl (lv_room (Nat.le_of_ble_eq_true rfl)) dL_goes_200 ⟨by show _ ≤ 20; omega, by show _ ≤ 120; omega⟩) hS (fun H locs hS hg => ?_)
      have hP := hP.grown hg
      have hPa := hPa.grown hg
      have hPm := hPm.grown hg
      refine W.eq (g2 := F0 m 203 ls [.int (-1)]) rfl ?_
      refine lv_iload hx hb dL_goes_203 (lv_at hl 6 rfl) ?_
      refine lv_icmp_ne (tgt := 343) hx hb dL_goes_205 (by decide) (fun c_318 => absurd ((by decide : (-1 : Int32) = -1)) c_318) (fun c_318 => ?_)
      refine lv_aload_n hx hb dL_goes_208 rfl (lv_at hl 8 rfl) ?_
      refine lv_iload hx hb dL_goes_209 (lv_at hl 12 rfl) ?_
      refine rMi (vx_runSW (As := [.ref (ad 0), .int (nI i)]) (rest := []) ⟨hx, hb, hml, hown, hts⟩ (c_L_reason l hst D cy ad σ sz (nI i) (7) ((wR hi).trans (by rw [hbs, xs]; rfl))) (vx_cwSW 2 hts gL_goes_L_reason rfl rfl rfl (by decide +kernel) ⟨Nat.le_of_ble_eq_true rfl, Nat.le_of_ble_eq_true rfl⟩) ⟨cx_bl, cx_S hP hK NoA_z hxk hS⟩ rfl rfl hl.1 rfl (lv_room (Nat.le_of_ble_eq_true rfl)) dL_goes_211 ⟨by show _ ≤ 20; omega, by show _ ≤ 120; omega⟩) hS (fun H locs hS hg => ?_)
      have hP := hP.grown hg
      have hPa := hPa.grown hg
      have hPm := hPm.grown hg
      refine W.eq (g2 := F0 m 214 ls [.int 7]) rfl ?_
      refine lv_iload hx hb dL_goes_214 (lv_at hl 0 rfl) ?_
      refine lv_icmp_ne (tgt := 343) hx hb dL_goes_216 (by decide) (fun c_319 => absurd ((by decide : (7 : Int32) = 7)) c_319) (fun c_319 => ?_)
      refine lv_iload hx hb dL_goes_219 (lv_at hl 3 rfl) ?_
      refine lv_if_eq (tgt := 254) hx hb dL_goes_221 (by decide) (fun c_320 => absurd c_320 ((by decide : ¬ (1 : Int32) = 0))) (fun c_320 => ?_)
      refine lv_iload hx hb dL_goes_224 (lv_at hl 5 rfl) ?_
      refine lv_aload_n hx hb dL_goes_226 rfl (lv_at hl 8 rfl) ?_
      refine cS (W.runV (As := []) (rest := [.int (nI e8)]) ⟨hx, hb, hml, hown, hts⟩ (c_X3_now l D cy ad σ) (cwV 0 hts gL_goes_X3_now rfl rfl rfl (by decide +kernel) ⟨Nat.le_of_ble_eq_true rfl, Nat.le_of_ble_eq_true rfl⟩) ⟨cw_bl, cw_F hP hK, cw_at hP hK⟩ rfl rfl hl.1 rfl (lv_room (Nat.le_of_ble_eq_true rfl)) dL_goes_227 ⟨by show _ ≤ 20; omega, by show _ ≤ 120; omega⟩) (fun _ _ => ?_)
      refine W.eq (g2 := F0 m 230 ls [.int (σ 20 6), .int (nI e8)]) rfl ?_
      refine W.eq (g2 := F0 m 230 ls [.int (nI h), .int (nI e8)]) (by rw [hh]) ?_
      refine lv_icmp_le (tgt := 343) hx hb dL_goes_230 (by decide) (fun c_321 => absurd c_321 ((fun z9 => absurd ((nI_leI (a := e8) (b := h) (by omega) (by omega)).mp z9) (by omega)))) (fun c_321 => ?_)
      refine lv_iload hx hb dL_goes_233 (lv_at hl 7 rfl) ?_
      refine lv_iconst (v := 4) hx hb dL_goes_235 (by decide) ?_
      refine lv_icmp_eq (tgt := 260) hx hb dL_goes_236 (by decide) (fun c_322 => absurd c_322 ((by decide : ¬ (6 : Int32) = 4))) (fun c_322 => ?_)
      refine lv_iload hx hb dL_goes_239 (lv_at hl 5 rfl) ?_
      refine lv_aload_n hx hb dL_goes_241 rfl (lv_at hl 8 rfl) ?_
      refine cS (W.runV (As := []) (rest := [.int (nI e8)]) ⟨hx, hb, hml, hown, hts⟩ (c_X3_now l D cy ad σ) (cwV 0 hts gL_goes_X3_now rfl rfl rfl (by decide +kernel) ⟨Nat.le_of_ble_eq_true rfl, Nat.le_of_ble_eq_true rfl⟩) ⟨cw_bl, cw_F hP hK, cw_at hP hK⟩ rfl rfl hl.1 rfl (lv_room (Nat.le_of_ble_eq_true rfl)) dL_goes_242 ⟨by show _ ≤ 20; omega, by show _ ≤ 120; omega⟩) (fun _ _ => ?_)
      refine W.eq (g2 := F0 m 245 ls [.int (σ 20 6), .int (nI e8)]) rfl ?_
      refine W.eq (g2 := F0 m 245 ls [.int (nI h), .int (nI e8)]) (by rw [hh]) ?_
      refine lv_bipush (v := 48) hx hb dL_goes_245 (by decide) ?_
      refine lv_iadd hx hb dL_goes_247 ?_
      refine W.eq (congrArg (fun z9 => F0 m 248 ls [.int z9, .int (nI e8)]) (nI_add h 48)) ?_
      refine lv_icmp_gt (tgt := 343) hx hb dL_goes_248 (by decide) (fun c_323 => absurd c_323 ((fun z9 => absurd ((nI_ltI (a := h + 48) (b := e8) (by omega) (by omega)).mp z9) (by omega)))) (fun c_323 => ?_)
      refine lv_goto (tgt := 260) hx hb dL_goes_251 (by decide) ?_
      refine lv_iload hx hb dL_goes_260 (lv_at hl 2 rfl) ?_
      refine lv_if_eq (tgt := 280) hx hb dL_goes_262 (by decide) (fun c_324 => absurd c_324 ((by decide : ¬ (1 : Int32) = 0))) (fun c_324 => ?_)
      refine lv_iload hx hb dL_goes_265 (lv_at hl 1 rfl) ?_
      refine lv_if_lt (tgt := 343) hx hb dL_goes_267 (by decide) (fun c_325 => absurd c_325 ((fun z9 => absurd ((nI_ltI (a := k8) (b := 0) (by omega) (by omega)).mp z9) (by omega)))) (fun c_325 => ?_)
      refine lv_iload hx hb dL_goes_270 (lv_at hl 1 rfl) ?_
      refine lv_bipush (v := 8) hx hb dL_goes_272 (by decide) ?_
      refine lv_icmp_ge (tgt := 343) hx hb dL_goes_274 (by decide) (fun c_326 => absurd c_326 ((fun z9 => absurd ((nI_leI (a := 8) (b := k8) (by omega) (by omega)).mp z9) (by omega)))) (fun c_326 => ?_)
      refine lv_goto (tgt := 286) hx hb dL_goes_277 (by decide) ?_
      refine lv_iload hx hb dL_goes_286 (lv_at hl 4 rfl) ?_
      refine lv_if_lt (tgt := 343) hx hb dL_goes_288 (by decide) (fun c_327 => absurd c_327 ((fun z9 => absurd ((nI_ltI (a := n8) (b := 0) (by omega) (by omega)).mp z9) (by omega)))) (fun c_327 => ?_)
      refine lv_iload hx hb dL_goes_291 (lv_at hl 4 rfl) ?_
      refine lv_bipush (v := 10) hx hb dL_goes_293 (by decide) ?_
      refine lv_icmp_ge (tgt := 343) hx hb dL_goes_295 (by decide) (fun c_328 => absurd c_328 ((fun z9 => absurd ((nI_leI (a := 10) (b := n8) (by omega) (by omega)).mp z9) (by omega)))) (fun c_328 => ?_)
      refine lv_iload hx hb dL_goes_298 (lv_at hl 7 rfl) ?_
      refine lv_iconst (v := 5) hx hb dL_goes_300 (by decide) ?_
      refine lv_icmp_eq (tgt := 316) hx hb dL_goes_301 (by decide) (fun c_329 => absurd c_329 ((by decide : ¬ (6 : Int32) = 5))) (fun c_329 => ?_)
      refine lv_iload hx hb dL_goes_304 (lv_at hl 7 rfl) ?_
      refine lv_bipush (v := 6) hx hb dL_goes_306 (by decide) ?_
      refine lv_icmp_eq (tgt := 316) hx hb dL_goes_308 (by decide) (fun c_330 => ?_) (fun c_330 => absurd ((by decide : (6 : Int32) = 6)) c_330)
      refine lv_iload hx hb dL_goes_316 (lv_at hl 4 rfl) ?_
      refine lv_if_ne (tgt := 343) hx hb dL_goes_318 (by decide) (fun c_331 => absurd (((nI_eq (a := n8) (b := 0) (by omega) (by omega)).mpr (by omega))) c_331) (fun c_331 => ?_)
      refine lv_iload hx hb dL_goes_321 (lv_at hl 7 rfl) ?_
      refine lv_iconst (v := 4) hx hb dL_goes_323 (by decide) ?_
      refine lv_icmp_eq (tgt := 334) hx hb dL_goes_324 (by decide) (fun c_332 => absurd c_332 ((by decide : ¬ (6 : Int32) = 4))) (fun c_332 => ?_)
      refine lv_iload hx hb dL_goes_327 (lv_at hl 7 rfl) ?_
      refine lv_bipush (v := 7) hx hb dL_goes_329 (by decide) ?_
      refine lv_icmp_ne (tgt := 339) hx hb dL_goes_331 (by decide) (fun c_333 => ?_) (fun c_333 => absurd c_333 ((by decide : ¬ (6 : Int32) = 7)))
      refine lv_iconst (v := 1) hx hb dL_goes_339 (by decide) ?_
      refine lv_goto (tgt := 344) hx hb dL_goes_340 (by decide) ?_
      refine W.widen (k := 20) (n := 120) (by omega) (by omega) ?_
      exact W.zret (v := 1) hx hb hr rfl (fun t ht hW => ⟨⟨_, (), rfl, rfl, trivial⟩, hS.F ht⟩) hS.2.2 dL_goes_344
    · have hb8 : b < 8 := bst_lt (n := 8) hbs
      refine lv_aload_n hx hb dL_goes_0 rfl (lv_at hl 0 rfl) ?_
      refine lv_iload hx hb dL_goes_1 (lv_at hl 4 rfl) ?_
      refine rMi (vx_runSW (As := [.ref (ad 0), .int (nI i)]) (rest := []) ⟨hx, hb, hml, hown, hts⟩ (c_L_stateOf l hst D cy ad σ sz (nI i) (6) ((wS hi).trans xs)) (vx_cwSW 2 hts gL_goes_L_stateOf rfl rfl rfl (by decide +kernel) ⟨Nat.le_of_ble_eq_true rfl, Nat.le_of_ble_eq_true rfl⟩) ⟨cx_bl, cx_S hP hK NoA_z hxk hS⟩ rfl rfl hl.1 rfl (lv_room (Nat.le_of_ble_eq_true rfl)) dL_goes_3 ⟨by show _ ≤ 20; omega, by show _ ≤ 120; omega⟩) hS (fun H locs hS hg => ?_)
      have hP := hP.grown hg
      have hPa := hPa.grown hg
      have hPm := hPm.grown hg
      refine W.eq (g2 := F0 m 6 ls [.int 6]) rfl ?_
      refine lv_istore (lv' := [(5, .int 6), (0, .ref (ad 0)), (1, .ref qa), (2, .ref qm), (3, .ref qb), (4, .int (nI i))]) hx hb dL_goes_6 hl (by decide) rfl (fun ls hl => ?_)
      refine lv_aload_n hx hb dL_goes_8 rfl (lv_at hl 1 rfl) ?_
      refine lv_aload_n hx hb dL_goes_9 rfl (lv_at hl 2 rfl) ?_
      refine lv_aload_n hx hb dL_goes_10 rfl (lv_at hl 3 rfl) ?_
      refine lv_iload hx hb dL_goes_11 (lv_at hl 5 rfl) ?_
      refine rMi (va_runS (As := [.ref (ad 0), .ref qa, .ref qm, .int (nI i)]) (rest := []) ⟨hx, hb, hml, hown, hts⟩ (c_L_match l hst D cy ad σ sz qa qm fa fm fb i hi ⟨_, x1, x2⟩ hT) (va_cwS 4 hts gL_goes_L_match rfl rfl rfl (by decide +kernel) ⟨Nat.le_of_ble_eq_true rfl, Nat.le_of_ble_eq_true rfl⟩) ⟨aX_bl, aX_S hP hK NoA_z hxk hS hPa hPm⟩ rfl rfl hl.1 rfl (lv_room (Nat.le_of_ble_eq_true rfl)) dL_goes_13 ⟨by show _ ≤ 20; omega, by show _ ≤ 120; omega⟩) hS (fun H locs hS hg => ?_)
      have hP := hP.grown hg
      have hPa := hPa.grown hg
      have hPm := hPm.grown hg
      refine W.eq (g2 := F0 m 16 ls [.int (nI b)]) (by rw [hbs]; rfl) ?_
      refine lv_istore (lv' := [(6, .int (nI b)), (5, .int 6), (0, .ref (ad 0)), (1, .ref qa), (2, .ref qm), (3, .ref qb), (4, .int (nI i))]) hx hb dL_goes_16 hl (by decide) rfl (fun ls hl => ?_)
      refine lv_aload_n hx hb dL_goes_18 rfl (lv_at hl 2 rfl) ?_
      refine lv_iload hx hb dL_goes_19 (lv_at hl 6 rfl) ?_
      refine rMi (vx_runSW (As := [.ref (ad 0), .int (nI i)]) (rest := []) ⟨hx, hb, hml, hown, hts⟩ (c_L_endOf l hst D cy ad σ sz (nI i) (nI e8) ((wE hi).trans hend)) (vx_cwSW 2 hts gL_goes_L_endOf rfl rfl rfl (by decide +kernel) ⟨Nat.le_of_ble_eq_true rfl, Nat.le_of_ble_eq_true rfl⟩) ⟨cx_bl, cx_S hP hK NoA_z hxk hS⟩ rfl rfl hl.1 rfl (lv_room (Nat.le_of_ble_eq_true rfl)) dL_goes_21 ⟨by show _ ≤ 20; omega, by show _ ≤ 120; omega⟩) hS (fun H locs hS hg => ?_)
      have hP := hP.grown hg
      have hPa := hPa.grown hg
      have hPm := hPm.grown hg
      refine W.eq (g2 := F0 m 24 ls [.int (nI e8)]) rfl ?_
      refine lv_istore (lv' := [(7, .int (nI e8)), (6, .int (nI b)), (5, .int 6), (0, .ref (ad 0)), (1, .ref qa), (2, .ref qm), (3, .ref qb), (4, .int (nI i))]) hx hb dL_goes_24 hl (by decide) rfl (fun ls hl => ?_)
      refine lv_aload_n hx hb dL_goes_26 rfl (lv_at hl 3 rfl) ?_
      refine lv_iload hx hb dL_goes_27 (lv_at hl 7 rfl) ?_
      refine rMi (vx_runSW (As := [.ref (ad 0), .int (nI i)]) (rest := []) ⟨hx, hb, hml, hown, hts⟩ (c_L_failuresOf l hst D cy ad σ sz (nI i) (nI n8) ((wF hi).trans x5)) (vx_cwSW 2 hts gL_goes_L_failuresOf rfl rfl rfl (by decide +kernel) ⟨Nat.le_of_ble_eq_true rfl, Nat.le_of_ble_eq_true rfl⟩) ⟨cx_bl, cx_S hP hK NoA_z hxk hS⟩ rfl rfl hl.1 rfl (lv_room (Nat.le_of_ble_eq_true rfl)) dL_goes_29 ⟨by show _ ≤ 20; omega, by show _ ≤ 120; omega⟩) hS (fun H locs hS hg => ?_)
      have hP := hP.grown hg
      have hPa := hPa.grown hg
      have hPm := hPm.grown hg
      refine W.eq (g2 := F0 m 32 ls [.int (nI n8)]) rfl ?_
      refine lv_istore (lv' := [(8, .int (nI n8)), (7, .int (nI e8)), (6, .int (nI b)), (5, .int 6), (0, .ref (ad 0)), (1, .ref qa), (2, .ref qm), (3, .ref qb), (4, .int (nI i))]) hx hb dL_goes_32 hl (by decide) rfl (fun ls hl => ?_)
      refine lv_iload hx hb dL_goes_34 (lv_at hl 3 rfl) ?_
      refine lv_iconst (v := 3) hx hb dL_goes_36 (by decide) ?_
      refine lv_icmp_eq (tgt := 53) hx hb dL_goes_37 (by decide) (fun c_334 => absurd c_334 ((by decide : ¬ (6 : Int32) = 3))) (fun c_334 => ?_)
      refine lv_iload hx hb dL_goes_40 (lv_at hl 3 rfl) ?_
      refine lv_iconst (v := 4) hx hb dL_goes_42 (by decide) ?_
      refine lv_icmp_eq (tgt := 53) hx hb dL_goes_43 (by decide) (fun c_335 => absurd c_335 ((by decide : ¬ (6 : Int32) = 4))) (fun c_335 => ?_)
      refine lv_iload hx hb dL_goes_46 (lv_at hl 3 rfl) ?_
      refine lv_bipush (v := 6) hx hb dL_goes_48 (by decide) ?_
      refine lv_icmp_ne (tgt := 57) hx hb dL_goes_50 (by decide) (fun c_336 => absurd ((by decide : (6 : Int32) = 6)) c_336) (fun c_336 => ?_)
      refine lv_iconst (v := 1) hx hb dL_goes_53 (by decide) ?_
      refine lv_goto (tgt := 58) hx hb dL_goes_54 (by decide) ?_
      refine lv_istore (lv' := [(9, .int 1), (8, .int (nI n8)), (7, .int (nI e8)), (6, .int (nI b)), (5, .int 6), (0, .ref (ad 0)), (1, .ref qa), (2, .ref qm), (3, .ref qb), (4, .int (nI i))]) hx hb dL_goes_58 hl (by decide) rfl (fun ls hl => ?_)
      refine lv_iload hx hb dL_goes_60 (lv_at hl 4 rfl) ?_
      refine lv_iconst (v := 3) hx hb dL_goes_62 (by decide) ?_
      refine lv_icmp_eq (tgt := 79) hx hb dL_goes_63 (by decide) (fun c_337 => absurd c_337 ((by decide : ¬ (6 : Int32) = 3))) (fun c_337 => ?_)
      refine lv_iload hx hb dL_goes_66 (lv_at hl 4 rfl) ?_
      refine lv_iconst (v := 5) hx hb dL_goes_68 (by decide) ?_
      refine lv_icmp_eq (tgt := 79) hx hb dL_goes_69 (by decide) (fun c_338 => absurd c_338 ((by decide : ¬ (6 : Int32) = 5))) (fun c_338 => ?_)
      refine lv_iload hx hb dL_goes_72 (lv_at hl 4 rfl) ?_
      refine lv_bipush (v := 6) hx hb dL_goes_74 (by decide) ?_
      refine lv_icmp_ne (tgt := 83) hx hb dL_goes_76 (by decide) (fun c_339 => absurd ((by decide : (6 : Int32) = 6)) c_339) (fun c_339 => ?_)
      refine lv_iconst (v := 1) hx hb dL_goes_79 (by decide) ?_
      refine lv_goto (tgt := 84) hx hb dL_goes_80 (by decide) ?_
      refine lv_istore (lv' := [(10, .int 1), (9, .int 1), (8, .int (nI n8)), (7, .int (nI e8)), (6, .int (nI b)), (5, .int 6), (0, .ref (ad 0)), (1, .ref qa), (2, .ref qm), (3, .ref qb), (4, .int (nI i))]) hx hb dL_goes_84 hl (by decide) rfl (fun ls hl => ?_)
      refine lv_aload_n hx hb dL_goes_86 rfl (lv_at hl 6 rfl) ?_
      refine lv_iload hx hb dL_goes_87 (lv_at hl 10 rfl) ?_
      refine rMi (vx_runSW (As := [.ref (ad 0), .int (nI i)]) (rest := []) ⟨hx, hb, hml, hown, hts⟩ (c_L_imageOf l hst D cy ad σ sz (nI i) (nI k8) ((wI hi).trans himg)) (vx_cwSW 2 hts gL_goes_L_imageOf rfl rfl rfl (by decide +kernel) ⟨Nat.le_of_ble_eq_true rfl, Nat.le_of_ble_eq_true rfl⟩) ⟨cx_bl, cx_S hP hK NoA_z hxk hS⟩ rfl rfl hl.1 rfl (lv_room (Nat.le_of_ble_eq_true rfl)) dL_goes_89 ⟨by show _ ≤ 20; omega, by show _ ≤ 120; omega⟩) hS (fun H locs hS hg => ?_)
      have hP := hP.grown hg
      have hPa := hPa.grown hg
      have hPm := hPm.grown hg
      refine W.eq (g2 := F0 m 92 ls [.int (nI k8)]) rfl ?_
      refine lv_istore (lv' := [(11, .int (nI k8)), (10, .int 1), (9, .int 1), (8, .int (nI n8)), (7, .int (nI e8)), (6, .int (nI b)), (5, .int 6), (0, .ref (ad 0)), (1, .ref qa), (2, .ref qm), (3, .ref qb), (4, .int (nI i))]) hx hb dL_goes_92 hl (by decide) rfl (fun ls hl => ?_)
      refine lv_iload hx hb dL_goes_94 (lv_at hl 6 rfl) ?_
      refine lv_iconst (v := 5) hx hb dL_goes_96 (by decide) ?_
      refine lv_icmp_ne (tgt := 104) hx hb dL_goes_97 (by decide) (fun c_340 => ?_) (fun c_340 => absurd c_340 ((by decide : ¬ (6 : Int32) = 5)))
      refine lv_iload hx hb dL_goes_104 (lv_at hl 6 rfl) ?_
      refine lv_if_ne (tgt := 113) hx hb dL_goes_106 (by decide) (fun c_341 => ?_) (fun c_341 => absurd c_341 ((by decide : ¬ (6 : Int32) = 0)))
      refine lv_iload hx hb dL_goes_113 (lv_at hl 6 rfl) ?_
      refine lv_iconst (v := 3) hx hb dL_goes_115 (by decide) ?_
      refine lv_icmp_ge (tgt := 128) hx hb dL_goes_116 (by decide) (fun c_342 => ?_) (fun c_342 => absurd ((by decide : (3 : Int32) ≤ 6)) c_342)
      refine lv_iload hx hb dL_goes_128 (lv_at hl 6 rfl) ?_
      refine lv_iconst (v := 1) hx hb dL_goes_130 (by decide) ?_
      refine lv_icmp_ne (tgt := 138) hx hb dL_goes_131 (by decide) (fun c_343 => ?_) (fun c_343 => absurd c_343 ((by decide : ¬ (6 : Int32) = 1)))
      refine lv_iload hx hb dL_goes_138 (lv_at hl 6 rfl) ?_
      refine lv_iconst (v := 2) hx hb dL_goes_140 (by decide) ?_
      refine lv_icmp_ne (tgt := 148) hx hb dL_goes_141 (by decide) (fun c_344 => ?_) (fun c_344 => absurd c_344 ((by decide : ¬ (6 : Int32) = 2)))
      refine lv_iload hx hb dL_goes_148 (lv_at hl 6 rfl) ?_
      refine lv_iconst (v := 3) hx hb dL_goes_150 (by decide) ?_
      refine lv_icmp_ne (tgt := 158) hx hb dL_goes_151 (by decide) (fun c_345 => ?_) (fun c_345 => absurd c_345 ((by decide : ¬ (6 : Int32) = 3)))
      refine lv_iload hx hb dL_goes_158 (lv_at hl 6 rfl) ?_
      refine lv_iconst (v := 4) hx hb dL_goes_160 (by decide) ?_
      refine lv_icmp_ne (tgt := 169) hx hb dL_goes_161 (by decide) (fun c_346 => ?_) (fun c_346 => absurd c_346 ((by decide : ¬ (6 : Int32) = 4)))
      refine lv_iload hx hb dL_goes_169 (lv_at hl 6 rfl) ?_
      refine lv_bipush (v := 6) hx hb dL_goes_171 (by decide) ?_
      refine lv_icmp_ne (tgt := 181) hx hb dL_goes_173 (by decide) (fun c_347 => absurd ((by decide : (6 : Int32) = 6)) c_347) (fun c_347 => ?_)
      refine lv_bipush (v := 7) hx hb dL_goes_176 (by decide) ?_
      refine lv_goto (tgt := 183) hx hb dL_goes_178 (by decide) ?_
      refine lv_istore (lv' := [(12, .int 7), (11, .int (nI k8)), (10, .int 1), (9, .int 1), (8, .int (nI n8)), (7, .int (nI e8)), (6, .int (nI b)), (5, .int 6), (0, .ref (ad 0)), (1, .ref qa), (2, .ref qm), (3, .ref qb), (4, .int (nI i))]) hx hb dL_goes_183 hl (by decide) rfl (fun ls hl => ?_)
      refine lv_iload hx hb dL_goes_185 (lv_at hl 7 rfl) ?_
      refine lv_if_lt (tgt := 343) hx hb dL_goes_187 (by decide) (fun c_348 => absurd c_348 ((by decide : ¬ (6 : Int32) < 0))) (fun c_348 => ?_)
      refine lv_iload hx hb dL_goes_190 (lv_at hl 7 rfl) ?_
      refine lv_bipush (v := 8) hx hb dL_goes_192 (by decide) ?_
      refine lv_icmp_ge (tgt := 343) hx hb dL_goes_194 (by decide) (fun c_349 => absurd c_349 ((by decide : ¬ (8 : Int32) ≤ 6))) (fun c_349 => ?_)
      refine lv_aload_n hx hb dL_goes_197 rfl (lv_at hl 8 rfl) ?_
      refine lv_iload hx hb dL_goes_198 (lv_at hl 12 rfl) ?_
      refine rMi (vx_runSW (As := [.ref (ad 0), .int (nI i)]) (rest := []) ⟨hx, hb, hml, hown, hts⟩ (c_L_matchOf l hst D cy ad σ sz (nI i) (nI b) ((wM hi).trans (by rw [hbs]; rfl))) (vx_cwSW 2 hts gL_goes_L_matchOf rfl rfl rfl (by decide +kernel) ⟨Nat.le_of_ble_eq_true rfl, Nat.le_of_ble_eq_true rfl⟩) ⟨cx_bl, cx_S hP hK NoA_z hxk hS⟩ rfl rfl hl.1 rfl (lv_room (Nat.le_of_ble_eq_true rfl)) dL_goes_200 ⟨by show _ ≤ 20; omega, by show _ ≤ 120; omega⟩) hS (fun H locs hS hg => ?_)
      have hP := hP.grown hg
      have hPa := hPa.grown hg
      have hPm := hPm.grown hg
      refine W.eq (g2 := F0 m 203 ls [.int (nI b)]) rfl ?_
      refine lv_iload hx hb dL_goes_203 (lv_at hl 6 rfl) ?_
      refine lv_icmp_ne (tgt := 343) hx hb dL_goes_205 (by decide) (fun c_350 => absurd (rfl) c_350) (fun c_350 => ?_)
      refine lv_aload_n hx hb dL_goes_208 rfl (lv_at hl 8 rfl) ?_
      refine lv_iload hx hb dL_goes_209 (lv_at hl 12 rfl) ?_
      refine rMi (vx_runSW (As := [.ref (ad 0), .int (nI i)]) (rest := []) ⟨hx, hb, hml, hown, hts⟩ (c_L_reason l hst D cy ad σ sz (nI i) (7) ((wR hi).trans (by rw [hbs, xs]; rfl))) (vx_cwSW 2 hts gL_goes_L_reason rfl rfl rfl (by decide +kernel) ⟨Nat.le_of_ble_eq_true rfl, Nat.le_of_ble_eq_true rfl⟩) ⟨cx_bl, cx_S hP hK NoA_z hxk hS⟩ rfl rfl hl.1 rfl (lv_room (Nat.le_of_ble_eq_true rfl)) dL_goes_211 ⟨by show _ ≤ 20; omega, by show _ ≤ 120; omega⟩) hS (fun H locs hS hg => ?_)
      have hP := hP.grown hg
      have hPa := hPa.grown hg
      have hPm := hPm.grown hg
      refine W.eq (g2 := F0 m 214 ls [.int 7]) rfl ?_
      refine lv_iload hx hb dL_goes_214 (lv_at hl 0 rfl) ?_
      refine lv_icmp_ne (tgt := 343) hx hb dL_goes_216 (by decide) (fun c_351 => absurd ((by decide : (7 : Int32) = 7)) c_351) (fun c_351 => ?_)
      refine lv_iload hx hb dL_goes_219 (lv_at hl 3 rfl) ?_
      refine lv_if_eq (tgt := 254) hx hb dL_goes_221 (by decide) (fun c_352 => absurd c_352 ((by decide : ¬ (1 : Int32) = 0))) (fun c_352 => ?_)
      refine lv_iload hx hb dL_goes_224 (lv_at hl 5 rfl) ?_
      refine lv_aload_n hx hb dL_goes_226 rfl (lv_at hl 8 rfl) ?_
      refine cS (W.runV (As := []) (rest := [.int (nI e8)]) ⟨hx, hb, hml, hown, hts⟩ (c_X3_now l D cy ad σ) (cwV 0 hts gL_goes_X3_now rfl rfl rfl (by decide +kernel) ⟨Nat.le_of_ble_eq_true rfl, Nat.le_of_ble_eq_true rfl⟩) ⟨cw_bl, cw_F hP hK, cw_at hP hK⟩ rfl rfl hl.1 rfl (lv_room (Nat.le_of_ble_eq_true rfl)) dL_goes_227 ⟨by show _ ≤ 20; omega, by show _ ≤ 120; omega⟩) (fun _ _ => ?_)
      refine W.eq (g2 := F0 m 230 ls [.int (σ 20 6), .int (nI e8)]) rfl ?_
      refine W.eq (g2 := F0 m 230 ls [.int (nI h), .int (nI e8)]) (by rw [hh]) ?_
      refine lv_icmp_le (tgt := 343) hx hb dL_goes_230 (by decide) (fun c_353 => absurd c_353 ((fun z9 => absurd ((nI_leI (a := e8) (b := h) (by omega) (by omega)).mp z9) (by omega)))) (fun c_353 => ?_)
      refine lv_iload hx hb dL_goes_233 (lv_at hl 7 rfl) ?_
      refine lv_iconst (v := 4) hx hb dL_goes_235 (by decide) ?_
      refine lv_icmp_eq (tgt := 260) hx hb dL_goes_236 (by decide) (fun c_354 => absurd c_354 ((by decide : ¬ (6 : Int32) = 4))) (fun c_354 => ?_)
      refine lv_iload hx hb dL_goes_239 (lv_at hl 5 rfl) ?_
      refine lv_aload_n hx hb dL_goes_241 rfl (lv_at hl 8 rfl) ?_
      refine cS (W.runV (As := []) (rest := [.int (nI e8)]) ⟨hx, hb, hml, hown, hts⟩ (c_X3_now l D cy ad σ) (cwV 0 hts gL_goes_X3_now rfl rfl rfl (by decide +kernel) ⟨Nat.le_of_ble_eq_true rfl, Nat.le_of_ble_eq_true rfl⟩) ⟨cw_bl, cw_F hP hK, cw_at hP hK⟩ rfl rfl hl.1 rfl (lv_room (Nat.le_of_ble_eq_true rfl)) dL_goes_242 ⟨by show _ ≤ 20; omega, by show _ ≤ 120; omega⟩) (fun _ _ => ?_)
      refine W.eq (g2 := F0 m 245 ls [.int (σ 20 6), .int (nI e8)]) rfl ?_
      refine W.eq (g2 := F0 m 245 ls [.int (nI h), .int (nI e8)]) (by rw [hh]) ?_
      refine lv_bipush (v := 48) hx hb dL_goes_245 (by decide) ?_
      refine lv_iadd hx hb dL_goes_247 ?_
      refine W.eq (congrArg (fun z9 => F0 m 248 ls [.int z9, .int (nI e8)]) (nI_add h 48)) ?_
      refine lv_icmp_gt (tgt := 343) hx hb dL_goes_248 (by decide) (fun c_355 => absurd c_355 ((fun z9 => absurd ((nI_ltI (a := h + 48) (b := e8) (by omega) (by omega)).mp z9) (by omega)))) (fun c_355 => ?_)
      refine lv_goto (tgt := 260) hx hb dL_goes_251 (by decide) ?_
      refine lv_iload hx hb dL_goes_260 (lv_at hl 2 rfl) ?_
      refine lv_if_eq (tgt := 280) hx hb dL_goes_262 (by decide) (fun c_356 => absurd c_356 ((by decide : ¬ (1 : Int32) = 0))) (fun c_356 => ?_)
      refine lv_iload hx hb dL_goes_265 (lv_at hl 1 rfl) ?_
      refine lv_if_lt (tgt := 343) hx hb dL_goes_267 (by decide) (fun c_357 => absurd c_357 ((fun z9 => absurd ((nI_ltI (a := k8) (b := 0) (by omega) (by omega)).mp z9) (by omega)))) (fun c_357 => ?_)
      refine lv_iload hx hb dL_goes_270 (lv_at hl 1 rfl) ?_
      refine lv_bipush (v := 8) hx hb dL_goes_272 (by decide) ?_
      refine lv_icmp_ge (tgt := 343) hx hb dL_goes_274 (by decide) (fun c_358 => absurd c_358 ((fun z9 => absurd ((nI_leI (a := 8) (b := k8) (by omega) (by omega)).mp z9) (by omega)))) (fun c_358 => ?_)
      refine lv_goto (tgt := 286) hx hb dL_goes_277 (by decide) ?_
      refine lv_iload hx hb dL_goes_286 (lv_at hl 4 rfl) ?_
      refine lv_if_lt (tgt := 343) hx hb dL_goes_288 (by decide) (fun c_359 => absurd c_359 ((fun z9 => absurd ((nI_ltI (a := n8) (b := 0) (by omega) (by omega)).mp z9) (by omega)))) (fun c_359 => ?_)
      refine lv_iload hx hb dL_goes_291 (lv_at hl 4 rfl) ?_
      refine lv_bipush (v := 10) hx hb dL_goes_293 (by decide) ?_
      refine lv_icmp_ge (tgt := 343) hx hb dL_goes_295 (by decide) (fun c_360 => absurd c_360 ((fun z9 => absurd ((nI_leI (a := 10) (b := n8) (by omega) (by omega)).mp z9) (by omega)))) (fun c_360 => ?_)
      refine lv_iload hx hb dL_goes_298 (lv_at hl 7 rfl) ?_
      refine lv_iconst (v := 5) hx hb dL_goes_300 (by decide) ?_
      refine lv_icmp_eq (tgt := 316) hx hb dL_goes_301 (by decide) (fun c_361 => absurd c_361 ((by decide : ¬ (6 : Int32) = 5))) (fun c_361 => ?_)
      refine lv_iload hx hb dL_goes_304 (lv_at hl 7 rfl) ?_
      refine lv_bipush (v := 6) hx hb dL_goes_306 (by decide) ?_
      refine lv_icmp_eq (tgt := 316) hx hb dL_goes_308 (by decide) (fun c_362 => ?_) (fun c_362 => absurd ((by decide : (6 : Int32) = 6)) c_362)
      refine lv_iload hx hb dL_goes_316 (lv_at hl 4 rfl) ?_
      refine lv_if_ne (tgt := 343) hx hb dL_goes_318 (by decide) (fun c_363 => absurd (((nI_eq (a := n8) (b := 0) (by omega) (by omega)).mpr (by omega))) c_363) (fun c_363 => ?_)
      refine lv_iload hx hb dL_goes_321 (lv_at hl 7 rfl) ?_
      refine lv_iconst (v := 4) hx hb dL_goes_323 (by decide) ?_
      refine lv_icmp_eq (tgt := 334) hx hb dL_goes_324 (by decide) (fun c_364 => absurd c_364 ((by decide : ¬ (6 : Int32) = 4))) (fun c_364 => ?_)
      refine lv_iload hx hb dL_goes_327 (lv_at hl 7 rfl) ?_
      refine lv_bipush (v := 7) hx hb dL_goes_329 (by decide) ?_
      refine lv_icmp_ne (tgt := 339) hx hb dL_goes_331 (by decide) (fun c_365 => ?_) (fun c_365 => absurd c_365 ((by decide : ¬ (6 : Int32) = 7)))
      refine lv_iconst (v := 1) hx hb dL_goes_339 (by decide) ?_
      refine lv_goto (tgt := 344) hx hb dL_goes_340 (by decide) ?_
      refine W.widen (k := 20) (n := 120) (by omega) (by omega) ?_
      exact W.zret (v := 1) hx hb hr rfl (fun t ht hW => ⟨⟨_, (), rfl, rfl, trivial⟩, hS.F ht⟩) hS.2.2 dL_goes_344
  · have xs : σ 1 i = 7 := x2
    have hend : (if sEnds σ i = true then σ 8 i else -1) = -1 := by rw [hE.2 (by omega)]; rfl
    have himg : (if sBears σ i = true then σ 7 i else -1) = -1 := by rw [hB.2 (by omega)]; rfl
    have n0 := x9 (by omega)
    rcases hbs : sBst σ i with _ | b
    · refine lv_aload_n hx hb dL_goes_0 rfl (lv_at hl 0 rfl) ?_
      refine lv_iload hx hb dL_goes_1 (lv_at hl 4 rfl) ?_
      refine rMi (vx_runSW (As := [.ref (ad 0), .int (nI i)]) (rest := []) ⟨hx, hb, hml, hown, hts⟩ (c_L_stateOf l hst D cy ad σ sz (nI i) (7) ((wS hi).trans xs)) (vx_cwSW 2 hts gL_goes_L_stateOf rfl rfl rfl (by decide +kernel) ⟨Nat.le_of_ble_eq_true rfl, Nat.le_of_ble_eq_true rfl⟩) ⟨cx_bl, cx_S hP hK NoA_z hxk hS⟩ rfl rfl hl.1 rfl (lv_room (Nat.le_of_ble_eq_true rfl)) dL_goes_3 ⟨by show _ ≤ 20; omega, by show _ ≤ 120; omega⟩) hS (fun H locs hS hg => ?_)
      have hP := hP.grown hg
      have hPa := hPa.grown hg
      have hPm := hPm.grown hg
      refine W.eq (g2 := F0 m 6 ls [.int 7]) rfl ?_
      refine lv_istore (lv' := [(5, .int 7), (0, .ref (ad 0)), (1, .ref qa), (2, .ref qm), (3, .ref qb), (4, .int (nI i))]) hx hb dL_goes_6 hl (by decide) rfl (fun ls hl => ?_)
      refine lv_aload_n hx hb dL_goes_8 rfl (lv_at hl 1 rfl) ?_
      refine lv_aload_n hx hb dL_goes_9 rfl (lv_at hl 2 rfl) ?_
      refine lv_aload_n hx hb dL_goes_10 rfl (lv_at hl 3 rfl) ?_
      refine lv_iload hx hb dL_goes_11 (lv_at hl 5 rfl) ?_
      refine rMi (va_runS (As := [.ref (ad 0), .ref qa, .ref qm, .int (nI i)]) (rest := []) ⟨hx, hb, hml, hown, hts⟩ (c_L_match l hst D cy ad σ sz qa qm fa fm fb i hi ⟨_, x1, x2⟩ hT) (va_cwS 4 hts gL_goes_L_match rfl rfl rfl (by decide +kernel) ⟨Nat.le_of_ble_eq_true rfl, Nat.le_of_ble_eq_true rfl⟩) ⟨aX_bl, aX_S hP hK NoA_z hxk hS hPa hPm⟩ rfl rfl hl.1 rfl (lv_room (Nat.le_of_ble_eq_true rfl)) dL_goes_13 ⟨by show _ ≤ 20; omega, by show _ ≤ 120; omega⟩) hS (fun H locs hS hg => ?_)
      have hP := hP.grown hg
      have hPa := hPa.grown hg
      have hPm := hPm.grown hg
      refine W.eq (g2 := F0 m 16 ls [.int (-1)]) (by rw [hbs]; rfl) ?_
      refine lv_istore (lv' := [(6, .int (-1)), (5, .int 7), (0, .ref (ad 0)), (1, .ref qa), (2, .ref qm), (3, .ref qb), (4, .int (nI i))]) hx hb dL_goes_16 hl (by decide) rfl (fun ls hl => ?_)
      refine lv_aload_n hx hb dL_goes_18 rfl (lv_at hl 2 rfl) ?_
      refine lv_iload hx hb dL_goes_19 (lv_at hl 6 rfl) ?_
      refine rMi (vx_runSW (As := [.ref (ad 0), .int (nI i)]) (rest := []) ⟨hx, hb, hml, hown, hts⟩ (c_L_endOf l hst D cy ad σ sz (nI i) ((-1)) ((wE hi).trans hend)) (vx_cwSW 2 hts gL_goes_L_endOf rfl rfl rfl (by decide +kernel) ⟨Nat.le_of_ble_eq_true rfl, Nat.le_of_ble_eq_true rfl⟩) ⟨cx_bl, cx_S hP hK NoA_z hxk hS⟩ rfl rfl hl.1 rfl (lv_room (Nat.le_of_ble_eq_true rfl)) dL_goes_21 ⟨by show _ ≤ 20; omega, by show _ ≤ 120; omega⟩) hS (fun H locs hS hg => ?_)
      have hP := hP.grown hg
      have hPa := hPa.grown hg
      have hPm := hPm.grown hg
      refine W.eq (g2 := F0 m 24 ls [.int (-1)]) rfl ?_
      refine lv_istore (lv' := [(7, .int (-1)), (6, .int (-1)), (5, .int 7), (0, .ref (ad 0)), (1, .ref qa), (2, .ref qm), (3, .ref qb), (4, .int (nI i))]) hx hb dL_goes_24 hl (by decide) rfl (fun ls hl => ?_)
      refine lv_aload_n hx hb dL_goes_26 rfl (lv_at hl 3 rfl) ?_
      refine lv_iload hx hb dL_goes_27 (lv_at hl 7 rfl) ?_
      refine rMi (vx_runSW (As := [.ref (ad 0), .int (nI i)]) (rest := []) ⟨hx, hb, hml, hown, hts⟩ (c_L_failuresOf l hst D cy ad σ sz (nI i) (nI n8) ((wF hi).trans x5)) (vx_cwSW 2 hts gL_goes_L_failuresOf rfl rfl rfl (by decide +kernel) ⟨Nat.le_of_ble_eq_true rfl, Nat.le_of_ble_eq_true rfl⟩) ⟨cx_bl, cx_S hP hK NoA_z hxk hS⟩ rfl rfl hl.1 rfl (lv_room (Nat.le_of_ble_eq_true rfl)) dL_goes_29 ⟨by show _ ≤ 20; omega, by show _ ≤ 120; omega⟩) hS (fun H locs hS hg => ?_)
      have hP := hP.grown hg
      have hPa := hPa.grown hg
      have hPm := hPm.grown hg
      refine W.eq (g2 := F0 m 32 ls [.int (nI n8)]) rfl ?_
      refine lv_istore (lv' := [(8, .int (nI n8)), (7, .int (-1)), (6, .int (-1)), (5, .int 7), (0, .ref (ad 0)), (1, .ref qa), (2, .ref qm), (3, .ref qb), (4, .int (nI i))]) hx hb dL_goes_32 hl (by decide) rfl (fun ls hl => ?_)
      refine lv_iload hx hb dL_goes_34 (lv_at hl 3 rfl) ?_
      refine lv_iconst (v := 3) hx hb dL_goes_36 (by decide) ?_
      refine lv_icmp_eq (tgt := 53) hx hb dL_goes_37 (by decide) (fun c_366 => absurd c_366 ((by decide : ¬ (7 : Int32) = 3))) (fun c_366 => ?_)
      refine lv_iload hx hb dL_goes_40 (lv_at hl 3 rfl) ?_
      refine lv_iconst (v := 4) hx hb dL_goes_42 (by decide) ?_
      refine lv_icmp_eq (tgt := 53) hx hb dL_goes_43 (by decide) (fun c_367 => absurd c_367 ((by decide : ¬ (7 : Int32) = 4))) (fun c_367 => ?_)
      refine lv_iload hx hb dL_goes_46 (lv_at hl 3 rfl) ?_
      refine lv_bipush (v := 6) hx hb dL_goes_48 (by decide) ?_
      refine lv_icmp_ne (tgt := 57) hx hb dL_goes_50 (by decide) (fun c_368 => ?_) (fun c_368 => absurd c_368 ((by decide : ¬ (7 : Int32) = 6)))
      refine lv_iconst (v := 0) hx hb dL_goes_57 (by decide) ?_
      refine lv_istore (lv' := [(9, .int 0), (8, .int (nI n8)), (7, .int (-1)), (6, .int (-1)), (5, .int 7), (0, .ref (ad 0)), (1, .ref qa), (2, .ref qm), (3, .ref qb), (4, .int (nI i))]) hx hb dL_goes_58 hl (by decide) rfl (fun ls hl => ?_)
      refine lv_iload hx hb dL_goes_60 (lv_at hl 4 rfl) ?_
      refine lv_iconst (v := 3) hx hb dL_goes_62 (by decide) ?_
      refine lv_icmp_eq (tgt := 79) hx hb dL_goes_63 (by decide) (fun c_369 => absurd c_369 ((by decide : ¬ (7 : Int32) = 3))) (fun c_369 => ?_)
      refine lv_iload hx hb dL_goes_66 (lv_at hl 4 rfl) ?_
      refine lv_iconst (v := 5) hx hb dL_goes_68 (by decide) ?_
      refine lv_icmp_eq (tgt := 79) hx hb dL_goes_69 (by decide) (fun c_370 => absurd c_370 ((by decide : ¬ (7 : Int32) = 5))) (fun c_370 => ?_)
      refine lv_iload hx hb dL_goes_72 (lv_at hl 4 rfl) ?_
      refine lv_bipush (v := 6) hx hb dL_goes_74 (by decide) ?_
      refine lv_icmp_ne (tgt := 83) hx hb dL_goes_76 (by decide) (fun c_371 => ?_) (fun c_371 => absurd c_371 ((by decide : ¬ (7 : Int32) = 6)))
      refine lv_iconst (v := 0) hx hb dL_goes_83 (by decide) ?_
      refine lv_istore (lv' := [(10, .int 0), (9, .int 0), (8, .int (nI n8)), (7, .int (-1)), (6, .int (-1)), (5, .int 7), (0, .ref (ad 0)), (1, .ref qa), (2, .ref qm), (3, .ref qb), (4, .int (nI i))]) hx hb dL_goes_84 hl (by decide) rfl (fun ls hl => ?_)
      refine lv_aload_n hx hb dL_goes_86 rfl (lv_at hl 6 rfl) ?_
      refine lv_iload hx hb dL_goes_87 (lv_at hl 10 rfl) ?_
      refine rMi (vx_runSW (As := [.ref (ad 0), .int (nI i)]) (rest := []) ⟨hx, hb, hml, hown, hts⟩ (c_L_imageOf l hst D cy ad σ sz (nI i) ((-1)) ((wI hi).trans himg)) (vx_cwSW 2 hts gL_goes_L_imageOf rfl rfl rfl (by decide +kernel) ⟨Nat.le_of_ble_eq_true rfl, Nat.le_of_ble_eq_true rfl⟩) ⟨cx_bl, cx_S hP hK NoA_z hxk hS⟩ rfl rfl hl.1 rfl (lv_room (Nat.le_of_ble_eq_true rfl)) dL_goes_89 ⟨by show _ ≤ 20; omega, by show _ ≤ 120; omega⟩) hS (fun H locs hS hg => ?_)
      have hP := hP.grown hg
      have hPa := hPa.grown hg
      have hPm := hPm.grown hg
      refine W.eq (g2 := F0 m 92 ls [.int (-1)]) rfl ?_
      refine lv_istore (lv' := [(11, .int (-1)), (10, .int 0), (9, .int 0), (8, .int (nI n8)), (7, .int (-1)), (6, .int (-1)), (5, .int 7), (0, .ref (ad 0)), (1, .ref qa), (2, .ref qm), (3, .ref qb), (4, .int (nI i))]) hx hb dL_goes_92 hl (by decide) rfl (fun ls hl => ?_)
      refine lv_iload hx hb dL_goes_94 (lv_at hl 6 rfl) ?_
      refine lv_iconst (v := 5) hx hb dL_goes_96 (by decide) ?_
      refine lv_icmp_ne (tgt := 104) hx hb dL_goes_97 (by decide) (fun c_372 => ?_) (fun c_372 => absurd c_372 ((by decide : ¬ (7 : Int32) = 5)))
      refine lv_iload hx hb dL_goes_104 (lv_at hl 6 rfl) ?_
      refine lv_if_ne (tgt := 113) hx hb dL_goes_106 (by decide) (fun c_373 => ?_) (fun c_373 => absurd c_373 ((by decide : ¬ (7 : Int32) = 0)))
      refine lv_iload hx hb dL_goes_113 (lv_at hl 6 rfl) ?_
      refine lv_iconst (v := 3) hx hb dL_goes_115 (by decide) ?_
      refine lv_icmp_ge (tgt := 128) hx hb dL_goes_116 (by decide) (fun c_374 => ?_) (fun c_374 => absurd ((by decide : (3 : Int32) ≤ 7)) c_374)
      refine lv_iload hx hb dL_goes_128 (lv_at hl 6 rfl) ?_
      refine lv_iconst (v := 1) hx hb dL_goes_130 (by decide) ?_
      refine lv_icmp_ne (tgt := 138) hx hb dL_goes_131 (by decide) (fun c_375 => ?_) (fun c_375 => absurd c_375 ((by decide : ¬ (7 : Int32) = 1)))
      refine lv_iload hx hb dL_goes_138 (lv_at hl 6 rfl) ?_
      refine lv_iconst (v := 2) hx hb dL_goes_140 (by decide) ?_
      refine lv_icmp_ne (tgt := 148) hx hb dL_goes_141 (by decide) (fun c_376 => ?_) (fun c_376 => absurd c_376 ((by decide : ¬ (7 : Int32) = 2)))
      refine lv_iload hx hb dL_goes_148 (lv_at hl 6 rfl) ?_
      refine lv_iconst (v := 3) hx hb dL_goes_150 (by decide) ?_
      refine lv_icmp_ne (tgt := 158) hx hb dL_goes_151 (by decide) (fun c_377 => ?_) (fun c_377 => absurd c_377 ((by decide : ¬ (7 : Int32) = 3)))
      refine lv_iload hx hb dL_goes_158 (lv_at hl 6 rfl) ?_
      refine lv_iconst (v := 4) hx hb dL_goes_160 (by decide) ?_
      refine lv_icmp_ne (tgt := 169) hx hb dL_goes_161 (by decide) (fun c_378 => ?_) (fun c_378 => absurd c_378 ((by decide : ¬ (7 : Int32) = 4)))
      refine lv_iload hx hb dL_goes_169 (lv_at hl 6 rfl) ?_
      refine lv_bipush (v := 6) hx hb dL_goes_171 (by decide) ?_
      refine lv_icmp_ne (tgt := 181) hx hb dL_goes_173 (by decide) (fun c_379 => ?_) (fun c_379 => absurd c_379 ((by decide : ¬ (7 : Int32) = 6)))
      refine lv_bipush (v := 8) hx hb dL_goes_181 (by decide) ?_
      refine lv_istore (lv' := [(12, .int 8), (11, .int (-1)), (10, .int 0), (9, .int 0), (8, .int (nI n8)), (7, .int (-1)), (6, .int (-1)), (5, .int 7), (0, .ref (ad 0)), (1, .ref qa), (2, .ref qm), (3, .ref qb), (4, .int (nI i))]) hx hb dL_goes_183 hl (by decide) rfl (fun ls hl => ?_)
      refine lv_iload hx hb dL_goes_185 (lv_at hl 7 rfl) ?_
      refine lv_if_lt (tgt := 343) hx hb dL_goes_187 (by decide) (fun c_380 => absurd c_380 ((by decide : ¬ (7 : Int32) < 0))) (fun c_380 => ?_)
      refine lv_iload hx hb dL_goes_190 (lv_at hl 7 rfl) ?_
      refine lv_bipush (v := 8) hx hb dL_goes_192 (by decide) ?_
      refine lv_icmp_ge (tgt := 343) hx hb dL_goes_194 (by decide) (fun c_381 => absurd c_381 ((by decide : ¬ (8 : Int32) ≤ 7))) (fun c_381 => ?_)
      refine lv_aload_n hx hb dL_goes_197 rfl (lv_at hl 8 rfl) ?_
      refine lv_iload hx hb dL_goes_198 (lv_at hl 12 rfl) ?_
      refine rMi (vx_runSW (As := [.ref (ad 0), .int (nI i)]) (rest := []) ⟨hx, hb, hml, hown, hts⟩ (c_L_matchOf l hst D cy ad σ sz (nI i) ((-1)) ((wM hi).trans (by rw [hbs]; rfl))) (vx_cwSW 2 hts gL_goes_L_matchOf rfl rfl rfl (by decide +kernel) ⟨Nat.le_of_ble_eq_true rfl, Nat.le_of_ble_eq_true rfl⟩) ⟨cx_bl, cx_S hP hK NoA_z hxk hS⟩ rfl rfl hl.1 rfl (lv_room (Nat.le_of_ble_eq_true rfl)) dL_goes_200 ⟨by show _ ≤ 20; omega, by show _ ≤ 120; omega⟩) hS (fun H locs hS hg => ?_)
      have hP := hP.grown hg
      have hPa := hPa.grown hg
      have hPm := hPm.grown hg
      refine W.eq (g2 := F0 m 203 ls [.int (-1)]) rfl ?_
      refine lv_iload hx hb dL_goes_203 (lv_at hl 6 rfl) ?_
      refine lv_icmp_ne (tgt := 343) hx hb dL_goes_205 (by decide) (fun c_382 => absurd ((by decide : (-1 : Int32) = -1)) c_382) (fun c_382 => ?_)
      refine lv_aload_n hx hb dL_goes_208 rfl (lv_at hl 8 rfl) ?_
      refine lv_iload hx hb dL_goes_209 (lv_at hl 12 rfl) ?_
      refine rMi (vx_runSW (As := [.ref (ad 0), .int (nI i)]) (rest := []) ⟨hx, hb, hml, hown, hts⟩ (c_L_reason l hst D cy ad σ sz (nI i) (8) ((wR hi).trans (by rw [hbs, xs]; rfl))) (vx_cwSW 2 hts gL_goes_L_reason rfl rfl rfl (by decide +kernel) ⟨Nat.le_of_ble_eq_true rfl, Nat.le_of_ble_eq_true rfl⟩) ⟨cx_bl, cx_S hP hK NoA_z hxk hS⟩ rfl rfl hl.1 rfl (lv_room (Nat.le_of_ble_eq_true rfl)) dL_goes_211 ⟨by show _ ≤ 20; omega, by show _ ≤ 120; omega⟩) hS (fun H locs hS hg => ?_)
      have hP := hP.grown hg
      have hPa := hPa.grown hg
      have hPm := hPm.grown hg
      refine W.eq (g2 := F0 m 214 ls [.int 8]) rfl ?_
      refine lv_iload hx hb dL_goes_214 (lv_at hl 0 rfl) ?_
      refine lv_icmp_ne (tgt := 343) hx hb dL_goes_216 (by decide) (fun c_383 => absurd ((by decide : (8 : Int32) = 8)) c_383) (fun c_383 => ?_)
      refine lv_iload hx hb dL_goes_219 (lv_at hl 3 rfl) ?_
      refine lv_if_eq (tgt := 254) hx hb dL_goes_221 (by decide) (fun c_384 => ?_) (fun c_384 => absurd ((by decide : (0 : Int32) = 0)) c_384)
      refine lv_iload hx hb dL_goes_254 (lv_at hl 5 rfl) ?_
      refine lv_iconst (v := (-1)) hx hb dL_goes_256 (by decide) ?_
      refine lv_icmp_ne (tgt := 343) hx hb dL_goes_257 (by decide) (fun c_385 => absurd ((by decide : (-1 : Int32) = -1)) c_385) (fun c_385 => ?_)
      refine lv_iload hx hb dL_goes_260 (lv_at hl 2 rfl) ?_
      refine lv_if_eq (tgt := 280) hx hb dL_goes_262 (by decide) (fun c_386 => ?_) (fun c_386 => absurd ((by decide : (0 : Int32) = 0)) c_386)
      refine lv_iload hx hb dL_goes_280 (lv_at hl 1 rfl) ?_
      refine lv_iconst (v := (-1)) hx hb dL_goes_282 (by decide) ?_
      refine lv_icmp_ne (tgt := 343) hx hb dL_goes_283 (by decide) (fun c_387 => absurd ((by decide : (-1 : Int32) = -1)) c_387) (fun c_387 => ?_)
      refine lv_iload hx hb dL_goes_286 (lv_at hl 4 rfl) ?_
      refine lv_if_lt (tgt := 343) hx hb dL_goes_288 (by decide) (fun c_388 => absurd c_388 ((fun z9 => absurd ((nI_ltI (a := n8) (b := 0) (by omega) (by omega)).mp z9) (by omega)))) (fun c_388 => ?_)
      refine lv_iload hx hb dL_goes_291 (lv_at hl 4 rfl) ?_
      refine lv_bipush (v := 10) hx hb dL_goes_293 (by decide) ?_
      refine lv_icmp_ge (tgt := 343) hx hb dL_goes_295 (by decide) (fun c_389 => absurd c_389 ((fun z9 => absurd ((nI_leI (a := 10) (b := n8) (by omega) (by omega)).mp z9) (by omega)))) (fun c_389 => ?_)
      refine lv_iload hx hb dL_goes_298 (lv_at hl 7 rfl) ?_
      refine lv_iconst (v := 5) hx hb dL_goes_300 (by decide) ?_
      refine lv_icmp_eq (tgt := 316) hx hb dL_goes_301 (by decide) (fun c_390 => absurd c_390 ((by decide : ¬ (7 : Int32) = 5))) (fun c_390 => ?_)
      refine lv_iload hx hb dL_goes_304 (lv_at hl 7 rfl) ?_
      refine lv_bipush (v := 6) hx hb dL_goes_306 (by decide) ?_
      refine lv_icmp_eq (tgt := 316) hx hb dL_goes_308 (by decide) (fun c_391 => absurd c_391 ((by decide : ¬ (7 : Int32) = 6))) (fun c_391 => ?_)
      refine lv_iload hx hb dL_goes_311 (lv_at hl 7 rfl) ?_
      refine lv_if_ne (tgt := 321) hx hb dL_goes_313 (by decide) (fun c_392 => ?_) (fun c_392 => absurd c_392 ((by decide : ¬ (7 : Int32) = 0)))
      refine lv_iload hx hb dL_goes_321 (lv_at hl 7 rfl) ?_
      refine lv_iconst (v := 4) hx hb dL_goes_323 (by decide) ?_
      refine lv_icmp_eq (tgt := 334) hx hb dL_goes_324 (by decide) (fun c_393 => absurd c_393 ((by decide : ¬ (7 : Int32) = 4))) (fun c_393 => ?_)
      refine lv_iload hx hb dL_goes_327 (lv_at hl 7 rfl) ?_
      refine lv_bipush (v := 7) hx hb dL_goes_329 (by decide) ?_
      refine lv_icmp_ne (tgt := 339) hx hb dL_goes_331 (by decide) (fun c_394 => absurd ((by decide : (7 : Int32) = 7)) c_394) (fun c_394 => ?_)
      refine lv_iload hx hb dL_goes_334 (lv_at hl 4 rfl) ?_
      refine lv_if_le (tgt := 343) hx hb dL_goes_336 (by decide) (fun c_395 => absurd c_395 ((fun z9 => absurd ((nI_leI (a := n8) (b := 0) (by omega) (by omega)).mp z9) (by omega)))) (fun c_395 => ?_)
      refine lv_iconst (v := 1) hx hb dL_goes_339 (by decide) ?_
      refine lv_goto (tgt := 344) hx hb dL_goes_340 (by decide) ?_
      refine W.widen (k := 20) (n := 120) (by omega) (by omega) ?_
      exact W.zret (v := 1) hx hb hr rfl (fun t ht hW => ⟨⟨_, (), rfl, rfl, trivial⟩, hS.F ht⟩) hS.2.2 dL_goes_344
    · have hb8 : b < 8 := bst_lt (n := 8) hbs
      refine lv_aload_n hx hb dL_goes_0 rfl (lv_at hl 0 rfl) ?_
      refine lv_iload hx hb dL_goes_1 (lv_at hl 4 rfl) ?_
      refine rMi (vx_runSW (As := [.ref (ad 0), .int (nI i)]) (rest := []) ⟨hx, hb, hml, hown, hts⟩ (c_L_stateOf l hst D cy ad σ sz (nI i) (7) ((wS hi).trans xs)) (vx_cwSW 2 hts gL_goes_L_stateOf rfl rfl rfl (by decide +kernel) ⟨Nat.le_of_ble_eq_true rfl, Nat.le_of_ble_eq_true rfl⟩) ⟨cx_bl, cx_S hP hK NoA_z hxk hS⟩ rfl rfl hl.1 rfl (lv_room (Nat.le_of_ble_eq_true rfl)) dL_goes_3 ⟨by show _ ≤ 20; omega, by show _ ≤ 120; omega⟩) hS (fun H locs hS hg => ?_)
      have hP := hP.grown hg
      have hPa := hPa.grown hg
      have hPm := hPm.grown hg
      refine W.eq (g2 := F0 m 6 ls [.int 7]) rfl ?_
      refine lv_istore (lv' := [(5, .int 7), (0, .ref (ad 0)), (1, .ref qa), (2, .ref qm), (3, .ref qb), (4, .int (nI i))]) hx hb dL_goes_6 hl (by decide) rfl (fun ls hl => ?_)
      refine lv_aload_n hx hb dL_goes_8 rfl (lv_at hl 1 rfl) ?_
      refine lv_aload_n hx hb dL_goes_9 rfl (lv_at hl 2 rfl) ?_
      refine lv_aload_n hx hb dL_goes_10 rfl (lv_at hl 3 rfl) ?_
      refine lv_iload hx hb dL_goes_11 (lv_at hl 5 rfl) ?_
      refine rMi (va_runS (As := [.ref (ad 0), .ref qa, .ref qm, .int (nI i)]) (rest := []) ⟨hx, hb, hml, hown, hts⟩ (c_L_match l hst D cy ad σ sz qa qm fa fm fb i hi ⟨_, x1, x2⟩ hT) (va_cwS 4 hts gL_goes_L_match rfl rfl rfl (by decide +kernel) ⟨Nat.le_of_ble_eq_true rfl, Nat.le_of_ble_eq_true rfl⟩) ⟨aX_bl, aX_S hP hK NoA_z hxk hS hPa hPm⟩ rfl rfl hl.1 rfl (lv_room (Nat.le_of_ble_eq_true rfl)) dL_goes_13 ⟨by show _ ≤ 20; omega, by show _ ≤ 120; omega⟩) hS (fun H locs hS hg => ?_)
      have hP := hP.grown hg
      have hPa := hPa.grown hg
      have hPm := hPm.grown hg
      refine W.eq (g2 := F0 m 16 ls [.int (nI b)]) (by rw [hbs]; rfl) ?_
      refine lv_istore (lv' := [(6, .int (nI b)), (5, .int 7), (0, .ref (ad 0)), (1, .ref qa), (2, .ref qm), (3, .ref qb), (4, .int (nI i))]) hx hb dL_goes_16 hl (by decide) rfl (fun ls hl => ?_)
      refine lv_aload_n hx hb dL_goes_18 rfl (lv_at hl 2 rfl) ?_
      refine lv_iload hx hb dL_goes_19 (lv_at hl 6 rfl) ?_
      refine rMi (vx_runSW (As := [.ref (ad 0), .int (nI i)]) (rest := []) ⟨hx, hb, hml, hown, hts⟩ (c_L_endOf l hst D cy ad σ sz (nI i) ((-1)) ((wE hi).trans hend)) (vx_cwSW 2 hts gL_goes_L_endOf rfl rfl rfl (by decide +kernel) ⟨Nat.le_of_ble_eq_true rfl, Nat.le_of_ble_eq_true rfl⟩) ⟨cx_bl, cx_S hP hK NoA_z hxk hS⟩ rfl rfl hl.1 rfl (lv_room (Nat.le_of_ble_eq_true rfl)) dL_goes_21 ⟨by show _ ≤ 20; omega, by show _ ≤ 120; omega⟩) hS (fun H locs hS hg => ?_)
      have hP := hP.grown hg
      have hPa := hPa.grown hg
      have hPm := hPm.grown hg
      refine W.eq (g2 := F0 m 24 ls [.int (-1)]) rfl ?_
      refine lv_istore (lv' := [(7, .int (-1)), (6, .int (nI b)), (5, .int 7), (0, .ref (ad 0)), (1, .ref qa), (2, .ref qm), (3, .ref qb), (4, .int (nI i))]) hx hb dL_goes_24 hl (by decide) rfl (fun ls hl => ?_)
      refine lv_aload_n hx hb dL_goes_26 rfl (lv_at hl 3 rfl) ?_
      refine lv_iload hx hb dL_goes_27 (lv_at hl 7 rfl) ?_
      refine rMi (vx_runSW (As := [.ref (ad 0), .int (nI i)]) (rest := []) ⟨hx, hb, hml, hown, hts⟩ (c_L_failuresOf l hst D cy ad σ sz (nI i) (nI n8) ((wF hi).trans x5)) (vx_cwSW 2 hts gL_goes_L_failuresOf rfl rfl rfl (by decide +kernel) ⟨Nat.le_of_ble_eq_true rfl, Nat.le_of_ble_eq_true rfl⟩) ⟨cx_bl, cx_S hP hK NoA_z hxk hS⟩ rfl rfl hl.1 rfl (lv_room (Nat.le_of_ble_eq_true rfl)) dL_goes_29 ⟨by show _ ≤ 20; omega, by show _ ≤ 120; omega⟩) hS (fun H locs hS hg => ?_)
      have hP := hP.grown hg
      have hPa := hPa.grown hg
      have hPm := hPm.grown hg
      refine W.eq (g2 := F0 m 32 ls [.int (nI n8)]) rfl ?_
      refine lv_istore (lv' := [(8, .int (nI n8)), (7, .int (-1)), (6, .int (nI b)), (5, .int 7), (0, .ref (ad 0)), (1, .ref qa), (2, .ref qm), (3, .ref qb), (4, .int (nI i))]) hx hb dL_goes_32 hl (by decide) rfl (fun ls hl => ?_)
      refine lv_iload hx hb dL_goes_34 (lv_at hl 3 rfl) ?_
      refine lv_iconst (v := 3) hx hb dL_goes_36 (by decide) ?_
      refine lv_icmp_eq (tgt := 53) hx hb dL_goes_37 (by decide) (fun c_396 => absurd c_396 ((by decide : ¬ (7 : Int32) = 3))) (fun c_396 => ?_)
      refine lv_iload hx hb dL_goes_40 (lv_at hl 3 rfl) ?_
      refine lv_iconst (v := 4) hx hb dL_goes_42 (by decide) ?_
      refine lv_icmp_eq (tgt := 53) hx hb dL_goes_43 (by decide) (fun c_397 => absurd c_397 ((by decide : ¬ (7 : Int32) = 4))) (fun c_397 => ?_)
      refine lv_iload hx hb dL_goes_46 (lv_at hl 3 rfl) ?_
      refine lv_bipush (v := 6) hx hb dL_goes_48 (by decide) ?_
      refine lv_icmp_ne (tgt := 57) hx hb dL_goes_50 (by decide) (fun c_398 => ?_) (fun c_398 => absurd c_398 ((by decide : ¬ (7 : Int32) = 6)))
      refine lv_iconst (v := 0) hx hb dL_goes_57 (by decide) ?_
      refine lv_istore (lv' := [(9, .int 0), (8, .int (nI n8)), (7, .int (-1)), (6, .int (nI b)), (5, .int 7), (0, .ref (ad 0)), (1, .ref qa), (2, .ref qm), (3, .ref qb), (4, .int (nI i))]) hx hb dL_goes_58 hl (by decide) rfl (fun ls hl => ?_)
      refine lv_iload hx hb dL_goes_60 (lv_at hl 4 rfl) ?_
      refine lv_iconst (v := 3) hx hb dL_goes_62 (by decide) ?_
      refine lv_icmp_eq (tgt := 79) hx hb dL_goes_63 (by decide) (fun c_399 => absurd c_399 ((by decide : ¬ (7 : Int32) = 3))) (fun c_399 => ?_)
      refine lv_iload hx hb dL_goes_66 (lv_at hl 4 rfl) ?_
      refine lv_iconst (v := 5) hx hb dL_goes_68 (by decide) ?_
      refine lv_icmp_eq (tgt := 79) hx hb dL_goes_69 (by decide) (fun c_400 => absurd c_400 ((by decide : ¬ (7 : Int32) = 5))) (fun c_400 => ?_)
      refine lv_iload hx hb dL_goes_72 (lv_at hl 4 rfl) ?_
      refine lv_bipush (v := 6) hx hb dL_goes_74 (by decide) ?_
      refine lv_icmp_ne (tgt := 83) hx hb dL_goes_76 (by decide) (fun c_401 => ?_) (fun c_401 => absurd c_401 ((by decide : ¬ (7 : Int32) = 6)))
      refine lv_iconst (v := 0) hx hb dL_goes_83 (by decide) ?_
      refine lv_istore (lv' := [(10, .int 0), (9, .int 0), (8, .int (nI n8)), (7, .int (-1)), (6, .int (nI b)), (5, .int 7), (0, .ref (ad 0)), (1, .ref qa), (2, .ref qm), (3, .ref qb), (4, .int (nI i))]) hx hb dL_goes_84 hl (by decide) rfl (fun ls hl => ?_)
      refine lv_aload_n hx hb dL_goes_86 rfl (lv_at hl 6 rfl) ?_
      refine lv_iload hx hb dL_goes_87 (lv_at hl 10 rfl) ?_
      refine rMi (vx_runSW (As := [.ref (ad 0), .int (nI i)]) (rest := []) ⟨hx, hb, hml, hown, hts⟩ (c_L_imageOf l hst D cy ad σ sz (nI i) ((-1)) ((wI hi).trans himg)) (vx_cwSW 2 hts gL_goes_L_imageOf rfl rfl rfl (by decide +kernel) ⟨Nat.le_of_ble_eq_true rfl, Nat.le_of_ble_eq_true rfl⟩) ⟨cx_bl, cx_S hP hK NoA_z hxk hS⟩ rfl rfl hl.1 rfl (lv_room (Nat.le_of_ble_eq_true rfl)) dL_goes_89 ⟨by show _ ≤ 20; omega, by show _ ≤ 120; omega⟩) hS (fun H locs hS hg => ?_)
      have hP := hP.grown hg
      have hPa := hPa.grown hg
      have hPm := hPm.grown hg
      refine W.eq (g2 := F0 m 92 ls [.int (-1)]) rfl ?_
      refine lv_istore (lv' := [(11, .int (-1)), (10, .int 0), (9, .int 0), (8, .int (nI n8)), (7, .int (-1)), (6, .int (nI b)), (5, .int 7), (0, .ref (ad 0)), (1, .ref qa), (2, .ref qm), (3, .ref qb), (4, .int (nI i))]) hx hb dL_goes_92 hl (by decide) rfl (fun ls hl => ?_)
      refine lv_iload hx hb dL_goes_94 (lv_at hl 6 rfl) ?_
      refine lv_iconst (v := 5) hx hb dL_goes_96 (by decide) ?_
      refine lv_icmp_ne (tgt := 104) hx hb dL_goes_97 (by decide) (fun c_402 => ?_) (fun c_402 => absurd c_402 ((by decide : ¬ (7 : Int32) = 5)))
      refine lv_iload hx hb dL_goes_104 (lv_at hl 6 rfl) ?_
      refine lv_if_ne (tgt := 113) hx hb dL_goes_106 (by decide) (fun c_403 => ?_) (fun c_403 => absurd c_403 ((by decide : ¬ (7 : Int32) = 0)))
      refine lv_iload hx hb dL_goes_113 (lv_at hl 6 rfl) ?_
      refine lv_iconst (v := 3) hx hb dL_goes_115 (by decide) ?_
      refine lv_icmp_ge (tgt := 128) hx hb dL_goes_116 (by decide) (fun c_404 => ?_) (fun c_404 => absurd ((by decide : (3 : Int32) ≤ 7)) c_404)
      refine lv_iload hx hb dL_goes_128 (lv_at hl 6 rfl) ?_
      refine lv_iconst (v := 1) hx hb dL_goes_130 (by decide) ?_
      refine lv_icmp_ne (tgt := 138) hx hb dL_goes_131 (by decide) (fun c_405 => ?_) (fun c_405 => absurd c_405 ((by decide : ¬ (7 : Int32) = 1)))
      refine lv_iload hx hb dL_goes_138 (lv_at hl 6 rfl) ?_
      refine lv_iconst (v := 2) hx hb dL_goes_140 (by decide) ?_
      refine lv_icmp_ne (tgt := 148) hx hb dL_goes_141 (by decide) (fun c_406 => ?_) (fun c_406 => absurd c_406 ((by decide : ¬ (7 : Int32) = 2)))
      refine lv_iload hx hb dL_goes_148 (lv_at hl 6 rfl) ?_
      refine lv_iconst (v := 3) hx hb dL_goes_150 (by decide) ?_
      refine lv_icmp_ne (tgt := 158) hx hb dL_goes_151 (by decide) (fun c_407 => ?_) (fun c_407 => absurd c_407 ((by decide : ¬ (7 : Int32) = 3)))
      refine lv_iload hx hb dL_goes_158 (lv_at hl 6 rfl) ?_
      refine lv_iconst (v := 4) hx hb dL_goes_160 (by decide) ?_
      refine lv_icmp_ne (tgt := 169) hx hb dL_goes_161 (by decide) (fun c_408 => ?_) (fun c_408 => absurd c_408 ((by decide : ¬ (7 : Int32) = 4)))
      refine lv_iload hx hb dL_goes_169 (lv_at hl 6 rfl) ?_
      refine lv_bipush (v := 6) hx hb dL_goes_171 (by decide) ?_
      refine lv_icmp_ne (tgt := 181) hx hb dL_goes_173 (by decide) (fun c_409 => ?_) (fun c_409 => absurd c_409 ((by decide : ¬ (7 : Int32) = 6)))
      refine lv_bipush (v := 8) hx hb dL_goes_181 (by decide) ?_
      refine lv_istore (lv' := [(12, .int 8), (11, .int (-1)), (10, .int 0), (9, .int 0), (8, .int (nI n8)), (7, .int (-1)), (6, .int (nI b)), (5, .int 7), (0, .ref (ad 0)), (1, .ref qa), (2, .ref qm), (3, .ref qb), (4, .int (nI i))]) hx hb dL_goes_183 hl (by decide) rfl (fun ls hl => ?_)
      refine lv_iload hx hb dL_goes_185 (lv_at hl 7 rfl) ?_
      refine lv_if_lt (tgt := 343) hx hb dL_goes_187 (by decide) (fun c_410 => absurd c_410 ((by decide : ¬ (7 : Int32) < 0))) (fun c_410 => ?_)
      refine lv_iload hx hb dL_goes_190 (lv_at hl 7 rfl) ?_
      refine lv_bipush (v := 8) hx hb dL_goes_192 (by decide) ?_
      refine lv_icmp_ge (tgt := 343) hx hb dL_goes_194 (by decide) (fun c_411 => absurd c_411 ((by decide : ¬ (8 : Int32) ≤ 7))) (fun c_411 => ?_)
      refine lv_aload_n hx hb dL_goes_197 rfl (lv_at hl 8 rfl) ?_
      refine lv_iload hx hb dL_goes_198 (lv_at hl 12 rfl) ?_
      refine rMi (vx_runSW (As := [.ref (ad 0), .int (nI i)]) (rest := []) ⟨hx, hb, hml, hown, hts⟩ (c_L_matchOf l hst D cy ad σ sz (nI i) (nI b) ((wM hi).trans (by rw [hbs]; rfl))) (vx_cwSW 2 hts gL_goes_L_matchOf rfl rfl rfl (by decide +kernel) ⟨Nat.le_of_ble_eq_true rfl, Nat.le_of_ble_eq_true rfl⟩) ⟨cx_bl, cx_S hP hK NoA_z hxk hS⟩ rfl rfl hl.1 rfl (lv_room (Nat.le_of_ble_eq_true rfl)) dL_goes_200 ⟨by show _ ≤ 20; omega, by show _ ≤ 120; omega⟩) hS (fun H locs hS hg => ?_)
      have hP := hP.grown hg
      have hPa := hPa.grown hg
      have hPm := hPm.grown hg
      refine W.eq (g2 := F0 m 203 ls [.int (nI b)]) rfl ?_
      refine lv_iload hx hb dL_goes_203 (lv_at hl 6 rfl) ?_
      refine lv_icmp_ne (tgt := 343) hx hb dL_goes_205 (by decide) (fun c_412 => absurd (rfl) c_412) (fun c_412 => ?_)
      refine lv_aload_n hx hb dL_goes_208 rfl (lv_at hl 8 rfl) ?_
      refine lv_iload hx hb dL_goes_209 (lv_at hl 12 rfl) ?_
      refine rMi (vx_runSW (As := [.ref (ad 0), .int (nI i)]) (rest := []) ⟨hx, hb, hml, hown, hts⟩ (c_L_reason l hst D cy ad σ sz (nI i) (8) ((wR hi).trans (by rw [hbs, xs]; rfl))) (vx_cwSW 2 hts gL_goes_L_reason rfl rfl rfl (by decide +kernel) ⟨Nat.le_of_ble_eq_true rfl, Nat.le_of_ble_eq_true rfl⟩) ⟨cx_bl, cx_S hP hK NoA_z hxk hS⟩ rfl rfl hl.1 rfl (lv_room (Nat.le_of_ble_eq_true rfl)) dL_goes_211 ⟨by show _ ≤ 20; omega, by show _ ≤ 120; omega⟩) hS (fun H locs hS hg => ?_)
      have hP := hP.grown hg
      have hPa := hPa.grown hg
      have hPm := hPm.grown hg
      refine W.eq (g2 := F0 m 214 ls [.int 8]) rfl ?_
      refine lv_iload hx hb dL_goes_214 (lv_at hl 0 rfl) ?_
      refine lv_icmp_ne (tgt := 343) hx hb dL_goes_216 (by decide) (fun c_413 => absurd ((by decide : (8 : Int32) = 8)) c_413) (fun c_413 => ?_)
      refine lv_iload hx hb dL_goes_219 (lv_at hl 3 rfl) ?_
      refine lv_if_eq (tgt := 254) hx hb dL_goes_221 (by decide) (fun c_414 => ?_) (fun c_414 => absurd ((by decide : (0 : Int32) = 0)) c_414)
      refine lv_iload hx hb dL_goes_254 (lv_at hl 5 rfl) ?_
      refine lv_iconst (v := (-1)) hx hb dL_goes_256 (by decide) ?_
      refine lv_icmp_ne (tgt := 343) hx hb dL_goes_257 (by decide) (fun c_415 => absurd ((by decide : (-1 : Int32) = -1)) c_415) (fun c_415 => ?_)
      refine lv_iload hx hb dL_goes_260 (lv_at hl 2 rfl) ?_
      refine lv_if_eq (tgt := 280) hx hb dL_goes_262 (by decide) (fun c_416 => ?_) (fun c_416 => absurd ((by decide : (0 : Int32) = 0)) c_416)
      refine lv_iload hx hb dL_goes_280 (lv_at hl 1 rfl) ?_
      refine lv_iconst (v := (-1)) hx hb dL_goes_282 (by decide) ?_
      refine lv_icmp_ne (tgt := 343) hx hb dL_goes_283 (by decide) (fun c_417 => absurd ((by decide : (-1 : Int32) = -1)) c_417) (fun c_417 => ?_)
      refine lv_iload hx hb dL_goes_286 (lv_at hl 4 rfl) ?_
      refine lv_if_lt (tgt := 343) hx hb dL_goes_288 (by decide) (fun c_418 => absurd c_418 ((fun z9 => absurd ((nI_ltI (a := n8) (b := 0) (by omega) (by omega)).mp z9) (by omega)))) (fun c_418 => ?_)
      refine lv_iload hx hb dL_goes_291 (lv_at hl 4 rfl) ?_
      refine lv_bipush (v := 10) hx hb dL_goes_293 (by decide) ?_
      refine lv_icmp_ge (tgt := 343) hx hb dL_goes_295 (by decide) (fun c_419 => absurd c_419 ((fun z9 => absurd ((nI_leI (a := 10) (b := n8) (by omega) (by omega)).mp z9) (by omega)))) (fun c_419 => ?_)
      refine lv_iload hx hb dL_goes_298 (lv_at hl 7 rfl) ?_
      refine lv_iconst (v := 5) hx hb dL_goes_300 (by decide) ?_
      refine lv_icmp_eq (tgt := 316) hx hb dL_goes_301 (by decide) (fun c_420 => absurd c_420 ((by decide : ¬ (7 : Int32) = 5))) (fun c_420 => ?_)
      refine lv_iload hx hb dL_goes_304 (lv_at hl 7 rfl) ?_
      refine lv_bipush (v := 6) hx hb dL_goes_306 (by decide) ?_
      refine lv_icmp_eq (tgt := 316) hx hb dL_goes_308 (by decide) (fun c_421 => absurd c_421 ((by decide : ¬ (7 : Int32) = 6))) (fun c_421 => ?_)
      refine lv_iload hx hb dL_goes_311 (lv_at hl 7 rfl) ?_
      refine lv_if_ne (tgt := 321) hx hb dL_goes_313 (by decide) (fun c_422 => ?_) (fun c_422 => absurd c_422 ((by decide : ¬ (7 : Int32) = 0)))
      refine lv_iload hx hb dL_goes_321 (lv_at hl 7 rfl) ?_
      refine lv_iconst (v := 4) hx hb dL_goes_323 (by decide) ?_
      refine lv_icmp_eq (tgt := 334) hx hb dL_goes_324 (by decide) (fun c_423 => absurd c_423 ((by decide : ¬ (7 : Int32) = 4))) (fun c_423 => ?_)
      refine lv_iload hx hb dL_goes_327 (lv_at hl 7 rfl) ?_
      refine lv_bipush (v := 7) hx hb dL_goes_329 (by decide) ?_
      refine lv_icmp_ne (tgt := 339) hx hb dL_goes_331 (by decide) (fun c_424 => absurd ((by decide : (7 : Int32) = 7)) c_424) (fun c_424 => ?_)
      refine lv_iload hx hb dL_goes_334 (lv_at hl 4 rfl) ?_
      refine lv_if_le (tgt := 343) hx hb dL_goes_336 (by decide) (fun c_425 => absurd c_425 ((fun z9 => absurd ((nI_leI (a := n8) (b := 0) (by omega) (by omega)).mp z9) (by omega)))) (fun c_425 => ?_)
      refine lv_iconst (v := 1) hx hb dL_goes_339 (by decide) ?_
      refine lv_goto (tgt := 344) hx hb dL_goes_340 (by decide) ?_
      refine W.widen (k := 20) (n := 120) (by omega) (by omega) ?_
      exact W.zret (v := 1) hx hb hr rfl (fun t ht hW => ⟨⟨_, (), rfl, rfl, trivial⟩, hS.F ht⟩) hS.2.2 dL_goes_344
