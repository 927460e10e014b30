/-! THE LAW ASKS OF THE QUEUES AND THE JOURNAL -/
/-- who waits, as the law has counted ahead of rack r -/
def wt (σ : Mem) (r : Nat) : Nat := if r = 0 then 0 else wQ σ 16
theorem wt_0 (σ : Mem) {r : Nat} (h : r = 0) : wt σ r = 0 := by unfold wt; rw [if_pos h]
theorem wt_n (σ : Mem) {r : Nat} (h : r ≠ 0) : wt σ r = wQ σ 16 := by unfold wt; rw [if_neg h]
theorem aQ_s (σ : Mem) (r : Nat) : aQ σ (r + 1) = aQ σ r + nQ σ (nI r) := by simp only [aQ]
theorem FA_2 {σ : Mem} {r b : Int32} (h : b ≤ sIn σ r) : b ≤ nI (ct (sInP σ r) 16) := by unfold sIn at h; exact h
theorem wN3 {σ : Mem} {r : Nat} (hr : r < 4) : w1 (kR (nI r)) (rInstalling σ (nI r)) = nI (ct (sInP σ (nI r)) 16) := by rw [wN hr]; unfold sIn; rfl
theorem can14 {f t : Nat} (h : can f t) : (f = 0 ∧ t = 1) ∨ (f = 1 ∧ t = 2) ∨ (f = 2 ∧ t = 1) ∨ (f = 2 ∧ t = 3) ∨ (f = 3 ∧ t = 4) ∨ (f = 3 ∧ t = 5) ∨ (f = 3 ∧ t = 7) ∨ (f = 4 ∧ t = 1) ∨ (f = 4 ∧ t = 2) ∨ (f = 5 ∧ t = 1) ∨ (f = 5 ∧ t = 6) ∨ (f = 6 ∧ t = 1) ∨ (f = 6 ∧ t = 5) ∨ (f = 7 ∧ t = 1) := by
  unfold can at h
  rcases h with ⟨a, b⟩ | ⟨a, b⟩ | ⟨a, b | b⟩ | ⟨a, b | b | b⟩ | ⟨a, b | b⟩ | ⟨a, b | b⟩ | ⟨a, b | b⟩ | ⟨a, b⟩ <;> simp [a, b]
set_option maxHeartbeats 1000000 in
set_option maxRecDepth 100000 in
/-- queues -/
theorem c_L_queues (l : Launch) (hst : l.stackTraces = false) (D : va_G) (cy : Nat → ClassId) (ad : Nat → Nat) (σ : Mem) (sz : Nat) (qa qb : Nat) (fa fm fb : Nat → Int32) (h N : Nat) (hN9 : N < 2000000000) (hI : Inv PN h N σ) (hFu : Full σ) (hT : Tell fa fm fb σ) : Met l yL_queues wsL_queues ({ frames := 9, cells := 500, slots := 3000, locals := 146 }) (va_Pc [.ref (ad 0), .ref qa, .ref qb] (aX D cy ad σ sz qa 64 fa qb 6 fb)) (QI 1 (fun _ => True) NoA) 500 3000 NoA := by
  refine Met.ofW (cc := cL_queues) (maxL := 10) (ret := (some .boolean)) (by decide) rfl ?_
  intro p e s m args below meth c s₁ B hml hv
  obtain ⟨rfl, ⟨⟨hP, hK⟩, hxk⟩, hPa, hPb⟩ := hv
  have hx := B.exec
  have hb := B.bytes
  have hr := B.returns
  have hts := atoms_spec (ws := wsL_queues) B.pre
  have hown : s.vm.findClass RL = some m.cls := findClass_of_methodNamed B.named
  have hlocks := B.notSynchronized
  have hS : va_S NoA s.heap s.heap [] := va_S.rf
  have hl := lv_entry ([.ref (ad 0), .ref qa, .ref qb]) (n := 10) (Nat.le_of_ble_eq_true rfl)
  rw [lg_entry_eq]
  generalize (lg_sl ([.ref (ad 0), .ref qa, .ref qb]) ++ List.replicate (10 - (lg_sl ([.ref (ad 0), .ref qa, .ref qb])).length) Slot.unset).toArray = ls at hl ⊢
  have hl : lv_has ls 10 [(0, .ref (ad 0)), (1, .ref qa), (2, .ref qb)] := hl
  refine lv_iconst (v := 0) hx hb dL_queues_0 (by decide) ?_
  refine lv_istore_n (lv' := [(3, .int 0), (0, .ref (ad 0)), (1, .ref qa), (2, .ref qb)]) hx hb dL_queues_1 rfl hl (by decide) rfl (fun ls hl => ?_)
  refine lv_iconst (v := 0) hx hb dL_queues_2 (by decide) ?_
  refine lv_istore (lv' := [(4, .int 0), (3, .int 0), (0, .ref (ad 0)), (1, .ref qa), (2, .ref qb)]) hx hb dL_queues_3 hl (by decide) rfl (fun ls hl => ?_)
  refine lv_iconst (v := 0) hx hb dL_queues_5 (by decide) ?_
  refine lv_istore (lv' := [(5, .int 0), (4, .int 0), (3, .int 0), (0, .ref (ad 0)), (1, .ref qa), (2, .ref qb)]) hx hb dL_queues_6 hl (by decide) rfl (fun ls hl => ?_)
  have hl0 : lv_has ls 10 [(5, .int (nI 0)), (3, .int (nI (aQ σ 0))), (4, .int (nI (wt σ 0))), (0, .ref (ad 0)), (1, .ref qa), (2, .ref qb)] := lv_sub hl [0, 2, 1, 3, 4, 5] rfl
  refine w_loopG 4 (0) 95 (0) 570 (fun r H => va_P D vwCl (wC cy ad σ) H ∧ va_P D vwCl [aW cy qa 64 fa] H ∧ va_P D vwCl [aW cy qb 6 fb] H) (fun r => [(5, .int (nI r)), (3, .int (nI (aQ σ r))), (4, .int (nI (wt σ r))), (0, .ref (ad 0)), (1, .ref qa), (2, .ref qb)]) hl0 ⟨hP, hPa, hPb⟩ hS (Nat.le_refl _) (Nat.le_refl _) (fun H locs ls hl hG hS => ?_) (fun r hr H locs ls hl hG hS ih => ?_)
  · have hl : lv_has ls 10 [(5, .int (nI 4)), (3, .int (nI (aQ σ 4))), (4, .int (nI (wt σ 4))), (0, .ref (ad 0)), (1, .ref qa), (2, .ref qb)] := hl
    obtain ⟨hP, hPa, hPb⟩ := hG
    rw [wt_n σ (show 4 ≠ 0 by decide)] at hl
    have hl : lv_has ls 10 [(5, .int (nI 4)), (3, .int (nI (aQ σ 4))), (4, .int (nI (wQ σ 16))), (0, .ref (ad 0)), (1, .ref qa), (2, .ref qb)] := hl
    have haw : nI (aQ σ 4) = nI (wQ σ 16) := congrArg nI (aQ_eq (fun i hi => by obtain ⟨s9, r9, n9, -, -, r1, r2, -⟩ := hI.2.1 i hi; exact ⟨r9, r1, r2⟩))
    refine lv_iload hx hb dL_queues_8 (lv_at hl 0 rfl) ?_
    refine lv_iconst (v := 4) hx hb dL_queues_10 (by decide) ?_
    refine lv_icmp_ge (tgt := 236) hx hb dL_queues_11 (by decide) (fun c_1 => ?_) (fun c_1 => absurd (((nI_leI (a := 4) (b := 4) (by omega) (by omega)).mpr (by omega))) c_1)
    refine lv_iload_n hx hb dL_queues_236 rfl (lv_at hl 1 rfl) ?_
    refine lv_iload hx hb dL_queues_237 (lv_at hl 2 rfl) ?_
    refine lv_icmp_ne (tgt := 278) hx hb dL_queues_239 (by decide) (fun c_2 => absurd (haw) c_2) (fun c_2 => ?_)
    refine lv_aload_n hx hb dL_queues_242 rfl (lv_at hl 3 rfl) ?_
    refine lv_iconst (v := 4) hx hb dL_queues_243 (by decide) ?_
    refine lv_iconst (v := 0) hx hb dL_queues_244 (by decide) ?_
    refine rMi (vx_runSW (As := [.ref (ad 0), .int 4, .int 0]) (rest := []) ⟨hx, hb, hml, hown, hts⟩ (c_L_queueAt l hst D cy ad σ sz 4 0 ((-1000001)) wQ1) (vx_cwSW 3 hts gL_queues_L_queueAt rfl rfl rfl (by decide +kernel) ⟨Nat.le_of_ble_eq_true rfl, Nat.le_of_ble_eq_true rfl⟩) ⟨cx_bl, cx_S hP hK NoA_z hxk hS⟩ rfl rfl hl.1 rfl (lv_room (Nat.le_of_ble_eq_true rfl)) dL_queues_245 ⟨by show _ ≤ 500; omega, by show _ ≤ 3000; omega⟩) hS (fun H locs hS hg => ?_)
    have hP := hP.grown hg
    have hPa := hPa.grown hg
    have hPb := hPb.grown hg
    refine W.eq (g2 := F0 m 248 ls [.int (-1000001)]) rfl ?_
    refine lv_ldc (v := (-1000001)) hx hb hown (hts (.constant RL 18 (-1000001)) (by decide +kernel)) dL_queues_248 ?_
    refine lv_icmp_ne (tgt := 278) hx hb dL_queues_250 (by decide) (fun c_3 => absurd ((by decide : (-1000001 : Int32) = -1000001)) c_3) (fun c_3 => ?_)
    refine lv_aload_n hx hb dL_queues_253 rfl (lv_at hl 3 rfl) ?_
    refine lv_iconst (v := 0) hx hb dL_queues_254 (by decide) ?_
    refine lv_iconst (v := (-1)) hx hb dL_queues_255 (by decide) ?_
    refine rMi (vx_runSW (As := [.ref (ad 0), .int 0, .int (-1)]) (rest := []) ⟨hx, hb, hml, hown, hts⟩ (c_L_queueAt l hst D cy ad σ sz 0 (-1) ((-1000001)) wQ2) (vx_cwSW 3 hts gL_queues_L_queueAt rfl rfl rfl (by decide +kernel) ⟨Nat.le_of_ble_eq_true rfl, Nat.le_of_ble_eq_true rfl⟩) ⟨cx_bl, cx_S hP hK NoA_z hxk hS⟩ rfl rfl hl.1 rfl (lv_room (Nat.le_of_ble_eq_true rfl)) dL_queues_256 ⟨by show _ ≤ 500; omega, by show _ ≤ 3000; omega⟩) hS (fun H locs hS hg => ?_)
    have hP := hP.grown hg
    have hPa := hPa.grown hg
    have hPb := hPb.grown hg
    refine W.eq (g2 := F0 m 259 ls [.int (-1000001)]) rfl ?_
    refine lv_ldc (v := (-1000001)) hx hb hown (hts (.constant RL 18 (-1000001)) (by decide +kernel)) dL_queues_259 ?_
    refine lv_icmp_ne (tgt := 278) hx hb dL_queues_261 (by decide) (fun c_4 => absurd ((by decide : (-1000001 : Int32) = -1000001)) c_4) (fun c_4 => ?_)
    refine lv_aload_n hx hb dL_queues_264 rfl (lv_at hl 3 rfl) ?_
    refine lv_iconst (v := (-1)) hx hb dL_queues_265 (by decide) ?_
    refine rMi (vx_runSW (As := [.ref (ad 0), .int (-1)]) (rest := []) ⟨hx, hb, hml, hown, hts⟩ (c_L_installing l hst D cy ad σ sz (-1) ((-1000001)) wN1) (vx_cwSW 2 hts gL_queues_L_installing rfl rfl rfl (by decide +kernel) ⟨Nat.le_of_ble_eq_true rfl, Nat.le_of_ble_eq_true rfl⟩) ⟨cx_bl, cx_S hP hK NoA_z hxk hS⟩ rfl rfl hl.1 rfl (lv_room (Nat.le_of_ble_eq_true rfl)) dL_queues_266 ⟨by show _ ≤ 500; omega, by show _ ≤ 3000; omega⟩) hS (fun H locs hS hg => ?_)
    have hP := hP.grown hg
    have hPa := hPa.grown hg
    have hPb := hPb.grown hg
    refine W.eq (g2 := F0 m 269 ls [.int (-1000001)]) rfl ?_
    refine lv_ldc (v := (-1000001)) hx hb hown (hts (.constant RL 18 (-1000001)) (by decide +kernel)) dL_queues_269 ?_
    refine lv_icmp_ne (tgt := 278) hx hb dL_queues_271 (by decide) (fun c_5 => absurd ((by decide : (-1000001 : Int32) = -1000001)) c_5) (fun c_5 => ?_)
    refine lv_iconst (v := 1) hx hb dL_queues_274 (by decide) ?_
    refine lv_goto (tgt := 279) hx hb dL_queues_275 (by decide) ?_
    refine W.widen (k := 500) (n := 3000) (by omega) (by omega) ?_
    exact W.zret (v := 1) hx hb hr rfl (fun t ht hW => ⟨⟨_, (), rfl, rfl, trivial⟩, hS.F ht⟩) hS.2.2 dL_queues_279
  · have hl : lv_has ls 10 [(5, .int (nI r)), (3, .int (nI (aQ σ r))), (4, .int (nI (wt σ r))), (0, .ref (ad 0)), (1, .ref qa), (2, .ref qb)] := hl
    obtain ⟨hP, hPa, hPb⟩ := hG
    have ih8 := ih
    have h4 : r < 4 := hr
    have hFr := hFu r hr
    have hq16 := nQ_le σ (nI r)
    by_cases r0 : r = 0
    · rw [wt_0 σ r0] at hl
      have hl : lv_has ls 10 [(5, .int (nI r)), (3, .int (nI (aQ σ r))), (4, .int (nI 0)), (0, .ref (ad 0)), (1, .ref qa), (2, .ref qb)] := hl
      refine lv_iload hx hb dL_queues_8 (lv_at hl 0 rfl) ?_
      refine lv_iconst (v := 4) hx hb dL_queues_10 (by decide) ?_
      refine lv_icmp_ge (tgt := 236) hx hb dL_queues_11 (by decide) (fun c_6 => absurd c_6 ((fun z9 => absurd ((nI_leI (a := 4) (b := r) (by omega) (by omega)).mp z9) (by omega)))) (fun c_6 => ?_)
      refine lv_iconst (v := 0) hx hb dL_queues_14 (by decide) ?_
      refine lv_istore (lv' := [(6, .int 0), (5, .int (nI r)), (3, .int (nI (aQ σ r))), (4, .int (nI 0)), (0, .ref (ad 0)), (1, .ref qa), (2, .ref qb)]) hx hb dL_queues_15 hl (by decide) rfl (fun ls hl => ?_)
      refine lv_iconst (v := 0) hx hb dL_queues_17 (by decide) ?_
      refine lv_istore (lv' := [(7, .int 0), (6, .int 0), (5, .int (nI r)), (3, .int (nI (aQ σ r))), (4, .int (nI 0)), (0, .ref (ad 0)), (1, .ref qa), (2, .ref qb)]) hx hb dL_queues_18 hl (by decide) rfl (fun ls hl => ?_)
      have hl0 : lv_has ls 10 [(6, .int (nI (ct (sInP σ (nI r)) 0))), (4, .int (nI (wQ σ 0))), (7, .int (nI 0)), (5, .int (nI r)), (3, .int (nI (aQ σ r))), (0, .ref (ad 0)), (1, .ref qa), (2, .ref qb)] := lv_sub hl [1, 4, 0, 2, 3, 5, 6, 7] rfl
      refine w_loopG 16 (0 + 95 * r) 2 (0 + 570 * r) 12 (fun k H => va_P D vwCl (wC cy ad σ) H ∧ va_P D vwCl [aW cy qa 64 fa] H ∧ va_P D vwCl [aW cy qb 6 fb] H) (fun k => [(6, .int (nI (ct (sInP σ (nI r)) k))), (4, .int (nI (wQ σ k))), (7, .int (nI k)), (5, .int (nI r)), (3, .int (nI (aQ σ r))), (0, .ref (ad 0)), (1, .ref qa), (2, .ref qb)]) hl0 ⟨hP, hPa, hPb⟩ hS (Nat.le_refl _) (Nat.le_refl _) (fun H locs ls hl hG hS => ?_) (fun k hk H locs ls hl hG hS ih => ?_)
      · have hl : lv_has ls 10 [(6, .int (nI (ct (sInP σ (nI r)) 16))), (4, .int (nI (wQ σ 16))), (7, .int (nI 16)), (5, .int (nI r)), (3, .int (nI (aQ σ r))), (0, .ref (ad 0)), (1, .ref qa), (2, .ref qb)] := hl
        obtain ⟨hP, hPa, hPb⟩ := hG
        refine lv_iload hx hb dL_queues_20 (lv_at hl 2 rfl) ?_
        refine lv_bipush (v := 16) hx hb dL_queues_22 (by decide) ?_
        refine lv_icmp_ge (tgt := 89) hx hb dL_queues_24 (by decide) (fun c_7 => ?_) (fun c_7 => absurd (((nI_leI (a := 16) (b := 16) (by omega) (by omega)).mpr (by omega))) c_7)
        refine lv_iconst (v := 0) hx hb dL_queues_89 (by decide) ?_
        refine lv_istore (lv' := [(7, .int 0), (6, .int (nI (ct (sInP σ (nI r)) 16))), (4, .int (nI (wQ σ 16))), (5, .int (nI r)), (3, .int (nI (aQ σ r))), (0, .ref (ad 0)), (1, .ref qa), (2, .ref qb)]) hx hb dL_queues_90 hl (by decide) rfl (fun ls hl => ?_)
        refine lv_iconst (v := 0) hx hb dL_queues_92 (by decide) ?_
        refine lv_istore (lv' := [(8, .int 0), (7, .int 0), (6, .int (nI (ct (sInP σ (nI r)) 16))), (4, .int (nI (wQ σ 16))), (5, .int (nI r)), (3, .int (nI (aQ σ r))), (0, .ref (ad 0)), (1, .ref qa), (2, .ref qb)]) hx hb dL_queues_93 hl (by decide) rfl (fun ls hl => ?_)
        have hl0 : lv_has ls 10 [(7, .int (nI 0)), (8, .int (bN σ (nI r) 0)), (6, .int (nI (ct (sInP σ (nI r)) 16))), (4, .int (nI (wQ σ 16))), (5, .int (nI r)), (3, .int (nI (aQ σ r))), (0, .ref (ad 0)), (1, .ref qa), (2, .ref qb)] := lv_sub hl [1, 0, 2, 3, 4, 5, 6, 7, 8] rfl
        refine w_loopG (nQ σ (nI r)) (0 + 95 * r + 2 * 16) 3 (0 + 570 * r + 12 * 16) 18 (fun p H => va_P D vwCl (wC cy ad σ) H ∧ va_P D vwCl [aW cy qa 64 fa] H ∧ va_P D vwCl [aW cy qb 6 fb] H) (fun p => [(7, .int (nI p)), (8, .int (bN σ (nI r) p)), (6, .int (nI (ct (sInP σ (nI r)) 16))), (4, .int (nI (wQ σ 16))), (5, .int (nI r)), (3, .int (nI (aQ σ r))), (0, .ref (ad 0)), (1, .ref qa), (2, .ref qb)]) hl0 ⟨hP, hPa, hPb⟩ hS (Nat.le_refl _) (Nat.le_refl _) (fun H locs ls hl hG hS => ?_) (fun p hp H locs ls hl hG hS ih => ?_)
        · have hl : lv_has ls 10 [(7, .int (nI (nQ σ (nI r)))), (8, .int (bN σ (nI r) (nQ σ (nI r)))), (6, .int (nI (ct (sInP σ (nI r)) 16))), (4, .int (nI (wQ σ 16))), (5, .int (nI r)), (3, .int (nI (aQ σ r))), (0, .ref (ad 0)), (1, .ref qa), (2, .ref qb)] := hl
          obtain ⟨hP, hPa, hPb⟩ := hG
          have hqe := sQA_end (R := nI r) (p := nQ σ (nI r)) hI.2.2.2.1 hN9 (Nat.le_refl _) (by omega)
          have hqe2 := sQA_end (R := nI r) (p := nQ σ (nI r) + 1) hI.2.2.2.1 hN9 (by omega) (by omega)
          rcases hFr with hF1 | hF1
          · have hz : nQ σ (nI r) = 0 := by refine Nat.eq_zero_of_not_pos (fun z9 => ?_); obtain ⟨j9, w1, -⟩ := sQA_some (R := nI r) (p := 0) hI.2.2.2.1 hN9 z9; rw [show nI 0 = (0 : Int32) from rfl, hF1] at w1; cases w1
            refine lv_aload_n hx hb dL_queues_95 rfl (lv_at hl 6 rfl) ?_
            refine lv_iload hx hb dL_queues_96 (lv_at hl 4 rfl) ?_
            refine lv_iload hx hb dL_queues_98 (lv_at hl 0 rfl) ?_
            refine rMi (vx_runSW (As := [.ref (ad 0), .int (nI r), .int (nI (nQ σ (nI r)))]) (rest := []) ⟨hx, hb, hml, hown, hts⟩ (c_L_queueAt l hst D cy ad σ sz (nI r) (nI (nQ σ (nI r))) ((-1)) ((wQa (p := nQ σ (nI r)) hr (by omega)).trans (by rw [hqe]; rfl))) (vx_cwSW 3 hts gL_queues_L_queueAt rfl rfl rfl (by decide +kernel) ⟨Nat.le_of_ble_eq_true rfl, Nat.le_of_ble_eq_true rfl⟩) ⟨cx_bl, cx_S hP hK NoA_z hxk hS⟩ rfl rfl hl.1 rfl (lv_room (Nat.le_of_ble_eq_true rfl)) dL_queues_100 ⟨by show _ ≤ 500; omega, by show _ ≤ 3000; omega⟩) hS (fun H locs hS hg => ?_)
            have hP := hP.grown hg
            have hPa := hPa.grown hg
            have hPb := hPb.grown hg
            refine W.eq (g2 := F0 m 103 ls [.int (-1)]) rfl ?_
            refine lv_if_lt (tgt := 172) hx hb dL_queues_103 (by decide) (fun c_8 => ?_) (fun c_8 => absurd ((by decide : (-1 : Int32) < 0)) c_8)
            refine lv_iload_n hx hb dL_queues_172 rfl (lv_at hl 5 rfl) ?_
            refine lv_iload hx hb dL_queues_173 (lv_at hl 0 rfl) ?_
            refine lv_iadd hx hb dL_queues_175 ?_
            refine W.eq (congrArg (fun z9 => F0 m 176 ls [.int z9]) (nI_add (aQ σ r) (nQ σ (nI r)))) ?_
            refine lv_istore_n (lv' := [(3, .int (nI (aQ σ r + (nQ σ (nI r))))), (7, .int (nI (nQ σ (nI r)))), (8, .int (bN σ (nI r) (nQ σ (nI r)))), (6, .int (nI (ct (sInP σ (nI r)) 16))), (4, .int (nI (wQ σ 16))), (5, .int (nI r)), (0, .ref (ad 0)), (1, .ref qa), (2, .ref qb)]) hx hb dL_queues_176 rfl hl (by decide) rfl (fun ls hl => ?_)
            refine lv_aload_n hx hb dL_queues_177 rfl (lv_at hl 6 rfl) ?_
            refine lv_iload hx hb dL_queues_178 (lv_at hl 5 rfl) ?_
            refine lv_iload hx hb dL_queues_180 (lv_at hl 1 rfl) ?_
            refine rMi (vx_runSW (As := [.ref (ad 0), .int (nI r), .int (nI (nQ σ (nI r)))]) (rest := []) ⟨hx, hb, hml, hown, hts⟩ (c_L_queueAt l hst D cy ad σ sz (nI r) (nI (nQ σ (nI r))) ((-1)) ((wQa (p := nQ σ (nI r)) hr (by omega)).trans (by rw [hqe]; rfl))) (vx_cwSW 3 hts gL_queues_L_queueAt rfl rfl rfl (by decide +kernel) ⟨Nat.le_of_ble_eq_true rfl, Nat.le_of_ble_eq_true rfl⟩) ⟨cx_bl, cx_S hP hK NoA_z hxk hS⟩ rfl rfl hl.1 rfl (lv_room (Nat.le_of_ble_eq_true rfl)) dL_queues_182 ⟨by show _ ≤ 500; omega, by show _ ≤ 3000; omega⟩) hS (fun H locs hS hg => ?_)
            have hP := hP.grown hg
            have hPa := hPa.grown hg
            have hPb := hPb.grown hg
            refine W.eq (g2 := F0 m 185 ls [.int (-1)]) rfl ?_
            refine lv_iconst (v := (-1)) hx hb dL_queues_185 (by decide) ?_
            refine lv_icmp_ne (tgt := 228) hx hb dL_queues_186 (by decide) (fun c_9 => absurd ((by decide : (-1 : Int32) = -1)) c_9) (fun c_9 => ?_)
            refine lv_aload_n hx hb dL_queues_189 rfl (lv_at hl 6 rfl) ?_
            refine lv_iload hx hb dL_queues_190 (lv_at hl 5 rfl) ?_
            refine lv_iload hx hb dL_queues_192 (lv_at hl 1 rfl) ?_
            refine lv_iconst (v := 1) hx hb dL_queues_194 (by decide) ?_
            refine lv_iadd hx hb dL_queues_195 ?_
            refine W.eq (congrArg (fun z9 => F0 m 196 ls [.int z9, .int (nI r), .ref (ad 0)]) (nI_add (nQ σ (nI r)) 1)) ?_
            refine rMi (vx_runSW (As := [.ref (ad 0), .int (nI r), .int (nI (nQ σ (nI r) + 1))]) (rest := []) ⟨hx, hb, hml, hown, hts⟩ (c_L_queueAt l hst D cy ad σ sz (nI r) (nI (nQ σ (nI r) + 1)) ((-1)) ((wQa (p := nQ σ (nI r) + 1) hr (by omega)).trans (by rw [hqe2]; rfl))) (vx_cwSW 3 hts gL_queues_L_queueAt rfl rfl rfl (by decide +kernel) ⟨Nat.le_of_ble_eq_true rfl, Nat.le_of_ble_eq_true rfl⟩) ⟨cx_bl, cx_S hP hK NoA_z hxk hS⟩ rfl rfl hl.1 rfl (lv_room (Nat.le_of_ble_eq_true rfl)) dL_queues_196 ⟨by show _ ≤ 500; omega, by show _ ≤ 3000; omega⟩) hS (fun H locs hS hg => ?_)
            have hP := hP.grown hg
            have hPa := hPa.grown hg
            have hPb := hPb.grown hg
            refine W.eq (g2 := F0 m 199 ls [.int (-1)]) rfl ?_
            refine lv_iconst (v := (-1)) hx hb dL_queues_199 (by decide) ?_
            refine lv_icmp_ne (tgt := 228) hx hb dL_queues_200 (by decide) (fun c_10 => absurd ((by decide : (-1 : Int32) = -1)) c_10) (fun c_10 => ?_)
            refine lv_aload_n hx hb dL_queues_203 rfl (lv_at hl 6 rfl) ?_
            refine lv_iload hx hb dL_queues_204 (lv_at hl 5 rfl) ?_
            refine rMi (vx_runSW (As := [.ref (ad 0), .int (nI r)]) (rest := []) ⟨hx, hb, hml, hown, hts⟩ (c_L_installing l hst D cy ad σ sz (nI r) (nI (ct (sInP σ (nI r)) 16)) (wN3 hr)) (vx_cwSW 2 hts gL_queues_L_installing rfl rfl rfl (by decide +kernel) ⟨Nat.le_of_ble_eq_true rfl, Nat.le_of_ble_eq_true rfl⟩) ⟨cx_bl, cx_S hP hK NoA_z hxk hS⟩ rfl rfl hl.1 rfl (lv_room (Nat.le_of_ble_eq_true rfl)) dL_queues_206 ⟨by show _ ≤ 500; omega, by show _ ≤ 3000; omega⟩) hS (fun H locs hS hg => ?_)
            have hP := hP.grown hg
            have hPa := hPa.grown hg
            have hPb := hPb.grown hg
            refine W.eq (g2 := F0 m 209 ls [.int (nI (ct (sInP σ (nI r)) 16))]) rfl ?_
            refine lv_iload hx hb dL_queues_209 (lv_at hl 3 rfl) ?_
            refine lv_icmp_ne (tgt := 228) hx hb dL_queues_211 (by decide) (fun c_11 => absurd (rfl) c_11) (fun c_11 => ?_)
            refine lv_iload hx hb dL_queues_214 (lv_at hl 3 rfl) ?_
            refine lv_aload_n hx hb dL_queues_216 rfl (lv_at hl 8 rfl) ?_
            refine lv_iload hx hb dL_queues_217 (lv_at hl 5 rfl) ?_
            refine raW (x := σ 21 r) hx hb hK hPb (show r < 6 by omega) (by decide) (hT.2.2.1 r hr) dL_queues_219 ?_
            refine lv_icmp_ge (tgt := 230) hx hb dL_queues_220 (by decide) (fun c_12 => ?_) (fun c_12 => ?_)
            · have d_12 := Int32.not_lt.mpr c_12
              refine lv_iinc (v := nI (r + 1)) (lv' := [(5, .int (nI (r + 1))), (3, .int (nI (aQ σ r + (nQ σ (nI r))))), (7, .int (nI (nQ σ (nI r)))), (8, .int (bN σ (nI r) (nQ σ (nI r)))), (6, .int (nI (ct (sInP σ (nI r)) 16))), (4, .int (nI (wQ σ 16))), (0, .ref (ad 0)), (1, .ref qa), (2, .ref qb)]) hx hb dL_queues_230 hl (k := 5) rfl (nI_1 r) (by decide) rfl (fun ls hl => ?_)
              refine lv_goto (tgt := 8) hx hb dL_queues_233 (by decide) ?_
              have e70 : nI (aQ σ (r + 1)) = nI (aQ σ r + (nQ σ (nI r))) := by rw [aQ_s]
              have e71 : nI (wt σ (r + 1)) = nI (wQ σ 16) := by rw [wt_n σ (by omega)]
              exact ih8 H locs ls _ _ (by omega) (by omega) (show lv_has ls 10 [(5, .int (nI (r + 1))), (3, .int (nI (aQ σ (r + 1)))), (4, .int (nI (wt σ (r + 1)))), (0, .ref (ad 0)), (1, .ref qa), (2, .ref qb)] from by rw [e70, e71]; exact lv_sub hl [0, 1, 5, 6, 7, 8] rfl) ⟨hP, hPa, hPb⟩ hS
            · have d_12 := Int32.not_le.mp c_12
              refine lv_iload hx hb dL_queues_223 (lv_at hl 1 rfl) ?_
              refine lv_if_le (tgt := 230) hx hb dL_queues_225 (by decide) (fun c_13 => ?_) (fun c_13 => absurd ((show nI (nQ σ (nI r)) ≤ 0 by rw [hz]; exact Int32.le_refl _)) c_13)
              refine lv_iinc (v := nI (r + 1)) (lv' := [(5, .int (nI (r + 1))), (3, .int (nI (aQ σ r + (nQ σ (nI r))))), (7, .int (nI (nQ σ (nI r)))), (8, .int (bN σ (nI r) (nQ σ (nI r)))), (6, .int (nI (ct (sInP σ (nI r)) 16))), (4, .int (nI (wQ σ 16))), (0, .ref (ad 0)), (1, .ref qa), (2, .ref qb)]) hx hb dL_queues_230 hl (k := 5) rfl (nI_1 r) (by decide) rfl (fun ls hl => ?_)
              refine lv_goto (tgt := 8) hx hb dL_queues_233 (by decide) ?_
              have e70 : nI (aQ σ (r + 1)) = nI (aQ σ r + (nQ σ (nI r))) := by rw [aQ_s]
              have e71 : nI (wt σ (r + 1)) = nI (wQ σ 16) := by rw [wt_n σ (by omega)]
              exact ih8 H locs ls _ _ (by omega) (by omega) (show lv_has ls 10 [(5, .int (nI (r + 1))), (3, .int (nI (aQ σ (r + 1)))), (4, .int (nI (wt σ (r + 1)))), (0, .ref (ad 0)), (1, .ref qa), (2, .ref qb)] from by rw [e70, e71]; exact lv_sub hl [0, 1, 5, 6, 7, 8] rfl) ⟨hP, hPa, hPb⟩ hS
          · have hF2 := FA_2 hF1
            refine lv_aload_n hx hb dL_queues_95 rfl (lv_at hl 6 rfl) ?_
            refine lv_iload hx hb dL_queues_96 (lv_at hl 4 rfl) ?_
            refine lv_iload hx hb dL_queues_98 (lv_at hl 0 rfl) ?_
            refine rMi (vx_runSW (As := [.ref (ad 0), .int (nI r), .int (nI (nQ σ (nI r)))]) (rest := []) ⟨hx, hb, hml, hown, hts⟩ (c_L_queueAt l hst D cy ad σ sz (nI r) (nI (nQ σ (nI r))) ((-1)) ((wQa (p := nQ σ (nI r)) hr (by omega)).trans (by rw [hqe]; rfl))) (vx_cwSW 3 hts gL_queues_L_queueAt rfl rfl rfl (by decide +kernel) ⟨Nat.le_of_ble_eq_true rfl, Nat.le_of_ble_eq_true rfl⟩) ⟨cx_bl, cx_S hP hK NoA_z hxk hS⟩ rfl rfl hl.1 rfl (lv_room (Nat.le_of_ble_eq_true rfl)) dL_queues_100 ⟨by show _ ≤ 500; omega, by show _ ≤ 3000; omega⟩) hS (fun H locs hS hg => ?_)
            have hP := hP.grown hg
            have hPa := hPa.grown hg
            have hPb := hPb.grown hg
            refine W.eq (g2 := F0 m 103 ls [.int (-1)]) rfl ?_
            refine lv_if_lt (tgt := 172) hx hb dL_queues_103 (by decide) (fun c_14 => ?_) (fun c_14 => absurd ((by decide : (-1 : Int32) < 0)) c_14)
            refine lv_iload_n hx hb dL_queues_172 rfl (lv_at hl 5 rfl) ?_
            refine lv_iload hx hb dL_queues_173 (lv_at hl 0 rfl) ?_
            refine lv_iadd hx hb dL_queues_175 ?_
            refine W.eq (congrArg (fun z9 => F0 m 176 ls [.int z9]) (nI_add (aQ σ r) (nQ σ (nI r)))) ?_
            refine lv_istore_n (lv' := [(3, .int (nI (aQ σ r + (nQ σ (nI r))))), (7, .int (nI (nQ σ (nI r)))), (8, .int (bN σ (nI r) (nQ σ (nI r)))), (6, .int (nI (ct (sInP σ (nI r)) 16))), (4, .int (nI (wQ σ 16))), (5, .int (nI r)), (0, .ref (ad 0)), (1, .ref qa), (2, .ref qb)]) hx hb dL_queues_176 rfl hl (by decide) rfl (fun ls hl => ?_)
            refine lv_aload_n hx hb dL_queues_177 rfl (lv_at hl 6 rfl) ?_
            refine lv_iload hx hb dL_queues_178 (lv_at hl 5 rfl) ?_
            refine lv_iload hx hb dL_queues_180 (lv_at hl 1 rfl) ?_
            refine rMi (vx_runSW (As := [.ref (ad 0), .int (nI r), .int (nI (nQ σ (nI r)))]) (rest := []) ⟨hx, hb, hml, hown, hts⟩ (c_L_queueAt l hst D cy ad σ sz (nI r) (nI (nQ σ (nI r))) ((-1)) ((wQa (p := nQ σ (nI r)) hr (by omega)).trans (by rw [hqe]; rfl))) (vx_cwSW 3 hts gL_queues_L_queueAt rfl rfl rfl (by decide +kernel) ⟨Nat.le_of_ble_eq_true rfl, Nat.le_of_ble_eq_true rfl⟩) ⟨cx_bl, cx_S hP hK NoA_z hxk hS⟩ rfl rfl hl.1 rfl (lv_room (Nat.le_of_ble_eq_true rfl)) dL_queues_182 ⟨by show _ ≤ 500; omega, by show _ ≤ 3000; omega⟩) hS (fun H locs hS hg => ?_)
            have hP := hP.grown hg
            have hPa := hPa.grown hg
            have hPb := hPb.grown hg
            refine W.eq (g2 := F0 m 185 ls [.int (-1)]) rfl ?_
            refine lv_iconst (v := (-1)) hx hb dL_queues_185 (by decide) ?_
            refine lv_icmp_ne (tgt := 228) hx hb dL_queues_186 (by decide) (fun c_15 => absurd ((by decide : (-1 : Int32) = -1)) c_15) (fun c_15 => ?_)
            refine lv_aload_n hx hb dL_queues_189 rfl (lv_at hl 6 rfl) ?_
            refine lv_iload hx hb dL_queues_190 (lv_at hl 5 rfl) ?_
            refine lv_iload hx hb dL_queues_192 (lv_at hl 1 rfl) ?_
            refine lv_iconst (v := 1) hx hb dL_queues_194 (by decide) ?_
            refine lv_iadd hx hb dL_queues_195 ?_
            refine W.eq (congrArg (fun z9 => F0 m 196 ls [.int z9, .int (nI r), .ref (ad 0)]) (nI_add (nQ σ (nI r)) 1)) ?_
            refine rMi (vx_runSW (As := [.ref (ad 0), .int (nI r), .int (nI (nQ σ (nI r) + 1))]) (rest := []) ⟨hx, hb, hml, hown, hts⟩ (c_L_queueAt l hst D cy ad σ sz (nI r) (nI (nQ σ (nI r) + 1)) ((-1)) ((wQa (p := nQ σ (nI r) + 1) hr (by omega)).trans (by rw [hqe2]; rfl))) (vx_cwSW 3 hts gL_queues_L_queueAt rfl rfl rfl (by decide +kernel) ⟨Nat.le_of_ble_eq_true rfl, Nat.le_of_ble_eq_true rfl⟩) ⟨cx_bl, cx_S hP hK NoA_z hxk hS⟩ rfl rfl hl.1 rfl (lv_room (Nat.le_of_ble_eq_true rfl)) dL_queues_196 ⟨by show _ ≤ 500; omega, by show _ ≤ 3000; omega⟩) hS (fun H locs hS hg => ?_)
            have hP := hP.grown hg
            have hPa := hPa.grown hg
            have hPb := hPb.grown hg
            refine W.eq (g2 := F0 m 199 ls [.int (-1)]) rfl ?_
            refine lv_iconst (v := (-1)) hx hb dL_queues_199 (by decide) ?_
            refine lv_icmp_ne (tgt := 228) hx hb dL_queues_200 (by decide) (fun c_16 => absurd ((by decide : (-1 : Int32) = -1)) c_16) (fun c_16 => ?_)
            refine lv_aload_n hx hb dL_queues_203 rfl (lv_at hl 6 rfl) ?_
            refine lv_iload hx hb dL_queues_204 (lv_at hl 5 rfl) ?_
            refine rMi (vx_runSW (As := [.ref (ad 0), .int (nI r)]) (rest := []) ⟨hx, hb, hml, hown, hts⟩ (c_L_installing l hst D cy ad σ sz (nI r) (nI (ct (sInP σ (nI r)) 16)) (wN3 hr)) (vx_cwSW 2 hts gL_queues_L_installing rfl rfl rfl (by decide +kernel) ⟨Nat.le_of_ble_eq_true rfl, Nat.le_of_ble_eq_true rfl⟩) ⟨cx_bl, cx_S hP hK NoA_z hxk hS⟩ rfl rfl hl.1 rfl (lv_room (Nat.le_of_ble_eq_true rfl)) dL_queues_206 ⟨by show _ ≤ 500; omega, by show _ ≤ 3000; omega⟩) hS (fun H locs hS hg => ?_)
            have hP := hP.grown hg
            have hPa := hPa.grown hg
            have hPb := hPb.grown hg
            refine W.eq (g2 := F0 m 209 ls [.int (nI (ct (sInP σ (nI r)) 16))]) rfl ?_
            refine lv_iload hx hb dL_queues_209 (lv_at hl 3 rfl) ?_
            refine lv_icmp_ne (tgt := 228) hx hb dL_queues_211 (by decide) (fun c_17 => absurd (rfl) c_17) (fun c_17 => ?_)
            refine lv_iload hx hb dL_queues_214 (lv_at hl 3 rfl) ?_
            refine lv_aload_n hx hb dL_queues_216 rfl (lv_at hl 8 rfl) ?_
            refine lv_iload hx hb dL_queues_217 (lv_at hl 5 rfl) ?_
            refine raW (x := σ 21 r) hx hb hK hPb (show r < 6 by omega) (by decide) (hT.2.2.1 r hr) dL_queues_219 ?_
            refine lv_icmp_ge (tgt := 230) hx hb dL_queues_220 (by decide) (fun c_18 => ?_) (fun c_18 => absurd (hF2) c_18)
            refine lv_iinc (v := nI (r + 1)) (lv' := [(5, .int (nI (r + 1))), (3, .int (nI (aQ σ r + (nQ σ (nI r))))), (7, .int (nI (nQ σ (nI r)))), (8, .int (bN σ (nI r) (nQ σ (nI r)))), (6, .int (nI (ct (sInP σ (nI r)) 16))), (4, .int (nI (wQ σ 16))), (0, .ref (ad 0)), (1, .ref qa), (2, .ref qb)]) hx hb dL_queues_230 hl (k := 5) rfl (nI_1 r) (by decide) rfl (fun ls hl => ?_)
            refine lv_goto (tgt := 8) hx hb dL_queues_233 (by decide) ?_
            have e70 : nI (aQ σ (r + 1)) = nI (aQ σ r + (nQ σ (nI r))) := by rw [aQ_s]
            have e71 : nI (wt σ (r + 1)) = nI (wQ σ 16) := by rw [wt_n σ (by omega)]
            exact ih8 H locs ls _ _ (by omega) (by omega) (show lv_has ls 10 [(5, .int (nI (r + 1))), (3, .int (nI (aQ σ (r + 1)))), (4, .int (nI (wt σ (r + 1)))), (0, .ref (ad 0)), (1, .ref qa), (2, .ref qb)] from by rw [e70, e71]; exact lv_sub hl [0, 1, 5, 6, 7, 8] rfl) ⟨hP, hPa, hPb⟩ hS
        · have hl : lv_has ls 10 [(7, .int (nI p)), (8, .int (bN σ (nI r) p)), (6, .int (nI (ct (sInP σ (nI r)) 16))), (4, .int (nI (wQ σ 16))), (5, .int (nI r)), (3, .int (nI (aQ σ r))), (0, .ref (ad 0)), (1, .ref qa), (2, .ref qb)] := hl
          obtain ⟨hP, hPa, hPb⟩ := hG
          have ih95 := ih
          obtain ⟨i9, hq1, hi9, hq3, hq4⟩ := sQA_some (R := nI r) hI.2.2.2.1 hN9 hp
          obtain ⟨hq5, hq6⟩ := sQ_st hq3
          refine lv_aload_n hx hb dL_queues_95 rfl (lv_at hl 6 rfl) ?_
          refine lv_iload hx hb dL_queues_96 (lv_at hl 4 rfl) ?_
          refine lv_iload hx hb dL_queues_98 (lv_at hl 0 rfl) ?_
          refine rMi (vx_runSW (As := [.ref (ad 0), .int (nI r), .int (nI p)]) (rest := []) ⟨hx, hb, hml, hown, hts⟩ (c_L_queueAt l hst D cy ad σ sz (nI r) (nI p) (nI i9) ((wQa (p := p) hr (by omega)).trans (by rw [hq1]; rfl))) (vx_cwSW 3 hts gL_queues_L_queueAt rfl rfl rfl (by decide +kernel) ⟨Nat.le_of_ble_eq_true rfl, Nat.le_of_ble_eq_true rfl⟩) ⟨cx_bl, cx_S hP hK NoA_z hxk hS⟩ rfl rfl hl.1 rfl (lv_room (Nat.le_of_ble_eq_true rfl)) dL_queues_100 ⟨by show _ ≤ 500; omega, by show _ ≤ 3000; omega⟩) hS (fun H locs hS hg => ?_)
          have hP := hP.grown hg
          have hPa := hPa.grown hg
          have hPb := hPb.grown hg
          refine W.eq (g2 := F0 m 103 ls [.int (nI i9)]) rfl ?_
          refine lv_if_lt (tgt := 172) hx hb dL_queues_103 (by decide) (fun c_19 => absurd c_19 ((nI_pos (n := i9) (by omega)))) (fun c_19 => ?_)
          refine lv_aload_n hx hb dL_queues_106 rfl (lv_at hl 6 rfl) ?_
          refine lv_iload hx hb dL_queues_107 (lv_at hl 4 rfl) ?_
          refine lv_iload hx hb dL_queues_109 (lv_at hl 0 rfl) ?_
          refine rMi (vx_runSW (As := [.ref (ad 0), .int (nI r), .int (nI p)]) (rest := []) ⟨hx, hb, hml, hown, hts⟩ (c_L_queueAt l hst D cy ad σ sz (nI r) (nI p) (nI i9) ((wQa (p := p) hr (by omega)).trans (by rw [hq1]; rfl))) (vx_cwSW 3 hts gL_queues_L_queueAt rfl rfl rfl (by decide +kernel) ⟨Nat.le_of_ble_eq_true rfl, Nat.le_of_ble_eq_true rfl⟩) ⟨cx_bl, cx_S hP hK NoA_z hxk hS⟩ rfl rfl hl.1 rfl (lv_room (Nat.le_of_ble_eq_true rfl)) dL_queues_111 ⟨by show _ ≤ 500; omega, by show _ ≤ 3000; omega⟩) hS (fun H locs hS hg => ?_)
          have hP := hP.grown hg
          have hPa := hPa.grown hg
          have hPb := hPb.grown hg
          refine W.eq (g2 := F0 m 114 ls [.int (nI i9)]) rfl ?_
          refine lv_istore (lv' := [(9, .int (nI i9)), (7, .int (nI p)), (8, .int (bN σ (nI r) p)), (6, .int (nI (ct (sInP σ (nI r)) 16))), (4, .int (nI (wQ σ 16))), (5, .int (nI r)), (3, .int (nI (aQ σ r))), (0, .ref (ad 0)), (1, .ref qa), (2, .ref qb)]) hx hb dL_queues_114 hl (by decide) rfl (fun ls hl => ?_)
          refine lv_iload hx hb dL_queues_116 (lv_at hl 0 rfl) ?_
          refine lv_bipush (v := 15) hx hb dL_queues_118 (by decide) ?_
          refine lv_icmp_gt (tgt := 155) hx hb dL_queues_120 (by decide) (fun c_20 => absurd c_20 ((fun z9 => absurd ((nI_ltI (a := 15) (b := i9) (by omega) (by omega)).mp z9) (by omega)))) (fun c_20 => ?_)
          refine lv_aload_n hx hb dL_queues_123 rfl (lv_at hl 7 rfl) ?_
          refine lv_iload hx hb dL_queues_124 (lv_at hl 0 rfl) ?_
          refine rMi (vx_runSW (As := [.ref (ad 0), .int (nI i9)]) (rest := []) ⟨hx, hb, hml, hown, hts⟩ (c_L_stateOf l hst D cy ad σ sz (nI i9) (2) ((wS hi9).trans hq5)) (vx_cwSW 2 hts gL_queues_L_stateOf rfl rfl rfl (by decide +kernel) ⟨Nat.le_of_ble_eq_true rfl, Nat.le_of_ble_eq_true rfl⟩) ⟨cx_bl, cx_S hP hK NoA_z hxk hS⟩ rfl rfl hl.1 rfl (lv_room (Nat.le_of_ble_eq_true rfl)) dL_queues_126 ⟨by show _ ≤ 500; omega, by show _ ≤ 3000; omega⟩) hS (fun H locs hS hg => ?_)
          have hP := hP.grown hg
          have hPa := hPa.grown hg
          have hPb := hPb.grown hg
          refine W.eq (g2 := F0 m 129 ls [.int 2]) rfl ?_
          refine lv_iconst (v := 2) hx hb dL_queues_129 (by decide) ?_
          refine lv_icmp_ne (tgt := 155) hx hb dL_queues_130 (by decide) (fun c_21 => absurd ((by decide : (2 : Int32) = 2)) c_21) (fun c_21 => ?_)
          refine lv_aload_n hx hb dL_queues_133 rfl (lv_at hl 8 rfl) ?_
          refine lv_iconst (v := 4) hx hb dL_queues_134 (by decide) ?_
          refine lv_iload hx hb dL_queues_135 (lv_at hl 0 rfl) ?_
          refine lv_imul hx hb dL_queues_137 ?_
          refine W.eq (congrArg (fun z9 => F0 m 138 ls [.int z9, .ref qa]) (pk_mul 4 i9)) ?_
          refine raW (x := nI r) hx hb hK hPa (show 4 * i9 < 64 by omega) (by decide) ((hT.1 i9 hi9).1.trans hq6) dL_queues_138 ?_
          refine lv_iload hx hb dL_queues_139 (lv_at hl 5 rfl) ?_
          refine lv_icmp_ne (tgt := 155) hx hb dL_queues_141 (by decide) (fun c_22 => absurd (rfl) c_22) (fun c_22 => ?_)
          refine lv_iload hx hb dL_queues_144 (lv_at hl 2 rfl) ?_
          refine lv_iload hx hb dL_queues_146 (lv_at hl 0 rfl) ?_
          refine lv_ishr hx hb dL_queues_148 ?_
          refine lv_iconst (v := 1) hx hb dL_queues_149 (by decide) ?_
          refine lv_iand hx hb dL_queues_150 ?_
          refine lv_iconst (v := 1) hx hb dL_queues_151 (by decide) ?_
          refine lv_icmp_ne (tgt := 157) hx hb dL_queues_152 (by decide) (fun c_23 => ?_) (fun c_23 => absurd c_23 ((bN_no (R := nI r) hI.2.2.2.1 hN9 hp hq1)))
          refine lv_iload hx hb dL_queues_157 (lv_at hl 2 rfl) ?_
          refine lv_iconst (v := 1) hx hb dL_queues_159 (by decide) ?_
          refine lv_iload hx hb dL_queues_160 (lv_at hl 0 rfl) ?_
          refine lv_ishl hx hb dL_queues_162 ?_
          refine lv_ior hx hb dL_queues_163 ?_
          refine lv_istore (lv' := [(8, .int ((bN σ (nI r) p) ||| (1 <<< ((nI i9) &&& 31)))), (9, .int (nI i9)), (7, .int (nI p)), (6, .int (nI (ct (sInP σ (nI r)) 16))), (4, .int (nI (wQ σ 16))), (5, .int (nI r)), (3, .int (nI (aQ σ r))), (0, .ref (ad 0)), (1, .ref qa), (2, .ref qb)]) hx hb dL_queues_164 hl (by decide) rfl (fun ls hl => ?_)
          refine lv_iinc (v := nI (p + 1)) (lv' := [(7, .int (nI (p + 1))), (8, .int ((bN σ (nI r) p) ||| (1 <<< ((nI i9) &&& 31)))), (9, .int (nI i9)), (6, .int (nI (ct (sInP σ (nI r)) 16))), (4, .int (nI (wQ σ 16))), (5, .int (nI r)), (3, .int (nI (aQ σ r))), (0, .ref (ad 0)), (1, .ref qa), (2, .ref qb)]) hx hb dL_queues_166 hl (k := 2) rfl (nI_1 p) (by decide) rfl (fun ls hl => ?_)
          refine lv_goto (tgt := 95) hx hb dL_queues_169 (by decide) ?_
          have e70 : bN σ (nI r) (p + 1) = (bN σ (nI r) p) ||| (1 <<< ((nI i9) &&& 31)) := by rw [bN_s hq1]
          exact ih95 H locs ls _ _ (by omega) (by omega) (show lv_has ls 10 [(7, .int (nI (p + 1))), (8, .int (bN σ (nI r) (p + 1))), (6, .int (nI (ct (sInP σ (nI r)) 16))), (4, .int (nI (wQ σ 16))), (5, .int (nI r)), (3, .int (nI (aQ σ r))), (0, .ref (ad 0)), (1, .ref qa), (2, .ref qb)] from by rw [e70]; exact lv_sub hl [0, 1, 3, 4, 5, 6, 7, 8, 9] rfl) ⟨hP, hPa, hPb⟩ hS
      · have hl : lv_has ls 10 [(6, .int (nI (ct (sInP σ (nI r)) k))), (4, .int (nI (wQ σ k))), (7, .int (nI k)), (5, .int (nI r)), (3, .int (nI (aQ σ r))), (0, .ref (ad 0)), (1, .ref qa), (2, .ref qb)] := hl
        obtain ⟨hP, hPa, hPb⟩ := hG
        have ih20 := ih
        refine lv_iload hx hb dL_queues_20 (lv_at hl 2 rfl) ?_
        refine lv_bipush (v := 16) hx hb dL_queues_22 (by decide) ?_
        refine lv_icmp_ge (tgt := 89) hx hb dL_queues_24 (by decide) (fun c_24 => absurd c_24 ((fun z9 => absurd ((nI_leI (a := 16) (b := k) (by omega) (by omega)).mp z9) (by omega)))) (fun c_24 => ?_)
        refine lv_iload hx hb dL_queues_27 (lv_at hl 0 rfl) ?_
        refine lv_aload_n hx hb dL_queues_29 rfl (lv_at hl 5 rfl) ?_
        refine lv_iload hx hb dL_queues_30 (lv_at hl 2 rfl) ?_
        refine rMi (vx_runSW (As := [.ref (ad 0), .int (nI k)]) (rest := [.int (nI (ct (sInP σ (nI r)) k))]) ⟨hx, hb, hml, hown, hts⟩ (c_L_stateOf l hst D cy ad σ sz (nI k) (σ 1 k) (wS (by omega))) (vx_cwSW 2 hts gL_queues_L_stateOf rfl rfl rfl (by decide +kernel) ⟨Nat.le_of_ble_eq_true rfl, Nat.le_of_ble_eq_true rfl⟩) ⟨cx_bl, cx_S hP hK NoA_z hxk hS⟩ rfl rfl hl.1 rfl (lv_room (Nat.le_of_ble_eq_true rfl)) dL_queues_32 ⟨by show _ ≤ 500; omega, by show _ ≤ 3000; omega⟩) hS (fun H locs hS hg => ?_)
        have hP := hP.grown hg
        have hPa := hPa.grown hg
        have hPb := hPb.grown hg
        refine W.eq (g2 := F0 m 35 ls [.int (σ 1 k), .int (nI (ct (sInP σ (nI r)) k))]) rfl ?_
        refine lv_iconst (v := 3) hx hb dL_queues_35 (by decide) ?_
        refine lv_icmp_ne (tgt := 54) hx hb dL_queues_36 (by decide) (fun c_25 => ?_) (fun c_25 => ?_)
        · refine lv_iconst (v := 0) hx hb dL_queues_54 (by decide) ?_
          refine lv_iadd hx hb dL_queues_55 ?_
          refine W.eq (congrArg (fun z9 => F0 m 56 ls [.int z9]) (nI_add (ct (sInP σ (nI r)) k) 0)) ?_
          refine lv_istore (lv' := [(6, .int (nI (ct (sInP σ (nI r)) k))), (4, .int (nI (wQ σ k))), (7, .int (nI k)), (5, .int (nI r)), (3, .int (nI (aQ σ r))), (0, .ref (ad 0)), (1, .ref qa), (2, .ref qb)]) hx hb dL_queues_56 hl (by decide) rfl (fun ls hl => ?_)
          refine lv_iload hx hb dL_queues_58 (lv_at hl 1 rfl) ?_
          refine lv_iload hx hb dL_queues_60 (lv_at hl 3 rfl) ?_
          refine lv_if_ne (tgt := 79) hx hb dL_queues_62 (by decide) (fun c_26 => absurd ((show nI r = 0 by rw [r0]; rfl)) c_26) (fun c_26 => ?_)
          refine lv_aload_n hx hb dL_queues_65 rfl (lv_at hl 5 rfl) ?_
          refine lv_iload hx hb dL_queues_66 (lv_at hl 2 rfl) ?_
          refine rMi (vx_runSW (As := [.ref (ad 0), .int (nI k)]) (rest := [.int (nI (wQ σ k))]) ⟨hx, hb, hml, hown, hts⟩ (c_L_stateOf l hst D cy ad σ sz (nI k) (σ 1 k) (wS (by omega))) (vx_cwSW 2 hts gL_queues_L_stateOf rfl rfl rfl (by decide +kernel) ⟨Nat.le_of_ble_eq_true rfl, Nat.le_of_ble_eq_true rfl⟩) ⟨cx_bl, cx_S hP hK NoA_z hxk hS⟩ rfl rfl hl.1 rfl (lv_room (Nat.le_of_ble_eq_true rfl)) dL_queues_68 ⟨by show _ ≤ 500; omega, by show _ ≤ 3000; omega⟩) hS (fun H locs hS hg => ?_)
          have hP := hP.grown hg
          have hPa := hPa.grown hg
          have hPb := hPb.grown hg
          refine W.eq (g2 := F0 m 71 ls [.int (σ 1 k), .int (nI (wQ σ k))]) rfl ?_
          refine lv_iconst (v := 2) hx hb dL_queues_71 (by decide) ?_
          refine lv_icmp_ne (tgt := 79) hx hb dL_queues_72 (by decide) (fun c_27 => ?_) (fun c_27 => ?_)
          · refine lv_iconst (v := 0) hx hb dL_queues_79 (by decide) ?_
            refine lv_iadd hx hb dL_queues_80 ?_
            refine W.eq (congrArg (fun z9 => F0 m 81 ls [.int z9]) (nI_add (wQ σ k) 0)) ?_
            refine lv_istore (lv' := [(4, .int (nI (wQ σ k))), (6, .int (nI (ct (sInP σ (nI r)) k))), (7, .int (nI k)), (5, .int (nI r)), (3, .int (nI (aQ σ r))), (0, .ref (ad 0)), (1, .ref qa), (2, .ref qb)]) hx hb dL_queues_81 hl (by decide) rfl (fun ls hl => ?_)
            refine lv_iinc (v := nI (k + 1)) (lv' := [(7, .int (nI (k + 1))), (4, .int (nI (wQ σ k))), (6, .int (nI (ct (sInP σ (nI r)) k))), (5, .int (nI r)), (3, .int (nI (aQ σ r))), (0, .ref (ad 0)), (1, .ref qa), (2, .ref qb)]) hx hb dL_queues_83 hl (k := 2) rfl (nI_1 k) (by decide) rfl (fun ls hl => ?_)
            refine lv_goto (tgt := 20) hx hb dL_queues_86 (by decide) ?_
            have e70 : nI (ct (sInP σ (nI r)) (k + 1)) = nI (ct (sInP σ (nI r)) k) := by rw [ct_n (show sInP σ (nI r) k = false by simp [sInP, c_25, c_27])]
            have e71 : nI (wQ σ (k + 1)) = nI (wQ σ k) := by unfold wQ; rw [ct_n (show decide (σ 1 k = 2) = false by simp [c_27])]
            exact ih20 H locs ls _ _ (by omega) (by omega) (show lv_has ls 10 [(6, .int (nI (ct (sInP σ (nI r)) (k + 1)))), (4, .int (nI (wQ σ (k + 1)))), (7, .int (nI (k + 1))), (5, .int (nI r)), (3, .int (nI (aQ σ r))), (0, .ref (ad 0)), (1, .ref qa), (2, .ref qb)] from by rw [e70, e71]; exact lv_sub hl [2, 1, 0, 3, 4, 5, 6, 7] rfl) ⟨hP, hPa, hPb⟩ hS
          · refine lv_iconst (v := 1) hx hb dL_queues_75 (by decide) ?_
            refine lv_goto (tgt := 80) hx hb dL_queues_76 (by decide) ?_
            refine lv_iadd hx hb dL_queues_80 ?_
            refine W.eq (congrArg (fun z9 => F0 m 81 ls [.int z9]) (nI_add (wQ σ k) 1)) ?_
            refine lv_istore (lv' := [(4, .int (nI (wQ σ k + 1))), (6, .int (nI (ct (sInP σ (nI r)) k))), (7, .int (nI k)), (5, .int (nI r)), (3, .int (nI (aQ σ r))), (0, .ref (ad 0)), (1, .ref qa), (2, .ref qb)]) hx hb dL_queues_81 hl (by decide) rfl (fun ls hl => ?_)
            refine lv_iinc (v := nI (k + 1)) (lv' := [(7, .int (nI (k + 1))), (4, .int (nI (wQ σ k + 1))), (6, .int (nI (ct (sInP σ (nI r)) k))), (5, .int (nI r)), (3, .int (nI (aQ σ r))), (0, .ref (ad 0)), (1, .ref qa), (2, .ref qb)]) hx hb dL_queues_83 hl (k := 2) rfl (nI_1 k) (by decide) rfl (fun ls hl => ?_)
            refine lv_goto (tgt := 20) hx hb dL_queues_86 (by decide) ?_
            have e70 : nI (ct (sInP σ (nI r)) (k + 1)) = nI (ct (sInP σ (nI r)) k) := by rw [ct_n (show sInP σ (nI r) k = false by simp [sInP, c_25, c_27])]
            have e71 : nI (wQ σ (k + 1)) = nI (wQ σ k + 1) := by unfold wQ; rw [ct_y (show decide (σ 1 k = 2) = true by simp [c_27])]
            exact ih20 H locs ls _ _ (by omega) (by omega) (show lv_has ls 10 [(6, .int (nI (ct (sInP σ (nI r)) (k + 1)))), (4, .int (nI (wQ σ (k + 1)))), (7, .int (nI (k + 1))), (5, .int (nI r)), (3, .int (nI (aQ σ r))), (0, .ref (ad 0)), (1, .ref qa), (2, .ref qb)] from by rw [e70, e71]; exact lv_sub hl [2, 1, 0, 3, 4, 5, 6, 7] rfl) ⟨hP, hPa, hPb⟩ hS
        · refine lv_aload_n hx hb dL_queues_39 rfl (lv_at hl 6 rfl) ?_
          refine lv_iconst (v := 4) hx hb dL_queues_40 (by decide) ?_
          refine lv_iload hx hb dL_queues_41 (lv_at hl 2 rfl) ?_
          refine lv_imul hx hb dL_queues_43 ?_
          refine W.eq (congrArg (fun z9 => F0 m 44 ls [.int z9, .ref qa, .int (nI (ct (sInP σ (nI r)) k))]) (pk_mul 4 k)) ?_
          refine raW (x := σ 2 k) hx hb hK hPa (show 4 * k < 64 by omega) (by decide) ((hT.1 k (by omega)).1) dL_queues_44 ?_
          refine lv_iload hx hb dL_queues_45 (lv_at hl 3 rfl) ?_
          refine lv_icmp_ne (tgt := 54) hx hb dL_queues_47 (by decide) (fun c_28 => ?_) (fun c_28 => ?_)
          · refine lv_iconst (v := 0) hx hb dL_queues_54 (by decide) ?_
            refine lv_iadd hx hb dL_queues_55 ?_
            refine W.eq (congrArg (fun z9 => F0 m 56 ls [.int z9]) (nI_add (ct (sInP σ (nI r)) k) 0)) ?_
            refine lv_istore (lv' := [(6, .int (nI (ct (sInP σ (nI r)) k))), (4, .int (nI (wQ σ k))), (7, .int (nI k)), (5, .int (nI r)), (3, .int (nI (aQ σ r))), (0, .ref (ad 0)), (1, .ref qa), (2, .ref qb)]) hx hb dL_queues_56 hl (by decide) rfl (fun ls hl => ?_)
            refine lv_iload hx hb dL_queues_58 (lv_at hl 1 rfl) ?_
            refine lv_iload hx hb dL_queues_60 (lv_at hl 3 rfl) ?_
            refine lv_if_ne (tgt := 79) hx hb dL_queues_62 (by decide) (fun c_29 => absurd ((show nI r = 0 by rw [r0]; rfl)) c_29) (fun c_29 => ?_)
            refine lv_aload_n hx hb dL_queues_65 rfl (lv_at hl 5 rfl) ?_
            refine lv_iload hx hb dL_queues_66 (lv_at hl 2 rfl) ?_
            refine rMi (vx_runSW (As := [.ref (ad 0), .int (nI k)]) (rest := [.int (nI (wQ σ k))]) ⟨hx, hb, hml, hown, hts⟩ (c_L_stateOf l hst D cy ad σ sz (nI k) (σ 1 k) (wS (by omega))) (vx_cwSW 2 hts gL_queues_L_stateOf rfl rfl rfl (by decide +kernel) ⟨Nat.le_of_ble_eq_true rfl, Nat.le_of_ble_eq_true rfl⟩) ⟨cx_bl, cx_S hP hK NoA_z hxk hS⟩ rfl rfl hl.1 rfl (lv_room (Nat.le_of_ble_eq_true rfl)) dL_queues_68 ⟨by show _ ≤ 500; omega, by show _ ≤ 3000; omega⟩) hS (fun H locs hS hg => ?_)
            have hP := hP.grown hg
            have hPa := hPa.grown hg
            have hPb := hPb.grown hg
            refine W.eq (g2 := F0 m 71 ls [.int (σ 1 k), .int (nI (wQ σ k))]) rfl ?_
            refine lv_iconst (v := 2) hx hb dL_queues_71 (by decide) ?_
            refine lv_icmp_ne (tgt := 79) hx hb dL_queues_72 (by decide) (fun c_30 => ?_) (fun c_30 => ?_)
            · refine lv_iconst (v := 0) hx hb dL_queues_79 (by decide) ?_
              refine lv_iadd hx hb dL_queues_80 ?_
              refine W.eq (congrArg (fun z9 => F0 m 81 ls [.int z9]) (nI_add (wQ σ k) 0)) ?_
              refine lv_istore (lv' := [(4, .int (nI (wQ σ k))), (6, .int (nI (ct (sInP σ (nI r)) k))), (7, .int (nI k)), (5, .int (nI r)), (3, .int (nI (aQ σ r))), (0, .ref (ad 0)), (1, .ref qa), (2, .ref qb)]) hx hb dL_queues_81 hl (by decide) rfl (fun ls hl => ?_)
              refine lv_iinc (v := nI (k + 1)) (lv' := [(7, .int (nI (k + 1))), (4, .int (nI (wQ σ k))), (6, .int (nI (ct (sInP σ (nI r)) k))), (5, .int (nI r)), (3, .int (nI (aQ σ r))), (0, .ref (ad 0)), (1, .ref qa), (2, .ref qb)]) hx hb dL_queues_83 hl (k := 2) rfl (nI_1 k) (by decide) rfl (fun ls hl => ?_)
              refine lv_goto (tgt := 20) hx hb dL_queues_86 (by decide) ?_
              have e70 : nI (ct (sInP σ (nI r)) (k + 1)) = nI (ct (sInP σ (nI r)) k) := by rw [ct_n (show sInP σ (nI r) k = false by simp [sInP, c_25, c_28, c_30])]
              have e71 : nI (wQ σ (k + 1)) = nI (wQ σ k) := by unfold wQ; rw [ct_n (show decide (σ 1 k = 2) = false by simp [c_30])]
              exact ih20 H locs ls _ _ (by omega) (by omega) (show lv_has ls 10 [(6, .int (nI (ct (sInP σ (nI r)) (k + 1)))), (4, .int (nI (wQ σ (k + 1)))), (7, .int (nI (k + 1))), (5, .int (nI r)), (3, .int (nI (aQ σ r))), (0, .ref (ad 0)), (1, .ref qa), (2, .ref qb)] from by rw [e70, e71]; exact lv_sub hl [2, 1, 0, 3, 4, 5, 6, 7] rfl) ⟨hP, hPa, hPb⟩ hS
            · refine lv_iconst (v := 1) hx hb dL_queues_75 (by decide) ?_
              refine lv_goto (tgt := 80) hx hb dL_queues_76 (by decide) ?_
              refine lv_iadd hx hb dL_queues_80 ?_
              refine W.eq (congrArg (fun z9 => F0 m 81 ls [.int z9]) (nI_add (wQ σ k) 1)) ?_
              refine lv_istore (lv' := [(4, .int (nI (wQ σ k + 1))), (6, .int (nI (ct (sInP σ (nI r)) k))), (7, .int (nI k)), (5, .int (nI r)), (3, .int (nI (aQ σ r))), (0, .ref (ad 0)), (1, .ref qa), (2, .ref qb)]) hx hb dL_queues_81 hl (by decide) rfl (fun ls hl => ?_)
              refine lv_iinc (v := nI (k + 1)) (lv' := [(7, .int (nI (k + 1))), (4, .int (nI (wQ σ k + 1))), (6, .int (nI (ct (sInP σ (nI r)) k))), (5, .int (nI r)), (3, .int (nI (aQ σ r))), (0, .ref (ad 0)), (1, .ref qa), (2, .ref qb)]) hx hb dL_queues_83 hl (k := 2) rfl (nI_1 k) (by decide) rfl (fun ls hl => ?_)
              refine lv_goto (tgt := 20) hx hb dL_queues_86 (by decide) ?_
              have e70 : nI (ct (sInP σ (nI r)) (k + 1)) = nI (ct (sInP σ (nI r)) k) := by rw [ct_n (show sInP σ (nI r) k = false by simp [sInP, c_25, c_28, c_30])]
              have e71 : nI (wQ σ (k + 1)) = nI (wQ σ k + 1) := by unfold wQ; rw [ct_y (show decide (σ 1 k = 2) = true by simp [c_30])]
              exact ih20 H locs ls _ _ (by omega) (by omega) (show lv_has ls 10 [(6, .int (nI (ct (sInP σ (nI r)) (k + 1)))), (4, .int (nI (wQ σ (k + 1)))), (7, .int (nI (k + 1))), (5, .int (nI r)), (3, .int (nI (aQ σ r))), (0, .ref (ad 0)), (1, .ref qa), (2, .ref qb)] from by rw [e70, e71]; exact lv_sub hl [2, 1, 0, 3, 4, 5, 6, 7] rfl) ⟨hP, hPa, hPb⟩ hS
          · refine lv_iconst (v := 1) hx hb dL_queues_50 (by decide) ?_
            refine lv_goto (tgt := 55) hx hb dL_queues_51 (by decide) ?_
            refine lv_iadd hx hb dL_queues_55 ?_
            refine W.eq (congrArg (fun z9 => F0 m 56 ls [.int z9]) (nI_add (ct (sInP σ (nI r)) k) 1)) ?_
            refine lv_istore (lv' := [(6, .int (nI (ct (sInP σ (nI r)) k + 1))), (4, .int (nI (wQ σ k))), (7, .int (nI k)), (5, .int (nI r)), (3, .int (nI (aQ σ r))), (0, .ref (ad 0)), (1, .ref qa), (2, .ref qb)]) hx hb dL_queues_56 hl (by decide) rfl (fun ls hl => ?_)
            refine lv_iload hx hb dL_queues_58 (lv_at hl 1 rfl) ?_
            refine lv_iload hx hb dL_queues_60 (lv_at hl 3 rfl) ?_
            refine lv_if_ne (tgt := 79) hx hb dL_queues_62 (by decide) (fun c_31 => absurd ((show nI r = 0 by rw [r0]; rfl)) c_31) (fun c_31 => ?_)
            refine lv_aload_n hx hb dL_queues_65 rfl (lv_at hl 5 rfl) ?_
            refine lv_iload hx hb dL_queues_66 (lv_at hl 2 rfl) ?_
            refine rMi (vx_runSW (As := [.ref (ad 0), .int (nI k)]) (rest := [.int (nI (wQ σ k))]) ⟨hx, hb, hml, hown, hts⟩ (c_L_stateOf l hst D cy ad σ sz (nI k) (σ 1 k) (wS (by omega))) (vx_cwSW 2 hts gL_queues_L_stateOf rfl rfl rfl (by decide +kernel) ⟨Nat.le_of_ble_eq_true rfl, Nat.le_of_ble_eq_true rfl⟩) ⟨cx_bl, cx_S hP hK NoA_z hxk hS⟩ rfl rfl hl.1 rfl (lv_room (Nat.le_of_ble_eq_true rfl)) dL_queues_68 ⟨by show _ ≤ 500; omega, by show _ ≤ 3000; omega⟩) hS (fun H locs hS hg => ?_)
            have hP := hP.grown hg
            have hPa := hPa.grown hg
            have hPb := hPb.grown hg
            refine W.eq (g2 := F0 m 71 ls [.int (σ 1 k), .int (nI (wQ σ k))]) rfl ?_
            refine lv_iconst (v := 2) hx hb dL_queues_71 (by decide) ?_
            refine lv_icmp_ne (tgt := 79) hx hb dL_queues_72 (by decide) (fun c_32 => ?_) (fun c_32 => ?_)
            · refine lv_iconst (v := 0) hx hb dL_queues_79 (by decide) ?_
              refine lv_iadd hx hb dL_queues_80 ?_
              refine W.eq (congrArg (fun z9 => F0 m 81 ls [.int z9]) (nI_add (wQ σ k) 0)) ?_
              refine lv_istore (lv' := [(4, .int (nI (wQ σ k))), (6, .int (nI (ct (sInP σ (nI r)) k + 1))), (7, .int (nI k)), (5, .int (nI r)), (3, .int (nI (aQ σ r))), (0, .ref (ad 0)), (1, .ref qa), (2, .ref qb)]) hx hb dL_queues_81 hl (by decide) rfl (fun ls hl => ?_)
              refine lv_iinc (v := nI (k + 1)) (lv' := [(7, .int (nI (k + 1))), (4, .int (nI (wQ σ k))), (6, .int (nI (ct (sInP σ (nI r)) k + 1))), (5, .int (nI r)), (3, .int (nI (aQ σ r))), (0, .ref (ad 0)), (1, .ref qa), (2, .ref qb)]) hx hb dL_queues_83 hl (k := 2) rfl (nI_1 k) (by decide) rfl (fun ls hl => ?_)
              refine lv_goto (tgt := 20) hx hb dL_queues_86 (by decide) ?_
              have e70 : nI (ct (sInP σ (nI r)) (k + 1)) = nI (ct (sInP σ (nI r)) k + 1) := by rw [ct_y (show sInP σ (nI r) k = true by simp [sInP, c_25, c_28, c_32])]
              have e71 : nI (wQ σ (k + 1)) = nI (wQ σ k) := by unfold wQ; rw [ct_n (show decide (σ 1 k = 2) = false by simp [c_32])]
              exact ih20 H locs ls _ _ (by omega) (by omega) (show lv_has ls 10 [(6, .int (nI (ct (sInP σ (nI r)) (k + 1)))), (4, .int (nI (wQ σ (k + 1)))), (7, .int (nI (k + 1))), (5, .int (nI r)), (3, .int (nI (aQ σ r))), (0, .ref (ad 0)), (1, .ref qa), (2, .ref qb)] from by rw [e70, e71]; exact lv_sub hl [2, 1, 0, 3, 4, 5, 6, 7] rfl) ⟨hP, hPa, hPb⟩ hS
            · refine lv_iconst (v := 1) hx hb dL_queues_75 (by decide) ?_
              refine lv_goto (tgt := 80) hx hb dL_queues_76 (by decide) ?_
              refine lv_iadd hx hb dL_queues_80 ?_
              refine W.eq (congrArg (fun z9 => F0 m 81 ls [.int z9]) (nI_add (wQ σ k) 1)) ?_
              refine lv_istore (lv' := [(4, .int (nI (wQ σ k + 1))), (6, .int (nI (ct (sInP σ (nI r)) k + 1))), (7, .int (nI k)), (5, .int (nI r)), (3, .int (nI (aQ σ r))), (0, .ref (ad 0)), (1, .ref qa), (2, .ref qb)]) hx hb dL_queues_81 hl (by decide) rfl (fun ls hl => ?_)
              refine lv_iinc (v := nI (k + 1)) (lv' := [(7, .int (nI (k + 1))), (4, .int (nI (wQ σ k + 1))), (6, .int (nI (ct (sInP σ (nI r)) k + 1))), (5, .int (nI r)), (3, .int (nI (aQ σ r))), (0, .ref (ad 0)), (1, .ref qa), (2, .ref qb)]) hx hb dL_queues_83 hl (k := 2) rfl (nI_1 k) (by decide) rfl (fun ls hl => ?_)
              refine lv_goto (tgt := 20) hx hb dL_queues_86 (by decide) ?_
              have e70 : nI (ct (sInP σ (nI r)) (k + 1)) = nI (ct (sInP σ (nI r)) k + 1) := by rw [ct_y (show sInP σ (nI r) k = true by simp [sInP, c_25, c_28, c_32])]
              have e71 : nI (wQ σ (k + 1)) = nI (wQ σ k + 1) := by unfold wQ; rw [ct_y (show decide (σ 1 k = 2) = true by simp [c_32])]
              exact ih20 H locs ls _ _ (by omega) (by omega) (show lv_has ls 10 [(6, .int (nI (ct (sInP σ (nI r)) (k + 1)))), (4, .int (nI (wQ σ (k + 1)))), (7, .int (nI (k + 1))), (5, .int (nI r)), (3, .int (nI (aQ σ r))), (0, .ref (ad 0)), (1, .ref qa), (2, .ref qb)] from by rw [e70, e71]; exact lv_sub hl [2, 1, 0, 3, 4, 5, 6, 7] rfl) ⟨hP, hPa, hPb⟩ hS
    · rw [wt_n σ r0] at hl
      have hl : lv_has ls 10 [(5, .int (nI r)), (3, .int (nI (aQ σ r))), (4, .int (nI (wQ σ 16))), (0, .ref (ad 0)), (1, .ref qa), (2, .ref qb)] := hl
      refine lv_iload hx hb dL_queues_8 (lv_at hl 0 rfl) ?_
      refine lv_iconst (v := 4) hx hb dL_queues_10 (by decide) ?_
      refine lv_icmp_ge (tgt := 236) hx hb dL_queues_11 (by decide) (fun c_33 => absurd c_33 ((fun z9 => absurd ((nI_leI (a := 4) (b := r) (by omega) (by omega)).mp z9) (by omega)))) (fun c_33 => ?_)
      refine lv_iconst (v := 0) hx hb dL_queues_14 (by decide) ?_
      refine lv_istore (lv' := [(6, .int 0), (5, .int (nI r)), (3, .int (nI (aQ σ r))), (4, .int (nI (wQ σ 16))), (0, .ref (ad 0)), (1, .ref qa), (2, .ref qb)]) hx hb dL_queues_15 hl (by decide) rfl (fun ls hl => ?_)
      refine lv_iconst (v := 0) hx hb dL_queues_17 (by decide) ?_
      refine lv_istore (lv' := [(7, .int 0), (6, .int 0), (5, .int (nI r)), (3, .int (nI (aQ σ r))), (4, .int (nI (wQ σ 16))), (0, .ref (ad 0)), (1, .ref qa), (2, .ref qb)]) hx hb dL_queues_18 hl (by decide) rfl (fun ls hl => ?_)
      have hl0 : lv_has ls 10 [(6, .int (nI (ct (sInP σ (nI r)) 0))), (4, .int (nI (wQ σ 16))), (7, .int (nI 0)), (5, .int (nI r)), (3, .int (nI (aQ σ r))), (0, .ref (ad 0)), (1, .ref qa), (2, .ref qb)] := lv_sub hl [1, 4, 0, 2, 3, 5, 6, 7] rfl
      refine w_loopG 16 (0 + 95 * r) 2 (0 + 570 * r) 12 (fun k H => va_P D vwCl (wC cy ad σ) H ∧ va_P D vwCl [aW cy qa 64 fa] H ∧ va_P D vwCl [aW cy qb 6 fb] H) (fun k => [(6, .int (nI (ct (sInP σ (nI r)) k))), (4, .int (nI (wQ σ 16))), (7, .int (nI k)), (5, .int (nI r)), (3, .int (nI (aQ σ r))), (0, .ref (ad 0)), (1, .ref qa), (2, .ref qb)]) hl0 ⟨hP, hPa, hPb⟩ hS (Nat.le_refl _) (Nat.le_refl _) (fun H locs ls hl hG hS => ?_) (fun k hk H locs ls hl hG hS ih => ?_)
      · have hl : lv_has ls 10 [(6, .int (nI (ct (sInP σ (nI r)) 16))), (4, .int (nI (wQ σ 16))), (7, .int (nI 16)), (5, .int (nI r)), (3, .int (nI (aQ σ r))), (0, .ref (ad 0)), (1, .ref qa), (2, .ref qb)] := hl
        obtain ⟨hP, hPa, hPb⟩ := hG
        refine lv_iload hx hb dL_queues_20 (lv_at hl 2 rfl) ?_
        refine lv_bipush (v := 16) hx hb dL_queues_22 (by decide) ?_
        refine lv_icmp_ge (tgt := 89) hx hb dL_queues_24 (by decide) (fun c_34 => ?_) (fun c_34 => absurd (((nI_leI (a := 16) (b := 16) (by omega) (by omega)).mpr (by omega))) c_34)
        refine lv_iconst (v := 0) hx hb dL_queues_89 (by decide) ?_
        refine lv_istore (lv' := [(7, .int 0), (6, .int (nI (ct (sInP σ (nI r)) 16))), (4, .int (nI (wQ σ 16))), (5, .int (nI r)), (3, .int (nI (aQ σ r))), (0, .ref (ad 0)), (1, .ref qa), (2, .ref qb)]) hx hb dL_queues_90 hl (by decide) rfl (fun ls hl => ?_)
        refine lv_iconst (v := 0) hx hb dL_queues_92 (by decide) ?_
        refine lv_istore (lv' := [(8, .int 0), (7, .int 0), (6, .int (nI (ct (sInP σ (nI r)) 16))), (4, .int (nI (wQ σ 16))), (5, .int (nI r)), (3, .int (nI (aQ σ r))), (0, .ref (ad 0)), (1, .ref qa), (2, .ref qb)]) hx hb dL_queues_93 hl (by decide) rfl (fun ls hl => ?_)
        have hl0 : lv_has ls 10 [(7, .int (nI 0)), (8, .int (bN σ (nI r) 0)), (6, .int (nI (ct (sInP σ (nI r)) 16))), (4, .int (nI (wQ σ 16))), (5, .int (nI r)), (3, .int (nI (aQ σ r))), (0, .ref (ad 0)), (1, .ref qa), (2, .ref qb)] := lv_sub hl [1, 0, 2, 3, 4, 5, 6, 7, 8] rfl
        refine w_loopG (nQ σ (nI r)) (0 + 95 * r + 2 * 16) 3 (0 + 570 * r + 12 * 16) 18 (fun p H => va_P D vwCl (wC cy ad σ) H ∧ va_P D vwCl [aW cy qa 64 fa] H ∧ va_P D vwCl [aW cy qb 6 fb] H) (fun p => [(7, .int (nI p)), (8, .int (bN σ (nI r) p)), (6, .int (nI (ct (sInP σ (nI r)) 16))), (4, .int (nI (wQ σ 16))), (5, .int (nI r)), (3, .int (nI (aQ σ r))), (0, .ref (ad 0)), (1, .ref qa), (2, .ref qb)]) hl0 ⟨hP, hPa, hPb⟩ hS (Nat.le_refl _) (Nat.le_refl _) (fun H locs ls hl hG hS => ?_) (fun p hp H locs ls hl hG hS ih => ?_)
        · have hl : lv_has ls 10 [(7, .int (nI (nQ σ (nI r)))), (8, .int (bN σ (nI r) (nQ σ (nI r)))), (6, .int (nI (ct (sInP σ (nI r)) 16))), (4, .int (nI (wQ σ 16))), (5, .int (nI r)), (3, .int (nI (aQ σ r))), (0, .ref (ad 0)), (1, .ref qa), (2, .ref qb)] := hl
          obtain ⟨hP, hPa, hPb⟩ := hG
          have hqe := sQA_end (R := nI r) (p := nQ σ (nI r)) hI.2.2.2.1 hN9 (Nat.le_refl _) (by omega)
          have hqe2 := sQA_end (R := nI r) (p := nQ σ (nI r) + 1) hI.2.2.2.1 hN9 (by omega) (by omega)
          rcases hFr with hF1 | hF1
          · have hz : nQ σ (nI r) = 0 := by refine Nat.eq_zero_of_not_pos (fun z9 => ?_); obtain ⟨j9, w1, -⟩ := sQA_some (R := nI r) (p := 0) hI.2.2.2.1 hN9 z9; rw [show nI 0 = (0 : Int32) from rfl, hF1] at w1; cases w1
            refine lv_aload_n hx hb dL_queues_95 rfl (lv_at hl 6 rfl) ?_
            refine lv_iload hx hb dL_queues_96 (lv_at hl 4 rfl) ?_
            refine lv_iload hx hb dL_queues_98 (lv_at hl 0 rfl) ?_
            refine rMi (vx_runSW (As := [.ref (ad 0), .int (nI r), .int (nI (nQ σ (nI r)))]) (rest := []) ⟨hx, hb, hml, hown, hts⟩ (c_L_queueAt l hst D cy ad σ sz (nI r) (nI (nQ σ (nI r))) ((-1)) ((wQa (p := nQ σ (nI r)) hr (by omega)).trans (by rw [hqe]; rfl))) (vx_cwSW 3 hts gL_queues_L_queueAt rfl rfl rfl (by decide +kernel) ⟨Nat.le_of_ble_eq_true rfl, Nat.le_of_ble_eq_true rfl⟩) ⟨cx_bl, cx_S hP hK NoA_z hxk hS⟩ rfl rfl hl.1 rfl (lv_room (Nat.le_of_ble_eq_true rfl)) dL_queues_100 ⟨by show _ ≤ 500; omega, by show _ ≤ 3000; omega⟩) hS (fun H locs hS hg => ?_)
            have hP := hP.grown hg
            have hPa := hPa.grown hg
            have hPb := hPb.grown hg
            refine W.eq (g2 := F0 m 103 ls [.int (-1)]) rfl ?_
            refine lv_if_lt (tgt := 172) hx hb dL_queues_103 (by decide) (fun c_35 => ?_) (fun c_35 => absurd ((by decide : (-1 : Int32) < 0)) c_35)
            refine lv_iload_n hx hb dL_queues_172 rfl (lv_at hl 5 rfl) ?_
            refine lv_iload hx hb dL_queues_173 (lv_at hl 0 rfl) ?_
            refine lv_iadd hx hb dL_queues_175 ?_
            refine W.eq (congrArg (fun z9 => F0 m 176 ls [.int z9]) (nI_add (aQ σ r) (nQ σ (nI r)))) ?_
            refine lv_istore_n (lv' := [(3, .int (nI (aQ σ r + (nQ σ (nI r))))), (7, .int (nI (nQ σ (nI r)))), (8, .int (bN σ (nI r) (nQ σ (nI r)))), (6, .int (nI (ct (sInP σ (nI r)) 16))), (4, .int (nI (wQ σ 16))), (5, .int (nI r)), (0, .ref (ad 0)), (1, .ref qa), (2, .ref qb)]) hx hb dL_queues_176 rfl hl (by decide) rfl (fun ls hl => ?_)
            refine lv_aload_n hx hb dL_queues_177 rfl (lv_at hl 6 rfl) ?_
            refine lv_iload hx hb dL_queues_178 (lv_at hl 5 rfl) ?_
            refine lv_iload hx hb dL_queues_180 (lv_at hl 1 rfl) ?_
            refine rMi (vx_runSW (As := [.ref (ad 0), .int (nI r), .int (nI (nQ σ (nI r)))]) (rest := []) ⟨hx, hb, hml, hown, hts⟩ (c_L_queueAt l hst D cy ad σ sz (nI r) (nI (nQ σ (nI r))) ((-1)) ((wQa (p := nQ σ (nI r)) hr (by omega)).trans (by rw [hqe]; rfl))) (vx_cwSW 3 hts gL_queues_L_queueAt rfl rfl rfl (by decide +kernel) ⟨Nat.le_of_ble_eq_true rfl, Nat.le_of_ble_eq_true rfl⟩) ⟨cx_bl, cx_S hP hK NoA_z hxk hS⟩ rfl rfl hl.1 rfl (lv_room (Nat.le_of_ble_eq_true rfl)) dL_queues_182 ⟨by show _ ≤ 500; omega, by show _ ≤ 3000; omega⟩) hS (fun H locs hS hg => ?_)
            have hP := hP.grown hg
            have hPa := hPa.grown hg
            have hPb := hPb.grown hg
            refine W.eq (g2 := F0 m 185 ls [.int (-1)]) rfl ?_
            refine lv_iconst (v := (-1)) hx hb dL_queues_185 (by decide) ?_
            refine lv_icmp_ne (tgt := 228) hx hb dL_queues_186 (by decide) (fun c_36 => absurd ((by decide : (-1 : Int32) = -1)) c_36) (fun c_36 => ?_)
            refine lv_aload_n hx hb dL_queues_189 rfl (lv_at hl 6 rfl) ?_
            refine lv_iload hx hb dL_queues_190 (lv_at hl 5 rfl) ?_
            refine lv_iload hx hb dL_queues_192 (lv_at hl 1 rfl) ?_
            refine lv_iconst (v := 1) hx hb dL_queues_194 (by decide) ?_
            refine lv_iadd hx hb dL_queues_195 ?_
            refine W.eq (congrArg (fun z9 => F0 m 196 ls [.int z9, .int (nI r), .ref (ad 0)]) (nI_add (nQ σ (nI r)) 1)) ?_
            refine rMi (vx_runSW (As := [.ref (ad 0), .int (nI r), .int (nI (nQ σ (nI r) + 1))]) (rest := []) ⟨hx, hb, hml, hown, hts⟩ (c_L_queueAt l hst D cy ad σ sz (nI r) (nI (nQ σ (nI r) + 1)) ((-1)) ((wQa (p := nQ σ (nI r) + 1) hr (by omega)).trans (by rw [hqe2]; rfl))) (vx_cwSW 3 hts gL_queues_L_queueAt rfl rfl rfl (by decide +kernel) ⟨Nat.le_of_ble_eq_true rfl, Nat.le_of_ble_eq_true rfl⟩) ⟨cx_bl, cx_S hP hK NoA_z hxk hS⟩ rfl rfl hl.1 rfl (lv_room (Nat.le_of_ble_eq_true rfl)) dL_queues_196 ⟨by show _ ≤ 500; omega, by show _ ≤ 3000; omega⟩) hS (fun H locs hS hg => ?_)
            have hP := hP.grown hg
            have hPa := hPa.grown hg
            have hPb := hPb.grown hg
            refine W.eq (g2 := F0 m 199 ls [.int (-1)]) rfl ?_
            refine lv_iconst (v := (-1)) hx hb dL_queues_199 (by decide) ?_
            refine lv_icmp_ne (tgt := 228) hx hb dL_queues_200 (by decide) (fun c_37 => absurd ((by decide : (-1 : Int32) = -1)) c_37) (fun c_37 => ?_)
            refine lv_aload_n hx hb dL_queues_203 rfl (lv_at hl 6 rfl) ?_
            refine lv_iload hx hb dL_queues_204 (lv_at hl 5 rfl) ?_
            refine rMi (vx_runSW (As := [.ref (ad 0), .int (nI r)]) (rest := []) ⟨hx, hb, hml, hown, hts⟩ (c_L_installing l hst D cy ad σ sz (nI r) (nI (ct (sInP σ (nI r)) 16)) (wN3 hr)) (vx_cwSW 2 hts gL_queues_L_installing rfl rfl rfl (by decide +kernel) ⟨Nat.le_of_ble_eq_true rfl, Nat.le_of_ble_eq_true rfl⟩) ⟨cx_bl, cx_S hP hK NoA_z hxk hS⟩ rfl rfl hl.1 rfl (lv_room (Nat.le_of_ble_eq_true rfl)) dL_queues_206 ⟨by show _ ≤ 500; omega, by show _ ≤ 3000; omega⟩) hS (fun H locs hS hg => ?_)
            have hP := hP.grown hg
            have hPa := hPa.grown hg
            have hPb := hPb.grown hg
            refine W.eq (g2 := F0 m 209 ls [.int (nI (ct (sInP σ (nI r)) 16))]) rfl ?_
            refine lv_iload hx hb dL_queues_209 (lv_at hl 3 rfl) ?_
            refine lv_icmp_ne (tgt := 228) hx hb dL_queues_211 (by decide) (fun c_38 => absurd (rfl) c_38) (fun c_38 => ?_)
            refine lv_iload hx hb dL_queues_214 (lv_at hl 3 rfl) ?_
            refine lv_aload_n hx hb dL_queues_216 rfl (lv_at hl 8 rfl) ?_
            refine lv_iload hx hb dL_queues_217 (lv_at hl 5 rfl) ?_
            refine raW (x := σ 21 r) hx hb hK hPb (show r < 6 by omega) (by decide) (hT.2.2.1 r hr) dL_queues_219 ?_
            refine lv_icmp_ge (tgt := 230) hx hb dL_queues_220 (by decide) (fun c_39 => ?_) (fun c_39 => ?_)
            · have d_39 := Int32.not_lt.mpr c_39
              refine lv_iinc (v := nI (r + 1)) (lv' := [(5, .int (nI (r + 1))), (3, .int (nI (aQ σ r + (nQ σ (nI r))))), (7, .int (nI (nQ σ (nI r)))), (8, .int (bN σ (nI r) (nQ σ (nI r)))), (6, .int (nI (ct (sInP σ (nI r)) 16))), (4, .int (nI (wQ σ 16))), (0, .ref (ad 0)), (1, .ref qa), (2, .ref qb)]) hx hb dL_queues_230 hl (k := 5) rfl (nI_1 r) (by decide) rfl (fun ls hl => ?_)
              refine lv_goto (tgt := 8) hx hb dL_queues_233 (by decide) ?_
              have e70 : nI (aQ σ (r + 1)) = nI (aQ σ r + (nQ σ (nI r))) := by rw [aQ_s]
              have e71 : nI (wt σ (r + 1)) = nI (wQ σ 16) := by rw [wt_n σ (by omega)]
              exact ih8 H locs ls _ _ (by omega) (by omega) (show lv_has ls 10 [(5, .int (nI (r + 1))), (3, .int (nI (aQ σ (r + 1)))), (4, .int (nI (wt σ (r + 1)))), (0, .ref (ad 0)), (1, .ref qa), (2, .ref qb)] from by rw [e70, e71]; exact lv_sub hl [0, 1, 5, 6, 7, 8] rfl) ⟨hP, hPa, hPb⟩ hS
            · have d_39 := Int32.not_le.mp c_39
              refine lv_iload hx hb dL_queues_223 (lv_at hl 1 rfl) ?_
              refine lv_if_le (tgt := 230) hx hb dL_queues_225 (by decide) (fun c_40 => ?_) (fun c_40 => absurd ((show nI (nQ σ (nI r)) ≤ 0 by rw [hz]; exact Int32.le_refl _)) c_40)
              refine lv_iinc (v := nI (r + 1)) (lv' := [(5, .int (nI (r + 1))), (3, .int (nI (aQ σ r + (nQ σ (nI r))))), (7, .int (nI (nQ σ (nI r)))), (8, .int (bN σ (nI r) (nQ σ (nI r)))), (6, .int (nI (ct (sInP σ (nI r)) 16))), (4, .int (nI (wQ σ 16))), (0, .ref (ad 0)), (1, .ref qa), (2, .ref qb)]) hx hb dL_queues_230 hl (k := 5) rfl (nI_1 r) (by decide) rfl (fun ls hl => ?_)
              refine lv_goto (tgt := 8) hx hb dL_queues_233 (by decide) ?_
              have e70 : nI (aQ σ (r + 1)) = nI (aQ σ r + (nQ σ (nI r))) := by rw [aQ_s]
              have e71 : nI (wt σ (r + 1)) = nI (wQ σ 16) := by rw [wt_n σ (by omega)]
              exact ih8 H locs ls _ _ (by omega) (by omega) (show lv_has ls 10 [(5, .int (nI (r + 1))), (3, .int (nI (aQ σ (r + 1)))), (4, .int (nI (wt σ (r + 1)))), (0, .ref (ad 0)), (1, .ref qa), (2, .ref qb)] from by rw [e70, e71]; exact lv_sub hl [0, 1, 5, 6, 7, 8] rfl) ⟨hP, hPa, hPb⟩ hS
          · have hF2 := FA_2 hF1
            refine lv_aload_n hx hb dL_queues_95 rfl (lv_at hl 6 rfl) ?_
            refine lv_iload hx hb dL_queues_96 (lv_at hl 4 rfl) ?_
            refine lv_iload hx hb dL_queues_98 (lv_at hl 0 rfl) ?_
            refine rMi (vx_runSW (As := [.ref (ad 0), .int (nI r), .int (nI (nQ σ (nI r)))]) (rest := []) ⟨hx, hb, hml, hown, hts⟩ (c_L_queueAt l hst D cy ad σ sz (nI r) (nI (nQ σ (nI r))) ((-1)) ((wQa (p := nQ σ (nI r)) hr (by omega)).trans (by rw [hqe]; rfl))) (vx_cwSW 3 hts gL_queues_L_queueAt rfl rfl rfl (by decide +kernel) ⟨Nat.le_of_ble_eq_true rfl, Nat.le_of_ble_eq_true rfl⟩) ⟨cx_bl, cx_S hP hK NoA_z hxk hS⟩ rfl rfl hl.1 rfl (lv_room (Nat.le_of_ble_eq_true rfl)) dL_queues_100 ⟨by show _ ≤ 500; omega, by show _ ≤ 3000; omega⟩) hS (fun H locs hS hg => ?_)
            have hP := hP.grown hg
            have hPa := hPa.grown hg
            have hPb := hPb.grown hg
            refine W.eq (g2 := F0 m 103 ls [.int (-1)]) rfl ?_
            refine lv_if_lt (tgt := 172) hx hb dL_queues_103 (by decide) (fun c_41 => ?_) (fun c_41 => absurd ((by decide : (-1 : Int32) < 0)) c_41)
            refine lv_iload_n hx hb dL_queues_172 rfl (lv_at hl 5 rfl) ?_
            refine lv_iload hx hb dL_queues_173 (lv_at hl 0 rfl) ?_
            refine lv_iadd hx hb dL_queues_175 ?_
            refine W.eq (congrArg (fun z9 => F0 m 176 ls [.int z9]) (nI_add (aQ σ r) (nQ σ (nI r)))) ?_
            refine lv_istore_n (lv' := [(3, .int (nI (aQ σ r + (nQ σ (nI r))))), (7, .int (nI (nQ σ (nI r)))), (8, .int (bN σ (nI r) (nQ σ (nI r)))), (6, .int (nI (ct (sInP σ (nI r)) 16))), (4, .int (nI (wQ σ 16))), (5, .int (nI r)), (0, .ref (ad 0)), (1, .ref qa), (2, .ref qb)]) hx hb dL_queues_176 rfl hl (by decide) rfl (fun ls hl => ?_)
            refine lv_aload_n hx hb dL_queues_177 rfl (lv_at hl 6 rfl) ?_
            refine lv_iload hx hb dL_queues_178 (lv_at hl 5 rfl) ?_
            refine lv_iload hx hb dL_queues_180 (lv_at hl 1 rfl) ?_
            refine rMi (vx_runSW (As := [.ref (ad 0), .int (nI r), .int (nI (nQ σ (nI r)))]) (rest := []) ⟨hx, hb, hml, hown, hts⟩ (c_L_queueAt l hst D cy ad σ sz (nI r) (nI (nQ σ (nI r))) ((-1)) ((wQa (p := nQ σ (nI r)) hr (by omega)).trans (by rw [hqe]; rfl))) (vx_cwSW 3 hts gL_queues_L_queueAt rfl rfl rfl (by decide +kernel) ⟨Nat.le_of_ble_eq_true rfl, Nat.le_of_ble_eq_true rfl⟩) ⟨cx_bl, cx_S hP hK NoA_z hxk hS⟩ rfl rfl hl.1 rfl (lv_room (Nat.le_of_ble_eq_true rfl)) dL_queues_182 ⟨by show _ ≤ 500; omega, by show _ ≤ 3000; omega⟩) hS (fun H locs hS hg => ?_)
            have hP := hP.grown hg
            have hPa := hPa.grown hg
            have hPb := hPb.grown hg
            refine W.eq (g2 := F0 m 185 ls [.int (-1)]) rfl ?_
            refine lv_iconst (v := (-1)) hx hb dL_queues_185 (by decide) ?_
            refine lv_icmp_ne (tgt := 228) hx hb dL_queues_186 (by decide) (fun c_42 => absurd ((by decide : (-1 : Int32) = -1)) c_42) (fun c_42 => ?_)
            refine lv_aload_n hx hb dL_queues_189 rfl (lv_at hl 6 rfl) ?_
            refine lv_iload hx hb dL_queues_190 (lv_at hl 5 rfl) ?_
            refine lv_iload hx hb dL_queues_192 (lv_at hl 1 rfl) ?_
            refine lv_iconst (v := 1) hx hb dL_queues_194 (by decide) ?_
            refine lv_iadd hx hb dL_queues_195 ?_
            refine W.eq (congrArg (fun z9 => F0 m 196 ls [.int z9, .int (nI r), .ref (ad 0)]) (nI_add (nQ σ (nI r)) 1)) ?_
            refine rMi (vx_runSW (As := [.ref (ad 0), .int (nI r), .int (nI (nQ σ (nI r) + 1))]) (rest := []) ⟨hx, hb, hml, hown, hts⟩ (c_L_queueAt l hst D cy ad σ sz (nI r) (nI (nQ σ (nI r) + 1)) ((-1)) ((wQa (p := nQ σ (nI r) + 1) hr (by omega)).trans (by rw [hqe2]; rfl))) (vx_cwSW 3 hts gL_queues_L_queueAt rfl rfl rfl (by decide +kernel) ⟨Nat.le_of_ble_eq_true rfl, Nat.le_of_ble_eq_true rfl⟩) ⟨cx_bl, cx_S hP hK NoA_z hxk hS⟩ rfl rfl hl.1 rfl (lv_room (Nat.le_of_ble_eq_true rfl)) dL_queues_196 ⟨by show _ ≤ 500; omega, by show _ ≤ 3000; omega⟩) hS (fun H locs hS hg => ?_)
            have hP := hP.grown hg
            have hPa := hPa.grown hg
            have hPb := hPb.grown hg
            refine W.eq (g2 := F0 m 199 ls [.int (-1)]) rfl ?_
            refine lv_iconst (v := (-1)) hx hb dL_queues_199 (by decide) ?_
            refine lv_icmp_ne (tgt := 228) hx hb dL_queues_200 (by decide) (fun c_43 => absurd ((by decide : (-1 : Int32) = -1)) c_43) (fun c_43 => ?_)
            refine lv_aload_n hx hb dL_queues_203 rfl (lv_at hl 6 rfl) ?_
            refine lv_iload hx hb dL_queues_204 (lv_at hl 5 rfl) ?_
            refine rMi (vx_runSW (As := [.ref (ad 0), .int (nI r)]) (rest := []) ⟨hx, hb, hml, hown, hts⟩ (c_L_installing l hst D cy ad σ sz (nI r) (nI (ct (sInP σ (nI r)) 16)) (wN3 hr)) (vx_cwSW 2 hts gL_queues_L_installing rfl rfl rfl (by decide +kernel) ⟨Nat.le_of_ble_eq_true rfl, Nat.le_of_ble_eq_true rfl⟩) ⟨cx_bl, cx_S hP hK NoA_z hxk hS⟩ rfl rfl hl.1 rfl (lv_room (Nat.le_of_ble_eq_true rfl)) dL_queues_206 ⟨by show _ ≤ 500; omega, by show _ ≤ 3000; omega⟩) hS (fun H locs hS hg => ?_)
            have hP := hP.grown hg
            have hPa := hPa.grown hg
            have hPb := hPb.grown hg
            refine W.eq (g2 := F0 m 209 ls [.int (nI (ct (sInP σ (nI r)) 16))]) rfl ?_
            refine lv_iload hx hb dL_queues_209 (lv_at hl 3 rfl) ?_
            refine lv_icmp_ne (tgt := 228) hx hb dL_queues_211 (by decide) (fun c_44 => absurd (rfl) c_44) (fun c_44 => ?_)
            refine lv_iload hx hb dL_queues_214 (lv_at hl 3 rfl) ?_
            refine lv_aload_n hx hb dL_queues_216 rfl (lv_at hl 8 rfl) ?_
            refine lv_iload hx hb dL_queues_217 (lv_at hl 5 rfl) ?_
            refine raW (x := σ 21 r) hx hb hK hPb (show r < 6 by omega) (by decide) (hT.2.2.1 r hr) dL_queues_219 ?_
            refine lv_icmp_ge (tgt := 230) hx hb dL_queues_220 (by decide) (fun c_45 => ?_) (fun c_45 => absurd (hF2) c_45)
            refine lv_iinc (v := nI (r + 1)) (lv' := [(5, .int (nI (r + 1))), (3, .int (nI (aQ σ r + (nQ σ (nI r))))), (7, .int (nI (nQ σ (nI r)))), (8, .int (bN σ (nI r) (nQ σ (nI r)))), (6, .int (nI (ct (sInP σ (nI r)) 16))), (4, .int (nI (wQ σ 16))), (0, .ref (ad 0)), (1, .ref qa), (2, .ref qb)]) hx hb dL_queues_230 hl (k := 5) rfl (nI_1 r) (by decide) rfl (fun ls hl => ?_)
            refine lv_goto (tgt := 8) hx hb dL_queues_233 (by decide) ?_
            have e70 : nI (aQ σ (r + 1)) = nI (aQ σ r + (nQ σ (nI r))) := by rw [aQ_s]
            have e71 : nI (wt σ (r + 1)) = nI (wQ σ 16) := by rw [wt_n σ (by omega)]
            exact ih8 H locs ls _ _ (by omega) (by omega) (show lv_has ls 10 [(5, .int (nI (r + 1))), (3, .int (nI (aQ σ (r + 1)))), (4, .int (nI (wt σ (r + 1)))), (0, .ref (ad 0)), (1, .ref qa), (2, .ref qb)] from by rw [e70, e71]; exact lv_sub hl [0, 1, 5, 6, 7, 8] rfl) ⟨hP, hPa, hPb⟩ hS
        · have hl : lv_has ls 10 [(7, .int (nI p)), (8, .int (bN σ (nI r) p)), (6, .int (nI (ct (sInP σ (nI r)) 16))), (4, .int (nI (wQ σ 16))), (5, .int (nI r)), (3, .int (nI (aQ σ r))), (0, .ref (ad 0)), (1, .ref qa), (2, .ref qb)] := hl
          obtain ⟨hP, hPa, hPb⟩ := hG
          have ih95 := ih
          obtain ⟨i9, hq1, hi9, hq3, hq4⟩ := sQA_some (R := nI r) hI.2.2.2.1 hN9 hp
          obtain ⟨hq5, hq6⟩ := sQ_st hq3
          refine lv_aload_n hx hb dL_queues_95 rfl (lv_at hl 6 rfl) ?_
          refine lv_iload hx hb dL_queues_96 (lv_at hl 4 rfl) ?_
          refine lv_iload hx hb dL_queues_98 (lv_at hl 0 rfl) ?_
          refine rMi (vx_runSW (As := [.ref (ad 0), .int (nI r), .int (nI p)]) (rest := []) ⟨hx, hb, hml, hown, hts⟩ (c_L_queueAt l hst D cy ad σ sz (nI r) (nI p) (nI i9) ((wQa (p := p) hr (by omega)).trans (by rw [hq1]; rfl))) (vx_cwSW 3 hts gL_queues_L_queueAt rfl rfl rfl (by decide +kernel) ⟨Nat.le_of_ble_eq_true rfl, Nat.le_of_ble_eq_true rfl⟩) ⟨cx_bl, cx_S hP hK NoA_z hxk hS⟩ rfl rfl hl.1 rfl (lv_room (Nat.le_of_ble_eq_true rfl)) dL_queues_100 ⟨by show _ ≤ 500; omega, by show _ ≤ 3000; omega⟩) hS (fun H locs hS hg => ?_)
          have hP := hP.grown hg
          have hPa := hPa.grown hg
          have hPb := hPb.grown hg
          refine W.eq (g2 := F0 m 103 ls [.int (nI i9)]) rfl ?_
          refine lv_if_lt (tgt := 172) hx hb dL_queues_103 (by decide) (fun c_46 => absurd c_46 ((nI_pos (n := i9) (by omega)))) (fun c_46 => ?_)
          refine lv_aload_n hx hb dL_queues_106 rfl (lv_at hl 6 rfl) ?_
          refine lv_iload hx hb dL_queues_107 (lv_at hl 4 rfl) ?_
          refine lv_iload hx hb dL_queues_109 (lv_at hl 0 rfl) ?_
          refine rMi (vx_runSW (As := [.ref (ad 0), .int (nI r), .int (nI p)]) (rest := []) ⟨hx, hb, hml, hown, hts⟩ (c_L_queueAt l hst D cy ad σ sz (nI r) (nI p) (nI i9) ((wQa (p := p) hr (by omega)).trans (by rw [hq1]; rfl))) (vx_cwSW 3 hts gL_queues_L_queueAt rfl rfl rfl (by decide +kernel) ⟨Nat.le_of_ble_eq_true rfl, Nat.le_of_ble_eq_true rfl⟩) ⟨cx_bl, cx_S hP hK NoA_z hxk hS⟩ rfl rfl hl.1 rfl (lv_room (Nat.le_of_ble_eq_true rfl)) dL_queues_111 ⟨by show _ ≤ 500; omega, by show _ ≤ 3000; omega⟩) hS (fun H locs hS hg => ?_)
          have hP := hP.grown hg
          have hPa := hPa.grown hg
          have hPb := hPb.grown hg
          refine W.eq (g2 := F0 m 114 ls [.int (nI i9)]) rfl ?_
          refine lv_istore (lv' := [(9, .int (nI i9)), (7, .int (nI p)), (8, .int (bN σ (nI r) p)), (6, .int (nI (ct (sInP σ (nI r)) 16))), (4, .int (nI (wQ σ 16))), (5, .int (nI r)), (3, .int (nI (aQ σ r))), (0, .ref (ad 0)), (1, .ref qa), (2, .ref qb)]) hx hb dL_queues_114 hl (by decide) rfl (fun ls hl => ?_)
          refine lv_iload hx hb dL_queues_116 (lv_at hl 0 rfl) ?_
          refine lv_bipush (v := 15) hx hb dL_queues_118 (by decide) ?_
          refine lv_icmp_gt (tgt := 155) hx hb dL_queues_120 (by decide) (fun c_47 => absurd c_47 ((fun z9 => absurd ((nI_ltI (a := 15) (b := i9) (by omega) (by omega)).mp z9) (by omega)))) (fun c_47 => ?_)
          refine lv_aload_n hx hb dL_queues_123 rfl (lv_at hl 7 rfl) ?_
          refine lv_iload hx hb dL_queues_124 (lv_at hl 0 rfl) ?_
          refine rMi (vx_runSW (As := [.ref (ad 0), .int (nI i9)]) (rest := []) ⟨hx, hb, hml, hown, hts⟩ (c_L_stateOf l hst D cy ad σ sz (nI i9) (2) ((wS hi9).trans hq5)) (vx_cwSW 2 hts gL_queues_L_stateOf rfl rfl rfl (by decide +kernel) ⟨Nat.le_of_ble_eq_true rfl, Nat.le_of_ble_eq_true rfl⟩) ⟨cx_bl, cx_S hP hK NoA_z hxk hS⟩ rfl rfl hl.1 rfl (lv_room (Nat.le_of_ble_eq_true rfl)) dL_queues_126 ⟨by show _ ≤ 500; omega, by show _ ≤ 3000; omega⟩) hS (fun H locs hS hg => ?_)
          have hP := hP.grown hg
          have hPa := hPa.grown hg
          have hPb := hPb.grown hg
          refine W.eq (g2 := F0 m 129 ls [.int 2]) rfl ?_
          refine lv_iconst (v := 2) hx hb dL_queues_129 (by decide) ?_
          refine lv_icmp_ne (tgt := 155) hx hb dL_queues_130 (by decide) (fun c_48 => absurd ((by decide : (2 : Int32) = 2)) c_48) (fun c_48 => ?_)
          refine lv_aload_n hx hb dL_queues_133 rfl (lv_at hl 8 rfl) ?_
          refine lv_iconst (v := 4) hx hb dL_queues_134 (by decide) ?_
          refine lv_iload hx hb dL_queues_135 (lv_at hl 0 rfl) ?_
          refine lv_imul hx hb dL_queues_137 ?_
          refine W.eq (congrArg (fun z9 => F0 m 138 ls [.int z9, .ref qa]) (pk_mul 4 i9)) ?_
          refine raW (x := nI r) hx hb hK hPa (show 4 * i9 < 64 by omega) (by decide) ((hT.1 i9 hi9).1.trans hq6) dL_queues_138 ?_
          refine lv_iload hx hb dL_queues_139 (lv_at hl 5 rfl) ?_
          refine lv_icmp_ne (tgt := 155) hx hb dL_queues_141 (by decide) (fun c_49 => absurd (rfl) c_49) (fun c_49 => ?_)
          refine lv_iload hx hb dL_queues_144 (lv_at hl 2 rfl) ?_
          refine lv_iload hx hb dL_queues_146 (lv_at hl 0 rfl) ?_
          refine lv_ishr hx hb dL_queues_148 ?_
          refine lv_iconst (v := 1) hx hb dL_queues_149 (by decide) ?_
          refine lv_iand hx hb dL_queues_150 ?_
          refine lv_iconst (v := 1) hx hb dL_queues_151 (by decide) ?_
          refine lv_icmp_ne (tgt := 157) hx hb dL_queues_152 (by decide) (fun c_50 => ?_) (fun c_50 => absurd c_50 ((bN_no (R := nI r) hI.2.2.2.1 hN9 hp hq1)))
          refine lv_iload hx hb dL_queues_157 (lv_at hl 2 rfl) ?_
          refine lv_iconst (v := 1) hx hb dL_queues_159 (by decide) ?_
          refine lv_iload hx hb dL_queues_160 (lv_at hl 0 rfl) ?_
          refine lv_ishl hx hb dL_queues_162 ?_
          refine lv_ior hx hb dL_queues_163 ?_
          refine lv_istore (lv' := [(8, .int ((bN σ (nI r) p) ||| (1 <<< ((nI i9) &&& 31)))), (9, .int (nI i9)), (7, .int (nI p)), (6, .int (nI (ct (sInP σ (nI r)) 16))), (4, .int (nI (wQ σ 16))), (5, .int (nI r)), (3, .int (nI (aQ σ r))), (0, .ref (ad 0)), (1, .ref qa), (2, .ref qb)]) hx hb dL_queues_164 hl (by decide) rfl (fun ls hl => ?_)
          refine lv_iinc (v := nI (p + 1)) (lv' := [(7, .int (nI (p + 1))), (8, .int ((bN σ (nI r) p) ||| (1 <<< ((nI i9) &&& 31)))), (9, .int (nI i9)), (6, .int (nI (ct (sInP σ (nI r)) 16))), (4, .int (nI (wQ σ 16))), (5, .int (nI r)), (3, .int (nI (aQ σ r))), (0, .ref (ad 0)), (1, .ref qa), (2, .ref qb)]) hx hb dL_queues_166 hl (k := 2) rfl (nI_1 p) (by decide) rfl (fun ls hl => ?_)
          refine lv_goto (tgt := 95) hx hb dL_queues_169 (by decide) ?_
          have e70 : bN σ (nI r) (p + 1) = (bN σ (nI r) p) ||| (1 <<< ((nI i9) &&& 31)) := by rw [bN_s hq1]
          exact ih95 H locs ls _ _ (by omega) (by omega) (show lv_has ls 10 [(7, .int (nI (p + 1))), (8, .int (bN σ (nI r) (p + 1))), (6, .int (nI (ct (sInP σ (nI r)) 16))), (4, .int (nI (wQ σ 16))), (5, .int (nI r)), (3, .int (nI (aQ σ r))), (0, .ref (ad 0)), (1, .ref qa), (2, .ref qb)] from by rw [e70]; exact lv_sub hl [0, 1, 3, 4, 5, 6, 7, 8, 9] rfl) ⟨hP, hPa, hPb⟩ hS
      · have hl : lv_has ls 10 [(6, .int (nI (ct (sInP σ (nI r)) k))), (4, .int (nI (wQ σ 16))), (7, .int (nI k)), (5, .int (nI r)), (3, .int (nI (aQ σ r))), (0, .ref (ad 0)), (1, .ref qa), (2, .ref qb)] := hl
        obtain ⟨hP, hPa, hPb⟩ := hG
        have ih20 := ih
        refine lv_iload hx hb dL_queues_20 (lv_at hl 2 rfl) ?_
        refine lv_bipush (v := 16) hx hb dL_queues_22 (by decide) ?_
        refine lv_icmp_ge (tgt := 89) hx hb dL_queues_24 (by decide) (fun c_51 => absurd c_51 ((fun z9 => absurd ((nI_leI (a := 16) (b := k) (by omega) (by omega)).mp z9) (by omega)))) (fun c_51 => ?_)
        refine lv_iload hx hb dL_queues_27 (lv_at hl 0 rfl) ?_
        refine lv_aload_n hx hb dL_queues_29 rfl (lv_at hl 5 rfl) ?_
        refine lv_iload hx hb dL_queues_30 (lv_at hl 2 rfl) ?_
        refine rMi (vx_runSW (As := [.ref (ad 0), .int (nI k)]) (rest := [.int (nI (ct (sInP σ (nI r)) k))]) ⟨hx, hb, hml, hown, hts⟩ (c_L_stateOf l hst D cy ad σ sz (nI k) (σ 1 k) (wS (by omega))) (vx_cwSW 2 hts gL_queues_L_stateOf rfl rfl rfl (by decide +kernel) ⟨Nat.le_of_ble_eq_true rfl, Nat.le_of_ble_eq_true rfl⟩) ⟨cx_bl, cx_S hP hK NoA_z hxk hS⟩ rfl rfl hl.1 rfl (lv_room (Nat.le_of_ble_eq_true rfl)) dL_queues_32 ⟨by show _ ≤ 500; omega, by show _ ≤ 3000; omega⟩) hS (fun H locs hS hg => ?_)
        have hP := hP.grown hg
        have hPa := hPa.grown hg
        have hPb := hPb.grown hg
        refine W.eq (g2 := F0 m 35 ls [.int (σ 1 k), .int (nI (ct (sInP σ (nI r)) k))]) rfl ?_
        refine lv_iconst (v := 3) hx hb dL_queues_35 (by decide) ?_
        refine lv_icmp_ne (tgt := 54) hx hb dL_queues_36 (by decide) (fun c_52 => ?_) (fun c_52 => ?_)
        · refine lv_iconst (v := 0) hx hb dL_queues_54 (by decide) ?_
          refine lv_iadd hx hb dL_queues_55 ?_
          refine W.eq (congrArg (fun z9 => F0 m 56 ls [.int z9]) (nI_add (ct (sInP σ (nI r)) k) 0)) ?_
          refine lv_istore (lv' := [(6, .int (nI (ct (sInP σ (nI r)) k))), (4, .int (nI (wQ σ 16))), (7, .int (nI k)), (5, .int (nI r)), (3, .int (nI (aQ σ r))), (0, .ref (ad 0)), (1, .ref qa), (2, .ref qb)]) hx hb dL_queues_56 hl (by decide) rfl (fun ls hl => ?_)
          refine lv_iload hx hb dL_queues_58 (lv_at hl 1 rfl) ?_
          refine lv_iload hx hb dL_queues_60 (lv_at hl 3 rfl) ?_
          refine lv_if_ne (tgt := 79) hx hb dL_queues_62 (by decide) (fun c_53 => ?_) (fun c_53 => absurd c_53 ((fun z9 => r0 ((nI_eq (a := r) (b := 0) (by omega) (by omega)).mp z9))))
          refine lv_iconst (v := 0) hx hb dL_queues_79 (by decide) ?_
          refine lv_iadd hx hb dL_queues_80 ?_
          refine W.eq (congrArg (fun z9 => F0 m 81 ls [.int z9]) (nI_add (wQ σ 16) 0)) ?_
          refine lv_istore (lv' := [(4, .int (nI (wQ σ 16))), (6, .int (nI (ct (sInP σ (nI r)) k))), (7, .int (nI k)), (5, .int (nI r)), (3, .int (nI (aQ σ r))), (0, .ref (ad 0)), (1, .ref qa), (2, .ref qb)]) hx hb dL_queues_81 hl (by decide) rfl (fun ls hl => ?_)
          refine lv_iinc (v := nI (k + 1)) (lv' := [(7, .int (nI (k + 1))), (4, .int (nI (wQ σ 16))), (6, .int (nI (ct (sInP σ (nI r)) k))), (5, .int (nI r)), (3, .int (nI (aQ σ r))), (0, .ref (ad 0)), (1, .ref qa), (2, .ref qb)]) hx hb dL_queues_83 hl (k := 2) rfl (nI_1 k) (by decide) rfl (fun ls hl => ?_)
          refine lv_goto (tgt := 20) hx hb dL_queues_86 (by decide) ?_
          have e70 : nI (ct (sInP σ (nI r)) (k + 1)) = nI (ct (sInP σ (nI r)) k) := by rw [ct_n (show sInP σ (nI r) k = false by simp [sInP, c_52])]
          exact ih20 H locs ls _ _ (by omega) (by omega) (show lv_has ls 10 [(6, .int (nI (ct (sInP σ (nI r)) (k + 1)))), (4, .int (nI (wQ σ 16))), (7, .int (nI (k + 1))), (5, .int (nI r)), (3, .int (nI (aQ σ r))), (0, .ref (ad 0)), (1, .ref qa), (2, .ref qb)] from by rw [e70]; exact lv_sub hl [2, 1, 0, 3, 4, 5, 6, 7] rfl) ⟨hP, hPa, hPb⟩ hS
        · refine lv_aload_n hx hb dL_queues_39 rfl (lv_at hl 6 rfl) ?_
          refine lv_iconst (v := 4) hx hb dL_queues_40 (by decide) ?_
          refine lv_iload hx hb dL_queues_41 (lv_at hl 2 rfl) ?_
          refine lv_imul hx hb dL_queues_43 ?_
          refine W.eq (congrArg (fun z9 => F0 m 44 ls [.int z9, .ref qa, .int (nI (ct (sInP σ (nI r)) k))]) (pk_mul 4 k)) ?_
          refine raW (x := σ 2 k) hx hb hK hPa (show 4 * k < 64 by omega) (by decide) ((hT.1 k (by omega)).1) dL_queues_44 ?_
          refine lv_iload hx hb dL_queues_45 (lv_at hl 3 rfl) ?_
          refine lv_icmp_ne (tgt := 54) hx hb dL_queues_47 (by decide) (fun c_54 => ?_) (fun c_54 => ?_)
          · refine lv_iconst (v := 0) hx hb dL_queues_54 (by decide) ?_
            refine lv_iadd hx hb dL_queues_55 ?_
            refine W.eq (congrArg (fun z9 => F0 m 56 ls [.int z9]) (nI_add (ct (sInP σ (nI r)) k) 0)) ?_
            refine lv_istore (lv' := [(6, .int (nI (ct (sInP σ (nI r)) k))), (4, .int (nI (wQ σ 16))), (7, .int (nI k)), (5, .int (nI r)), (3, .int (nI (aQ σ r))), (0, .ref (ad 0)), (1, .ref qa), (2, .ref qb)]) hx hb dL_queues_56 hl (by decide) rfl (fun ls hl => ?_)
            refine lv_iload hx hb dL_queues_58 (lv_at hl 1 rfl) ?_
            refine lv_iload hx hb dL_queues_60 (lv_at hl 3 rfl) ?_
            refine lv_if_ne (tgt := 79) hx hb dL_queues_62 (by decide) (fun c_55 => ?_) (fun c_55 => absurd c_55 ((fun z9 => r0 ((nI_eq (a := r) (b := 0) (by omega) (by omega)).mp z9))))
            refine lv_iconst (v := 0) hx hb dL_queues_79 (by decide) ?_
            refine lv_iadd hx hb dL_queues_80 ?_
            refine W.eq (congrArg (fun z9 => F0 m 81 ls [.int z9]) (nI_add (wQ σ 16) 0)) ?_
            refine lv_istore (lv' := [(4, .int (nI (wQ σ 16))), (6, .int (nI (ct (sInP σ (nI r)) k))), (7, .int (nI k)), (5, .int (nI r)), (3, .int (nI (aQ σ r))), (0, .ref (ad 0)), (1, .ref qa), (2, .ref qb)]) hx hb dL_queues_81 hl (by decide) rfl (fun ls hl => ?_)
            refine lv_iinc (v := nI (k + 1)) (lv' := [(7, .int (nI (k + 1))), (4, .int (nI (wQ σ 16))), (6, .int (nI (ct (sInP σ (nI r)) k))), (5, .int (nI r)), (3, .int (nI (aQ σ r))), (0, .ref (ad 0)), (1, .ref qa), (2, .ref qb)]) hx hb dL_queues_83 hl (k := 2) rfl (nI_1 k) (by decide) rfl (fun ls hl => ?_)
            refine lv_goto (tgt := 20) hx hb dL_queues_86 (by decide) ?_
            have e70 : nI (ct (sInP σ (nI r)) (k + 1)) = nI (ct (sInP σ (nI r)) k) := by rw [ct_n (show sInP σ (nI r) k = false by simp [sInP, c_52, c_54])]
            exact ih20 H locs ls _ _ (by omega) (by omega) (show lv_has ls 10 [(6, .int (nI (ct (sInP σ (nI r)) (k + 1)))), (4, .int (nI (wQ σ 16))), (7, .int (nI (k + 1))), (5, .int (nI r)), (3, .int (nI (aQ σ r))), (0, .ref (ad 0)), (1, .ref qa), (2, .ref qb)] from by rw [e70]; exact lv_sub hl [2, 1, 0, 3, 4, 5, 6, 7] rfl) ⟨hP, hPa, hPb⟩ hS
          · refine lv_iconst (v := 1) hx hb dL_queues_50 (by decide) ?_
            refine lv_goto (tgt := 55) hx hb dL_queues_51 (by decide) ?_
            refine lv_iadd hx hb dL_queues_55 ?_
            refine W.eq (congrArg (fun z9 => F0 m 56 ls [.int z9]) (nI_add (ct (sInP σ (nI r)) k) 1)) ?_
            refine lv_istore (lv' := [(6, .int (nI (ct (sInP σ (nI r)) k + 1))), (4, .int (nI (wQ σ 16))), (7, .int (nI k)), (5, .int (nI r)), (3, .int (nI (aQ σ r))), (0, .ref (ad 0)), (1, .ref qa), (2, .ref qb)]) hx hb dL_queues_56 hl (by decide) rfl (fun ls hl => ?_)
            refine lv_iload hx hb dL_queues_58 (lv_at hl 1 rfl) ?_
            refine lv_iload hx hb dL_queues_60 (lv_at hl 3 rfl) ?_
            refine lv_if_ne (tgt := 79) hx hb dL_queues_62 (by decide) (fun c_56 => ?_) (fun c_56 => absurd c_56 ((fun z9 => r0 ((nI_eq (a := r) (b := 0) (by omega) (by omega)).mp z9))))
            refine lv_iconst (v := 0) hx hb dL_queues_79 (by decide) ?_
            refine lv_iadd hx hb dL_queues_80 ?_
            refine W.eq (congrArg (fun z9 => F0 m 81 ls [.int z9]) (nI_add (wQ σ 16) 0)) ?_
            refine lv_istore (lv' := [(4, .int (nI (wQ σ 16))), (6, .int (nI (ct (sInP σ (nI r)) k + 1))), (7, .int (nI k)), (5, .int (nI r)), (3, .int (nI (aQ σ r))), (0, .ref (ad 0)), (1, .ref qa), (2, .ref qb)]) hx hb dL_queues_81 hl (by decide) rfl (fun ls hl => ?_)
            refine lv_iinc (v := nI (k + 1)) (lv' := [(7, .int (nI (k + 1))), (4, .int (nI (wQ σ 16))), (6, .int (nI (ct (sInP σ (nI r)) k + 1))), (5, .int (nI r)), (3, .int (nI (aQ σ r))), (0, .ref (ad 0)), (1, .ref qa), (2, .ref qb)]) hx hb dL_queues_83 hl (k := 2) rfl (nI_1 k) (by decide) rfl (fun ls hl => ?_)
            refine lv_goto (tgt := 20) hx hb dL_queues_86 (by decide) ?_
            have e70 : nI (ct (sInP σ (nI r)) (k + 1)) = nI (ct (sInP σ (nI r)) k + 1) := by rw [ct_y (show sInP σ (nI r) k = true by simp [sInP, c_52, c_54])]
            exact ih20 H locs ls _ _ (by omega) (by omega) (show lv_has ls 10 [(6, .int (nI (ct (sInP σ (nI r)) (k + 1)))), (4, .int (nI (wQ σ 16))), (7, .int (nI (k + 1))), (5, .int (nI r)), (3, .int (nI (aQ σ r))), (0, .ref (ad 0)), (1, .ref qa), (2, .ref qb)] from by rw [e70]; exact lv_sub hl [2, 1, 0, 3, 4, 5, 6, 7] rfl) ⟨hP, hPa, hPb⟩ hS
set_option maxHeartbeats 1000000 in
set_option maxRecDepth 100000 in
/-- journal -/
theorem c_L_journal (l : Launch) (hst : l.stackTraces = false) (D : va_G) (cy : Nat → ClassId) (ad : Nat → Nat) (σ : Mem) (sz : Nat) (w : Nat) (hw : w ≤ 40) (hkp : sKept σ = nI w) (hJ : ∀ k, k < w → ∃ m f t, m < 16 ∧ σ 22 k = nI m ∧ σ 23 k = nI f ∧ sSB σ m k = nI t ∧ can f t) : Met l yL_journal wsL_journal ({ frames := 9, cells := 500, slots := 3000, locals := 153 }) (va_Pc [.ref (ad 0)] (cx D cy ad σ sz)) (QI 1 (fun _ => True) NoA) 500 3000 NoA := by
  refine Met.ofW (cc := cL_journal) (maxL := 8) (ret := (some .boolean)) (by decide) rfl ?_
  intro p e s m args below meth c s₁ B hml hv
  obtain ⟨rfl, ⟨hP, hK⟩, hxk⟩ := hv
  have hx := B.exec
  have hb := B.bytes
  have hr := B.returns
  have hts := atoms_spec (ws := wsL_journal) B.pre
  have hown : s.vm.findClass RL = some m.cls := findClass_of_methodNamed B.named
  have hlocks := B.notSynchronized
  have hS : va_S NoA s.heap s.heap [] := va_S.rf
  have hl := lv_entry ([.ref (ad 0)]) (n := 8) (Nat.le_of_ble_eq_true rfl)
  rw [lg_entry_eq]
  generalize (lg_sl ([.ref (ad 0)]) ++ List.replicate (8 - (lg_sl ([.ref (ad 0)])).length) Slot.unset).toArray = ls at hl ⊢
  have hl : lv_has ls 8 [(0, .ref (ad 0))] := hl
  refine lv_aload_n hx hb dL_journal_0 rfl (lv_at hl 0 rfl) ?_
  refine cS (W.runV (As := []) (rest := []) ⟨hx, hb, hml, hown, hts⟩ (c_X3_entries l D cy ad σ) (cwV 0 hts gL_journal_X3_entries rfl rfl rfl (by decide +kernel) ⟨Nat.le_of_ble_eq_true rfl, Nat.le_of_ble_eq_true rfl⟩) ⟨cw_bl, cw_F hP hK, cw_at hP hK⟩ rfl rfl hl.1 rfl (lv_room (Nat.le_of_ble_eq_true rfl)) dL_journal_1 ⟨by show _ ≤ 500; omega, by show _ ≤ 3000; omega⟩) (fun _ _ => ?_)
  refine W.eq (g2 := F0 m 4 ls [.int (sKept σ)]) rfl ?_
  refine W.eq (g2 := F0 m 4 ls [.int (nI w)]) (by rw [hkp]) ?_
  refine lv_istore_n (lv' := [(1, .int (nI w)), (0, .ref (ad 0))]) hx hb dL_journal_4 rfl hl (by decide) rfl (fun ls hl => ?_)
  refine lv_iload_n hx hb dL_journal_5 rfl (lv_at hl 0 rfl) ?_
  refine lv_if_lt (tgt := 64) hx hb dL_journal_6 (by decide) (fun c_1 => absurd c_1 ((fun z9 => absurd ((nI_ltI (a := w) (b := 0) (by omega) (by omega)).mp z9) (by omega)))) (fun c_1 => ?_)
  refine lv_iload_n hx hb dL_journal_9 rfl (lv_at hl 0 rfl) ?_
  refine lv_bipush (v := 40) hx hb dL_journal_10 (by decide) ?_
  refine lv_icmp_gt (tgt := 64) hx hb dL_journal_12 (by decide) (fun c_2 => absurd c_2 ((fun z9 => absurd ((nI_ltI (a := 40) (b := w) (by omega) (by omega)).mp z9) (by omega)))) (fun c_2 => ?_)
  refine lv_aload_n hx hb dL_journal_15 rfl (lv_at hl 1 rfl) ?_
  refine lv_iload_n hx hb dL_journal_16 rfl (lv_at hl 0 rfl) ?_
  refine rMi (vx_runSW (As := [.ref (ad 0), .int (nI w)]) (rest := []) ⟨hx, hb, hml, hown, hts⟩ (c_L_machineAt l hst D cy ad σ sz (nI w) ((-1000001)) (wJ1 hw hkp)) (vx_cwSW 2 hts gL_journal_L_machineAt rfl rfl rfl (by decide +kernel) ⟨Nat.le_of_ble_eq_true rfl, Nat.le_of_ble_eq_true rfl⟩) ⟨cx_bl, cx_S hP hK NoA_z hxk hS⟩ rfl rfl hl.1 rfl (lv_room (Nat.le_of_ble_eq_true rfl)) dL_journal_17 ⟨by show _ ≤ 500; omega, by show _ ≤ 3000; omega⟩) hS (fun H locs hS hg => ?_)
  have hP := hP.grown hg
  refine W.eq (g2 := F0 m 20 ls [.int (-1000001)]) rfl ?_
  refine lv_ldc (v := (-1000001)) hx hb hown (hts (.constant RL 18 (-1000001)) (by decide +kernel)) dL_journal_20 ?_
  refine lv_icmp_ne (tgt := 64) hx hb dL_journal_22 (by decide) (fun c_3 => absurd ((by decide : (-1000001 : Int32) = -1000001)) c_3) (fun c_3 => ?_)
  refine lv_aload_n hx hb dL_journal_25 rfl (lv_at hl 1 rfl) ?_
  refine lv_iconst (v := (-1)) hx hb dL_journal_26 (by decide) ?_
  refine rMi (vx_runSW (As := [.ref (ad 0), .int (-1)]) (rest := []) ⟨hx, hb, hml, hown, hts⟩ (c_L_machineAt l hst D cy ad σ sz (-1) ((-1000001)) wJ2) (vx_cwSW 2 hts gL_journal_L_machineAt rfl rfl rfl (by decide +kernel) ⟨Nat.le_of_ble_eq_true rfl, Nat.le_of_ble_eq_true rfl⟩) ⟨cx_bl, cx_S hP hK NoA_z hxk hS⟩ rfl rfl hl.1 rfl (lv_room (Nat.le_of_ble_eq_true rfl)) dL_journal_27 ⟨by show _ ≤ 500; omega, by show _ ≤ 3000; omega⟩) hS (fun H locs hS hg => ?_)
  have hP := hP.grown hg
  refine W.eq (g2 := F0 m 30 ls [.int (-1000001)]) rfl ?_
  refine lv_ldc (v := (-1000001)) hx hb hown (hts (.constant RL 18 (-1000001)) (by decide +kernel)) dL_journal_30 ?_
  refine lv_icmp_ne (tgt := 64) hx hb dL_journal_32 (by decide) (fun c_4 => absurd ((by decide : (-1000001 : Int32) = -1000001)) c_4) (fun c_4 => ?_)
  refine lv_aload_n hx hb dL_journal_35 rfl (lv_at hl 1 rfl) ?_
  refine lv_iconst (v := 0) hx hb dL_journal_36 (by decide) ?_
  refine lv_iload_n hx hb dL_journal_37 rfl (lv_at hl 0 rfl) ?_
  refine lv_iconst (v := 1) hx hb dL_journal_38 (by decide) ?_
  refine lv_iadd hx hb dL_journal_39 ?_
  refine W.eq (congrArg (fun z9 => F0 m 40 ls [.int z9, .int 0, .ref (ad 0)]) (nI_add w 1)) ?_
  refine rMi (vx_runSW (As := [.ref (ad 0), .int 0, .int (nI (w + 1))]) (rest := []) ⟨hx, hb, hml, hown, hts⟩ (c_L_stateBefore l hst D cy ad σ sz 0 (nI (w + 1)) ((-1000002)) (wB1 hw hkp)) (vx_cwSW 3 hts gL_journal_L_stateBefore rfl rfl rfl (by decide +kernel) ⟨Nat.le_of_ble_eq_true rfl, Nat.le_of_ble_eq_true rfl⟩) ⟨cx_bl, cx_S hP hK NoA_z hxk hS⟩ rfl rfl hl.1 rfl (lv_room (Nat.le_of_ble_eq_true rfl)) dL_journal_40 ⟨by show _ ≤ 500; omega, by show _ ≤ 3000; omega⟩) hS (fun H locs hS hg => ?_)
  have hP := hP.grown hg
  refine W.eq (g2 := F0 m 43 ls [.int (-1000002)]) rfl ?_
  refine lv_ldc (v := (-1000002)) hx hb hown (hts (.constant RL 21 (-1000002)) (by decide +kernel)) dL_journal_43 ?_
  refine lv_icmp_ne (tgt := 64) hx hb dL_journal_45 (by decide) (fun c_5 => absurd ((by decide : (-1000002 : Int32) = -1000002)) c_5) (fun c_5 => ?_)
  refine lv_aload_n hx hb dL_journal_48 rfl (lv_at hl 1 rfl) ?_
  refine lv_bipush (v := 16) hx hb dL_journal_49 (by decide) ?_
  refine lv_iconst (v := (-1)) hx hb dL_journal_51 (by decide) ?_
  refine rMi (vx_runSW (As := [.ref (ad 0), .int 16, .int (-1)]) (rest := []) ⟨hx, hb, hml, hown, hts⟩ (c_L_stateBefore l hst D cy ad σ sz 16 (-1) ((-1000001)) wB2) (vx_cwSW 3 hts gL_journal_L_stateBefore rfl rfl rfl (by decide +kernel) ⟨Nat.le_of_ble_eq_true rfl, Nat.le_of_ble_eq_true rfl⟩) ⟨cx_bl, cx_S hP hK NoA_z hxk hS⟩ rfl rfl hl.1 rfl (lv_room (Nat.le_of_ble_eq_true rfl)) dL_journal_52 ⟨by show _ ≤ 500; omega, by show _ ≤ 3000; omega⟩) hS (fun H locs hS hg => ?_)
  have hP := hP.grown hg
  refine W.eq (g2 := F0 m 55 ls [.int (-1000001)]) rfl ?_
  refine lv_ldc (v := (-1000001)) hx hb hown (hts (.constant RL 18 (-1000001)) (by decide +kernel)) dL_journal_55 ?_
  refine lv_icmp_ne (tgt := 64) hx hb dL_journal_57 (by decide) (fun c_6 => absurd ((by decide : (-1000001 : Int32) = -1000001)) c_6) (fun c_6 => ?_)
  refine lv_iconst (v := 1) hx hb dL_journal_60 (by decide) ?_
  refine lv_goto (tgt := 65) hx hb dL_journal_61 (by decide) ?_
  refine lv_istore_n (lv' := [(2, .int 1), (1, .int (nI w)), (0, .ref (ad 0))]) hx hb dL_journal_65 rfl hl (by decide) rfl (fun ls hl => ?_)
  refine lv_iconst (v := 0) hx hb dL_journal_66 (by decide) ?_
  refine lv_istore_n (lv' := [(3, .int 0), (2, .int 1), (1, .int (nI w)), (0, .ref (ad 0))]) hx hb dL_journal_67 rfl hl (by decide) rfl (fun ls hl => ?_)
  have hl0 : lv_has ls 8 [(2, .int 1), (3, .int (nI 0)), (1, .int (nI w)), (0, .ref (ad 0))] := lv_sub hl [1, 0, 2, 3] rfl
  refine w_loopG 16 (0 + 1 + 1 + 2 + 2) 3 (0 + 6 + 6 + 12 + 12) 18 (fun k H => va_P D vwCl (wC cy ad σ) H) (fun k => [(2, .int 1), (3, .int (nI k)), (1, .int (nI w)), (0, .ref (ad 0))]) hl0 hP hS (Nat.le_refl _) (Nat.le_refl _) (fun H locs ls hl hG hS => ?_) (fun k hk H locs ls hl hG hS ih => ?_)
  · have hl : lv_has ls 8 [(2, .int 1), (3, .int (nI 16)), (1, .int (nI w)), (0, .ref (ad 0))] := hl
    have hP : va_P D vwCl (wC cy ad σ) H := hG
    refine lv_iload_n hx hb dL_journal_68 rfl (lv_at hl 1 rfl) ?_
    refine lv_bipush (v := 16) hx hb dL_journal_69 (by decide) ?_
    refine lv_icmp_ge (tgt := 104) hx hb dL_journal_71 (by decide) (fun c_7 => ?_) (fun c_7 => absurd (((nI_leI (a := 16) (b := 16) (by omega) (by omega)).mpr (by omega))) c_7)
    refine lv_iconst (v := 0) hx hb dL_journal_104 (by decide) ?_
    refine lv_istore_n (lv' := [(3, .int 0), (2, .int 1), (1, .int (nI w)), (0, .ref (ad 0))]) hx hb dL_journal_105 rfl hl (by decide) rfl (fun ls hl => ?_)
    have hl0 : lv_has ls 8 [(2, .int 1), (3, .int (nI 0)), (1, .int (nI w)), (0, .ref (ad 0))] := lv_sub hl [1, 0, 2, 3] rfl
    refine w_loopG w (0 + 1 + 1 + 2 + 2 + 3 * 16) 10 (0 + 6 + 6 + 12 + 12 + 18 * 16) 60 (fun k H => va_P D vwCl (wC cy ad σ) H) (fun k => [(2, .int 1), (3, .int (nI k)), (1, .int (nI w)), (0, .ref (ad 0))]) hl0 hP hS (Nat.le_refl _) (Nat.le_refl _) (fun H locs ls hl hG hS => ?_) (fun k hk H locs ls hl hG hS ih => ?_)
    · have hl : lv_has ls 8 [(2, .int 1), (3, .int (nI w)), (1, .int (nI w)), (0, .ref (ad 0))] := hl
      have hP : va_P D vwCl (wC cy ad σ) H := hG
      refine lv_iload_n hx hb dL_journal_106 rfl (lv_at hl 1 rfl) ?_
      refine lv_iload_n hx hb dL_journal_107 rfl (lv_at hl 2 rfl) ?_
      refine lv_icmp_ge (tgt := 342) hx hb dL_journal_108 (by decide) (fun c_8 => ?_) (fun c_8 => absurd (((nI_leI (a := w) (b := w) (by omega) (by omega)).mpr (by omega))) c_8)
      refine lv_iload_n hx hb dL_journal_342 rfl (lv_at hl 0 rfl) ?_
      refine W.widen (k := 500) (n := 3000) (by omega) (by omega) ?_
      exact W.zret (v := 1) hx hb hr rfl (fun t ht hW => ⟨⟨_, (), rfl, rfl, trivial⟩, hS.F ht⟩) hS.2.2 dL_journal_343
    · have hl : lv_has ls 8 [(2, .int 1), (3, .int (nI k)), (1, .int (nI w)), (0, .ref (ad 0))] := hl
      have hP : va_P D vwCl (wC cy ad σ) H := hG
      have ih106 := ih
      obtain ⟨m9, f9, t9, hm9, e22, e23, esb, hcan⟩ := hJ k hk
      refine lv_iload_n hx hb dL_journal_106 rfl (lv_at hl 1 rfl) ?_
      refine lv_iload_n hx hb dL_journal_107 rfl (lv_at hl 2 rfl) ?_
      refine lv_icmp_ge (tgt := 342) hx hb dL_journal_108 (by decide) (fun c_9 => absurd c_9 ((fun z9 => absurd ((nI_leI (a := w) (b := k) (by omega) (by omega)).mp z9) (by omega)))) (fun c_9 => ?_)
      refine lv_iload_n hx hb dL_journal_111 rfl (lv_at hl 0 rfl) ?_
      refine lv_if_eq (tgt := 342) hx hb dL_journal_112 (by decide) (fun c_10 => absurd c_10 ((by decide : ¬ (1 : Int32) = 0))) (fun c_10 => ?_)
      refine lv_aload_n hx hb dL_journal_115 rfl (lv_at hl 3 rfl) ?_
      refine lv_iload_n hx hb dL_journal_116 rfl (lv_at hl 1 rfl) ?_
      refine rMi (vx_runSW (As := [.ref (ad 0), .int (nI k)]) (rest := []) ⟨hx, hb, hml, hown, hts⟩ (c_L_machineAt l hst D cy ad σ sz (nI k) (nI m9) ((wJ hw hkp hk).trans e22)) (vx_cwSW 2 hts gL_journal_L_machineAt rfl rfl rfl (by decide +kernel) ⟨Nat.le_of_ble_eq_true rfl, Nat.le_of_ble_eq_true rfl⟩) ⟨cx_bl, cx_S hP hK NoA_z hxk hS⟩ rfl rfl hl.1 rfl (lv_room (Nat.le_of_ble_eq_true rfl)) dL_journal_117 ⟨by show _ ≤ 500; omega, by show _ ≤ 3000; omega⟩) hS (fun H locs hS hg => ?_)
      have hP := hP.grown hg
      refine W.eq (g2 := F0 m 120 ls [.int (nI m9)]) rfl ?_
      refine lv_istore (lv' := [(4, .int (nI m9)), (2, .int 1), (3, .int (nI k)), (1, .int (nI w)), (0, .ref (ad 0))]) hx hb dL_journal_120 hl (by decide) rfl (fun ls hl => ?_)
      refine lv_aload_n hx hb dL_journal_122 rfl (lv_at hl 4 rfl) ?_
      refine lv_iload hx hb dL_journal_123 (lv_at hl 0 rfl) ?_
      refine lv_iload_n hx hb dL_journal_125 rfl (lv_at hl 2 rfl) ?_
      refine lv_iconst (v := 1) hx hb dL_journal_126 (by decide) ?_
      refine lv_iadd hx hb dL_journal_127 ?_
      refine W.eq (congrArg (fun z9 => F0 m 128 ls [.int z9, .int (nI m9), .ref (ad 0)]) (nI_add k 1)) ?_
      refine rMi (vx_runSW (As := [.ref (ad 0), .int (nI m9), .int (nI (k + 1))]) (rest := []) ⟨hx, hb, hml, hown, hts⟩ (c_L_stateBefore l hst D cy ad σ sz (nI m9) (nI (k + 1)) (nI f9) ((wB hm9 hw hkp (by omega)).trans ((at_entry e22).trans e23))) (vx_cwSW 3 hts gL_journal_L_stateBefore rfl rfl rfl (by decide +kernel) ⟨Nat.le_of_ble_eq_true rfl, Nat.le_of_ble_eq_true rfl⟩) ⟨cx_bl, cx_S hP hK NoA_z hxk hS⟩ rfl rfl hl.1 rfl (lv_room (Nat.le_of_ble_eq_true rfl)) dL_journal_128 ⟨by show _ ≤ 500; omega, by show _ ≤ 3000; omega⟩) hS (fun H locs hS hg => ?_)
      have hP := hP.grown hg
      refine W.eq (g2 := F0 m 131 ls [.int (nI f9)]) rfl ?_
      refine lv_istore (lv' := [(5, .int (nI f9)), (4, .int (nI m9)), (2, .int 1), (3, .int (nI k)), (1, .int (nI w)), (0, .ref (ad 0))]) hx hb dL_journal_131 hl (by decide) rfl (fun ls hl => ?_)
      refine lv_aload_n hx hb dL_journal_133 rfl (lv_at hl 5 rfl) ?_
      refine lv_iload hx hb dL_journal_134 (lv_at hl 1 rfl) ?_
      refine lv_iload_n hx hb dL_journal_136 rfl (lv_at hl 3 rfl) ?_
      refine rMi (vx_runSW (As := [.ref (ad 0), .int (nI m9), .int (nI k)]) (rest := []) ⟨hx, hb, hml, hown, hts⟩ (c_L_stateBefore l hst D cy ad σ sz (nI m9) (nI k) (nI t9) ((wB hm9 hw hkp (by omega)).trans esb)) (vx_cwSW 3 hts gL_journal_L_stateBefore rfl rfl rfl (by decide +kernel) ⟨Nat.le_of_ble_eq_true rfl, Nat.le_of_ble_eq_true rfl⟩) ⟨cx_bl, cx_S hP hK NoA_z hxk hS⟩ rfl rfl hl.1 rfl (lv_room (Nat.le_of_ble_eq_true rfl)) dL_journal_137 ⟨by show _ ≤ 500; omega, by show _ ≤ 3000; omega⟩) hS (fun H locs hS hg => ?_)
      have hP := hP.grown hg
      refine W.eq (g2 := F0 m 140 ls [.int (nI t9)]) rfl ?_
      refine lv_istore (lv' := [(6, .int (nI t9)), (5, .int (nI f9)), (4, .int (nI m9)), (2, .int 1), (3, .int (nI k)), (1, .int (nI w)), (0, .ref (ad 0))]) hx hb dL_journal_140 hl (by decide) rfl (fun ls hl => ?_)
      refine w_have (g2 := F0 m 282 ls [.int 1]) ?_ (fun J => ?_)
      · refine lv_istore (lv' := [(7, .int 1), (6, .int (nI t9)), (5, .int (nI f9)), (4, .int (nI m9)), (2, .int 1), (3, .int (nI k)), (1, .int (nI w)), (0, .ref (ad 0))]) hx hb dL_journal_282 hl (by decide) rfl (fun ls hl => ?_)
        refine lv_iload hx hb dL_journal_284 (lv_at hl 3 rfl) ?_
        refine lv_if_lt (tgt := 334) hx hb dL_journal_286 (by decide) (fun c_11 => absurd c_11 ((fun z9 => absurd ((nI_ltI (a := m9) (b := 0) (by omega) (by omega)).mp z9) (by omega)))) (fun c_11 => ?_)
        refine lv_iload hx hb dL_journal_289 (lv_at hl 3 rfl) ?_
        refine lv_bipush (v := 16) hx hb dL_journal_291 (by decide) ?_
        refine lv_icmp_ge (tgt := 334) hx hb dL_journal_293 (by decide) (fun c_12 => absurd c_12 ((fun z9 => absurd ((nI_leI (a := 16) (b := m9) (by omega) (by omega)).mp z9) (by omega)))) (fun c_12 => ?_)
        refine lv_iload hx hb dL_journal_296 (lv_at hl 0 rfl) ?_
        refine lv_if_eq (tgt := 334) hx hb dL_journal_298 (by decide) (fun c_13 => absurd c_13 ((by decide : ¬ (1 : Int32) = 0))) (fun c_13 => ?_)
        refine lv_aload_n hx hb dL_journal_301 rfl (lv_at hl 7 rfl) ?_
        refine lv_iload hx hb dL_journal_302 (lv_at hl 3 rfl) ?_
        refine lv_iconst (v := 1) hx hb dL_journal_304 (by decide) ?_
        refine lv_iadd hx hb dL_journal_305 ?_
        refine W.eq (congrArg (fun z9 => F0 m 306 ls [.int z9, .ref (ad 0)]) (nI_add m9 1)) ?_
        refine lv_bipush (v := 16) hx hb dL_journal_306 (by decide) ?_
        refine lv_irem hx hb dL_journal_308 (by decide) ?_
        refine W.eq (congrArg (fun z9 => F0 m 309 ls [.int z9, .ref (ad 0)]) (pk_rem (a := m9 + 1) (d := 16) (by omega) (by decide) (by decide))) ?_
        refine lv_iload_n hx hb dL_journal_309 rfl (lv_at hl 5 rfl) ?_
        refine lv_iconst (v := 1) hx hb dL_journal_310 (by decide) ?_
        refine lv_iadd hx hb dL_journal_311 ?_
        refine W.eq (congrArg (fun z9 => F0 m 312 ls [.int z9, .int (nI ((m9 + 1) % 16)), .ref (ad 0)]) (nI_add k 1)) ?_
        refine rMi (vx_runSW (As := [.ref (ad 0), .int (nI ((m9 + 1) % 16)), .int (nI (k + 1))]) (rest := []) ⟨hx, hb, hml, hown, hts⟩ (c_L_stateBefore l hst D cy ad σ sz (nI ((m9 + 1) % 16)) (nI (k + 1)) (sSB σ ((m9 + 1) % 16) k) ((wB (by omega) hw hkp (by omega)).trans (no_entry hm9 (by omega) (by omega) e22))) (vx_cwSW 3 hts gL_journal_L_stateBefore rfl rfl rfl (by decide +kernel) ⟨Nat.le_of_ble_eq_true rfl, Nat.le_of_ble_eq_true rfl⟩) ⟨cx_bl, cx_S hP hK NoA_z hxk hS⟩ rfl rfl hl.1 rfl (lv_room (Nat.le_of_ble_eq_true rfl)) dL_journal_312 ⟨by show _ ≤ 500; omega, by show _ ≤ 3000; omega⟩) hS (fun H locs hS hg => ?_)
        have hP := hP.grown hg
        refine W.eq (g2 := F0 m 315 ls [.int (sSB σ ((m9 + 1) % 16) k)]) rfl ?_
        refine lv_aload_n hx hb dL_journal_315 rfl (lv_at hl 7 rfl) ?_
        refine lv_iload hx hb dL_journal_316 (lv_at hl 3 rfl) ?_
        refine lv_iconst (v := 1) hx hb dL_journal_318 (by decide) ?_
        refine lv_iadd hx hb dL_journal_319 ?_
        refine W.eq (congrArg (fun z9 => F0 m 320 ls [.int z9, .ref (ad 0), .int (sSB σ ((m9 + 1) % 16) k)]) (nI_add m9 1)) ?_
        refine lv_bipush (v := 16) hx hb dL_journal_320 (by decide) ?_
        refine lv_irem hx hb dL_journal_322 (by decide) ?_
        refine W.eq (congrArg (fun z9 => F0 m 323 ls [.int z9, .ref (ad 0), .int (sSB σ ((m9 + 1) % 16) k)]) (pk_rem (a := m9 + 1) (d := 16) (by omega) (by decide) (by decide))) ?_
        refine lv_iload_n hx hb dL_journal_323 rfl (lv_at hl 5 rfl) ?_
        refine rMi (vx_runSW (As := [.ref (ad 0), .int (nI ((m9 + 1) % 16)), .int (nI k)]) (rest := [.int (sSB σ ((m9 + 1) % 16) k)]) ⟨hx, hb, hml, hown, hts⟩ (c_L_stateBefore l hst D cy ad σ sz (nI ((m9 + 1) % 16)) (nI k) (sSB σ ((m9 + 1) % 16) k) (wB (by omega) hw hkp (by omega))) (vx_cwSW 3 hts gL_journal_L_stateBefore rfl rfl rfl (by decide +kernel) ⟨Nat.le_of_ble_eq_true rfl, Nat.le_of_ble_eq_true rfl⟩) ⟨cx_bl, cx_S hP hK NoA_z hxk hS⟩ rfl rfl hl.1 rfl (lv_room (Nat.le_of_ble_eq_true rfl)) dL_journal_324 ⟨by show _ ≤ 500; omega, by show _ ≤ 3000; omega⟩) hS (fun H locs hS hg => ?_)
        have hP := hP.grown hg
        refine W.eq (g2 := F0 m 327 ls [.int (sSB σ ((m9 + 1) % 16) k), .int (sSB σ ((m9 + 1) % 16) k)]) rfl ?_
        refine lv_icmp_ne (tgt := 334) hx hb dL_journal_327 (by decide) (fun c_14 => absurd (rfl) c_14) (fun c_14 => ?_)
        refine lv_iconst (v := 1) hx hb dL_journal_330 (by decide) ?_
        refine lv_goto (tgt := 335) hx hb dL_journal_331 (by decide) ?_
        refine lv_istore_n (lv' := [(2, .int 1), (7, .int 1), (6, .int (nI t9)), (5, .int (nI f9)), (4, .int (nI m9)), (3, .int (nI k)), (1, .int (nI w)), (0, .ref (ad 0))]) hx hb dL_journal_335 rfl hl (by decide) rfl (fun ls hl => ?_)
        refine lv_iinc (v := nI (k + 1)) (lv' := [(3, .int (nI (k + 1))), (2, .int 1), (7, .int 1), (6, .int (nI t9)), (5, .int (nI f9)), (4, .int (nI m9)), (1, .int (nI w)), (0, .ref (ad 0))]) hx hb dL_journal_336 hl (k := 5) rfl (nI_1 k) (by decide) rfl (fun ls hl => ?_)
        refine lv_goto (tgt := 106) hx hb dL_journal_339 (by decide) ?_
        exact ih106 H locs ls _ _ (by omega) (by omega) (lv_sub hl [1, 0, 6, 7] rfl) hP hS
      · rcases can14 hcan with ⟨rfl, rfl⟩ | ⟨rfl, rfl⟩ | ⟨rfl, rfl⟩ | ⟨rfl, rfl⟩ | ⟨rfl, rfl⟩ | ⟨rfl, rfl⟩ | ⟨rfl, rfl⟩ | ⟨rfl, rfl⟩ | ⟨rfl, rfl⟩ | ⟨rfl, rfl⟩ | ⟨rfl, rfl⟩ | ⟨rfl, rfl⟩ | ⟨rfl, rfl⟩ | ⟨rfl, rfl⟩
        · refine lv_iload hx hb dL_journal_142 (lv_at hl 1 rfl) ?_
          refine lv_if_ne (tgt := 153) hx hb dL_journal_144 (by decide) (fun c_15 => absurd (((nI_eq (a := 0) (b := 0) (by omega) (by omega)).mpr (by omega))) c_15) (fun c_15 => ?_)
          refine lv_iload hx hb dL_journal_147 (lv_at hl 0 rfl) ?_
          refine lv_iconst (v := 1) hx hb dL_journal_149 (by decide) ?_
          refine lv_icmp_eq (tgt := 277) hx hb dL_journal_150 (by decide) (fun c_16 => ?_) (fun c_16 => absurd (((nI_eq (a := 1) (b := 1) (by omega) (by omega)).mpr (by omega))) c_16)
          refine lv_iconst (v := 1) hx hb dL_journal_277 (by decide) ?_
          refine lv_goto (tgt := 282) hx hb dL_journal_278 (by decide) ?_
          exact J
        · refine lv_iload hx hb dL_journal_142 (lv_at hl 1 rfl) ?_
          refine lv_if_ne (tgt := 153) hx hb dL_journal_144 (by decide) (fun c_17 => ?_) (fun c_17 => absurd c_17 ((fun z9 => absurd ((nI_eq (a := 1) (b := 0) (by omega) (by omega)).mp z9) (by omega))))
          refine lv_iload hx hb dL_journal_153 (lv_at hl 1 rfl) ?_
          refine lv_iconst (v := 1) hx hb dL_journal_155 (by decide) ?_
          refine lv_icmp_ne (tgt := 165) hx hb dL_journal_156 (by decide) (fun c_18 => absurd (((nI_eq (a := 1) (b := 1) (by omega) (by omega)).mpr (by omega))) c_18) (fun c_18 => ?_)
          refine lv_iload hx hb dL_journal_159 (lv_at hl 0 rfl) ?_
          refine lv_iconst (v := 2) hx hb dL_journal_161 (by decide) ?_
          refine lv_icmp_eq (tgt := 277) hx hb dL_journal_162 (by decide) (fun c_19 => ?_) (fun c_19 => absurd (((nI_eq (a := 2) (b := 2) (by omega) (by omega)).mpr (by omega))) c_19)
          refine lv_iconst (v := 1) hx hb dL_journal_277 (by decide) ?_
          refine lv_goto (tgt := 282) hx hb dL_journal_278 (by decide) ?_
          exact J
        · refine lv_iload hx hb dL_journal_142 (lv_at hl 1 rfl) ?_
          refine lv_if_ne (tgt := 153) hx hb dL_journal_144 (by decide) (fun c_20 => ?_) (fun c_20 => absurd c_20 ((fun z9 => absurd ((nI_eq (a := 2) (b := 0) (by omega) (by omega)).mp z9) (by omega))))
          refine lv_iload hx hb dL_journal_153 (lv_at hl 1 rfl) ?_
          refine lv_iconst (v := 1) hx hb dL_journal_155 (by decide) ?_
          refine lv_icmp_ne (tgt := 165) hx hb dL_journal_156 (by decide) (fun c_21 => ?_) (fun c_21 => absurd c_21 ((fun z9 => absurd ((nI_eq (a := 2) (b := 1) (by omega) (by omega)).mp z9) (by omega))))
          refine lv_iload hx hb dL_journal_165 (lv_at hl 1 rfl) ?_
          refine lv_iconst (v := 2) hx hb dL_journal_167 (by decide) ?_
          refine lv_icmp_ne (tgt := 183) hx hb dL_journal_168 (by decide) (fun c_22 => absurd (((nI_eq (a := 2) (b := 2) (by omega) (by omega)).mpr (by omega))) c_22) (fun c_22 => ?_)
          refine lv_iload hx hb dL_journal_171 (lv_at hl 0 rfl) ?_
          refine lv_iconst (v := 1) hx hb dL_journal_173 (by decide) ?_
          refine lv_icmp_eq (tgt := 277) hx hb dL_journal_174 (by decide) (fun c_23 => ?_) (fun c_23 => absurd (((nI_eq (a := 1) (b := 1) (by omega) (by omega)).mpr (by omega))) c_23)
          refine lv_iconst (v := 1) hx hb dL_journal_277 (by decide) ?_
          refine lv_goto (tgt := 282) hx hb dL_journal_278 (by decide) ?_
          exact J
        · refine lv_iload hx hb dL_journal_142 (lv_at hl 1 rfl) ?_
          refine lv_if_ne (tgt := 153) hx hb dL_journal_144 (by decide) (fun c_24 => ?_) (fun c_24 => absurd c_24 ((fun z9 => absurd ((nI_eq (a := 2) (b := 0) (by omega) (by omega)).mp z9) (by omega))))
          refine lv_iload hx hb dL_journal_153 (lv_at hl 1 rfl) ?_
          refine lv_iconst (v := 1) hx hb dL_journal_155 (by decide) ?_
          refine lv_icmp_ne (tgt := 165) hx hb dL_journal_156 (by decide) (fun c_25 => ?_) (fun c_25 => absurd c_25 ((fun z9 => absurd ((nI_eq (a := 2) (b := 1) (by omega) (by omega)).mp z9) (by omega))))
          refine lv_iload hx hb dL_journal_165 (lv_at hl 1 rfl) ?_
          refine lv_iconst (v := 2) hx hb dL_journal_167 (by decide) ?_
          refine lv_icmp_ne (tgt := 183) hx hb dL_journal_168 (by decide) (fun c_26 => absurd (((nI_eq (a := 2) (b := 2) (by omega) (by omega)).mpr (by omega))) c_26) (fun c_26 => ?_)
          refine lv_iload hx hb dL_journal_171 (lv_at hl 0 rfl) ?_
          refine lv_iconst (v := 1) hx hb dL_journal_173 (by decide) ?_
          refine lv_icmp_eq (tgt := 277) hx hb dL_journal_174 (by decide) (fun c_27 => absurd c_27 ((fun z9 => absurd ((nI_eq (a := 3) (b := 1) (by omega) (by omega)).mp z9) (by omega)))) (fun c_27 => ?_)
          refine lv_iload hx hb dL_journal_177 (lv_at hl 0 rfl) ?_
          refine lv_iconst (v := 3) hx hb dL_journal_179 (by decide) ?_
          refine lv_icmp_eq (tgt := 277) hx hb dL_journal_180 (by decide) (fun c_28 => ?_) (fun c_28 => absurd (((nI_eq (a := 3) (b := 3) (by omega) (by omega)).mpr (by omega))) c_28)
          refine lv_iconst (v := 1) hx hb dL_journal_277 (by decide) ?_
          refine lv_goto (tgt := 282) hx hb dL_journal_278 (by decide) ?_
          exact J
        · refine lv_iload hx hb dL_journal_142 (lv_at hl 1 rfl) ?_
          refine lv_if_ne (tgt := 153) hx hb dL_journal_144 (by decide) (fun c_29 => ?_) (fun c_29 => absurd c_29 ((fun z9 => absurd ((nI_eq (a := 3) (b := 0) (by omega) (by omega)).mp z9) (by omega))))
          refine lv_iload hx hb dL_journal_153 (lv_at hl 1 rfl) ?_
          refine lv_iconst (v := 1) hx hb dL_journal_155 (by decide) ?_
          refine lv_icmp_ne (tgt := 165) hx hb dL_journal_156 (by decide) (fun c_30 => ?_) (fun c_30 => absurd c_30 ((fun z9 => absurd ((nI_eq (a := 3) (b := 1) (by omega) (by omega)).mp z9) (by omega))))
          refine lv_iload hx hb dL_journal_165 (lv_at hl 1 rfl) ?_
          refine lv_iconst (v := 2) hx hb dL_journal_167 (by decide) ?_
          refine lv_icmp_ne (tgt := 183) hx hb dL_journal_168 (by decide) (fun c_31 => ?_) (fun c_31 => absurd c_31 ((fun z9 => absurd ((nI_eq (a := 3) (b := 2) (by omega) (by omega)).mp z9) (by omega))))
          refine lv_iload hx hb dL_journal_183 (lv_at hl 1 rfl) ?_
          refine lv_iconst (v := 3) hx hb dL_journal_185 (by decide) ?_
          refine lv_icmp_ne (tgt := 208) hx hb dL_journal_186 (by decide) (fun c_32 => absurd (((nI_eq (a := 3) (b := 3) (by omega) (by omega)).mpr (by omega))) c_32) (fun c_32 => ?_)
          refine lv_iload hx hb dL_journal_189 (lv_at hl 0 rfl) ?_
          refine lv_iconst (v := 4) hx hb dL_journal_191 (by decide) ?_
          refine lv_icmp_eq (tgt := 277) hx hb dL_journal_192 (by decide) (fun c_33 => ?_) (fun c_33 => absurd (((nI_eq (a := 4) (b := 4) (by omega) (by omega)).mpr (by omega))) c_33)
          refine lv_iconst (v := 1) hx hb dL_journal_277 (by decide) ?_
          refine lv_goto (tgt := 282) hx hb dL_journal_278 (by decide) ?_
          exact J
        · refine lv_iload hx hb dL_journal_142 (lv_at hl 1 rfl) ?_
          refine lv_if_ne (tgt := 153) hx hb dL_journal_144 (by decide) (fun c_34 => ?_) (fun c_34 => absurd c_34 ((fun z9 => absurd ((nI_eq (a := 3) (b := 0) (by omega) (by omega)).mp z9) (by omega))))
          refine lv_iload hx hb dL_journal_153 (lv_at hl 1 rfl) ?_
          refine lv_iconst (v := 1) hx hb dL_journal_155 (by decide) ?_
          refine lv_icmp_ne (tgt := 165) hx hb dL_journal_156 (by decide) (fun c_35 => ?_) (fun c_35 => absurd c_35 ((fun z9 => absurd ((nI_eq (a := 3) (b := 1) (by omega) (by omega)).mp z9) (by omega))))
          refine lv_iload hx hb dL_journal_165 (lv_at hl 1 rfl) ?_
          refine lv_iconst (v := 2) hx hb dL_journal_167 (by decide) ?_
          refine lv_icmp_ne (tgt := 183) hx hb dL_journal_168 (by decide) (fun c_36 => ?_) (fun c_36 => absurd c_36 ((fun z9 => absurd ((nI_eq (a := 3) (b := 2) (by omega) (by omega)).mp z9) (by omega))))
          refine lv_iload hx hb dL_journal_183 (lv_at hl 1 rfl) ?_
          refine lv_iconst (v := 3) hx hb dL_journal_185 (by decide) ?_
          refine lv_icmp_ne (tgt := 208) hx hb dL_journal_186 (by decide) (fun c_37 => absurd (((nI_eq (a := 3) (b := 3) (by omega) (by omega)).mpr (by omega))) c_37) (fun c_37 => ?_)
          refine lv_iload hx hb dL_journal_189 (lv_at hl 0 rfl) ?_
          refine lv_iconst (v := 4) hx hb dL_journal_191 (by decide) ?_
          refine lv_icmp_eq (tgt := 277) hx hb dL_journal_192 (by decide) (fun c_38 => absurd c_38 ((fun z9 => absurd ((nI_eq (a := 5) (b := 4) (by omega) (by omega)).mp z9) (by omega)))) (fun c_38 => ?_)
          refine lv_iload hx hb dL_journal_195 (lv_at hl 0 rfl) ?_
          refine lv_iconst (v := 5) hx hb dL_journal_197 (by decide) ?_
          refine lv_icmp_eq (tgt := 277) hx hb dL_journal_198 (by decide) (fun c_39 => ?_) (fun c_39 => absurd (((nI_eq (a := 5) (b := 5) (by omega) (by omega)).mpr (by omega))) c_39)
          refine lv_iconst (v := 1) hx hb dL_journal_277 (by decide) ?_
          refine lv_goto (tgt := 282) hx hb dL_journal_278 (by decide) ?_
          exact J
        · refine lv_iload hx hb dL_journal_142 (lv_at hl 1 rfl) ?_
          refine lv_if_ne (tgt := 153) hx hb dL_journal_144 (by decide) (fun c_40 => ?_) (fun c_40 => absurd c_40 ((fun z9 => absurd ((nI_eq (a := 3) (b := 0) (by omega) (by omega)).mp z9) (by omega))))
          refine lv_iload hx hb dL_journal_153 (lv_at hl 1 rfl) ?_
          refine lv_iconst (v := 1) hx hb dL_journal_155 (by decide) ?_
          refine lv_icmp_ne (tgt := 165) hx hb dL_journal_156 (by decide) (fun c_41 => ?_) (fun c_41 => absurd c_41 ((fun z9 => absurd ((nI_eq (a := 3) (b := 1) (by omega) (by omega)).mp z9) (by omega))))
          refine lv_iload hx hb dL_journal_165 (lv_at hl 1 rfl) ?_
          refine lv_iconst (v := 2) hx hb dL_journal_167 (by decide) ?_
          refine lv_icmp_ne (tgt := 183) hx hb dL_journal_168 (by decide) (fun c_42 => ?_) (fun c_42 => absurd c_42 ((fun z9 => absurd ((nI_eq (a := 3) (b := 2) (by omega) (by omega)).mp z9) (by omega))))
          refine lv_iload hx hb dL_journal_183 (lv_at hl 1 rfl) ?_
          refine lv_iconst (v := 3) hx hb dL_journal_185 (by decide) ?_
          refine lv_icmp_ne (tgt := 208) hx hb dL_journal_186 (by decide) (fun c_43 => absurd (((nI_eq (a := 3) (b := 3) (by omega) (by omega)).mpr (by omega))) c_43) (fun c_43 => ?_)
          refine lv_iload hx hb dL_journal_189 (lv_at hl 0 rfl) ?_
          refine lv_iconst (v := 4) hx hb dL_journal_191 (by decide) ?_
          refine lv_icmp_eq (tgt := 277) hx hb dL_journal_192 (by decide) (fun c_44 => absurd c_44 ((fun z9 => absurd ((nI_eq (a := 7) (b := 4) (by omega) (by omega)).mp z9) (by omega)))) (fun c_44 => ?_)
          refine lv_iload hx hb dL_journal_195 (lv_at hl 0 rfl) ?_
          refine lv_iconst (v := 5) hx hb dL_journal_197 (by decide) ?_
          refine lv_icmp_eq (tgt := 277) hx hb dL_journal_198 (by decide) (fun c_45 => absurd c_45 ((fun z9 => absurd ((nI_eq (a := 7) (b := 5) (by omega) (by omega)).mp z9) (by omega)))) (fun c_45 => ?_)
          refine lv_iload hx hb dL_journal_201 (lv_at hl 0 rfl) ?_
          refine lv_bipush (v := 7) hx hb dL_journal_203 (by decide) ?_
          refine lv_icmp_eq (tgt := 277) hx hb dL_journal_205 (by decide) (fun c_46 => ?_) (fun c_46 => absurd (((nI_eq (a := 7) (b := 7) (by omega) (by omega)).mpr (by omega))) c_46)
          refine lv_iconst (v := 1) hx hb dL_journal_277 (by decide) ?_
          refine lv_goto (tgt := 282) hx hb dL_journal_278 (by decide) ?_
          exact J
        · refine lv_iload hx hb dL_journal_142 (lv_at hl 1 rfl) ?_
          refine lv_if_ne (tgt := 153) hx hb dL_journal_144 (by decide) (fun c_47 => ?_) (fun c_47 => absurd c_47 ((fun z9 => absurd ((nI_eq (a := 4) (b := 0) (by omega) (by omega)).mp z9) (by omega))))
          refine lv_iload hx hb dL_journal_153 (lv_at hl 1 rfl) ?_
          refine lv_iconst (v := 1) hx hb dL_journal_155 (by decide) ?_
          refine lv_icmp_ne (tgt := 165) hx hb dL_journal_156 (by decide) (fun c_48 => ?_) (fun c_48 => absurd c_48 ((fun z9 => absurd ((nI_eq (a := 4) (b := 1) (by omega) (by omega)).mp z9) (by omega))))
          refine lv_iload hx hb dL_journal_165 (lv_at hl 1 rfl) ?_
          refine lv_iconst (v := 2) hx hb dL_journal_167 (by decide) ?_
          refine lv_icmp_ne (tgt := 183) hx hb dL_journal_168 (by decide) (fun c_49 => ?_) (fun c_49 => absurd c_49 ((fun z9 => absurd ((nI_eq (a := 4) (b := 2) (by omega) (by omega)).mp z9) (by omega))))
          refine lv_iload hx hb dL_journal_183 (lv_at hl 1 rfl) ?_
          refine lv_iconst (v := 3) hx hb dL_journal_185 (by decide) ?_
          refine lv_icmp_ne (tgt := 208) hx hb dL_journal_186 (by decide) (fun c_50 => ?_) (fun c_50 => absurd c_50 ((fun z9 => absurd ((nI_eq (a := 4) (b := 3) (by omega) (by omega)).mp z9) (by omega))))
          refine lv_iload hx hb dL_journal_208 (lv_at hl 1 rfl) ?_
          refine lv_iconst (v := 4) hx hb dL_journal_210 (by decide) ?_
          refine lv_icmp_ne (tgt := 226) hx hb dL_journal_211 (by decide) (fun c_51 => absurd (((nI_eq (a := 4) (b := 4) (by omega) (by omega)).mpr (by omega))) c_51) (fun c_51 => ?_)
          refine lv_iload hx hb dL_journal_214 (lv_at hl 0 rfl) ?_
          refine lv_iconst (v := 1) hx hb dL_journal_216 (by decide) ?_
          refine lv_icmp_eq (tgt := 277) hx hb dL_journal_217 (by decide) (fun c_52 => ?_) (fun c_52 => absurd (((nI_eq (a := 1) (b := 1) (by omega) (by omega)).mpr (by omega))) c_52)
          refine lv_iconst (v := 1) hx hb dL_journal_277 (by decide) ?_
          refine lv_goto (tgt := 282) hx hb dL_journal_278 (by decide) ?_
          exact J
        · refine lv_iload hx hb dL_journal_142 (lv_at hl 1 rfl) ?_
          refine lv_if_ne (tgt := 153) hx hb dL_journal_144 (by decide) (fun c_53 => ?_) (fun c_53 => absurd c_53 ((fun z9 => absurd ((nI_eq (a := 4) (b := 0) (by omega) (by omega)).mp z9) (by omega))))
          refine lv_iload hx hb dL_journal_153 (lv_at hl 1 rfl) ?_
          refine lv_iconst (v := 1) hx hb dL_journal_155 (by decide) ?_
          refine lv_icmp_ne (tgt := 165) hx hb dL_journal_156 (by decide) (fun c_54 => ?_) (fun c_54 => absurd c_54 ((fun z9 => absurd ((nI_eq (a := 4) (b := 1) (by omega) (by omega)).mp z9) (by omega))))
          refine lv_iload hx hb dL_journal_165 (lv_at hl 1 rfl) ?_
          refine lv_iconst (v := 2) hx hb dL_journal_167 (by decide) ?_
          refine lv_icmp_ne (tgt := 183) hx hb dL_journal_168 (by decide) (fun c_55 => ?_) (fun c_55 => absurd c_55 ((fun z9 => absurd ((nI_eq (a := 4) (b := 2) (by omega) (by omega)).mp z9) (by omega))))
          refine lv_iload hx hb dL_journal_183 (lv_at hl 1 rfl) ?_
          refine lv_iconst (v := 3) hx hb dL_journal_185 (by decide) ?_
          refine lv_icmp_ne (tgt := 208) hx hb dL_journal_186 (by decide) (fun c_56 => ?_) (fun c_56 => absurd c_56 ((fun z9 => absurd ((nI_eq (a := 4) (b := 3) (by omega) (by omega)).mp z9) (by omega))))
          refine lv_iload hx hb dL_journal_208 (lv_at hl 1 rfl) ?_
          refine lv_iconst (v := 4) hx hb dL_journal_210 (by decide) ?_
          refine lv_icmp_ne (tgt := 226) hx hb dL_journal_211 (by decide) (fun c_57 => absurd (((nI_eq (a := 4) (b := 4) (by omega) (by omega)).mpr (by omega))) c_57) (fun c_57 => ?_)
          refine lv_iload hx hb dL_journal_214 (lv_at hl 0 rfl) ?_
          refine lv_iconst (v := 1) hx hb dL_journal_216 (by decide) ?_
          refine lv_icmp_eq (tgt := 277) hx hb dL_journal_217 (by decide) (fun c_58 => absurd c_58 ((fun z9 => absurd ((nI_eq (a := 2) (b := 1) (by omega) (by omega)).mp z9) (by omega)))) (fun c_58 => ?_)
          refine lv_iload hx hb dL_journal_220 (lv_at hl 0 rfl) ?_
          refine lv_iconst (v := 2) hx hb dL_journal_222 (by decide) ?_
          refine lv_icmp_eq (tgt := 277) hx hb dL_journal_223 (by decide) (fun c_59 => ?_) (fun c_59 => absurd (((nI_eq (a := 2) (b := 2) (by omega) (by omega)).mpr (by omega))) c_59)
          refine lv_iconst (v := 1) hx hb dL_journal_277 (by decide) ?_
          refine lv_goto (tgt := 282) hx hb dL_journal_278 (by decide) ?_
          exact J
        · refine lv_iload hx hb dL_journal_142 (lv_at hl 1 rfl) ?_
          refine lv_if_ne (tgt := 153) hx hb dL_journal_144 (by decide) (fun c_60 => ?_) (fun c_60 => absurd c_60 ((fun z9 => absurd ((nI_eq (a := 5) (b := 0) (by omega) (by omega)).mp z9) (by omega))))
          refine lv_iload hx hb dL_journal_153 (lv_at hl 1 rfl) ?_
          refine lv_iconst (v := 1) hx hb dL_journal_155 (by decide) ?_
          refine lv_icmp_ne (tgt := 165) hx hb dL_journal_156 (by decide) (fun c_61 => ?_) (fun c_61 => absurd c_61 ((fun z9 => absurd ((nI_eq (a := 5) (b := 1) (by omega) (by omega)).mp z9) (by omega))))
          refine lv_iload hx hb dL_journal_165 (lv_at hl 1 rfl) ?_
          refine lv_iconst (v := 2) hx hb dL_journal_167 (by decide) ?_
          refine lv_icmp_ne (tgt := 183) hx hb dL_journal_168 (by decide) (fun c_62 => ?_) (fun c_62 => absurd c_62 ((fun z9 => absurd ((nI_eq (a := 5) (b := 2) (by omega) (by omega)).mp z9) (by omega))))
          refine lv_iload hx hb dL_journal_183 (lv_at hl 1 rfl) ?_
          refine lv_iconst (v := 3) hx hb dL_journal_185 (by decide) ?_
          refine lv_icmp_ne (tgt := 208) hx hb dL_journal_186 (by decide) (fun c_63 => ?_) (fun c_63 => absurd c_63 ((fun z9 => absurd ((nI_eq (a := 5) (b := 3) (by omega) (by omega)).mp z9) (by omega))))
          refine lv_iload hx hb dL_journal_208 (lv_at hl 1 rfl) ?_
          refine lv_iconst (v := 4) hx hb dL_journal_210 (by decide) ?_
          refine lv_icmp_ne (tgt := 226) hx hb dL_journal_211 (by decide) (fun c_64 => ?_) (fun c_64 => absurd c_64 ((fun z9 => absurd ((nI_eq (a := 5) (b := 4) (by omega) (by omega)).mp z9) (by omega))))
          refine lv_iload hx hb dL_journal_226 (lv_at hl 1 rfl) ?_
          refine lv_iconst (v := 5) hx hb dL_journal_228 (by decide) ?_
          refine lv_icmp_ne (tgt := 245) hx hb dL_journal_229 (by decide) (fun c_65 => absurd (((nI_eq (a := 5) (b := 5) (by omega) (by omega)).mpr (by omega))) c_65) (fun c_65 => ?_)
          refine lv_iload hx hb dL_journal_232 (lv_at hl 0 rfl) ?_
          refine lv_iconst (v := 1) hx hb dL_journal_234 (by decide) ?_
          refine lv_icmp_eq (tgt := 277) hx hb dL_journal_235 (by decide) (fun c_66 => ?_) (fun c_66 => absurd (((nI_eq (a := 1) (b := 1) (by omega) (by omega)).mpr (by omega))) c_66)
          refine lv_iconst (v := 1) hx hb dL_journal_277 (by decide) ?_
          refine lv_goto (tgt := 282) hx hb dL_journal_278 (by decide) ?_
          exact J
        · refine lv_iload hx hb dL_journal_142 (lv_at hl 1 rfl) ?_
          refine lv_if_ne (tgt := 153) hx hb dL_journal_144 (by decide) (fun c_67 => ?_) (fun c_67 => absurd c_67 ((fun z9 => absurd ((nI_eq (a := 5) (b := 0) (by omega) (by omega)).mp z9) (by omega))))
          refine lv_iload hx hb dL_journal_153 (lv_at hl 1 rfl) ?_
          refine lv_iconst (v := 1) hx hb dL_journal_155 (by decide) ?_
          refine lv_icmp_ne (tgt := 165) hx hb dL_journal_156 (by decide) (fun c_68 => ?_) (fun c_68 => absurd c_68 ((fun z9 => absurd ((nI_eq (a := 5) (b := 1) (by omega) (by omega)).mp z9) (by omega))))
          refine lv_iload hx hb dL_journal_165 (lv_at hl 1 rfl) ?_
          refine lv_iconst (v := 2) hx hb dL_journal_167 (by decide) ?_
          refine lv_icmp_ne (tgt := 183) hx hb dL_journal_168 (by decide) (fun c_69 => ?_) (fun c_69 => absurd c_69 ((fun z9 => absurd ((nI_eq (a := 5) (b := 2) (by omega) (by omega)).mp z9) (by omega))))
          refine lv_iload hx hb dL_journal_183 (lv_at hl 1 rfl) ?_
          refine lv_iconst (v := 3) hx hb dL_journal_185 (by decide) ?_
          refine lv_icmp_ne (tgt := 208) hx hb dL_journal_186 (by decide) (fun c_70 => ?_) (fun c_70 => absurd c_70 ((fun z9 => absurd ((nI_eq (a := 5) (b := 3) (by omega) (by omega)).mp z9) (by omega))))
          refine lv_iload hx hb dL_journal_208 (lv_at hl 1 rfl) ?_
          refine lv_iconst (v := 4) hx hb dL_journal_210 (by decide) ?_
          refine lv_icmp_ne (tgt := 226) hx hb dL_journal_211 (by decide) (fun c_71 => ?_) (fun c_71 => absurd c_71 ((fun z9 => absurd ((nI_eq (a := 5) (b := 4) (by omega) (by omega)).mp z9) (by omega))))
          refine lv_iload hx hb dL_journal_226 (lv_at hl 1 rfl) ?_
          refine lv_iconst (v := 5) hx hb dL_journal_228 (by decide) ?_
          refine lv_icmp_ne (tgt := 245) hx hb dL_journal_229 (by decide) (fun c_72 => absurd (((nI_eq (a := 5) (b := 5) (by omega) (by omega)).mpr (by omega))) c_72) (fun c_72 => ?_)
          refine lv_iload hx hb dL_journal_232 (lv_at hl 0 rfl) ?_
          refine lv_iconst (v := 1) hx hb dL_journal_234 (by decide) ?_
          refine lv_icmp_eq (tgt := 277) hx hb dL_journal_235 (by decide) (fun c_73 => absurd c_73 ((fun z9 => absurd ((nI_eq (a := 6) (b := 1) (by omega) (by omega)).mp z9) (by omega)))) (fun c_73 => ?_)
          refine lv_iload hx hb dL_journal_238 (lv_at hl 0 rfl) ?_
          refine lv_bipush (v := 6) hx hb dL_journal_240 (by decide) ?_
          refine lv_icmp_eq (tgt := 277) hx hb dL_journal_242 (by decide) (fun c_74 => ?_) (fun c_74 => absurd (((nI_eq (a := 6) (b := 6) (by omega) (by omega)).mpr (by omega))) c_74)
          refine lv_iconst (v := 1) hx hb dL_journal_277 (by decide) ?_
          refine lv_goto (tgt := 282) hx hb dL_journal_278 (by decide) ?_
          exact J
        · refine lv_iload hx hb dL_journal_142 (lv_at hl 1 rfl) ?_
          refine lv_if_ne (tgt := 153) hx hb dL_journal_144 (by decide) (fun c_75 => ?_) (fun c_75 => absurd c_75 ((fun z9 => absurd ((nI_eq (a := 6) (b := 0) (by omega) (by omega)).mp z9) (by omega))))
          refine lv_iload hx hb dL_journal_153 (lv_at hl 1 rfl) ?_
          refine lv_iconst (v := 1) hx hb dL_journal_155 (by decide) ?_
          refine lv_icmp_ne (tgt := 165) hx hb dL_journal_156 (by decide) (fun c_76 => ?_) (fun c_76 => absurd c_76 ((fun z9 => absurd ((nI_eq (a := 6) (b := 1) (by omega) (by omega)).mp z9) (by omega))))
          refine lv_iload hx hb dL_journal_165 (lv_at hl 1 rfl) ?_
          refine lv_iconst (v := 2) hx hb dL_journal_167 (by decide) ?_
          refine lv_icmp_ne (tgt := 183) hx hb dL_journal_168 (by decide) (fun c_77 => ?_) (fun c_77 => absurd c_77 ((fun z9 => absurd ((nI_eq (a := 6) (b := 2) (by omega) (by omega)).mp z9) (by omega))))
          refine lv_iload hx hb dL_journal_183 (lv_at hl 1 rfl) ?_
          refine lv_iconst (v := 3) hx hb dL_journal_185 (by decide) ?_
          refine lv_icmp_ne (tgt := 208) hx hb dL_journal_186 (by decide) (fun c_78 => ?_) (fun c_78 => absurd c_78 ((fun z9 => absurd ((nI_eq (a := 6) (b := 3) (by omega) (by omega)).mp z9) (by omega))))
          refine lv_iload hx hb dL_journal_208 (lv_at hl 1 rfl) ?_
          refine lv_iconst (v := 4) hx hb dL_journal_210 (by decide) ?_
          refine lv_icmp_ne (tgt := 226) hx hb dL_journal_211 (by decide) (fun c_79 => ?_) (fun c_79 => absurd c_79 ((fun z9 => absurd ((nI_eq (a := 6) (b := 4) (by omega) (by omega)).mp z9) (by omega))))
          refine lv_iload hx hb dL_journal_226 (lv_at hl 1 rfl) ?_
          refine lv_iconst (v := 5) hx hb dL_journal_228 (by decide) ?_
          refine lv_icmp_ne (tgt := 245) hx hb dL_journal_229 (by decide) (fun c_80 => ?_) (fun c_80 => absurd c_80 ((fun z9 => absurd ((nI_eq (a := 6) (b := 5) (by omega) (by omega)).mp z9) (by omega))))
          refine lv_iload hx hb dL_journal_245 (lv_at hl 1 rfl) ?_
          refine lv_bipush (v := 6) hx hb dL_journal_247 (by decide) ?_
          refine lv_icmp_ne (tgt := 264) hx hb dL_journal_249 (by decide) (fun c_81 => absurd (((nI_eq (a := 6) (b := 6) (by omega) (by omega)).mpr (by omega))) c_81) (fun c_81 => ?_)
          refine lv_iload hx hb dL_journal_252 (lv_at hl 0 rfl) ?_
          refine lv_iconst (v := 1) hx hb dL_journal_254 (by decide) ?_
          refine lv_icmp_eq (tgt := 277) hx hb dL_journal_255 (by decide) (fun c_82 => ?_) (fun c_82 => absurd (((nI_eq (a := 1) (b := 1) (by omega) (by omega)).mpr (by omega))) c_82)
          refine lv_iconst (v := 1) hx hb dL_journal_277 (by decide) ?_
          refine lv_goto (tgt := 282) hx hb dL_journal_278 (by decide) ?_
          exact J
        · refine lv_iload hx hb dL_journal_142 (lv_at hl 1 rfl) ?_
          refine lv_if_ne (tgt := 153) hx hb dL_journal_144 (by decide) (fun c_83 => ?_) (fun c_83 => absurd c_83 ((fun z9 => absurd ((nI_eq (a := 6) (b := 0) (by omega) (by omega)).mp z9) (by omega))))
          refine lv_iload hx hb dL_journal_153 (lv_at hl 1 rfl) ?_
          refine lv_iconst (v := 1) hx hb dL_journal_155 (by decide) ?_
          refine lv_icmp_ne (tgt := 165) hx hb dL_journal_156 (by decide) (fun c_84 => ?_) (fun c_84 => absurd c_84 ((fun z9 => absurd ((nI_eq (a := 6) (b := 1) (by omega) (by omega)).mp z9) (by omega))))
          refine lv_iload hx hb dL_journal_165 (lv_at hl 1 rfl) ?_
          refine lv_iconst (v := 2) hx hb dL_journal_167 (by decide) ?_
          refine lv_icmp_ne (tgt := 183) hx hb dL_journal_168 (by decide) (fun c_85 => ?_) (fun c_85 => absurd c_85 ((fun z9 => absurd ((nI_eq (a := 6) (b := 2) (by omega) (by omega)).mp z9) (by omega))))
          refine lv_iload hx hb dL_journal_183 (lv_at hl 1 rfl) ?_
          refine lv_iconst (v := 3) hx hb dL_journal_185 (by decide) ?_
          refine lv_icmp_ne (tgt := 208) hx hb dL_journal_186 (by decide) (fun c_86 => ?_) (fun c_86 => absurd c_86 ((fun z9 => absurd ((nI_eq (a := 6) (b := 3) (by omega) (by omega)).mp z9) (by omega))))
          refine lv_iload hx hb dL_journal_208 (lv_at hl 1 rfl) ?_
          refine lv_iconst (v := 4) hx hb dL_journal_210 (by decide) ?_
          refine lv_icmp_ne (tgt := 226) hx hb dL_journal_211 (by decide) (fun c_87 => ?_) (fun c_87 => absurd c_87 ((fun z9 => absurd ((nI_eq (a := 6) (b := 4) (by omega) (by omega)).mp z9) (by omega))))
          refine lv_iload hx hb dL_journal_226 (lv_at hl 1 rfl) ?_
          refine lv_iconst (v := 5) hx hb dL_journal_228 (by decide) ?_
          refine lv_icmp_ne (tgt := 245) hx hb dL_journal_229 (by decide) (fun c_88 => ?_) (fun c_88 => absurd c_88 ((fun z9 => absurd ((nI_eq (a := 6) (b := 5) (by omega) (by omega)).mp z9) (by omega))))
          refine lv_iload hx hb dL_journal_245 (lv_at hl 1 rfl) ?_
          refine lv_bipush (v := 6) hx hb dL_journal_247 (by decide) ?_
          refine lv_icmp_ne (tgt := 264) hx hb dL_journal_249 (by decide) (fun c_89 => absurd (((nI_eq (a := 6) (b := 6) (by omega) (by omega)).mpr (by omega))) c_89) (fun c_89 => ?_)
          refine lv_iload hx hb dL_journal_252 (lv_at hl 0 rfl) ?_
          refine lv_iconst (v := 1) hx hb dL_journal_254 (by decide) ?_
          refine lv_icmp_eq (tgt := 277) hx hb dL_journal_255 (by decide) (fun c_90 => absurd c_90 ((fun z9 => absurd ((nI_eq (a := 5) (b := 1) (by omega) (by omega)).mp z9) (by omega)))) (fun c_90 => ?_)
          refine lv_iload hx hb dL_journal_258 (lv_at hl 0 rfl) ?_
          refine lv_iconst (v := 5) hx hb dL_journal_260 (by decide) ?_
          refine lv_icmp_eq (tgt := 277) hx hb dL_journal_261 (by decide) (fun c_91 => ?_) (fun c_91 => absurd (((nI_eq (a := 5) (b := 5) (by omega) (by omega)).mpr (by omega))) c_91)
          refine lv_iconst (v := 1) hx hb dL_journal_277 (by decide) ?_
          refine lv_goto (tgt := 282) hx hb dL_journal_278 (by decide) ?_
          exact J
        · refine lv_iload hx hb dL_journal_142 (lv_at hl 1 rfl) ?_
          refine lv_if_ne (tgt := 153) hx hb dL_journal_144 (by decide) (fun c_92 => ?_) (fun c_92 => absurd c_92 ((fun z9 => absurd ((nI_eq (a := 7) (b := 0) (by omega) (by omega)).mp z9) (by omega))))
          refine lv_iload hx hb dL_journal_153 (lv_at hl 1 rfl) ?_
          refine lv_iconst (v := 1) hx hb dL_journal_155 (by decide) ?_
          refine lv_icmp_ne (tgt := 165) hx hb dL_journal_156 (by decide) (fun c_93 => ?_) (fun c_93 => absurd c_93 ((fun z9 => absurd ((nI_eq (a := 7) (b := 1) (by omega) (by omega)).mp z9) (by omega))))
          refine lv_iload hx hb dL_journal_165 (lv_at hl 1 rfl) ?_
          refine lv_iconst (v := 2) hx hb dL_journal_167 (by decide) ?_
          refine lv_icmp_ne (tgt := 183) hx hb dL_journal_168 (by decide) (fun c_94 => ?_) (fun c_94 => absurd c_94 ((fun z9 => absurd ((nI_eq (a := 7) (b := 2) (by omega) (by omega)).mp z9) (by omega))))
          refine lv_iload hx hb dL_journal_183 (lv_at hl 1 rfl) ?_
          refine lv_iconst (v := 3) hx hb dL_journal_185 (by decide) ?_
          refine lv_icmp_ne (tgt := 208) hx hb dL_journal_186 (by decide) (fun c_95 => ?_) (fun c_95 => absurd c_95 ((fun z9 => absurd ((nI_eq (a := 7) (b := 3) (by omega) (by omega)).mp z9) (by omega))))
          refine lv_iload hx hb dL_journal_208 (lv_at hl 1 rfl) ?_
          refine lv_iconst (v := 4) hx hb dL_journal_210 (by decide) ?_
          refine lv_icmp_ne (tgt := 226) hx hb dL_journal_211 (by decide) (fun c_96 => ?_) (fun c_96 => absurd c_96 ((fun z9 => absurd ((nI_eq (a := 7) (b := 4) (by omega) (by omega)).mp z9) (by omega))))
          refine lv_iload hx hb dL_journal_226 (lv_at hl 1 rfl) ?_
          refine lv_iconst (v := 5) hx hb dL_journal_228 (by decide) ?_
          refine lv_icmp_ne (tgt := 245) hx hb dL_journal_229 (by decide) (fun c_97 => ?_) (fun c_97 => absurd c_97 ((fun z9 => absurd ((nI_eq (a := 7) (b := 5) (by omega) (by omega)).mp z9) (by omega))))
          refine lv_iload hx hb dL_journal_245 (lv_at hl 1 rfl) ?_
          refine lv_bipush (v := 6) hx hb dL_journal_247 (by decide) ?_
          refine lv_icmp_ne (tgt := 264) hx hb dL_journal_249 (by decide) (fun c_98 => ?_) (fun c_98 => absurd c_98 ((fun z9 => absurd ((nI_eq (a := 7) (b := 6) (by omega) (by omega)).mp z9) (by omega))))
          refine lv_iload hx hb dL_journal_264 (lv_at hl 1 rfl) ?_
          refine lv_bipush (v := 7) hx hb dL_journal_266 (by decide) ?_
          refine lv_icmp_ne (tgt := 281) hx hb dL_journal_268 (by decide) (fun c_99 => absurd (((nI_eq (a := 7) (b := 7) (by omega) (by omega)).mpr (by omega))) c_99) (fun c_99 => ?_)
          refine lv_iload hx hb dL_journal_271 (lv_at hl 0 rfl) ?_
          refine lv_iconst (v := 1) hx hb dL_journal_273 (by decide) ?_
          refine lv_icmp_ne (tgt := 281) hx hb dL_journal_274 (by decide) (fun c_100 => absurd (((nI_eq (a := 1) (b := 1) (by omega) (by omega)).mpr (by omega))) c_100) (fun c_100 => ?_)
          refine lv_iconst (v := 1) hx hb dL_journal_277 (by decide) ?_
          refine lv_goto (tgt := 282) hx hb dL_journal_278 (by decide) ?_
          exact J
  · have hl : lv_has ls 8 [(2, .int 1), (3, .int (nI k)), (1, .int (nI w)), (0, .ref (ad 0))] := hl
    have hP : va_P D vwCl (wC cy ad σ) H := hG
    have ih68 := ih
    refine lv_iload_n hx hb dL_journal_68 rfl (lv_at hl 1 rfl) ?_
    refine lv_bipush (v := 16) hx hb dL_journal_69 (by decide) ?_
    refine lv_icmp_ge (tgt := 104) hx hb dL_journal_71 (by decide) (fun c_101 => absurd c_101 ((fun z9 => absurd ((nI_leI (a := 16) (b := k) (by omega) (by omega)).mp z9) (by omega)))) (fun c_101 => ?_)
    refine lv_iload_n hx hb dL_journal_74 rfl (lv_at hl 0 rfl) ?_
    refine lv_if_eq (tgt := 96) hx hb dL_journal_75 (by decide) (fun c_102 => absurd c_102 ((by decide : ¬ (1 : Int32) = 0))) (fun c_102 => ?_)
    refine lv_aload_n hx hb dL_journal_78 rfl (lv_at hl 3 rfl) ?_
    refine lv_iload_n hx hb dL_journal_79 rfl (lv_at hl 1 rfl) ?_
    refine lv_iconst (v := 0) hx hb dL_journal_80 (by decide) ?_
    refine rMi (vx_runSW (As := [.ref (ad 0), .int (nI k), .int 0]) (rest := []) ⟨hx, hb, hml, hown, hts⟩ (c_L_stateBefore l hst D cy ad σ sz (nI k) 0 (σ 1 k) (wB (m := k) (k := 0) (by omega) hw hkp (by omega))) (vx_cwSW 3 hts gL_journal_L_stateBefore rfl rfl rfl (by decide +kernel) ⟨Nat.le_of_ble_eq_true rfl, Nat.le_of_ble_eq_true rfl⟩) ⟨cx_bl, cx_S hP hK NoA_z hxk hS⟩ rfl rfl hl.1 rfl (lv_room (Nat.le_of_ble_eq_true rfl)) dL_journal_81 ⟨by show _ ≤ 500; omega, by show _ ≤ 3000; omega⟩) hS (fun H locs hS hg => ?_)
    have hP := hP.grown hg
    refine W.eq (g2 := F0 m 84 ls [.int (σ 1 k)]) rfl ?_
    refine lv_aload_n hx hb dL_journal_84 rfl (lv_at hl 3 rfl) ?_
    refine lv_iload_n hx hb dL_journal_85 rfl (lv_at hl 1 rfl) ?_
    refine rMi (vx_runSW (As := [.ref (ad 0), .int (nI k)]) (rest := [.int (σ 1 k)]) ⟨hx, hb, hml, hown, hts⟩ (c_L_stateOf l hst D cy ad σ sz (nI k) (σ 1 k) (wS (by omega))) (vx_cwSW 2 hts gL_journal_L_stateOf rfl rfl rfl (by decide +kernel) ⟨Nat.le_of_ble_eq_true rfl, Nat.le_of_ble_eq_true rfl⟩) ⟨cx_bl, cx_S hP hK NoA_z hxk hS⟩ rfl rfl hl.1 rfl (lv_room (Nat.le_of_ble_eq_true rfl)) dL_journal_86 ⟨by show _ ≤ 500; omega, by show _ ≤ 3000; omega⟩) hS (fun H locs hS hg => ?_)
    have hP := hP.grown hg
    refine W.eq (g2 := F0 m 89 ls [.int (σ 1 k), .int (σ 1 k)]) rfl ?_
    refine lv_icmp_ne (tgt := 96) hx hb dL_journal_89 (by decide) (fun c_103 => absurd (rfl) c_103) (fun c_103 => ?_)
    refine lv_iconst (v := 1) hx hb dL_journal_92 (by decide) ?_
    refine lv_goto (tgt := 97) hx hb dL_journal_93 (by decide) ?_
    refine lv_istore_n (lv' := [(2, .int 1), (3, .int (nI k)), (1, .int (nI w)), (0, .ref (ad 0))]) hx hb dL_journal_97 rfl hl (by decide) rfl (fun ls hl => ?_)
    refine lv_iinc (v := nI (k + 1)) (lv' := [(3, .int (nI (k + 1))), (2, .int 1), (1, .int (nI w)), (0, .ref (ad 0))]) hx hb dL_journal_98 hl (k := 1) rfl (nI_1 k) (by decide) rfl (fun ls hl => ?_)
    refine lv_goto (tgt := 68) hx hb dL_journal_101 (by decide) ?_
    exact ih68 H locs ls _ _ (by omega) (by omega) (lv_sub hl [1, 0, 2, 3] rfl) hP hS
