set_option maxHeartbeats 2000000 in
set_option maxRecDepth 100000 in
theorem ab_order {p : Program} {l : Launch} {e : Env} {s : State} {m : MethodId} {args : Array Value} {below : List Frame} {meth : Method} {c : Code} {D : va_G} {cy : Nat → ClassId} {ad ad2 : Nat → Nat} {σ : Mem} {sz qa qm qb : Nat} {fa fm fb : Nat → Int32} {h N i : Nat} {zx zy : Int32} {j4 : Nat} {H : Heap} {locs : List Loc} {cells slots : Nat} {ls : Array Slot} (hst : l.stackTraces = false) (hj : inj31 ad) (hj2 : inj31 ad2) (hne : apart ad ad2) (hz : ∀ i, i < 31 → sz ≤ ad i) (hz2 : ∀ i, i < 31 → sz ≤ ad2 i) (C : ACtx p s m args meth c D cy sz) (hN9 : N + 30000 < 2000000000) (hO : OKs h N fa fm fb σ) (hi : i < 16) (hP : va_P D vwCl (X2 cy ad ad2 σ σ ++ [aW cy qa 64 fa, aW cy qm 48 fm, aW cy qb 6 fb]) H) (hD : va_D (Az sz) (X2 cy ad ad2 σ σ ++ [aW cy qa 64 fa, aW cy qm 48 fm, aW cy qb 6 fb])) (hS : va_S (Az sz) s.heap H locs) (hz9 : sz ≤ s.heap.size) (hc9 : cells ≤ 1) (hs9 : slots ≤ 6) (hl : lv_has ls 17 [(0, .ref (ad 0)), (1, .ref (ad2 0)), (2, .ref qa), (3, .ref qm), (4, .ref qb), (5, .int zx), (6, .int zy), (7, .int (nI j4)), (8, .int (nI i)), (9, .int (σ 1 i))]) : W p l e (headSpec wsL_acts ({ frames := 10, cells := 60, slots := 360, locals := 172 })).room s m args below meth c H locs cells slots (MQ below (QI 1 (fun H => ∃ (σ' : Mem) (fa' fm' fb' : Nat → Int32), va_P D vwCl (X2 cy ad ad2 σ' σ' ++ [aW cy qa 64 fa', aW cy qm 48 fm', aW cy qb 6 fb']) H ∧ OKs h (N + 70) fa' fm' fb' σ') (Az sz)) args s 60 360 (Az sz)) (F0 m 885 ls []) := by
  obtain ⟨hx, hb, hr, hts, hown, hlocks, hml, hK, hxk⟩ := C
  refine W.widen (k := 1) (n := 6) hc9 hs9 ?_
  have hA : ∀ q : Nat, s.heap.size ≤ q → Az sz q := fun q hq => Nat.le_trans hz9 hq
  have hI := hO.1
  obtain ⟨s8, r8, n8, x1, x2, x3, x4, x5, x6, x7, x8, x9, x10, x11⟩ := hI.2.1 i hi
  obtain ⟨q8, q1, q2, q3⟩ := hI.2.2.1.2.1
  rcases (show s8 = 0 ∨ s8 = 1 ∨ s8 = 2 ∨ s8 = 3 ∨ s8 = 4 ∨ s8 = 5 ∨ s8 = 6 ∨ s8 = 7 by omega) with rfl | rfl | rfl | rfl | rfl | rfl | rfl | rfl
  · have xs : σ 1 i = 0 := x2
    rw [xs] at hl
    have hl : lv_has ls 17 [(0, .ref (ad 0)), (1, .ref (ad2 0)), (2, .ref qa), (3, .ref qm), (4, .ref qb), (5, .int zx), (6, .int zy), (7, .int (nI j4)), (8, .int (nI i)), (9, .int 0)] := hl
    refine lv_iload hx hb dL_acts_885 (lv_at hl 9 rfl) ?_
    refine lv_iconst (v := 1) hx hb dL_acts_887 (by decide) ?_
    refine lv_icmp_ne (tgt := 906) hx hb dL_acts_888 (by decide) (fun c_1 => ?_) (fun c_1 => absurd c_1 ((by decide : ¬ (0 : Int32) = 1)))
    refine lv_iconst (v := 0) hx hb dL_acts_906 (by decide) ?_
    refine lv_istore (lv' := [(10, .int 0), (0, .ref (ad 0)), (1, .ref (ad2 0)), (2, .ref qa), (3, .ref qm), (4, .ref qb), (5, .int zx), (6, .int zy), (7, .int (nI j4)), (8, .int (nI i)), (9, .int 0)]) hx hb dL_acts_907 hl (by decide) rfl (fun ls hl => ?_)
    refine lv_aload_n hx hb dL_acts_909 rfl (lv_at hl 1 rfl) ?_
    refine lv_iload hx hb dL_acts_910 (lv_at hl 9 rfl) ?_
    obtain ⟨hTo, hTt⟩ := noT_D hD
    refine lMi (fun q ⟨j9, h1, h2⟩ => by rw [h2]; exact hz j9 h1) (vx_runSW (As := [.ref (ad 0), .int (nI i)]) (rest := []) ⟨hx, hb, hml, hown, hts⟩ (c_L_order l hst D cy ad hj σ sz (nI i) ((-1000003)) (by rw [(kO_2 hi (fun z9 => (lit_ne (a := 0) (b := 1) x2 (by omega) (by omega) (by decide)) z9.1))]; exact w13_2 _) σ (if_neg (by rw [(kO_2 hi (fun z9 => (lit_ne (a := 0) (b := 1) x2 (by omega) (by omega) (by decide)) z9.1))]; decide))) (vx_cwSW 2 hts gL_acts_L_order rfl rfl rfl (by decide +kernel) ⟨Nat.le_of_ble_eq_true rfl, Nat.le_of_ble_eq_true rfl⟩) ⟨cx_bl, cx_S hP.left.left hK Az_z hxk hS⟩ rfl rfl hl.1 rfl (lv_room (Nat.le_of_ble_eq_true rfl)) dL_acts_912 ⟨by show _ ≤ 60; omega, by show _ ≤ 360; omega⟩) hS (fun H locs hPW hS hk1 => ?_)
    have hP := setO hne hTo hP hPW hk1
    refine W.eq (g2 := F0 m 915 ls [.int (-1000003)]) rfl ?_
    refine lv_istore (lv' := [(11, .int (-1000003)), (10, .int 0), (0, .ref (ad 0)), (1, .ref (ad2 0)), (2, .ref qa), (3, .ref qm), (4, .ref qb), (5, .int zx), (6, .int zy), (7, .int (nI j4)), (8, .int (nI i)), (9, .int 0)]) hx hb dL_acts_915 hl (by decide) rfl (fun ls hl => ?_)
    refine lv_aload_n hx hb dL_acts_917 rfl (lv_at hl 3 rfl) ?_
    refine lv_iload hx hb dL_acts_918 (lv_at hl 10 rfl) ?_
    refine lMi (fun q ⟨j9, h1, h2⟩ => by rw [h2]; exact hz2 j9 h1) (vx_runSW (As := [.ref (ad2 0), .int (nI i)]) (rest := []) ⟨hx, hb, hml, hown, hts⟩ (c_L_order l hst D cy ad2 hj2 σ sz (nI i) ((-1000003)) (by rw [(kO_2 hi (fun z9 => (lit_ne (a := 0) (b := 1) x2 (by omega) (by omega) (by decide)) z9.1))]; exact w13_2 _) σ (if_neg (by rw [(kO_2 hi (fun z9 => (lit_ne (a := 0) (b := 1) x2 (by omega) (by omega) (by decide)) z9.1))]; decide))) (vx_cwSW 2 hts gL_acts_L_order rfl rfl rfl (by decide +kernel) ⟨Nat.le_of_ble_eq_true rfl, Nat.le_of_ble_eq_true rfl⟩) ⟨cx_bl, cx_S hP.left.right hK Az_z hxk hS⟩ rfl rfl hl.1 rfl (lv_room (Nat.le_of_ble_eq_true rfl)) dL_acts_920 ⟨by show _ ≤ 60; omega, by show _ ≤ 360; omega⟩) hS (fun H locs hPW hS hk1 => ?_)
    have hP := setT hne hTt hP hPW hk1
    refine W.eq (g2 := F0 m 923 ls [.int (-1000003)]) rfl ?_
    refine lv_iload hx hb dL_acts_923 (lv_at hl 0 rfl) ?_
    refine lv_icmp_ne (tgt := 975) hx hb dL_acts_925 (by decide) (fun c_2 => absurd ((by decide : (-1000003 : Int32) = -1000003)) c_2) (fun c_2 => ?_)
    refine lv_iload hx hb dL_acts_928 (lv_at hl 1 rfl) ?_
    refine lv_if_eq (tgt := 948) hx hb dL_acts_930 (by decide) (fun c_3 => ?_) (fun c_3 => absurd ((by decide : (0 : Int32) = 0)) c_3)
    refine lv_iload hx hb dL_acts_948 (lv_at hl 0 rfl) ?_
    refine lv_ldc (v := (-1000003)) hx hb hown (hts (.constant RL 47 (-1000003)) (by decide +kernel)) dL_acts_950 ?_
    refine lv_icmp_ne (tgt := 975) hx hb dL_acts_952 (by decide) (fun c_4 => absurd ((by decide : (-1000003 : Int32) = -1000003)) c_4) (fun c_4 => ?_)
    refine lv_iload hx hb dL_acts_955 (lv_at hl 1 rfl) ?_
    refine lv_if_eq (tgt := 971) hx hb dL_acts_957 (by decide) (fun c_5 => ?_) (fun c_5 => absurd ((by decide : (0 : Int32) = 0)) c_5)
    refine lv_iconst (v := 1) hx hb dL_acts_971 (by decide) ?_
    refine lv_goto (tgt := 976) hx hb dL_acts_972 (by decide) ?_
    refine W.widen (k := 60) (n := 360) (by omega) (by omega) ?_
    have hpo : OKs h (N + 70) fa fm fb σ := hO.le (by omega)
    exact W.zret (v := 1) hx hb hr rfl (fun t ht hW => ⟨⟨_, (), rfl, rfl, ⟨_, _, _, _, by rw [ht]; exact hP, hpo⟩⟩, hS.F ht⟩) hS.2.2 dL_acts_976
  · have xs : σ 1 i = 1 := x2
    rw [xs] at hl
    have hl : lv_has ls 17 [(0, .ref (ad 0)), (1, .ref (ad2 0)), (2, .ref qa), (3, .ref qm), (4, .ref qb), (5, .int zx), (6, .int zy), (7, .int (nI j4)), (8, .int (nI i)), (9, .int 1)] := hl
    rcases hbs : sBst σ i with _ | b
    · refine lv_iload hx hb dL_acts_885 (lv_at hl 9 rfl) ?_
      refine lv_iconst (v := 1) hx hb dL_acts_887 (by decide) ?_
      refine lv_icmp_ne (tgt := 906) hx hb dL_acts_888 (by decide) (fun c_6 => absurd ((by decide : (1 : Int32) = 1)) c_6) (fun c_6 => ?_)
      refine lv_aload_n hx hb dL_acts_891 rfl (lv_at hl 0 rfl) ?_
      refine lv_aload_n hx hb dL_acts_892 rfl (lv_at hl 2 rfl) ?_
      refine lv_aload_n hx hb dL_acts_893 rfl (lv_at hl 3 rfl) ?_
      refine lv_iload hx hb dL_acts_894 (lv_at hl 8 rfl) ?_
      refine rMi (va_runS (As := [.ref (ad 0), .ref qa, .ref qm, .int (nI i)]) (rest := []) ⟨hx, hb, hml, hown, hts⟩ (c_L_match l hst D cy ad σ sz qa qm fa fm fb i hi ⟨_, x1, x2⟩ hO.2.2) (va_cwS 4 hts gL_acts_L_match rfl rfl rfl (by decide +kernel) ⟨Nat.le_of_ble_eq_true rfl, Nat.le_of_ble_eq_true rfl⟩) ⟨aX_bl, aX_S hP.left.left hK Az_z hxk hS (hP.right.one (k := 0) rfl) (hP.right.one (k := 1) rfl)⟩ rfl rfl hl.1 rfl (lv_room (Nat.le_of_ble_eq_true rfl)) dL_acts_896 ⟨by show _ ≤ 60; omega, by show _ ≤ 360; omega⟩) hS (fun H locs hS hg => ?_)
      have hP := hP.grown hg
      refine W.eq (g2 := F0 m 899 ls [.int (-1)]) (by rw [hbs]; rfl) ?_
      refine lv_if_lt (tgt := 906) hx hb dL_acts_899 (by decide) (fun c_7 => ?_) (fun c_7 => absurd ((by decide : (-1 : Int32) < 0)) c_7)
      refine lv_iconst (v := 0) hx hb dL_acts_906 (by decide) ?_
      refine lv_istore (lv' := [(10, .int 0), (0, .ref (ad 0)), (1, .ref (ad2 0)), (2, .ref qa), (3, .ref qm), (4, .ref qb), (5, .int zx), (6, .int zy), (7, .int (nI j4)), (8, .int (nI i)), (9, .int 1)]) hx hb dL_acts_907 hl (by decide) rfl (fun ls hl => ?_)
      refine lv_aload_n hx hb dL_acts_909 rfl (lv_at hl 1 rfl) ?_
      refine lv_iload hx hb dL_acts_910 (lv_at hl 9 rfl) ?_
      obtain ⟨hTo, hTt⟩ := noT_D hD
      refine lMi (fun q ⟨j9, h1, h2⟩ => by rw [h2]; exact hz j9 h1) (vx_runSW (As := [.ref (ad 0), .int (nI i)]) (rest := []) ⟨hx, hb, hml, hown, hts⟩ (c_L_order l hst D cy ad hj σ sz (nI i) ((-1000003)) (by rw [(kO_2 hi (fun z9 => by have z8 := z9.2; rw [hbs] at z8; cases z8))]; exact w13_2 _) σ (if_neg (by rw [(kO_2 hi (fun z9 => by have z8 := z9.2; rw [hbs] at z8; cases z8))]; decide))) (vx_cwSW 2 hts gL_acts_L_order rfl rfl rfl (by decide +kernel) ⟨Nat.le_of_ble_eq_true rfl, Nat.le_of_ble_eq_true rfl⟩) ⟨cx_bl, cx_S hP.left.left hK Az_z hxk hS⟩ rfl rfl hl.1 rfl (lv_room (Nat.le_of_ble_eq_true rfl)) dL_acts_912 ⟨by show _ ≤ 60; omega, by show _ ≤ 360; omega⟩) hS (fun H locs hPW hS hk1 => ?_)
      have hP := setO hne hTo hP hPW hk1
      refine W.eq (g2 := F0 m 915 ls [.int (-1000003)]) rfl ?_
      refine lv_istore (lv' := [(11, .int (-1000003)), (10, .int 0), (0, .ref (ad 0)), (1, .ref (ad2 0)), (2, .ref qa), (3, .ref qm), (4, .ref qb), (5, .int zx), (6, .int zy), (7, .int (nI j4)), (8, .int (nI i)), (9, .int 1)]) hx hb dL_acts_915 hl (by decide) rfl (fun ls hl => ?_)
      refine lv_aload_n hx hb dL_acts_917 rfl (lv_at hl 3 rfl) ?_
      refine lv_iload hx hb dL_acts_918 (lv_at hl 10 rfl) ?_
      refine lMi (fun q ⟨j9, h1, h2⟩ => by rw [h2]; exact hz2 j9 h1) (vx_runSW (As := [.ref (ad2 0), .int (nI i)]) (rest := []) ⟨hx, hb, hml, hown, hts⟩ (c_L_order l hst D cy ad2 hj2 σ sz (nI i) ((-1000003)) (by rw [(kO_2 hi (fun z9 => by have z8 := z9.2; rw [hbs] at z8; cases z8))]; exact w13_2 _) σ (if_neg (by rw [(kO_2 hi (fun z9 => by have z8 := z9.2; rw [hbs] at z8; cases z8))]; decide))) (vx_cwSW 2 hts gL_acts_L_order rfl rfl rfl (by decide +kernel) ⟨Nat.le_of_ble_eq_true rfl, Nat.le_of_ble_eq_true rfl⟩) ⟨cx_bl, cx_S hP.left.right hK Az_z hxk hS⟩ rfl rfl hl.1 rfl (lv_room (Nat.le_of_ble_eq_true rfl)) dL_acts_920 ⟨by show _ ≤ 60; omega, by show _ ≤ 360; omega⟩) hS (fun H locs hPW hS hk1 => ?_)
      have hP := setT hne hTt hP hPW hk1
      refine W.eq (g2 := F0 m 923 ls [.int (-1000003)]) rfl ?_
      refine lv_iload hx hb dL_acts_923 (lv_at hl 0 rfl) ?_
      refine lv_icmp_ne (tgt := 975) hx hb dL_acts_925 (by decide) (fun c_8 => absurd ((by decide : (-1000003 : Int32) = -1000003)) c_8) (fun c_8 => ?_)
      refine lv_iload hx hb dL_acts_928 (lv_at hl 1 rfl) ?_
      refine lv_if_eq (tgt := 948) hx hb dL_acts_930 (by decide) (fun c_9 => ?_) (fun c_9 => absurd ((by decide : (0 : Int32) = 0)) c_9)
      refine lv_iload hx hb dL_acts_948 (lv_at hl 0 rfl) ?_
      refine lv_ldc (v := (-1000003)) hx hb hown (hts (.constant RL 47 (-1000003)) (by decide +kernel)) dL_acts_950 ?_
      refine lv_icmp_ne (tgt := 975) hx hb dL_acts_952 (by decide) (fun c_10 => absurd ((by decide : (-1000003 : Int32) = -1000003)) c_10) (fun c_10 => ?_)
      refine lv_iload hx hb dL_acts_955 (lv_at hl 1 rfl) ?_
      refine lv_if_eq (tgt := 971) hx hb dL_acts_957 (by decide) (fun c_11 => ?_) (fun c_11 => absurd ((by decide : (0 : Int32) = 0)) c_11)
      refine lv_iconst (v := 1) hx hb dL_acts_971 (by decide) ?_
      refine lv_goto (tgt := 976) hx hb dL_acts_972 (by decide) ?_
      refine W.widen (k := 60) (n := 360) (by omega) (by omega) ?_
      have hpo : OKs h (N + 70) fa fm fb σ := hO.le (by omega)
      exact W.zret (v := 1) hx hb hr rfl (fun t ht hW => ⟨⟨_, (), rfl, rfl, ⟨_, _, _, _, by rw [ht]; exact hP, hpo⟩⟩, hS.F ht⟩) hS.2.2 dL_acts_976
    · have hb8 : b < 8 := bst_lt (n := 8) hbs
      have hsm : (sBst σ i).isSome = true := by rw [hbs]; rfl
      obtain ⟨aO, ao⟩ := a_order hO (by omega) hi xs hsm
      rcases ao with at9 | at9
      · refine lv_iload hx hb dL_acts_885 (lv_at hl 9 rfl) ?_
        refine lv_iconst (v := 1) hx hb dL_acts_887 (by decide) ?_
        refine lv_icmp_ne (tgt := 906) hx hb dL_acts_888 (by decide) (fun c_12 => absurd ((by decide : (1 : Int32) = 1)) c_12) (fun c_12 => ?_)
        refine lv_aload_n hx hb dL_acts_891 rfl (lv_at hl 0 rfl) ?_
        refine lv_aload_n hx hb dL_acts_892 rfl (lv_at hl 2 rfl) ?_
        refine lv_aload_n hx hb dL_acts_893 rfl (lv_at hl 3 rfl) ?_
        refine lv_iload hx hb dL_acts_894 (lv_at hl 8 rfl) ?_
        refine rMi (va_runS (As := [.ref (ad 0), .ref qa, .ref qm, .int (nI i)]) (rest := []) ⟨hx, hb, hml, hown, hts⟩ (c_L_match l hst D cy ad σ sz qa qm fa fm fb i hi ⟨_, x1, x2⟩ hO.2.2) (va_cwS 4 hts gL_acts_L_match rfl rfl rfl (by decide +kernel) ⟨Nat.le_of_ble_eq_true rfl, Nat.le_of_ble_eq_true rfl⟩) ⟨aX_bl, aX_S hP.left.left hK Az_z hxk hS (hP.right.one (k := 0) rfl) (hP.right.one (k := 1) rfl)⟩ rfl rfl hl.1 rfl (lv_room (Nat.le_of_ble_eq_true rfl)) dL_acts_896 ⟨by show _ ≤ 60; omega, by show _ ≤ 360; omega⟩) hS (fun H locs hS hg => ?_)
        have hP := hP.grown hg
        refine W.eq (g2 := F0 m 899 ls [.int (nI b)]) (by rw [hbs]; rfl) ?_
        refine lv_if_lt (tgt := 906) hx hb dL_acts_899 (by decide) (fun c_13 => absurd c_13 ((nI_pos (n := b) (by omega)))) (fun c_13 => ?_)
        refine lv_iconst (v := 1) hx hb dL_acts_902 (by decide) ?_
        refine lv_goto (tgt := 907) hx hb dL_acts_903 (by decide) ?_
        refine lv_istore (lv' := [(10, .int 1), (0, .ref (ad 0)), (1, .ref (ad2 0)), (2, .ref qa), (3, .ref qm), (4, .ref qb), (5, .int zx), (6, .int zy), (7, .int (nI j4)), (8, .int (nI i)), (9, .int 1)]) hx hb dL_acts_907 hl (by decide) rfl (fun ls hl => ?_)
        refine lv_aload_n hx hb dL_acts_909 rfl (lv_at hl 1 rfl) ?_
        refine lv_iload hx hb dL_acts_910 (lv_at hl 9 rfl) ?_
        obtain ⟨hTo, hTt⟩ := noT_D hD
        refine lMi (fun q ⟨j9, h1, h2⟩ => by rw [h2]; exact hz j9 h1) (vx_runSW (As := [.ref (ad 0), .int (nI i)]) (rest := []) ⟨hx, hb, hml, hown, hts⟩ (c_L_order l hst D cy ad hj σ sz (nI i) (2) ((w13_0 (kO_0 hi xs hsm)).trans ((rO_1 hi).trans at9)) (gOrder σ (nI i)) (if_pos (kO_0 hi xs hsm))) (vx_cwSW 2 hts gL_acts_L_order rfl rfl rfl (by decide +kernel) ⟨Nat.le_of_ble_eq_true rfl, Nat.le_of_ble_eq_true rfl⟩) ⟨cx_bl, cx_S hP.left.left hK Az_z hxk hS⟩ rfl rfl hl.1 rfl (lv_room (Nat.le_of_ble_eq_true rfl)) dL_acts_912 ⟨by show _ ≤ 60; omega, by show _ ≤ 360; omega⟩) hS (fun H locs hPW hS hk1 => ?_)
        have hP := setO hne hTo hP hPW hk1
        refine W.eq (g2 := F0 m 915 ls [.int 2]) rfl ?_
        refine lv_istore (lv' := [(11, .int 2), (10, .int 1), (0, .ref (ad 0)), (1, .ref (ad2 0)), (2, .ref qa), (3, .ref qm), (4, .ref qb), (5, .int zx), (6, .int zy), (7, .int (nI j4)), (8, .int (nI i)), (9, .int 1)]) hx hb dL_acts_915 hl (by decide) rfl (fun ls hl => ?_)
        refine lv_aload_n hx hb dL_acts_917 rfl (lv_at hl 3 rfl) ?_
        refine lv_iload hx hb dL_acts_918 (lv_at hl 10 rfl) ?_
        refine lMi (fun q ⟨j9, h1, h2⟩ => by rw [h2]; exact hz2 j9 h1) (vx_runSW (As := [.ref (ad2 0), .int (nI i)]) (rest := []) ⟨hx, hb, hml, hown, hts⟩ (c_L_order l hst D cy ad2 hj2 σ sz (nI i) (2) ((w13_0 (kO_0 hi xs hsm)).trans ((rO_1 hi).trans at9)) (gOrder σ (nI i)) (if_pos (kO_0 hi xs hsm))) (vx_cwSW 2 hts gL_acts_L_order rfl rfl rfl (by decide +kernel) ⟨Nat.le_of_ble_eq_true rfl, Nat.le_of_ble_eq_true rfl⟩) ⟨cx_bl, cx_S hP.left.right hK Az_z hxk hS⟩ rfl rfl hl.1 rfl (lv_room (Nat.le_of_ble_eq_true rfl)) dL_acts_920 ⟨by show _ ≤ 60; omega, by show _ ≤ 360; omega⟩) hS (fun H locs hPW hS hk1 => ?_)
        have hP := setT hne hTt hP hPW hk1
        refine W.eq (g2 := F0 m 923 ls [.int 2]) rfl ?_
        refine lv_iload hx hb dL_acts_923 (lv_at hl 0 rfl) ?_
        refine lv_icmp_ne (tgt := 975) hx hb dL_acts_925 (by decide) (fun c_14 => absurd ((by decide : (2 : Int32) = 2)) c_14) (fun c_14 => ?_)
        refine lv_iload hx hb dL_acts_928 (lv_at hl 1 rfl) ?_
        refine lv_if_eq (tgt := 948) hx hb dL_acts_930 (by decide) (fun c_15 => absurd c_15 ((by decide : ¬ (1 : Int32) = 0))) (fun c_15 => ?_)
        refine lv_iload hx hb dL_acts_933 (lv_at hl 0 rfl) ?_
        refine lv_iconst (v := 2) hx hb dL_acts_935 (by decide) ?_
        refine lv_icmp_eq (tgt := 955) hx hb dL_acts_936 (by decide) (fun c_16 => ?_) (fun c_16 => absurd ((by decide : (2 : Int32) = 2)) c_16)
        refine lv_iload hx hb dL_acts_955 (lv_at hl 1 rfl) ?_
        refine lv_if_eq (tgt := 971) hx hb dL_acts_957 (by decide) (fun c_17 => absurd c_17 ((by decide : ¬ (1 : Int32) = 0))) (fun c_17 => ?_)
        refine lv_iload hx hb dL_acts_960 (lv_at hl 0 rfl) ?_
        refine lv_aload_n hx hb dL_acts_962 rfl (lv_at hl 2 rfl) ?_
        refine lv_iload hx hb dL_acts_963 (lv_at hl 10 rfl) ?_
        refine rMi (vx_runSW (As := [.ref (ad 0), .int (nI i)]) (rest := [.int 2]) ⟨hx, hb, hml, hown, hts⟩ (c_L_stateOf l hst D cy ad (gOrder σ (nI i)) sz (nI i) (2) ((wS hi).trans at9)) (vx_cwSW 2 hts gL_acts_L_stateOf rfl rfl rfl (by decide +kernel) ⟨Nat.le_of_ble_eq_true rfl, Nat.le_of_ble_eq_true rfl⟩) ⟨cx_bl, cx_S hP.left.left hK Az_z hxk hS⟩ rfl rfl hl.1 rfl (lv_room (Nat.le_of_ble_eq_true rfl)) dL_acts_965 ⟨by show _ ≤ 60; omega, by show _ ≤ 360; omega⟩) hS (fun H locs hS hg => ?_)
        have hP := hP.grown hg
        refine W.eq (g2 := F0 m 968 ls [.int 2, .int 2]) rfl ?_
        refine lv_icmp_ne (tgt := 975) hx hb dL_acts_968 (by decide) (fun c_18 => absurd ((by decide : (2 : Int32) = 2)) c_18) (fun c_18 => ?_)
        refine lv_iconst (v := 1) hx hb dL_acts_971 (by decide) ?_
        refine lv_goto (tgt := 976) hx hb dL_acts_972 (by decide) ?_
        refine W.widen (k := 60) (n := 360) (by omega) (by omega) ?_
        have hpo : OKs h (N + 70) fa fm fb (gOrder σ (nI i)) := aO.le (by omega)
        exact W.zret (v := 1) hx hb hr rfl (fun t ht hW => ⟨⟨_, (), rfl, rfl, ⟨_, _, _, _, by rw [ht]; exact hP, hpo⟩⟩, hS.F ht⟩) hS.2.2 dL_acts_976
      · refine lv_iload hx hb dL_acts_885 (lv_at hl 9 rfl) ?_
        refine lv_iconst (v := 1) hx hb dL_acts_887 (by decide) ?_
        refine lv_icmp_ne (tgt := 906) hx hb dL_acts_888 (by decide) (fun c_19 => absurd ((by decide : (1 : Int32) = 1)) c_19) (fun c_19 => ?_)
        refine lv_aload_n hx hb dL_acts_891 rfl (lv_at hl 0 rfl) ?_
        refine lv_aload_n hx hb dL_acts_892 rfl (lv_at hl 2 rfl) ?_
        refine lv_aload_n hx hb dL_acts_893 rfl (lv_at hl 3 rfl) ?_
        refine lv_iload hx hb dL_acts_894 (lv_at hl 8 rfl) ?_
        refine rMi (va_runS (As := [.ref (ad 0), .ref qa, .ref qm, .int (nI i)]) (rest := []) ⟨hx, hb, hml, hown, hts⟩ (c_L_match l hst D cy ad σ sz qa qm fa fm fb i hi ⟨_, x1, x2⟩ hO.2.2) (va_cwS 4 hts gL_acts_L_match rfl rfl rfl (by decide +kernel) ⟨Nat.le_of_ble_eq_true rfl, Nat.le_of_ble_eq_true rfl⟩) ⟨aX_bl, aX_S hP.left.left hK Az_z hxk hS (hP.right.one (k := 0) rfl) (hP.right.one (k := 1) rfl)⟩ rfl rfl hl.1 rfl (lv_room (Nat.le_of_ble_eq_true rfl)) dL_acts_896 ⟨by show _ ≤ 60; omega, by show _ ≤ 360; omega⟩) hS (fun H locs hS hg => ?_)
        have hP := hP.grown hg
        refine W.eq (g2 := F0 m 899 ls [.int (nI b)]) (by rw [hbs]; rfl) ?_
        refine lv_if_lt (tgt := 906) hx hb dL_acts_899 (by decide) (fun c_20 => absurd c_20 ((nI_pos (n := b) (by omega)))) (fun c_20 => ?_)
        refine lv_iconst (v := 1) hx hb dL_acts_902 (by decide) ?_
        refine lv_goto (tgt := 907) hx hb dL_acts_903 (by decide) ?_
        refine lv_istore (lv' := [(10, .int 1), (0, .ref (ad 0)), (1, .ref (ad2 0)), (2, .ref qa), (3, .ref qm), (4, .ref qb), (5, .int zx), (6, .int zy), (7, .int (nI j4)), (8, .int (nI i)), (9, .int 1)]) hx hb dL_acts_907 hl (by decide) rfl (fun ls hl => ?_)
        refine lv_aload_n hx hb dL_acts_909 rfl (lv_at hl 1 rfl) ?_
        refine lv_iload hx hb dL_acts_910 (lv_at hl 9 rfl) ?_
        obtain ⟨hTo, hTt⟩ := noT_D hD
        refine lMi (fun q ⟨j9, h1, h2⟩ => by rw [h2]; exact hz j9 h1) (vx_runSW (As := [.ref (ad 0), .int (nI i)]) (rest := []) ⟨hx, hb, hml, hown, hts⟩ (c_L_order l hst D cy ad hj σ sz (nI i) (3) ((w13_0 (kO_0 hi xs hsm)).trans ((rO_1 hi).trans at9)) (gOrder σ (nI i)) (if_pos (kO_0 hi xs hsm))) (vx_cwSW 2 hts gL_acts_L_order rfl rfl rfl (by decide +kernel) ⟨Nat.le_of_ble_eq_true rfl, Nat.le_of_ble_eq_true rfl⟩) ⟨cx_bl, cx_S hP.left.left hK Az_z hxk hS⟩ rfl rfl hl.1 rfl (lv_room (Nat.le_of_ble_eq_true rfl)) dL_acts_912 ⟨by show _ ≤ 60; omega, by show _ ≤ 360; omega⟩) hS (fun H locs hPW hS hk1 => ?_)
        have hP := setO hne hTo hP hPW hk1
        refine W.eq (g2 := F0 m 915 ls [.int 3]) rfl ?_
        refine lv_istore (lv' := [(11, .int 3), (10, .int 1), (0, .ref (ad 0)), (1, .ref (ad2 0)), (2, .ref qa), (3, .ref qm), (4, .ref qb), (5, .int zx), (6, .int zy), (7, .int (nI j4)), (8, .int (nI i)), (9, .int 1)]) hx hb dL_acts_915 hl (by decide) rfl (fun ls hl => ?_)
        refine lv_aload_n hx hb dL_acts_917 rfl (lv_at hl 3 rfl) ?_
        refine lv_iload hx hb dL_acts_918 (lv_at hl 10 rfl) ?_
        refine lMi (fun q ⟨j9, h1, h2⟩ => by rw [h2]; exact hz2 j9 h1) (vx_runSW (As := [.ref (ad2 0), .int (nI i)]) (rest := []) ⟨hx, hb, hml, hown, hts⟩ (c_L_order l hst D cy ad2 hj2 σ sz (nI i) (3) ((w13_0 (kO_0 hi xs hsm)).trans ((rO_1 hi).trans at9)) (gOrder σ (nI i)) (if_pos (kO_0 hi xs hsm))) (vx_cwSW 2 hts gL_acts_L_order rfl rfl rfl (by decide +kernel) ⟨Nat.le_of_ble_eq_true rfl, Nat.le_of_ble_eq_true rfl⟩) ⟨cx_bl, cx_S hP.left.right hK Az_z hxk hS⟩ rfl rfl hl.1 rfl (lv_room (Nat.le_of_ble_eq_true rfl)) dL_acts_920 ⟨by show _ ≤ 60; omega, by show _ ≤ 360; omega⟩) hS (fun H locs hPW hS hk1 => ?_)
        have hP := setT hne hTt hP hPW hk1
        refine W.eq (g2 := F0 m 923 ls [.int 3]) rfl ?_
        refine lv_iload hx hb dL_acts_923 (lv_at hl 0 rfl) ?_
        refine lv_icmp_ne (tgt := 975) hx hb dL_acts_925 (by decide) (fun c_21 => absurd ((by decide : (3 : Int32) = 3)) c_21) (fun c_21 => ?_)
        refine lv_iload hx hb dL_acts_928 (lv_at hl 1 rfl) ?_
        refine lv_if_eq (tgt := 948) hx hb dL_acts_930 (by decide) (fun c_22 => absurd c_22 ((by decide : ¬ (1 : Int32) = 0))) (fun c_22 => ?_)
        refine lv_iload hx hb dL_acts_933 (lv_at hl 0 rfl) ?_
        refine lv_iconst (v := 2) hx hb dL_acts_935 (by decide) ?_
        refine lv_icmp_eq (tgt := 955) hx hb dL_acts_936 (by decide) (fun c_23 => absurd c_23 ((by decide : ¬ (3 : Int32) = 2))) (fun c_23 => ?_)
        refine lv_iload hx hb dL_acts_939 (lv_at hl 0 rfl) ?_
        refine lv_iconst (v := 3) hx hb dL_acts_941 (by decide) ?_
        refine lv_icmp_ne (tgt := 975) hx hb dL_acts_942 (by decide) (fun c_24 => absurd ((by decide : (3 : Int32) = 3)) c_24) (fun c_24 => ?_)
        refine lv_goto (tgt := 955) hx hb dL_acts_945 (by decide) ?_
        refine lv_iload hx hb dL_acts_955 (lv_at hl 1 rfl) ?_
        refine lv_if_eq (tgt := 971) hx hb dL_acts_957 (by decide) (fun c_25 => absurd c_25 ((by decide : ¬ (1 : Int32) = 0))) (fun c_25 => ?_)
        refine lv_iload hx hb dL_acts_960 (lv_at hl 0 rfl) ?_
        refine lv_aload_n hx hb dL_acts_962 rfl (lv_at hl 2 rfl) ?_
        refine lv_iload hx hb dL_acts_963 (lv_at hl 10 rfl) ?_
        refine rMi (vx_runSW (As := [.ref (ad 0), .int (nI i)]) (rest := [.int 3]) ⟨hx, hb, hml, hown, hts⟩ (c_L_stateOf l hst D cy ad (gOrder σ (nI i)) sz (nI i) (3) ((wS hi).trans at9)) (vx_cwSW 2 hts gL_acts_L_stateOf rfl rfl rfl (by decide +kernel) ⟨Nat.le_of_ble_eq_true rfl, Nat.le_of_ble_eq_true rfl⟩) ⟨cx_bl, cx_S hP.left.left hK Az_z hxk hS⟩ rfl rfl hl.1 rfl (lv_room (Nat.le_of_ble_eq_true rfl)) dL_acts_965 ⟨by show _ ≤ 60; omega, by show _ ≤ 360; omega⟩) hS (fun H locs hS hg => ?_)
        have hP := hP.grown hg
        refine W.eq (g2 := F0 m 968 ls [.int 3, .int 3]) rfl ?_
        refine lv_icmp_ne (tgt := 975) hx hb dL_acts_968 (by decide) (fun c_26 => absurd ((by decide : (3 : Int32) = 3)) c_26) (fun c_26 => ?_)
        refine lv_iconst (v := 1) hx hb dL_acts_971 (by decide) ?_
        refine lv_goto (tgt := 976) hx hb dL_acts_972 (by decide) ?_
        refine W.widen (k := 60) (n := 360) (by omega) (by omega) ?_
        have hpo : OKs h (N + 70) fa fm fb (gOrder σ (nI i)) := aO.le (by omega)
        exact W.zret (v := 1) hx hb hr rfl (fun t ht hW => ⟨⟨_, (), rfl, rfl, ⟨_, _, _, _, by rw [ht]; exact hP, hpo⟩⟩, hS.F ht⟩) hS.2.2 dL_acts_976
  · have xs : σ 1 i = 2 := x2
    rw [xs] at hl
    have hl : lv_has ls 17 [(0, .ref (ad 0)), (1, .ref (ad2 0)), (2, .ref qa), (3, .ref qm), (4, .ref qb), (5, .int zx), (6, .int zy), (7, .int (nI j4)), (8, .int (nI i)), (9, .int 2)] := hl
    refine lv_iload hx hb dL_acts_885 (lv_at hl 9 rfl) ?_
    refine lv_iconst (v := 1) hx hb dL_acts_887 (by decide) ?_
    refine lv_icmp_ne (tgt := 906) hx hb dL_acts_888 (by decide) (fun c_27 => ?_) (fun c_27 => absurd c_27 ((by decide : ¬ (2 : Int32) = 1)))
    refine lv_iconst (v := 0) hx hb dL_acts_906 (by decide) ?_
    refine lv_istore (lv' := [(10, .int 0), (0, .ref (ad 0)), (1, .ref (ad2 0)), (2, .ref qa), (3, .ref qm), (4, .ref qb), (5, .int zx), (6, .int zy), (7, .int (nI j4)), (8, .int (nI i)), (9, .int 2)]) hx hb dL_acts_907 hl (by decide) rfl (fun ls hl => ?_)
    refine lv_aload_n hx hb dL_acts_909 rfl (lv_at hl 1 rfl) ?_
    refine lv_iload hx hb dL_acts_910 (lv_at hl 9 rfl) ?_
    obtain ⟨hTo, hTt⟩ := noT_D hD
    refine lMi (fun q ⟨j9, h1, h2⟩ => by rw [h2]; exact hz j9 h1) (vx_runSW (As := [.ref (ad 0), .int (nI i)]) (rest := []) ⟨hx, hb, hml, hown, hts⟩ (c_L_order l hst D cy ad hj σ sz (nI i) ((-1000003)) (by rw [(kO_2 hi (fun z9 => (lit_ne (a := 2) (b := 1) x2 (by omega) (by omega) (by decide)) z9.1))]; exact w13_2 _) σ (if_neg (by rw [(kO_2 hi (fun z9 => (lit_ne (a := 2) (b := 1) x2 (by omega) (by omega) (by decide)) z9.1))]; decide))) (vx_cwSW 2 hts gL_acts_L_order rfl rfl rfl (by decide +kernel) ⟨Nat.le_of_ble_eq_true rfl, Nat.le_of_ble_eq_true rfl⟩) ⟨cx_bl, cx_S hP.left.left hK Az_z hxk hS⟩ rfl rfl hl.1 rfl (lv_room (Nat.le_of_ble_eq_true rfl)) dL_acts_912 ⟨by show _ ≤ 60; omega, by show _ ≤ 360; omega⟩) hS (fun H locs hPW hS hk1 => ?_)
    have hP := setO hne hTo hP hPW hk1
    refine W.eq (g2 := F0 m 915 ls [.int (-1000003)]) rfl ?_
    refine lv_istore (lv' := [(11, .int (-1000003)), (10, .int 0), (0, .ref (ad 0)), (1, .ref (ad2 0)), (2, .ref qa), (3, .ref qm), (4, .ref qb), (5, .int zx), (6, .int zy), (7, .int (nI j4)), (8, .int (nI i)), (9, .int 2)]) hx hb dL_acts_915 hl (by decide) rfl (fun ls hl => ?_)
    refine lv_aload_n hx hb dL_acts_917 rfl (lv_at hl 3 rfl) ?_
    refine lv_iload hx hb dL_acts_918 (lv_at hl 10 rfl) ?_
    refine lMi (fun q ⟨j9, h1, h2⟩ => by rw [h2]; exact hz2 j9 h1) (vx_runSW (As := [.ref (ad2 0), .int (nI i)]) (rest := []) ⟨hx, hb, hml, hown, hts⟩ (c_L_order l hst D cy ad2 hj2 σ sz (nI i) ((-1000003)) (by rw [(kO_2 hi (fun z9 => (lit_ne (a := 2) (b := 1) x2 (by omega) (by omega) (by decide)) z9.1))]; exact w13_2 _) σ (if_neg (by rw [(kO_2 hi (fun z9 => (lit_ne (a := 2) (b := 1) x2 (by omega) (by omega) (by decide)) z9.1))]; decide))) (vx_cwSW 2 hts gL_acts_L_order rfl rfl rfl (by decide +kernel) ⟨Nat.le_of_ble_eq_true rfl, Nat.le_of_ble_eq_true rfl⟩) ⟨cx_bl, cx_S hP.left.right hK Az_z hxk hS⟩ rfl rfl hl.1 rfl (lv_room (Nat.le_of_ble_eq_true rfl)) dL_acts_920 ⟨by show _ ≤ 60; omega, by show _ ≤ 360; omega⟩) hS (fun H locs hPW hS hk1 => ?_)
    have hP := setT hne hTt hP hPW hk1
    refine W.eq (g2 := F0 m 923 ls [.int (-1000003)]) rfl ?_
    refine lv_iload hx hb dL_acts_923 (lv_at hl 0 rfl) ?_
    refine lv_icmp_ne (tgt := 975) hx hb dL_acts_925 (by decide) (fun c_28 => absurd ((by decide : (-1000003 : Int32) = -1000003)) c_28) (fun c_28 => ?_)
    refine lv_iload hx hb dL_acts_928 (lv_at hl 1 rfl) ?_
    refine lv_if_eq (tgt := 948) hx hb dL_acts_930 (by decide) (fun c_29 => ?_) (fun c_29 => absurd ((by decide : (0 : Int32) = 0)) c_29)
    refine lv_iload hx hb dL_acts_948 (lv_at hl 0 rfl) ?_
    refine lv_ldc (v := (-1000003)) hx hb hown (hts (.constant RL 47 (-1000003)) (by decide +kernel)) dL_acts_950 ?_
    refine lv_icmp_ne (tgt := 975) hx hb dL_acts_952 (by decide) (fun c_30 => absurd ((by decide : (-1000003 : Int32) = -1000003)) c_30) (fun c_30 => ?_)
    refine lv_iload hx hb dL_acts_955 (lv_at hl 1 rfl) ?_
    refine lv_if_eq (tgt := 971) hx hb dL_acts_957 (by decide) (fun c_31 => ?_) (fun c_31 => absurd ((by decide : (0 : Int32) = 0)) c_31)
    refine lv_iconst (v := 1) hx hb dL_acts_971 (by decide) ?_
    refine lv_goto (tgt := 976) hx hb dL_acts_972 (by decide) ?_
    refine W.widen (k := 60) (n := 360) (by omega) (by omega) ?_
    have hpo : OKs h (N + 70) fa fm fb σ := hO.le (by omega)
    exact W.zret (v := 1) hx hb hr rfl (fun t ht hW => ⟨⟨_, (), rfl, rfl, ⟨_, _, _, _, by rw [ht]; exact hP, hpo⟩⟩, hS.F ht⟩) hS.2.2 dL_acts_976
  · have xs : σ 1 i = 3 := x2
    rw [xs] at hl
    have hl : lv_has ls 17 [(0, .ref (ad 0)), (1, .ref (ad2 0)), (2, .ref qa), (3, .ref qm), (4, .ref qb), (5, .int zx), (6, .int zy), (7, .int (nI j4)), (8, .int (nI i)), (9, .int 3)] := hl
    refine lv_iload hx hb dL_acts_885 (lv_at hl 9 rfl) ?_
    refine lv_iconst (v := 1) hx hb dL_acts_887 (by decide) ?_
    refine lv_icmp_ne (tgt := 906) hx hb dL_acts_888 (by decide) (fun c_32 => ?_) (fun c_32 => absurd c_32 ((by decide : ¬ (3 : Int32) = 1)))
    refine lv_iconst (v := 0) hx hb dL_acts_906 (by decide) ?_
    refine lv_istore (lv' := [(10, .int 0), (0, .ref (ad 0)), (1, .ref (ad2 0)), (2, .ref qa), (3, .ref qm), (4, .ref qb), (5, .int zx), (6, .int zy), (7, .int (nI j4)), (8, .int (nI i)), (9, .int 3)]) hx hb dL_acts_907 hl (by decide) rfl (fun ls hl => ?_)
    refine lv_aload_n hx hb dL_acts_909 rfl (lv_at hl 1 rfl) ?_
    refine lv_iload hx hb dL_acts_910 (lv_at hl 9 rfl) ?_
    obtain ⟨hTo, hTt⟩ := noT_D hD
    refine lMi (fun q ⟨j9, h1, h2⟩ => by rw [h2]; exact hz j9 h1) (vx_runSW (As := [.ref (ad 0), .int (nI i)]) (rest := []) ⟨hx, hb, hml, hown, hts⟩ (c_L_order l hst D cy ad hj σ sz (nI i) ((-1000003)) (by rw [(kO_2 hi (fun z9 => (lit_ne (a := 3) (b := 1) x2 (by omega) (by omega) (by decide)) z9.1))]; exact w13_2 _) σ (if_neg (by rw [(kO_2 hi (fun z9 => (lit_ne (a := 3) (b := 1) x2 (by omega) (by omega) (by decide)) z9.1))]; decide))) (vx_cwSW 2 hts gL_acts_L_order rfl rfl rfl (by decide +kernel) ⟨Nat.le_of_ble_eq_true rfl, Nat.le_of_ble_eq_true rfl⟩) ⟨cx_bl, cx_S hP.left.left hK Az_z hxk hS⟩ rfl rfl hl.1 rfl (lv_room (Nat.le_of_ble_eq_true rfl)) dL_acts_912 ⟨by show _ ≤ 60; omega, by show _ ≤ 360; omega⟩) hS (fun H locs hPW hS hk1 => ?_)
    have hP := setO hne hTo hP hPW hk1
    refine W.eq (g2 := F0 m 915 ls [.int (-1000003)]) rfl ?_
    refine lv_istore (lv' := [(11, .int (-1000003)), (10, .int 0), (0, .ref (ad 0)), (1, .ref (ad2 0)), (2, .ref qa), (3, .ref qm), (4, .ref qb), (5, .int zx), (6, .int zy), (7, .int (nI j4)), (8, .int (nI i)), (9, .int 3)]) hx hb dL_acts_915 hl (by decide) rfl (fun ls hl => ?_)
    refine lv_aload_n hx hb dL_acts_917 rfl (lv_at hl 3 rfl) ?_
    refine lv_iload hx hb dL_acts_918 (lv_at hl 10 rfl) ?_
    refine lMi (fun q ⟨j9, h1, h2⟩ => by rw [h2]; exact hz2 j9 h1) (vx_runSW (As := [.ref (ad2 0), .int (nI i)]) (rest := []) ⟨hx, hb, hml, hown, hts⟩ (c_L_order l hst D cy ad2 hj2 σ sz (nI i) ((-1000003)) (by rw [(kO_2 hi (fun z9 => (lit_ne (a := 3) (b := 1) x2 (by omega) (by omega) (by decide)) z9.1))]; exact w13_2 _) σ (if_neg (by rw [(kO_2 hi (fun z9 => (lit_ne (a := 3) (b := 1) x2 (by omega) (by omega) (by decide)) z9.1))]; decide))) (vx_cwSW 2 hts gL_acts_L_order rfl rfl rfl (by decide +kernel) ⟨Nat.le_of_ble_eq_true rfl, Nat.le_of_ble_eq_true rfl⟩) ⟨cx_bl, cx_S hP.left.right hK Az_z hxk hS⟩ rfl rfl hl.1 rfl (lv_room (Nat.le_of_ble_eq_true rfl)) dL_acts_920 ⟨by show _ ≤ 60; omega, by show _ ≤ 360; omega⟩) hS (fun H locs hPW hS hk1 => ?_)
    have hP := setT hne hTt hP hPW hk1
    refine W.eq (g2 := F0 m 923 ls [.int (-1000003)]) rfl ?_
    refine lv_iload hx hb dL_acts_923 (lv_at hl 0 rfl) ?_
    refine lv_icmp_ne (tgt := 975) hx hb dL_acts_925 (by decide) (fun c_33 => absurd ((by decide : (-1000003 : Int32) = -1000003)) c_33) (fun c_33 => ?_)
    refine lv_iload hx hb dL_acts_928 (lv_at hl 1 rfl) ?_
    refine lv_if_eq (tgt := 948) hx hb dL_acts_930 (by decide) (fun c_34 => ?_) (fun c_34 => absurd ((by decide : (0 : Int32) = 0)) c_34)
    refine lv_iload hx hb dL_acts_948 (lv_at hl 0 rfl) ?_
    refine lv_ldc (v := (-1000003)) hx hb hown (hts (.constant RL 47 (-1000003)) (by decide +kernel)) dL_acts_950 ?_
    refine lv_icmp_ne (tgt := 975) hx hb dL_acts_952 (by decide) (fun c_35 => absurd ((by decide : (-1000003 : Int32) = -1000003)) c_35) (fun c_35 => ?_)
    refine lv_iload hx hb dL_acts_955 (lv_at hl 1 rfl) ?_
    refine lv_if_eq (tgt := 971) hx hb dL_acts_957 (by decide) (fun c_36 => ?_) (fun c_36 => absurd ((by decide : (0 : Int32) = 0)) c_36)
    refine lv_iconst (v := 1) hx hb dL_acts_971 (by decide) ?_
    refine lv_goto (tgt := 976) hx hb dL_acts_972 (by decide) ?_
    refine W.widen (k := 60) (n := 360) (by omega) (by omega) ?_
    have hpo : OKs h (N + 70) fa fm fb σ := hO.le (by omega)
    exact W.zret (v := 1) hx hb hr rfl (fun t ht hW => ⟨⟨_, (), rfl, rfl, ⟨_, _, _, _, by rw [ht]; exact hP, hpo⟩⟩, hS.F ht⟩) hS.2.2 dL_acts_976
  · have xs : σ 1 i = 4 := x2
    rw [xs] at hl
    have hl : lv_has ls 17 [(0, .ref (ad 0)), (1, .ref (ad2 0)), (2, .ref qa), (3, .ref qm), (4, .ref qb), (5, .int zx), (6, .int zy), (7, .int (nI j4)), (8, .int (nI i)), (9, .int 4)] := hl
    refine lv_iload hx hb dL_acts_885 (lv_at hl 9 rfl) ?_
    refine lv_iconst (v := 1) hx hb dL_acts_887 (by decide) ?_
    refine lv_icmp_ne (tgt := 906) hx hb dL_acts_888 (by decide) (fun c_37 => ?_) (fun c_37 => absurd c_37 ((by decide : ¬ (4 : Int32) = 1)))
    refine lv_iconst (v := 0) hx hb dL_acts_906 (by decide) ?_
    refine lv_istore (lv' := [(10, .int 0), (0, .ref (ad 0)), (1, .ref (ad2 0)), (2, .ref qa), (3, .ref qm), (4, .ref qb), (5, .int zx), (6, .int zy), (7, .int (nI j4)), (8, .int (nI i)), (9, .int 4)]) hx hb dL_acts_907 hl (by decide) rfl (fun ls hl => ?_)
    refine lv_aload_n hx hb dL_acts_909 rfl (lv_at hl 1 rfl) ?_
    refine lv_iload hx hb dL_acts_910 (lv_at hl 9 rfl) ?_
    obtain ⟨hTo, hTt⟩ := noT_D hD
    refine lMi (fun q ⟨j9, h1, h2⟩ => by rw [h2]; exact hz j9 h1) (vx_runSW (As := [.ref (ad 0), .int (nI i)]) (rest := []) ⟨hx, hb, hml, hown, hts⟩ (c_L_order l hst D cy ad hj σ sz (nI i) ((-1000003)) (by rw [(kO_2 hi (fun z9 => (lit_ne (a := 4) (b := 1) x2 (by omega) (by omega) (by decide)) z9.1))]; exact w13_2 _) σ (if_neg (by rw [(kO_2 hi (fun z9 => (lit_ne (a := 4) (b := 1) x2 (by omega) (by omega) (by decide)) z9.1))]; decide))) (vx_cwSW 2 hts gL_acts_L_order rfl rfl rfl (by decide +kernel) ⟨Nat.le_of_ble_eq_true rfl, Nat.le_of_ble_eq_true rfl⟩) ⟨cx_bl, cx_S hP.left.left hK Az_z hxk hS⟩ rfl rfl hl.1 rfl (lv_room (Nat.le_of_ble_eq_true rfl)) dL_acts_912 ⟨by show _ ≤ 60; omega, by show _ ≤ 360; omega⟩) hS (fun H locs hPW hS hk1 => ?_)
    have hP := setO hne hTo hP hPW hk1
    refine W.eq (g2 := F0 m 915 ls [.int (-1000003)]) rfl ?_
    refine lv_istore (lv' := [(11, .int (-1000003)), (10, .int 0), (0, .ref (ad 0)), (1, .ref (ad2 0)), (2, .ref qa), (3, .ref qm), (4, .ref qb), (5, .int zx), (6, .int zy), (7, .int (nI j4)), (8, .int (nI i)), (9, .int 4)]) hx hb dL_acts_915 hl (by decide) rfl (fun ls hl => ?_)
    refine lv_aload_n hx hb dL_acts_917 rfl (lv_at hl 3 rfl) ?_
    refine lv_iload hx hb dL_acts_918 (lv_at hl 10 rfl) ?_
    refine lMi (fun q ⟨j9, h1, h2⟩ => by rw [h2]; exact hz2 j9 h1) (vx_runSW (As := [.ref (ad2 0), .int (nI i)]) (rest := []) ⟨hx, hb, hml, hown, hts⟩ (c_L_order l hst D cy ad2 hj2 σ sz (nI i) ((-1000003)) (by rw [(kO_2 hi (fun z9 => (lit_ne (a := 4) (b := 1) x2 (by omega) (by omega) (by decide)) z9.1))]; exact w13_2 _) σ (if_neg (by rw [(kO_2 hi (fun z9 => (lit_ne (a := 4) (b := 1) x2 (by omega) (by omega) (by decide)) z9.1))]; decide))) (vx_cwSW 2 hts gL_acts_L_order rfl rfl rfl (by decide +kernel) ⟨Nat.le_of_ble_eq_true rfl, Nat.le_of_ble_eq_true rfl⟩) ⟨cx_bl, cx_S hP.left.right hK Az_z hxk hS⟩ rfl rfl hl.1 rfl (lv_room (Nat.le_of_ble_eq_true rfl)) dL_acts_920 ⟨by show _ ≤ 60; omega, by show _ ≤ 360; omega⟩) hS (fun H locs hPW hS hk1 => ?_)
    have hP := setT hne hTt hP hPW hk1
    refine W.eq (g2 := F0 m 923 ls [.int (-1000003)]) rfl ?_
    refine lv_iload hx hb dL_acts_923 (lv_at hl 0 rfl) ?_
    refine lv_icmp_ne (tgt := 975) hx hb dL_acts_925 (by decide) (fun c_38 => absurd ((by decide : (-1000003 : Int32) = -1000003)) c_38) (fun c_38 => ?_)
    refine lv_iload hx hb dL_acts_928 (lv_at hl 1 rfl) ?_
    refine lv_if_eq (tgt := 948) hx hb dL_acts_930 (by decide) (fun c_39 => ?_) (fun c_39 => absurd ((by decide : (0 : Int32) = 0)) c_39)
    refine lv_iload hx hb dL_acts_948 (lv_at hl 0 rfl) ?_
    refine lv_ldc (v := (-1000003)) hx hb hown (hts (.constant RL 47 (-1000003)) (by decide +kernel)) dL_acts_950 ?_
    refine lv_icmp_ne (tgt := 975) hx hb dL_acts_952 (by decide) (fun c_40 => absurd ((by decide : (-1000003 : Int32) = -1000003)) c_40) (fun c_40 => ?_)
    refine lv_iload hx hb dL_acts_955 (lv_at hl 1 rfl) ?_
    refine lv_if_eq (tgt := 971) hx hb dL_acts_957 (by decide) (fun c_41 => ?_) (fun c_41 => absurd ((by decide : (0 : Int32) = 0)) c_41)
    refine lv_iconst (v := 1) hx hb dL_acts_971 (by decide) ?_
    refine lv_goto (tgt := 976) hx hb dL_acts_972 (by decide) ?_
    refine W.widen (k := 60) (n := 360) (by omega) (by omega) ?_
    have hpo : OKs h (N + 70) fa fm fb σ := hO.le (by omega)
    exact W.zret (v := 1) hx hb hr rfl (fun t ht hW => ⟨⟨_, (), rfl, rfl, ⟨_, _, _, _, by rw [ht]; exact hP, hpo⟩⟩, hS.F ht⟩) hS.2.2 dL_acts_976
  · have xs : σ 1 i = 5 := x2
    rw [xs] at hl
    have hl : lv_has ls 17 [(0, .ref (ad 0)), (1, .ref (ad2 0)), (2, .ref qa), (3, .ref qm), (4, .ref qb), (5, .int zx), (6, .int zy), (7, .int (nI j4)), (8, .int (nI i)), (9, .int 5)] := hl
    refine lv_iload hx hb dL_acts_885 (lv_at hl 9 rfl) ?_
    refine lv_iconst (v := 1) hx hb dL_acts_887 (by decide) ?_
    refine lv_icmp_ne (tgt := 906) hx hb dL_acts_888 (by decide) (fun c_42 => ?_) (fun c_42 => absurd c_42 ((by decide : ¬ (5 : Int32) = 1)))
    refine lv_iconst (v := 0) hx hb dL_acts_906 (by decide) ?_
    refine lv_istore (lv' := [(10, .int 0), (0, .ref (ad 0)), (1, .ref (ad2 0)), (2, .ref qa), (3, .ref qm), (4, .ref qb), (5, .int zx), (6, .int zy), (7, .int (nI j4)), (8, .int (nI i)), (9, .int 5)]) hx hb dL_acts_907 hl (by decide) rfl (fun ls hl => ?_)
    refine lv_aload_n hx hb dL_acts_909 rfl (lv_at hl 1 rfl) ?_
    refine lv_iload hx hb dL_acts_910 (lv_at hl 9 rfl) ?_
    obtain ⟨hTo, hTt⟩ := noT_D hD
    refine lMi (fun q ⟨j9, h1, h2⟩ => by rw [h2]; exact hz j9 h1) (vx_runSW (As := [.ref (ad 0), .int (nI i)]) (rest := []) ⟨hx, hb, hml, hown, hts⟩ (c_L_order l hst D cy ad hj σ sz (nI i) ((-1000003)) (by rw [(kO_2 hi (fun z9 => (lit_ne (a := 5) (b := 1) x2 (by omega) (by omega) (by decide)) z9.1))]; exact w13_2 _) σ (if_neg (by rw [(kO_2 hi (fun z9 => (lit_ne (a := 5) (b := 1) x2 (by omega) (by omega) (by decide)) z9.1))]; decide))) (vx_cwSW 2 hts gL_acts_L_order rfl rfl rfl (by decide +kernel) ⟨Nat.le_of_ble_eq_true rfl, Nat.le_of_ble_eq_true rfl⟩) ⟨cx_bl, cx_S hP.left.left hK Az_z hxk hS⟩ rfl rfl hl.1 rfl (lv_room (Nat.le_of_ble_eq_true rfl)) dL_acts_912 ⟨by show _ ≤ 60; omega, by show _ ≤ 360; omega⟩) hS (fun H locs hPW hS hk1 => ?_)
    have hP := setO hne hTo hP hPW hk1
    refine W.eq (g2 := F0 m 915 ls [.int (-1000003)]) rfl ?_
    refine lv_istore (lv' := [(11, .int (-1000003)), (10, .int 0), (0, .ref (ad 0)), (1, .ref (ad2 0)), (2, .ref qa), (3, .ref qm), (4, .ref qb), (5, .int zx), (6, .int zy), (7, .int (nI j4)), (8, .int (nI i)), (9, .int 5)]) hx hb dL_acts_915 hl (by decide) rfl (fun ls hl => ?_)
    refine lv_aload_n hx hb dL_acts_917 rfl (lv_at hl 3 rfl) ?_
    refine lv_iload hx hb dL_acts_918 (lv_at hl 10 rfl) ?_
    refine lMi (fun q ⟨j9, h1, h2⟩ => by rw [h2]; exact hz2 j9 h1) (vx_runSW (As := [.ref (ad2 0), .int (nI i)]) (rest := []) ⟨hx, hb, hml, hown, hts⟩ (c_L_order l hst D cy ad2 hj2 σ sz (nI i) ((-1000003)) (by rw [(kO_2 hi (fun z9 => (lit_ne (a := 5) (b := 1) x2 (by omega) (by omega) (by decide)) z9.1))]; exact w13_2 _) σ (if_neg (by rw [(kO_2 hi (fun z9 => (lit_ne (a := 5) (b := 1) x2 (by omega) (by omega) (by decide)) z9.1))]; decide))) (vx_cwSW 2 hts gL_acts_L_order rfl rfl rfl (by decide +kernel) ⟨Nat.le_of_ble_eq_true rfl, Nat.le_of_ble_eq_true rfl⟩) ⟨cx_bl, cx_S hP.left.right hK Az_z hxk hS⟩ rfl rfl hl.1 rfl (lv_room (Nat.le_of_ble_eq_true rfl)) dL_acts_920 ⟨by show _ ≤ 60; omega, by show _ ≤ 360; omega⟩) hS (fun H locs hPW hS hk1 => ?_)
    have hP := setT hne hTt hP hPW hk1
    refine W.eq (g2 := F0 m 923 ls [.int (-1000003)]) rfl ?_
    refine lv_iload hx hb dL_acts_923 (lv_at hl 0 rfl) ?_
    refine lv_icmp_ne (tgt := 975) hx hb dL_acts_925 (by decide) (fun c_43 => absurd ((by decide : (-1000003 : Int32) = -1000003)) c_43) (fun c_43 => ?_)
    refine lv_iload hx hb dL_acts_928 (lv_at hl 1 rfl) ?_
    refine lv_if_eq (tgt := 948) hx hb dL_acts_930 (by decide) (fun c_44 => ?_) (fun c_44 => absurd ((by decide : (0 : Int32) = 0)) c_44)
    refine lv_iload hx hb dL_acts_948 (lv_at hl 0 rfl) ?_
    refine lv_ldc (v := (-1000003)) hx hb hown (hts (.constant RL 47 (-1000003)) (by decide +kernel)) dL_acts_950 ?_
    refine lv_icmp_ne (tgt := 975) hx hb dL_acts_952 (by decide) (fun c_45 => absurd ((by decide : (-1000003 : Int32) = -1000003)) c_45) (fun c_45 => ?_)
    refine lv_iload hx hb dL_acts_955 (lv_at hl 1 rfl) ?_
    refine lv_if_eq (tgt := 971) hx hb dL_acts_957 (by decide) (fun c_46 => ?_) (fun c_46 => absurd ((by decide : (0 : Int32) = 0)) c_46)
    refine lv_iconst (v := 1) hx hb dL_acts_971 (by decide) ?_
    refine lv_goto (tgt := 976) hx hb dL_acts_972 (by decide) ?_
    refine W.widen (k := 60) (n := 360) (by omega) (by omega) ?_
    have hpo : OKs h (N + 70) fa fm fb σ := hO.le (by omega)
    exact W.zret (v := 1) hx hb hr rfl (fun t ht hW => ⟨⟨_, (), rfl, rfl, ⟨_, _, _, _, by rw [ht]; exact hP, hpo⟩⟩, hS.F ht⟩) hS.2.2 dL_acts_976
  · have xs : σ 1 i = 6 := x2
    rw [xs] at hl
    have hl : lv_has ls 17 [(0, .ref (ad 0)), (1, .ref (ad2 0)), (2, .ref qa), (3, .ref qm), (4, .ref qb), (5, .int zx), (6, .int zy), (7, .int (nI j4)), (8, .int (nI i)), (9, .int 6)] := hl
    refine lv_iload hx hb dL_acts_885 (lv_at hl 9 rfl) ?_
    refine lv_iconst (v := 1) hx hb dL_acts_887 (by decide) ?_
    refine lv_icmp_ne (tgt := 906) hx hb dL_acts_888 (by decide) (fun c_47 => ?_) (fun c_47 => absurd c_47 ((by decide : ¬ (6 : Int32) = 1)))
    refine lv_iconst (v := 0) hx hb dL_acts_906 (by decide) ?_
    refine lv_istore (lv' := [(10, .int 0), (0, .ref (ad 0)), (1, .ref (ad2 0)), (2, .ref qa), (3, .ref qm), (4, .ref qb), (5, .int zx), (6, .int zy), (7, .int (nI j4)), (8, .int (nI i)), (9, .int 6)]) hx hb dL_acts_907 hl (by decide) rfl (fun ls hl => ?_)
    refine lv_aload_n hx hb dL_acts_909 rfl (lv_at hl 1 rfl) ?_
    refine lv_iload hx hb dL_acts_910 (lv_at hl 9 rfl) ?_
    obtain ⟨hTo, hTt⟩ := noT_D hD
    refine lMi (fun q ⟨j9, h1, h2⟩ => by rw [h2]; exact hz j9 h1) (vx_runSW (As := [.ref (ad 0), .int (nI i)]) (rest := []) ⟨hx, hb, hml, hown, hts⟩ (c_L_order l hst D cy ad hj σ sz (nI i) ((-1000003)) (by rw [(kO_2 hi (fun z9 => (lit_ne (a := 6) (b := 1) x2 (by omega) (by omega) (by decide)) z9.1))]; exact w13_2 _) σ (if_neg (by rw [(kO_2 hi (fun z9 => (lit_ne (a := 6) (b := 1) x2 (by omega) (by omega) (by decide)) z9.1))]; decide))) (vx_cwSW 2 hts gL_acts_L_order rfl rfl rfl (by decide +kernel) ⟨Nat.le_of_ble_eq_true rfl, Nat.le_of_ble_eq_true rfl⟩) ⟨cx_bl, cx_S hP.left.left hK Az_z hxk hS⟩ rfl rfl hl.1 rfl (lv_room (Nat.le_of_ble_eq_true rfl)) dL_acts_912 ⟨by show _ ≤ 60; omega, by show _ ≤ 360; omega⟩) hS (fun H locs hPW hS hk1 => ?_)
    have hP := setO hne hTo hP hPW hk1
    refine W.eq (g2 := F0 m 915 ls [.int (-1000003)]) rfl ?_
    refine lv_istore (lv' := [(11, .int (-1000003)), (10, .int 0), (0, .ref (ad 0)), (1, .ref (ad2 0)), (2, .ref qa), (3, .ref qm), (4, .ref qb), (5, .int zx), (6, .int zy), (7, .int (nI j4)), (8, .int (nI i)), (9, .int 6)]) hx hb dL_acts_915 hl (by decide) rfl (fun ls hl => ?_)
    refine lv_aload_n hx hb dL_acts_917 rfl (lv_at hl 3 rfl) ?_
    refine lv_iload hx hb dL_acts_918 (lv_at hl 10 rfl) ?_
    refine lMi (fun q ⟨j9, h1, h2⟩ => by rw [h2]; exact hz2 j9 h1) (vx_runSW (As := [.ref (ad2 0), .int (nI i)]) (rest := []) ⟨hx, hb, hml, hown, hts⟩ (c_L_order l hst D cy ad2 hj2 σ sz (nI i) ((-1000003)) (by rw [(kO_2 hi (fun z9 => (lit_ne (a := 6) (b := 1) x2 (by omega) (by omega) (by decide)) z9.1))]; exact w13_2 _) σ (if_neg (by rw [(kO_2 hi (fun z9 => (lit_ne (a := 6) (b := 1) x2 (by omega) (by omega) (by decide)) z9.1))]; decide))) (vx_cwSW 2 hts gL_acts_L_order rfl rfl rfl (by decide +kernel) ⟨Nat.le_of_ble_eq_true rfl, Nat.le_of_ble_eq_true rfl⟩) ⟨cx_bl, cx_S hP.left.right hK Az_z hxk hS⟩ rfl rfl hl.1 rfl (lv_room (Nat.le_of_ble_eq_true rfl)) dL_acts_920 ⟨by show _ ≤ 60; omega, by show _ ≤ 360; omega⟩) hS (fun H locs hPW hS hk1 => ?_)
    have hP := setT hne hTt hP hPW hk1
    refine W.eq (g2 := F0 m 923 ls [.int (-1000003)]) rfl ?_
    refine lv_iload hx hb dL_acts_923 (lv_at hl 0 rfl) ?_
    refine lv_icmp_ne (tgt := 975) hx hb dL_acts_925 (by decide) (fun c_48 => absurd ((by decide : (-1000003 : Int32) = -1000003)) c_48) (fun c_48 => ?_)
    refine lv_iload hx hb dL_acts_928 (lv_at hl 1 rfl) ?_
    refine lv_if_eq (tgt := 948) hx hb dL_acts_930 (by decide) (fun c_49 => ?_) (fun c_49 => absurd ((by decide : (0 : Int32) = 0)) c_49)
    refine lv_iload hx hb dL_acts_948 (lv_at hl 0 rfl) ?_
    refine lv_ldc (v := (-1000003)) hx hb hown (hts (.constant RL 47 (-1000003)) (by decide +kernel)) dL_acts_950 ?_
    refine lv_icmp_ne (tgt := 975) hx hb dL_acts_952 (by decide) (fun c_50 => absurd ((by decide : (-1000003 : Int32) = -1000003)) c_50) (fun c_50 => ?_)
    refine lv_iload hx hb dL_acts_955 (lv_at hl 1 rfl) ?_
    refine lv_if_eq (tgt := 971) hx hb dL_acts_957 (by decide) (fun c_51 => ?_) (fun c_51 => absurd ((by decide : (0 : Int32) = 0)) c_51)
    refine lv_iconst (v := 1) hx hb dL_acts_971 (by decide) ?_
    refine lv_goto (tgt := 976) hx hb dL_acts_972 (by decide) ?_
    refine W.widen (k := 60) (n := 360) (by omega) (by omega) ?_
    have hpo : OKs h (N + 70) fa fm fb σ := hO.le (by omega)
    exact W.zret (v := 1) hx hb hr rfl (fun t ht hW => ⟨⟨_, (), rfl, rfl, ⟨_, _, _, _, by rw [ht]; exact hP, hpo⟩⟩, hS.F ht⟩) hS.2.2 dL_acts_976
  · have xs : σ 1 i = 7 := x2
    rw [xs] at hl
    have hl : lv_has ls 17 [(0, .ref (ad 0)), (1, .ref (ad2 0)), (2, .ref qa), (3, .ref qm), (4, .ref qb), (5, .int zx), (6, .int zy), (7, .int (nI j4)), (8, .int (nI i)), (9, .int 7)] := hl
    refine lv_iload hx hb dL_acts_885 (lv_at hl 9 rfl) ?_
    refine lv_iconst (v := 1) hx hb dL_acts_887 (by decide) ?_
    refine lv_icmp_ne (tgt := 906) hx hb dL_acts_888 (by decide) (fun c_52 => ?_) (fun c_52 => absurd c_52 ((by decide : ¬ (7 : Int32) = 1)))
    refine lv_iconst (v := 0) hx hb dL_acts_906 (by decide) ?_
    refine lv_istore (lv' := [(10, .int 0), (0, .ref (ad 0)), (1, .ref (ad2 0)), (2, .ref qa), (3, .ref qm), (4, .ref qb), (5, .int zx), (6, .int zy), (7, .int (nI j4)), (8, .int (nI i)), (9, .int 7)]) hx hb dL_acts_907 hl (by decide) rfl (fun ls hl => ?_)
    refine lv_aload_n hx hb dL_acts_909 rfl (lv_at hl 1 rfl) ?_
    refine lv_iload hx hb dL_acts_910 (lv_at hl 9 rfl) ?_
    obtain ⟨hTo, hTt⟩ := noT_D hD
    refine lMi (fun q ⟨j9, h1, h2⟩ => by rw [h2]; exact hz j9 h1) (vx_runSW (As := [.ref (ad 0), .int (nI i)]) (rest := []) ⟨hx, hb, hml, hown, hts⟩ (c_L_order l hst D cy ad hj σ sz (nI i) ((-1000003)) (by rw [(kO_2 hi (fun z9 => (lit_ne (a := 7) (b := 1) x2 (by omega) (by omega) (by decide)) z9.1))]; exact w13_2 _) σ (if_neg (by rw [(kO_2 hi (fun z9 => (lit_ne (a := 7) (b := 1) x2 (by omega) (by omega) (by decide)) z9.1))]; decide))) (vx_cwSW 2 hts gL_acts_L_order rfl rfl rfl (by decide +kernel) ⟨Nat.le_of_ble_eq_true rfl, Nat.le_of_ble_eq_true rfl⟩) ⟨cx_bl, cx_S hP.left.left hK Az_z hxk hS⟩ rfl rfl hl.1 rfl (lv_room (Nat.le_of_ble_eq_true rfl)) dL_acts_912 ⟨by show _ ≤ 60; omega, by show _ ≤ 360; omega⟩) hS (fun H locs hPW hS hk1 => ?_)
    have hP := setO hne hTo hP hPW hk1
    refine W.eq (g2 := F0 m 915 ls [.int (-1000003)]) rfl ?_
    refine lv_istore (lv' := [(11, .int (-1000003)), (10, .int 0), (0, .ref (ad 0)), (1, .ref (ad2 0)), (2, .ref qa), (3, .ref qm), (4, .ref qb), (5, .int zx), (6, .int zy), (7, .int (nI j4)), (8, .int (nI i)), (9, .int 7)]) hx hb dL_acts_915 hl (by decide) rfl (fun ls hl => ?_)
    refine lv_aload_n hx hb dL_acts_917 rfl (lv_at hl 3 rfl) ?_
    refine lv_iload hx hb dL_acts_918 (lv_at hl 10 rfl) ?_
    refine lMi (fun q ⟨j9, h1, h2⟩ => by rw [h2]; exact hz2 j9 h1) (vx_runSW (As := [.ref (ad2 0), .int (nI i)]) (rest := []) ⟨hx, hb, hml, hown, hts⟩ (c_L_order l hst D cy ad2 hj2 σ sz (nI i) ((-1000003)) (by rw [(kO_2 hi (fun z9 => (lit_ne (a := 7) (b := 1) x2 (by omega) (by omega) (by decide)) z9.1))]; exact w13_2 _) σ (if_neg (by rw [(kO_2 hi (fun z9 => (lit_ne (a := 7) (b := 1) x2 (by omega) (by omega) (by decide)) z9.1))]; decide))) (vx_cwSW 2 hts gL_acts_L_order rfl rfl rfl (by decide +kernel) ⟨Nat.le_of_ble_eq_true rfl, Nat.le_of_ble_eq_true rfl⟩) ⟨cx_bl, cx_S hP.left.right hK Az_z hxk hS⟩ rfl rfl hl.1 rfl (lv_room (Nat.le_of_ble_eq_true rfl)) dL_acts_920 ⟨by show _ ≤ 60; omega, by show _ ≤ 360; omega⟩) hS (fun H locs hPW hS hk1 => ?_)
    have hP := setT hne hTt hP hPW hk1
    refine W.eq (g2 := F0 m 923 ls [.int (-1000003)]) rfl ?_
    refine lv_iload hx hb dL_acts_923 (lv_at hl 0 rfl) ?_
    refine lv_icmp_ne (tgt := 975) hx hb dL_acts_925 (by decide) (fun c_53 => absurd ((by decide : (-1000003 : Int32) = -1000003)) c_53) (fun c_53 => ?_)
    refine lv_iload hx hb dL_acts_928 (lv_at hl 1 rfl) ?_
    refine lv_if_eq (tgt := 948) hx hb dL_acts_930 (by decide) (fun c_54 => ?_) (fun c_54 => absurd ((by decide : (0 : Int32) = 0)) c_54)
    refine lv_iload hx hb dL_acts_948 (lv_at hl 0 rfl) ?_
    refine lv_ldc (v := (-1000003)) hx hb hown (hts (.constant RL 47 (-1000003)) (by decide +kernel)) dL_acts_950 ?_
    refine lv_icmp_ne (tgt := 975) hx hb dL_acts_952 (by decide) (fun c_55 => absurd ((by decide : (-1000003 : Int32) = -1000003)) c_55) (fun c_55 => ?_)
    refine lv_iload hx hb dL_acts_955 (lv_at hl 1 rfl) ?_
    refine lv_if_eq (tgt := 971) hx hb dL_acts_957 (by decide) (fun c_56 => ?_) (fun c_56 => absurd ((by decide : (0 : Int32) = 0)) c_56)
    refine lv_iconst (v := 1) hx hb dL_acts_971 (by decide) ?_
    refine lv_goto (tgt := 976) hx hb dL_acts_972 (by decide) ?_
    refine W.widen (k := 60) (n := 360) (by omega) (by omega) ?_
    have hpo : OKs h (N + 70) fa fm fb σ := hO.le (by omega)
    exact W.zret (v := 1) hx hb hr rfl (fun t ht hW => ⟨⟨_, (), rfl, rfl, ⟨_, _, _, _, by rw [ht]; exact hP, hpo⟩⟩, hS.F ht⟩) hS.2.2 dL_acts_976
set_option maxHeartbeats 2000000 in
set_option maxRecDepth 100000 in
theorem ab_cancel {p : Program} {l : Launch} {e : Env} {s : State} {m : MethodId} {args : Array Value} {below : List Frame} {meth : Method} {c : Code} {D : va_G} {cy : Nat → ClassId} {ad ad2 : Nat → Nat} {σ : Mem} {sz qa qm qb : Nat} {fa fm fb : Nat → Int32} {h N i : Nat} {zx zy : Int32} {j4 : Nat} {H : Heap} {locs : List Loc} {cells slots : Nat} {ls : Array Slot} (hst : l.stackTraces = false) (hj : inj31 ad) (hj2 : inj31 ad2) (hne : apart ad ad2) (hz : ∀ i, i < 31 → sz ≤ ad i) (hz2 : ∀ i, i < 31 → sz ≤ ad2 i) (C : ACtx p s m args meth c D cy sz) (hN9 : N + 30000 < 2000000000) (hO : OKs h N fa fm fb σ) (hi : i < 16) (hP : va_P D vwCl (X2 cy ad ad2 σ σ ++ [aW cy qa 64 fa, aW cy qm 48 fm, aW cy qb 6 fb]) H) (hD : va_D (Az sz) (X2 cy ad ad2 σ σ ++ [aW cy qa 64 fa, aW cy qm 48 fm, aW cy qb 6 fb])) (hS : va_S (Az sz) s.heap H locs) (hz9 : sz ≤ s.heap.size) (hc9 : cells ≤ 1) (hs9 : slots ≤ 6) (hl : lv_has ls 17 [(0, .ref (ad 0)), (1, .ref (ad2 0)), (2, .ref qa), (3, .ref qm), (4, .ref qb), (5, .int zx), (6, .int zy), (7, .int (nI j4)), (8, .int (nI i)), (9, .int (σ 1 i))]) : W p l e (headSpec wsL_acts ({ frames := 10, cells := 60, slots := 360, locals := 172 })).room s m args below meth c H locs cells slots (MQ below (QI 1 (fun H => ∃ (σ' : Mem) (fa' fm' fb' : Nat → Int32), va_P D vwCl (X2 cy ad ad2 σ' σ' ++ [aW cy qa 64 fa', aW cy qm 48 fm', aW cy qb 6 fb']) H ∧ OKs h (N + 70) fa' fm' fb' σ') (Az sz)) args s 60 360 (Az sz)) (F0 m 984 ls []) := by
  obtain ⟨hx, hb, hr, hts, hown, hlocks, hml, hK, hxk⟩ := C
  refine W.widen (k := 1) (n := 6) hc9 hs9 ?_
  have hA : ∀ q : Nat, s.heap.size ≤ q → Az sz q := fun q hq => Nat.le_trans hz9 hq
  have hI := hO.1
  obtain ⟨s8, r8, n8, x1, x2, x3, x4, x5, x6, x7, x8, x9, x10, x11⟩ := hI.2.1 i hi
  obtain ⟨q8, q1, q2, q3⟩ := hI.2.2.1.2.1
  rcases (show s8 = 0 ∨ s8 = 1 ∨ s8 = 2 ∨ s8 = 3 ∨ s8 = 4 ∨ s8 = 5 ∨ s8 = 6 ∨ s8 = 7 by omega) with rfl | rfl | rfl | rfl | rfl | rfl | rfl | rfl
  · have xs : σ 1 i = 0 := x2
    rw [xs] at hl
    have hl : lv_has ls 17 [(0, .ref (ad 0)), (1, .ref (ad2 0)), (2, .ref qa), (3, .ref qm), (4, .ref qb), (5, .int zx), (6, .int zy), (7, .int (nI j4)), (8, .int (nI i)), (9, .int 0)] := hl
    refine lv_iload hx hb dL_acts_984 (lv_at hl 9 rfl) ?_
    refine lv_iconst (v := 2) hx hb dL_acts_986 (by decide) ?_
    refine lv_icmp_eq (tgt := 996) hx hb dL_acts_987 (by decide) (fun c_1 => absurd c_1 ((by decide : ¬ (0 : Int32) = 2))) (fun c_1 => ?_)
    refine lv_iload hx hb dL_acts_990 (lv_at hl 9 rfl) ?_
    refine lv_iconst (v := 4) hx hb dL_acts_992 (by decide) ?_
    refine lv_icmp_ne (tgt := 1000) hx hb dL_acts_993 (by decide) (fun c_2 => ?_) (fun c_2 => absurd c_2 ((by decide : ¬ (0 : Int32) = 4)))
    refine lv_ldc (v := (-1000003)) hx hb hown (hts (.constant RL 47 (-1000003)) (by decide +kernel)) dL_acts_1000 ?_
    refine lv_istore (lv' := [(10, .int (-1000003)), (0, .ref (ad 0)), (1, .ref (ad2 0)), (2, .ref qa), (3, .ref qm), (4, .ref qb), (5, .int zx), (6, .int zy), (7, .int (nI j4)), (8, .int (nI i)), (9, .int 0)]) hx hb dL_acts_1002 hl (by decide) rfl (fun ls hl => ?_)
    refine lv_aload_n hx hb dL_acts_1004 rfl (lv_at hl 1 rfl) ?_
    refine lv_iload hx hb dL_acts_1005 (lv_at hl 9 rfl) ?_
    obtain ⟨hTo, hTt⟩ := noT_D hD
    refine lMi (fun q ⟨j9, h1, h2⟩ => by rw [h2]; exact hz j9 h1) (vx_runSW (As := [.ref (ad 0), .int (nI i)]) (rest := []) ⟨hx, hb, hml, hown, hts⟩ (c_L_cancel l hst D cy ad hj σ sz (nI i) ((-1000003)) (by rw [(kC_2 hi (fun z9 => z9.elim (lit_ne (a := 0) (b := 2) x2 (by omega) (by omega) (by decide)) (lit_ne (a := 0) (b := 4) x2 (by omega) (by omega) (by decide))))]; exact w13_2 _) σ (if_neg (by rw [(kC_2 hi (fun z9 => z9.elim (lit_ne (a := 0) (b := 2) x2 (by omega) (by omega) (by decide)) (lit_ne (a := 0) (b := 4) x2 (by omega) (by omega) (by decide))))]; decide))) (vx_cwSW 2 hts gL_acts_L_cancel rfl rfl rfl (by decide +kernel) ⟨Nat.le_of_ble_eq_true rfl, Nat.le_of_ble_eq_true rfl⟩) ⟨cx_bl, cx_S hP.left.left hK Az_z hxk hS⟩ rfl rfl hl.1 rfl (lv_room (Nat.le_of_ble_eq_true rfl)) dL_acts_1007 ⟨by show _ ≤ 60; omega, by show _ ≤ 360; omega⟩) hS (fun H locs hPW hS hk1 => ?_)
    have hP := setO hne hTo hP hPW hk1
    refine W.eq (g2 := F0 m 1010 ls [.int (-1000003)]) rfl ?_
    refine lv_iload hx hb dL_acts_1010 (lv_at hl 0 rfl) ?_
    refine lv_icmp_ne (tgt := 1045) hx hb dL_acts_1012 (by decide) (fun c_3 => absurd ((by decide : (-1000003 : Int32) = -1000003)) c_3) (fun c_3 => ?_)
    refine lv_aload_n hx hb dL_acts_1015 rfl (lv_at hl 2 rfl) ?_
    refine lv_iload hx hb dL_acts_1016 (lv_at hl 9 rfl) ?_
    refine lMi (fun q ⟨j9, h1, h2⟩ => by rw [h2]; exact hz2 j9 h1) (vx_runSW (As := [.ref (ad2 0), .int (nI i)]) (rest := []) ⟨hx, hb, hml, hown, hts⟩ (c_L_cancel l hst D cy ad2 hj2 σ sz (nI i) ((-1000003)) (by rw [(kC_2 hi (fun z9 => z9.elim (lit_ne (a := 0) (b := 2) x2 (by omega) (by omega) (by decide)) (lit_ne (a := 0) (b := 4) x2 (by omega) (by omega) (by decide))))]; exact w13_2 _) σ (if_neg (by rw [(kC_2 hi (fun z9 => z9.elim (lit_ne (a := 0) (b := 2) x2 (by omega) (by omega) (by decide)) (lit_ne (a := 0) (b := 4) x2 (by omega) (by omega) (by decide))))]; decide))) (vx_cwSW 2 hts gL_acts_L_cancel rfl rfl rfl (by decide +kernel) ⟨Nat.le_of_ble_eq_true rfl, Nat.le_of_ble_eq_true rfl⟩) ⟨cx_bl, cx_S hP.left.right hK Az_z hxk hS⟩ rfl rfl hl.1 rfl (lv_room (Nat.le_of_ble_eq_true rfl)) dL_acts_1018 ⟨by show _ ≤ 60; omega, by show _ ≤ 360; omega⟩) hS (fun H locs hPW hS hk1 => ?_)
    have hP := setT hne hTt hP hPW hk1
    refine W.eq (g2 := F0 m 1021 ls [.int (-1000003)]) rfl ?_
    refine lv_iload hx hb dL_acts_1021 (lv_at hl 0 rfl) ?_
    refine lv_icmp_ne (tgt := 1045) hx hb dL_acts_1023 (by decide) (fun c_4 => absurd ((by decide : (-1000003 : Int32) = -1000003)) c_4) (fun c_4 => ?_)
    refine lv_iload hx hb dL_acts_1026 (lv_at hl 0 rfl) ?_
    refine lv_if_lt (tgt := 1041) hx hb dL_acts_1028 (by decide) (fun c_5 => ?_) (fun c_5 => absurd ((by decide : (-1000003 : Int32) < 0)) c_5)
    refine lv_iconst (v := 1) hx hb dL_acts_1041 (by decide) ?_
    refine lv_goto (tgt := 1046) hx hb dL_acts_1042 (by decide) ?_
    refine W.widen (k := 60) (n := 360) (by omega) (by omega) ?_
    have hpo : OKs h (N + 70) fa fm fb σ := hO.le (by omega)
    exact W.zret (v := 1) hx hb hr rfl (fun t ht hW => ⟨⟨_, (), rfl, rfl, ⟨_, _, _, _, by rw [ht]; exact hP, hpo⟩⟩, hS.F ht⟩) hS.2.2 dL_acts_1046
  · have xs : σ 1 i = 1 := x2
    rw [xs] at hl
    have hl : lv_has ls 17 [(0, .ref (ad 0)), (1, .ref (ad2 0)), (2, .ref qa), (3, .ref qm), (4, .ref qb), (5, .int zx), (6, .int zy), (7, .int (nI j4)), (8, .int (nI i)), (9, .int 1)] := hl
    refine lv_iload hx hb dL_acts_984 (lv_at hl 9 rfl) ?_
    refine lv_iconst (v := 2) hx hb dL_acts_986 (by decide) ?_
    refine lv_icmp_eq (tgt := 996) hx hb dL_acts_987 (by decide) (fun c_6 => absurd c_6 ((by decide : ¬ (1 : Int32) = 2))) (fun c_6 => ?_)
    refine lv_iload hx hb dL_acts_990 (lv_at hl 9 rfl) ?_
    refine lv_iconst (v := 4) hx hb dL_acts_992 (by decide) ?_
    refine lv_icmp_ne (tgt := 1000) hx hb dL_acts_993 (by decide) (fun c_7 => ?_) (fun c_7 => absurd c_7 ((by decide : ¬ (1 : Int32) = 4)))
    refine lv_ldc (v := (-1000003)) hx hb hown (hts (.constant RL 47 (-1000003)) (by decide +kernel)) dL_acts_1000 ?_
    refine lv_istore (lv' := [(10, .int (-1000003)), (0, .ref (ad 0)), (1, .ref (ad2 0)), (2, .ref qa), (3, .ref qm), (4, .ref qb), (5, .int zx), (6, .int zy), (7, .int (nI j4)), (8, .int (nI i)), (9, .int 1)]) hx hb dL_acts_1002 hl (by decide) rfl (fun ls hl => ?_)
    refine lv_aload_n hx hb dL_acts_1004 rfl (lv_at hl 1 rfl) ?_
    refine lv_iload hx hb dL_acts_1005 (lv_at hl 9 rfl) ?_
    obtain ⟨hTo, hTt⟩ := noT_D hD
    refine lMi (fun q ⟨j9, h1, h2⟩ => by rw [h2]; exact hz j9 h1) (vx_runSW (As := [.ref (ad 0), .int (nI i)]) (rest := []) ⟨hx, hb, hml, hown, hts⟩ (c_L_cancel l hst D cy ad hj σ sz (nI i) ((-1000003)) (by rw [(kC_2 hi (fun z9 => z9.elim (lit_ne (a := 1) (b := 2) x2 (by omega) (by omega) (by decide)) (lit_ne (a := 1) (b := 4) x2 (by omega) (by omega) (by decide))))]; exact w13_2 _) σ (if_neg (by rw [(kC_2 hi (fun z9 => z9.elim (lit_ne (a := 1) (b := 2) x2 (by omega) (by omega) (by decide)) (lit_ne (a := 1) (b := 4) x2 (by omega) (by omega) (by decide))))]; decide))) (vx_cwSW 2 hts gL_acts_L_cancel rfl rfl rfl (by decide +kernel) ⟨Nat.le_of_ble_eq_true rfl, Nat.le_of_ble_eq_true rfl⟩) ⟨cx_bl, cx_S hP.left.left hK Az_z hxk hS⟩ rfl rfl hl.1 rfl (lv_room (Nat.le_of_ble_eq_true rfl)) dL_acts_1007 ⟨by show _ ≤ 60; omega, by show _ ≤ 360; omega⟩) hS (fun H locs hPW hS hk1 => ?_)
    have hP := setO hne hTo hP hPW hk1
    refine W.eq (g2 := F0 m 1010 ls [.int (-1000003)]) rfl ?_
    refine lv_iload hx hb dL_acts_1010 (lv_at hl 0 rfl) ?_
    refine lv_icmp_ne (tgt := 1045) hx hb dL_acts_1012 (by decide) (fun c_8 => absurd ((by decide : (-1000003 : Int32) = -1000003)) c_8) (fun c_8 => ?_)
    refine lv_aload_n hx hb dL_acts_1015 rfl (lv_at hl 2 rfl) ?_
    refine lv_iload hx hb dL_acts_1016 (lv_at hl 9 rfl) ?_
    refine lMi (fun q ⟨j9, h1, h2⟩ => by rw [h2]; exact hz2 j9 h1) (vx_runSW (As := [.ref (ad2 0), .int (nI i)]) (rest := []) ⟨hx, hb, hml, hown, hts⟩ (c_L_cancel l hst D cy ad2 hj2 σ sz (nI i) ((-1000003)) (by rw [(kC_2 hi (fun z9 => z9.elim (lit_ne (a := 1) (b := 2) x2 (by omega) (by omega) (by decide)) (lit_ne (a := 1) (b := 4) x2 (by omega) (by omega) (by decide))))]; exact w13_2 _) σ (if_neg (by rw [(kC_2 hi (fun z9 => z9.elim (lit_ne (a := 1) (b := 2) x2 (by omega) (by omega) (by decide)) (lit_ne (a := 1) (b := 4) x2 (by omega) (by omega) (by decide))))]; decide))) (vx_cwSW 2 hts gL_acts_L_cancel rfl rfl rfl (by decide +kernel) ⟨Nat.le_of_ble_eq_true rfl, Nat.le_of_ble_eq_true rfl⟩) ⟨cx_bl, cx_S hP.left.right hK Az_z hxk hS⟩ rfl rfl hl.1 rfl (lv_room (Nat.le_of_ble_eq_true rfl)) dL_acts_1018 ⟨by show _ ≤ 60; omega, by show _ ≤ 360; omega⟩) hS (fun H locs hPW hS hk1 => ?_)
    have hP := setT hne hTt hP hPW hk1
    refine W.eq (g2 := F0 m 1021 ls [.int (-1000003)]) rfl ?_
    refine lv_iload hx hb dL_acts_1021 (lv_at hl 0 rfl) ?_
    refine lv_icmp_ne (tgt := 1045) hx hb dL_acts_1023 (by decide) (fun c_9 => absurd ((by decide : (-1000003 : Int32) = -1000003)) c_9) (fun c_9 => ?_)
    refine lv_iload hx hb dL_acts_1026 (lv_at hl 0 rfl) ?_
    refine lv_if_lt (tgt := 1041) hx hb dL_acts_1028 (by decide) (fun c_10 => ?_) (fun c_10 => absurd ((by decide : (-1000003 : Int32) < 0)) c_10)
    refine lv_iconst (v := 1) hx hb dL_acts_1041 (by decide) ?_
    refine lv_goto (tgt := 1046) hx hb dL_acts_1042 (by decide) ?_
    refine W.widen (k := 60) (n := 360) (by omega) (by omega) ?_
    have hpo : OKs h (N + 70) fa fm fb σ := hO.le (by omega)
    exact W.zret (v := 1) hx hb hr rfl (fun t ht hW => ⟨⟨_, (), rfl, rfl, ⟨_, _, _, _, by rw [ht]; exact hP, hpo⟩⟩, hS.F ht⟩) hS.2.2 dL_acts_1046
  · have xs : σ 1 i = 2 := x2
    rw [xs] at hl
    have hl : lv_has ls 17 [(0, .ref (ad 0)), (1, .ref (ad2 0)), (2, .ref qa), (3, .ref qm), (4, .ref qb), (5, .int zx), (6, .int zy), (7, .int (nI j4)), (8, .int (nI i)), (9, .int 2)] := hl
    obtain ⟨aO, at9⟩ := a_cancel hO (by omega) hi (Or.inl xs)
    refine lv_iload hx hb dL_acts_984 (lv_at hl 9 rfl) ?_
    refine lv_iconst (v := 2) hx hb dL_acts_986 (by decide) ?_
    refine lv_icmp_eq (tgt := 996) hx hb dL_acts_987 (by decide) (fun c_11 => ?_) (fun c_11 => absurd ((by decide : (2 : Int32) = 2)) c_11)
    refine lv_iconst (v := 0) hx hb dL_acts_996 (by decide) ?_
    refine lv_goto (tgt := 1002) hx hb dL_acts_997 (by decide) ?_
    refine lv_istore (lv' := [(10, .int 0), (0, .ref (ad 0)), (1, .ref (ad2 0)), (2, .ref qa), (3, .ref qm), (4, .ref qb), (5, .int zx), (6, .int zy), (7, .int (nI j4)), (8, .int (nI i)), (9, .int 2)]) hx hb dL_acts_1002 hl (by decide) rfl (fun ls hl => ?_)
    refine lv_aload_n hx hb dL_acts_1004 rfl (lv_at hl 1 rfl) ?_
    refine lv_iload hx hb dL_acts_1005 (lv_at hl 9 rfl) ?_
    obtain ⟨hTo, hTt⟩ := noT_D hD
    refine lMi (fun q ⟨j9, h1, h2⟩ => by rw [h2]; exact hz j9 h1) (vx_runSW (As := [.ref (ad 0), .int (nI i)]) (rest := []) ⟨hx, hb, hml, hown, hts⟩ (c_L_cancel l hst D cy ad hj σ sz (nI i) (0) (w13_0 (kC_0 hi (Or.inl xs))) (gCancel σ (nI i)) (if_pos (kC_0 hi (Or.inl xs)))) (vx_cwSW 2 hts gL_acts_L_cancel rfl rfl rfl (by decide +kernel) ⟨Nat.le_of_ble_eq_true rfl, Nat.le_of_ble_eq_true rfl⟩) ⟨cx_bl, cx_S hP.left.left hK Az_z hxk hS⟩ rfl rfl hl.1 rfl (lv_room (Nat.le_of_ble_eq_true rfl)) dL_acts_1007 ⟨by show _ ≤ 60; omega, by show _ ≤ 360; omega⟩) hS (fun H locs hPW hS hk1 => ?_)
    have hP := setO hne hTo hP hPW hk1
    refine W.eq (g2 := F0 m 1010 ls [.int 0]) rfl ?_
    refine lv_iload hx hb dL_acts_1010 (lv_at hl 0 rfl) ?_
    refine lv_icmp_ne (tgt := 1045) hx hb dL_acts_1012 (by decide) (fun c_12 => absurd ((by decide : (0 : Int32) = 0)) c_12) (fun c_12 => ?_)
    refine lv_aload_n hx hb dL_acts_1015 rfl (lv_at hl 2 rfl) ?_
    refine lv_iload hx hb dL_acts_1016 (lv_at hl 9 rfl) ?_
    refine lMi (fun q ⟨j9, h1, h2⟩ => by rw [h2]; exact hz2 j9 h1) (vx_runSW (As := [.ref (ad2 0), .int (nI i)]) (rest := []) ⟨hx, hb, hml, hown, hts⟩ (c_L_cancel l hst D cy ad2 hj2 σ sz (nI i) (0) (w13_0 (kC_0 hi (Or.inl xs))) (gCancel σ (nI i)) (if_pos (kC_0 hi (Or.inl xs)))) (vx_cwSW 2 hts gL_acts_L_cancel rfl rfl rfl (by decide +kernel) ⟨Nat.le_of_ble_eq_true rfl, Nat.le_of_ble_eq_true rfl⟩) ⟨cx_bl, cx_S hP.left.right hK Az_z hxk hS⟩ rfl rfl hl.1 rfl (lv_room (Nat.le_of_ble_eq_true rfl)) dL_acts_1018 ⟨by show _ ≤ 60; omega, by show _ ≤ 360; omega⟩) hS (fun H locs hPW hS hk1 => ?_)
    have hP := setT hne hTt hP hPW hk1
    refine W.eq (g2 := F0 m 1021 ls [.int 0]) rfl ?_
    refine lv_iload hx hb dL_acts_1021 (lv_at hl 0 rfl) ?_
    refine lv_icmp_ne (tgt := 1045) hx hb dL_acts_1023 (by decide) (fun c_13 => absurd ((by decide : (0 : Int32) = 0)) c_13) (fun c_13 => ?_)
    refine lv_iload hx hb dL_acts_1026 (lv_at hl 0 rfl) ?_
    refine lv_if_lt (tgt := 1041) hx hb dL_acts_1028 (by decide) (fun c_14 => absurd c_14 ((by decide : ¬ (0 : Int32) < 0))) (fun c_14 => ?_)
    refine lv_aload_n hx hb dL_acts_1031 rfl (lv_at hl 1 rfl) ?_
    refine lv_iload hx hb dL_acts_1032 (lv_at hl 9 rfl) ?_
    refine rMi (vx_runSW (As := [.ref (ad 0), .int (nI i)]) (rest := []) ⟨hx, hb, hml, hown, hts⟩ (c_L_stateOf l hst D cy ad (gCancel σ (nI i)) sz (nI i) (1) ((wS hi).trans at9)) (vx_cwSW 2 hts gL_acts_L_stateOf rfl rfl rfl (by decide +kernel) ⟨Nat.le_of_ble_eq_true rfl, Nat.le_of_ble_eq_true rfl⟩) ⟨cx_bl, cx_S hP.left.left hK Az_z hxk hS⟩ rfl rfl hl.1 rfl (lv_room (Nat.le_of_ble_eq_true rfl)) dL_acts_1034 ⟨by show _ ≤ 60; omega, by show _ ≤ 360; omega⟩) hS (fun H locs hS hg => ?_)
    have hP := hP.grown hg
    refine W.eq (g2 := F0 m 1037 ls [.int 1]) rfl ?_
    refine lv_iconst (v := 1) hx hb dL_acts_1037 (by decide) ?_
    refine lv_icmp_ne (tgt := 1045) hx hb dL_acts_1038 (by decide) (fun c_15 => absurd ((by decide : (1 : Int32) = 1)) c_15) (fun c_15 => ?_)
    refine lv_iconst (v := 1) hx hb dL_acts_1041 (by decide) ?_
    refine lv_goto (tgt := 1046) hx hb dL_acts_1042 (by decide) ?_
    refine W.widen (k := 60) (n := 360) (by omega) (by omega) ?_
    have hpo : OKs h (N + 70) fa fm fb (gCancel σ (nI i)) := aO.le (by omega)
    exact W.zret (v := 1) hx hb hr rfl (fun t ht hW => ⟨⟨_, (), rfl, rfl, ⟨_, _, _, _, by rw [ht]; exact hP, hpo⟩⟩, hS.F ht⟩) hS.2.2 dL_acts_1046
  · have xs : σ 1 i = 3 := x2
    rw [xs] at hl
    have hl : lv_has ls 17 [(0, .ref (ad 0)), (1, .ref (ad2 0)), (2, .ref qa), (3, .ref qm), (4, .ref qb), (5, .int zx), (6, .int zy), (7, .int (nI j4)), (8, .int (nI i)), (9, .int 3)] := hl
    refine lv_iload hx hb dL_acts_984 (lv_at hl 9 rfl) ?_
    refine lv_iconst (v := 2) hx hb dL_acts_986 (by decide) ?_
    refine lv_icmp_eq (tgt := 996) hx hb dL_acts_987 (by decide) (fun c_16 => absurd c_16 ((by decide : ¬ (3 : Int32) = 2))) (fun c_16 => ?_)
    refine lv_iload hx hb dL_acts_990 (lv_at hl 9 rfl) ?_
    refine lv_iconst (v := 4) hx hb dL_acts_992 (by decide) ?_
    refine lv_icmp_ne (tgt := 1000) hx hb dL_acts_993 (by decide) (fun c_17 => ?_) (fun c_17 => absurd c_17 ((by decide : ¬ (3 : Int32) = 4)))
    refine lv_ldc (v := (-1000003)) hx hb hown (hts (.constant RL 47 (-1000003)) (by decide +kernel)) dL_acts_1000 ?_
    refine lv_istore (lv' := [(10, .int (-1000003)), (0, .ref (ad 0)), (1, .ref (ad2 0)), (2, .ref qa), (3, .ref qm), (4, .ref qb), (5, .int zx), (6, .int zy), (7, .int (nI j4)), (8, .int (nI i)), (9, .int 3)]) hx hb dL_acts_1002 hl (by decide) rfl (fun ls hl => ?_)
    refine lv_aload_n hx hb dL_acts_1004 rfl (lv_at hl 1 rfl) ?_
    refine lv_iload hx hb dL_acts_1005 (lv_at hl 9 rfl) ?_
    obtain ⟨hTo, hTt⟩ := noT_D hD
    refine lMi (fun q ⟨j9, h1, h2⟩ => by rw [h2]; exact hz j9 h1) (vx_runSW (As := [.ref (ad 0), .int (nI i)]) (rest := []) ⟨hx, hb, hml, hown, hts⟩ (c_L_cancel l hst D cy ad hj σ sz (nI i) ((-1000003)) (by rw [(kC_2 hi (fun z9 => z9.elim (lit_ne (a := 3) (b := 2) x2 (by omega) (by omega) (by decide)) (lit_ne (a := 3) (b := 4) x2 (by omega) (by omega) (by decide))))]; exact w13_2 _) σ (if_neg (by rw [(kC_2 hi (fun z9 => z9.elim (lit_ne (a := 3) (b := 2) x2 (by omega) (by omega) (by decide)) (lit_ne (a := 3) (b := 4) x2 (by omega) (by omega) (by decide))))]; decide))) (vx_cwSW 2 hts gL_acts_L_cancel rfl rfl rfl (by decide +kernel) ⟨Nat.le_of_ble_eq_true rfl, Nat.le_of_ble_eq_true rfl⟩) ⟨cx_bl, cx_S hP.left.left hK Az_z hxk hS⟩ rfl rfl hl.1 rfl (lv_room (Nat.le_of_ble_eq_true rfl)) dL_acts_1007 ⟨by show _ ≤ 60; omega, by show _ ≤ 360; omega⟩) hS (fun H locs hPW hS hk1 => ?_)
    have hP := setO hne hTo hP hPW hk1
    refine W.eq (g2 := F0 m 1010 ls [.int (-1000003)]) rfl ?_
    refine lv_iload hx hb dL_acts_1010 (lv_at hl 0 rfl) ?_
    refine lv_icmp_ne (tgt := 1045) hx hb dL_acts_1012 (by decide) (fun c_18 => absurd ((by decide : (-1000003 : Int32) = -1000003)) c_18) (fun c_18 => ?_)
    refine lv_aload_n hx hb dL_acts_1015 rfl (lv_at hl 2 rfl) ?_
    refine lv_iload hx hb dL_acts_1016 (lv_at hl 9 rfl) ?_
    refine lMi (fun q ⟨j9, h1, h2⟩ => by rw [h2]; exact hz2 j9 h1) (vx_runSW (As := [.ref (ad2 0), .int (nI i)]) (rest := []) ⟨hx, hb, hml, hown, hts⟩ (c_L_cancel l hst D cy ad2 hj2 σ sz (nI i) ((-1000003)) (by rw [(kC_2 hi (fun z9 => z9.elim (lit_ne (a := 3) (b := 2) x2 (by omega) (by omega) (by decide)) (lit_ne (a := 3) (b := 4) x2 (by omega) (by omega) (by decide))))]; exact w13_2 _) σ (if_neg (by rw [(kC_2 hi (fun z9 => z9.elim (lit_ne (a := 3) (b := 2) x2 (by omega) (by omega) (by decide)) (lit_ne (a := 3) (b := 4) x2 (by omega) (by omega) (by decide))))]; decide))) (vx_cwSW 2 hts gL_acts_L_cancel rfl rfl rfl (by decide +kernel) ⟨Nat.le_of_ble_eq_true rfl, Nat.le_of_ble_eq_true rfl⟩) ⟨cx_bl, cx_S hP.left.right hK Az_z hxk hS⟩ rfl rfl hl.1 rfl (lv_room (Nat.le_of_ble_eq_true rfl)) dL_acts_1018 ⟨by show _ ≤ 60; omega, by show _ ≤ 360; omega⟩) hS (fun H locs hPW hS hk1 => ?_)
    have hP := setT hne hTt hP hPW hk1
    refine W.eq (g2 := F0 m 1021 ls [.int (-1000003)]) rfl ?_
    refine lv_iload hx hb dL_acts_1021 (lv_at hl 0 rfl) ?_
    refine lv_icmp_ne (tgt := 1045) hx hb dL_acts_1023 (by decide) (fun c_19 => absurd ((by decide : (-1000003 : Int32) = -1000003)) c_19) (fun c_19 => ?_)
    refine lv_iload hx hb dL_acts_1026 (lv_at hl 0 rfl) ?_
    refine lv_if_lt (tgt := 1041) hx hb dL_acts_1028 (by decide) (fun c_20 => ?_) (fun c_20 => absurd ((by decide : (-1000003 : Int32) < 0)) c_20)
    refine lv_iconst (v := 1) hx hb dL_acts_1041 (by decide) ?_
    refine lv_goto (tgt := 1046) hx hb dL_acts_1042 (by decide) ?_
    refine W.widen (k := 60) (n := 360) (by omega) (by omega) ?_
    have hpo : OKs h (N + 70) fa fm fb σ := hO.le (by omega)
    exact W.zret (v := 1) hx hb hr rfl (fun t ht hW => ⟨⟨_, (), rfl, rfl, ⟨_, _, _, _, by rw [ht]; exact hP, hpo⟩⟩, hS.F ht⟩) hS.2.2 dL_acts_1046
  · have xs : σ 1 i = 4 := x2
    rw [xs] at hl
    have hl : lv_has ls 17 [(0, .ref (ad 0)), (1, .ref (ad2 0)), (2, .ref qa), (3, .ref qm), (4, .ref qb), (5, .int zx), (6, .int zy), (7, .int (nI j4)), (8, .int (nI i)), (9, .int 4)] := hl
    obtain ⟨aO, at9⟩ := a_cancel hO (by omega) hi (Or.inr xs)
    refine lv_iload hx hb dL_acts_984 (lv_at hl 9 rfl) ?_
    refine lv_iconst (v := 2) hx hb dL_acts_986 (by decide) ?_
    refine lv_icmp_eq (tgt := 996) hx hb dL_acts_987 (by decide) (fun c_21 => absurd c_21 ((by decide : ¬ (4 : Int32) = 2))) (fun c_21 => ?_)
    refine lv_iload hx hb dL_acts_990 (lv_at hl 9 rfl) ?_
    refine lv_iconst (v := 4) hx hb dL_acts_992 (by decide) ?_
    refine lv_icmp_ne (tgt := 1000) hx hb dL_acts_993 (by decide) (fun c_22 => absurd ((by decide : (4 : Int32) = 4)) c_22) (fun c_22 => ?_)
    refine lv_iconst (v := 0) hx hb dL_acts_996 (by decide) ?_
    refine lv_goto (tgt := 1002) hx hb dL_acts_997 (by decide) ?_
    refine lv_istore (lv' := [(10, .int 0), (0, .ref (ad 0)), (1, .ref (ad2 0)), (2, .ref qa), (3, .ref qm), (4, .ref qb), (5, .int zx), (6, .int zy), (7, .int (nI j4)), (8, .int (nI i)), (9, .int 4)]) hx hb dL_acts_1002 hl (by decide) rfl (fun ls hl => ?_)
    refine lv_aload_n hx hb dL_acts_1004 rfl (lv_at hl 1 rfl) ?_
    refine lv_iload hx hb dL_acts_1005 (lv_at hl 9 rfl) ?_
    obtain ⟨hTo, hTt⟩ := noT_D hD
    refine lMi (fun q ⟨j9, h1, h2⟩ => by rw [h2]; exact hz j9 h1) (vx_runSW (As := [.ref (ad 0), .int (nI i)]) (rest := []) ⟨hx, hb, hml, hown, hts⟩ (c_L_cancel l hst D cy ad hj σ sz (nI i) (0) (w13_0 (kC_0 hi (Or.inr xs))) (gCancel σ (nI i)) (if_pos (kC_0 hi (Or.inr xs)))) (vx_cwSW 2 hts gL_acts_L_cancel rfl rfl rfl (by decide +kernel) ⟨Nat.le_of_ble_eq_true rfl, Nat.le_of_ble_eq_true rfl⟩) ⟨cx_bl, cx_S hP.left.left hK Az_z hxk hS⟩ rfl rfl hl.1 rfl (lv_room (Nat.le_of_ble_eq_true rfl)) dL_acts_1007 ⟨by show _ ≤ 60; omega, by show _ ≤ 360; omega⟩) hS (fun H locs hPW hS hk1 => ?_)
    have hP := setO hne hTo hP hPW hk1
    refine W.eq (g2 := F0 m 1010 ls [.int 0]) rfl ?_
    refine lv_iload hx hb dL_acts_1010 (lv_at hl 0 rfl) ?_
    refine lv_icmp_ne (tgt := 1045) hx hb dL_acts_1012 (by decide) (fun c_23 => absurd ((by decide : (0 : Int32) = 0)) c_23) (fun c_23 => ?_)
    refine lv_aload_n hx hb dL_acts_1015 rfl (lv_at hl 2 rfl) ?_
    refine lv_iload hx hb dL_acts_1016 (lv_at hl 9 rfl) ?_
    refine lMi (fun q ⟨j9, h1, h2⟩ => by rw [h2]; exact hz2 j9 h1) (vx_runSW (As := [.ref (ad2 0), .int (nI i)]) (rest := []) ⟨hx, hb, hml, hown, hts⟩ (c_L_cancel l hst D cy ad2 hj2 σ sz (nI i) (0) (w13_0 (kC_0 hi (Or.inr xs))) (gCancel σ (nI i)) (if_pos (kC_0 hi (Or.inr xs)))) (vx_cwSW 2 hts gL_acts_L_cancel rfl rfl rfl (by decide +kernel) ⟨Nat.le_of_ble_eq_true rfl, Nat.le_of_ble_eq_true rfl⟩) ⟨cx_bl, cx_S hP.left.right hK Az_z hxk hS⟩ rfl rfl hl.1 rfl (lv_room (Nat.le_of_ble_eq_true rfl)) dL_acts_1018 ⟨by show _ ≤ 60; omega, by show _ ≤ 360; omega⟩) hS (fun H locs hPW hS hk1 => ?_)
    have hP := setT hne hTt hP hPW hk1
    refine W.eq (g2 := F0 m 1021 ls [.int 0]) rfl ?_
    refine lv_iload hx hb dL_acts_1021 (lv_at hl 0 rfl) ?_
    refine lv_icmp_ne (tgt := 1045) hx hb dL_acts_1023 (by decide) (fun c_24 => absurd ((by decide : (0 : Int32) = 0)) c_24) (fun c_24 => ?_)
    refine lv_iload hx hb dL_acts_1026 (lv_at hl 0 rfl) ?_
    refine lv_if_lt (tgt := 1041) hx hb dL_acts_1028 (by decide) (fun c_25 => absurd c_25 ((by decide : ¬ (0 : Int32) < 0))) (fun c_25 => ?_)
    refine lv_aload_n hx hb dL_acts_1031 rfl (lv_at hl 1 rfl) ?_
    refine lv_iload hx hb dL_acts_1032 (lv_at hl 9 rfl) ?_
    refine rMi (vx_runSW (As := [.ref (ad 0), .int (nI i)]) (rest := []) ⟨hx, hb, hml, hown, hts⟩ (c_L_stateOf l hst D cy ad (gCancel σ (nI i)) sz (nI i) (1) ((wS hi).trans at9)) (vx_cwSW 2 hts gL_acts_L_stateOf rfl rfl rfl (by decide +kernel) ⟨Nat.le_of_ble_eq_true rfl, Nat.le_of_ble_eq_true rfl⟩) ⟨cx_bl, cx_S hP.left.left hK Az_z hxk hS⟩ rfl rfl hl.1 rfl (lv_room (Nat.le_of_ble_eq_true rfl)) dL_acts_1034 ⟨by show _ ≤ 60; omega, by show _ ≤ 360; omega⟩) hS (fun H locs hS hg => ?_)
    have hP := hP.grown hg
    refine W.eq (g2 := F0 m 1037 ls [.int 1]) rfl ?_
    refine lv_iconst (v := 1) hx hb dL_acts_1037 (by decide) ?_
    refine lv_icmp_ne (tgt := 1045) hx hb dL_acts_1038 (by decide) (fun c_26 => absurd ((by decide : (1 : Int32) = 1)) c_26) (fun c_26 => ?_)
    refine lv_iconst (v := 1) hx hb dL_acts_1041 (by decide) ?_
    refine lv_goto (tgt := 1046) hx hb dL_acts_1042 (by decide) ?_
    refine W.widen (k := 60) (n := 360) (by omega) (by omega) ?_
    have hpo : OKs h (N + 70) fa fm fb (gCancel σ (nI i)) := aO.le (by omega)
    exact W.zret (v := 1) hx hb hr rfl (fun t ht hW => ⟨⟨_, (), rfl, rfl, ⟨_, _, _, _, by rw [ht]; exact hP, hpo⟩⟩, hS.F ht⟩) hS.2.2 dL_acts_1046
  · have xs : σ 1 i = 5 := x2
    rw [xs] at hl
    have hl : lv_has ls 17 [(0, .ref (ad 0)), (1, .ref (ad2 0)), (2, .ref qa), (3, .ref qm), (4, .ref qb), (5, .int zx), (6, .int zy), (7, .int (nI j4)), (8, .int (nI i)), (9, .int 5)] := hl
    refine lv_iload hx hb dL_acts_984 (lv_at hl 9 rfl) ?_
    refine lv_iconst (v := 2) hx hb dL_acts_986 (by decide) ?_
    refine lv_icmp_eq (tgt := 996) hx hb dL_acts_987 (by decide) (fun c_27 => absurd c_27 ((by decide : ¬ (5 : Int32) = 2))) (fun c_27 => ?_)
    refine lv_iload hx hb dL_acts_990 (lv_at hl 9 rfl) ?_
    refine lv_iconst (v := 4) hx hb dL_acts_992 (by decide) ?_
    refine lv_icmp_ne (tgt := 1000) hx hb dL_acts_993 (by decide) (fun c_28 => ?_) (fun c_28 => absurd c_28 ((by decide : ¬ (5 : Int32) = 4)))
    refine lv_ldc (v := (-1000003)) hx hb hown (hts (.constant RL 47 (-1000003)) (by decide +kernel)) dL_acts_1000 ?_
    refine lv_istore (lv' := [(10, .int (-1000003)), (0, .ref (ad 0)), (1, .ref (ad2 0)), (2, .ref qa), (3, .ref qm), (4, .ref qb), (5, .int zx), (6, .int zy), (7, .int (nI j4)), (8, .int (nI i)), (9, .int 5)]) hx hb dL_acts_1002 hl (by decide) rfl (fun ls hl => ?_)
    refine lv_aload_n hx hb dL_acts_1004 rfl (lv_at hl 1 rfl) ?_
    refine lv_iload hx hb dL_acts_1005 (lv_at hl 9 rfl) ?_
    obtain ⟨hTo, hTt⟩ := noT_D hD
    refine lMi (fun q ⟨j9, h1, h2⟩ => by rw [h2]; exact hz j9 h1) (vx_runSW (As := [.ref (ad 0), .int (nI i)]) (rest := []) ⟨hx, hb, hml, hown, hts⟩ (c_L_cancel l hst D cy ad hj σ sz (nI i) ((-1000003)) (by rw [(kC_2 hi (fun z9 => z9.elim (lit_ne (a := 5) (b := 2) x2 (by omega) (by omega) (by decide)) (lit_ne (a := 5) (b := 4) x2 (by omega) (by omega) (by decide))))]; exact w13_2 _) σ (if_neg (by rw [(kC_2 hi (fun z9 => z9.elim (lit_ne (a := 5) (b := 2) x2 (by omega) (by omega) (by decide)) (lit_ne (a := 5) (b := 4) x2 (by omega) (by omega) (by decide))))]; decide))) (vx_cwSW 2 hts gL_acts_L_cancel rfl rfl rfl (by decide +kernel) ⟨Nat.le_of_ble_eq_true rfl, Nat.le_of_ble_eq_true rfl⟩) ⟨cx_bl, cx_S hP.left.left hK Az_z hxk hS⟩ rfl rfl hl.1 rfl (lv_room (Nat.le_of_ble_eq_true rfl)) dL_acts_1007 ⟨by show _ ≤ 60; omega, by show _ ≤ 360; omega⟩) hS (fun H locs hPW hS hk1 => ?_)
    have hP := setO hne hTo hP hPW hk1
    refine W.eq (g2 := F0 m 1010 ls [.int (-1000003)]) rfl ?_
    refine lv_iload hx hb dL_acts_1010 (lv_at hl 0 rfl) ?_
    refine lv_icmp_ne (tgt := 1045) hx hb dL_acts_1012 (by decide) (fun c_29 => absurd ((by decide : (-1000003 : Int32) = -1000003)) c_29) (fun c_29 => ?_)
    refine lv_aload_n hx hb dL_acts_1015 rfl (lv_at hl 2 rfl) ?_
    refine lv_iload hx hb dL_acts_1016 (lv_at hl 9 rfl) ?_
    refine lMi (fun q ⟨j9, h1, h2⟩ => by rw [h2]; exact hz2 j9 h1) (vx_runSW (As := [.ref (ad2 0), .int (nI i)]) (rest := []) ⟨hx, hb, hml, hown, hts⟩ (c_L_cancel l hst D cy ad2 hj2 σ sz (nI i) ((-1000003)) (by rw [(kC_2 hi (fun z9 => z9.elim (lit_ne (a := 5) (b := 2) x2 (by omega) (by omega) (by decide)) (lit_ne (a := 5) (b := 4) x2 (by omega) (by omega) (by decide))))]; exact w13_2 _) σ (if_neg (by rw [(kC_2 hi (fun z9 => z9.elim (lit_ne (a := 5) (b := 2) x2 (by omega) (by omega) (by decide)) (lit_ne (a := 5) (b := 4) x2 (by omega) (by omega) (by decide))))]; decide))) (vx_cwSW 2 hts gL_acts_L_cancel rfl rfl rfl (by decide +kernel) ⟨Nat.le_of_ble_eq_true rfl, Nat.le_of_ble_eq_true rfl⟩) ⟨cx_bl, cx_S hP.left.right hK Az_z hxk hS⟩ rfl rfl hl.1 rfl (lv_room (Nat.le_of_ble_eq_true rfl)) dL_acts_1018 ⟨by show _ ≤ 60; omega, by show _ ≤ 360; omega⟩) hS (fun H locs hPW hS hk1 => ?_)
    have hP := setT hne hTt hP hPW hk1
    refine W.eq (g2 := F0 m 1021 ls [.int (-1000003)]) rfl ?_
    refine lv_iload hx hb dL_acts_1021 (lv_at hl 0 rfl) ?_
    refine lv_icmp_ne (tgt := 1045) hx hb dL_acts_1023 (by decide) (fun c_30 => absurd ((by decide : (-1000003 : Int32) = -1000003)) c_30) (fun c_30 => ?_)
    refine lv_iload hx hb dL_acts_1026 (lv_at hl 0 rfl) ?_
    refine lv_if_lt (tgt := 1041) hx hb dL_acts_1028 (by decide) (fun c_31 => ?_) (fun c_31 => absurd ((by decide : (-1000003 : Int32) < 0)) c_31)
    refine lv_iconst (v := 1) hx hb dL_acts_1041 (by decide) ?_
    refine lv_goto (tgt := 1046) hx hb dL_acts_1042 (by decide) ?_
    refine W.widen (k := 60) (n := 360) (by omega) (by omega) ?_
    have hpo : OKs h (N + 70) fa fm fb σ := hO.le (by omega)
    exact W.zret (v := 1) hx hb hr rfl (fun t ht hW => ⟨⟨_, (), rfl, rfl, ⟨_, _, _, _, by rw [ht]; exact hP, hpo⟩⟩, hS.F ht⟩) hS.2.2 dL_acts_1046
  · have xs : σ 1 i = 6 := x2
    rw [xs] at hl
    have hl : lv_has ls 17 [(0, .ref (ad 0)), (1, .ref (ad2 0)), (2, .ref qa), (3, .ref qm), (4, .ref qb), (5, .int zx), (6, .int zy), (7, .int (nI j4)), (8, .int (nI i)), (9, .int 6)] := hl
    refine lv_iload hx hb dL_acts_984 (lv_at hl 9 rfl) ?_
    refine lv_iconst (v := 2) hx hb dL_acts_986 (by decide) ?_
    refine lv_icmp_eq (tgt := 996) hx hb dL_acts_987 (by decide) (fun c_32 => absurd c_32 ((by decide : ¬ (6 : Int32) = 2))) (fun c_32 => ?_)
    refine lv_iload hx hb dL_acts_990 (lv_at hl 9 rfl) ?_
    refine lv_iconst (v := 4) hx hb dL_acts_992 (by decide) ?_
    refine lv_icmp_ne (tgt := 1000) hx hb dL_acts_993 (by decide) (fun c_33 => ?_) (fun c_33 => absurd c_33 ((by decide : ¬ (6 : Int32) = 4)))
    refine lv_ldc (v := (-1000003)) hx hb hown (hts (.constant RL 47 (-1000003)) (by decide +kernel)) dL_acts_1000 ?_
    refine lv_istore (lv' := [(10, .int (-1000003)), (0, .ref (ad 0)), (1, .ref (ad2 0)), (2, .ref qa), (3, .ref qm), (4, .ref qb), (5, .int zx), (6, .int zy), (7, .int (nI j4)), (8, .int (nI i)), (9, .int 6)]) hx hb dL_acts_1002 hl (by decide) rfl (fun ls hl => ?_)
    refine lv_aload_n hx hb dL_acts_1004 rfl (lv_at hl 1 rfl) ?_
    refine lv_iload hx hb dL_acts_1005 (lv_at hl 9 rfl) ?_
    obtain ⟨hTo, hTt⟩ := noT_D hD
    refine lMi (fun q ⟨j9, h1, h2⟩ => by rw [h2]; exact hz j9 h1) (vx_runSW (As := [.ref (ad 0), .int (nI i)]) (rest := []) ⟨hx, hb, hml, hown, hts⟩ (c_L_cancel l hst D cy ad hj σ sz (nI i) ((-1000003)) (by rw [(kC_2 hi (fun z9 => z9.elim (lit_ne (a := 6) (b := 2) x2 (by omega) (by omega) (by decide)) (lit_ne (a := 6) (b := 4) x2 (by omega) (by omega) (by decide))))]; exact w13_2 _) σ (if_neg (by rw [(kC_2 hi (fun z9 => z9.elim (lit_ne (a := 6) (b := 2) x2 (by omega) (by omega) (by decide)) (lit_ne (a := 6) (b := 4) x2 (by omega) (by omega) (by decide))))]; decide))) (vx_cwSW 2 hts gL_acts_L_cancel rfl rfl rfl (by decide +kernel) ⟨Nat.le_of_ble_eq_true rfl, Nat.le_of_ble_eq_true rfl⟩) ⟨cx_bl, cx_S hP.left.left hK Az_z hxk hS⟩ rfl rfl hl.1 rfl (lv_room (Nat.le_of_ble_eq_true rfl)) dL_acts_1007 ⟨by show _ ≤ 60; omega, by show _ ≤ 360; omega⟩) hS (fun H locs hPW hS hk1 => ?_)
    have hP := setO hne hTo hP hPW hk1
    refine W.eq (g2 := F0 m 1010 ls [.int (-1000003)]) rfl ?_
    refine lv_iload hx hb dL_acts_1010 (lv_at hl 0 rfl) ?_
    refine lv_icmp_ne (tgt := 1045) hx hb dL_acts_1012 (by decide) (fun c_34 => absurd ((by decide : (-1000003 : Int32) = -1000003)) c_34) (fun c_34 => ?_)
    refine lv_aload_n hx hb dL_acts_1015 rfl (lv_at hl 2 rfl) ?_
    refine lv_iload hx hb dL_acts_1016 (lv_at hl 9 rfl) ?_
    refine lMi (fun q ⟨j9, h1, h2⟩ => by rw [h2]; exact hz2 j9 h1) (vx_runSW (As := [.ref (ad2 0), .int (nI i)]) (rest := []) ⟨hx, hb, hml, hown, hts⟩ (c_L_cancel l hst D cy ad2 hj2 σ sz (nI i) ((-1000003)) (by rw [(kC_2 hi (fun z9 => z9.elim (lit_ne (a := 6) (b := 2) x2 (by omega) (by omega) (by decide)) (lit_ne (a := 6) (b := 4) x2 (by omega) (by omega) (by decide))))]; exact w13_2 _) σ (if_neg (by rw [(kC_2 hi (fun z9 => z9.elim (lit_ne (a := 6) (b := 2) x2 (by omega) (by omega) (by decide)) (lit_ne (a := 6) (b := 4) x2 (by omega) (by omega) (by decide))))]; decide))) (vx_cwSW 2 hts gL_acts_L_cancel rfl rfl rfl (by decide +kernel) ⟨Nat.le_of_ble_eq_true rfl, Nat.le_of_ble_eq_true rfl⟩) ⟨cx_bl, cx_S hP.left.right hK Az_z hxk hS⟩ rfl rfl hl.1 rfl (lv_room (Nat.le_of_ble_eq_true rfl)) dL_acts_1018 ⟨by show _ ≤ 60; omega, by show _ ≤ 360; omega⟩) hS (fun H locs hPW hS hk1 => ?_)
    have hP := setT hne hTt hP hPW hk1
    refine W.eq (g2 := F0 m 1021 ls [.int (-1000003)]) rfl ?_
    refine lv_iload hx hb dL_acts_1021 (lv_at hl 0 rfl) ?_
    refine lv_icmp_ne (tgt := 1045) hx hb dL_acts_1023 (by decide) (fun c_35 => absurd ((by decide : (-1000003 : Int32) = -1000003)) c_35) (fun c_35 => ?_)
    refine lv_iload hx hb dL_acts_1026 (lv_at hl 0 rfl) ?_
    refine lv_if_lt (tgt := 1041) hx hb dL_acts_1028 (by decide) (fun c_36 => ?_) (fun c_36 => absurd ((by decide : (-1000003 : Int32) < 0)) c_36)
    refine lv_iconst (v := 1) hx hb dL_acts_1041 (by decide) ?_
    refine lv_goto (tgt := 1046) hx hb dL_acts_1042 (by decide) ?_
    refine W.widen (k := 60) (n := 360) (by omega) (by omega) ?_
    have hpo : OKs h (N + 70) fa fm fb σ := hO.le (by omega)
    exact W.zret (v := 1) hx hb hr rfl (fun t ht hW => ⟨⟨_, (), rfl, rfl, ⟨_, _, _, _, by rw [ht]; exact hP, hpo⟩⟩, hS.F ht⟩) hS.2.2 dL_acts_1046
  · have xs : σ 1 i = 7 := x2
    rw [xs] at hl
    have hl : lv_has ls 17 [(0, .ref (ad 0)), (1, .ref (ad2 0)), (2, .ref qa), (3, .ref qm), (4, .ref qb), (5, .int zx), (6, .int zy), (7, .int (nI j4)), (8, .int (nI i)), (9, .int 7)] := hl
    refine lv_iload hx hb dL_acts_984 (lv_at hl 9 rfl) ?_
    refine lv_iconst (v := 2) hx hb dL_acts_986 (by decide) ?_
    refine lv_icmp_eq (tgt := 996) hx hb dL_acts_987 (by decide) (fun c_37 => absurd c_37 ((by decide : ¬ (7 : Int32) = 2))) (fun c_37 => ?_)
    refine lv_iload hx hb dL_acts_990 (lv_at hl 9 rfl) ?_
    refine lv_iconst (v := 4) hx hb dL_acts_992 (by decide) ?_
    refine lv_icmp_ne (tgt := 1000) hx hb dL_acts_993 (by decide) (fun c_38 => ?_) (fun c_38 => absurd c_38 ((by decide : ¬ (7 : Int32) = 4)))
    refine lv_ldc (v := (-1000003)) hx hb hown (hts (.constant RL 47 (-1000003)) (by decide +kernel)) dL_acts_1000 ?_
    refine lv_istore (lv' := [(10, .int (-1000003)), (0, .ref (ad 0)), (1, .ref (ad2 0)), (2, .ref qa), (3, .ref qm), (4, .ref qb), (5, .int zx), (6, .int zy), (7, .int (nI j4)), (8, .int (nI i)), (9, .int 7)]) hx hb dL_acts_1002 hl (by decide) rfl (fun ls hl => ?_)
    refine lv_aload_n hx hb dL_acts_1004 rfl (lv_at hl 1 rfl) ?_
    refine lv_iload hx hb dL_acts_1005 (lv_at hl 9 rfl) ?_
    obtain ⟨hTo, hTt⟩ := noT_D hD
    refine lMi (fun q ⟨j9, h1, h2⟩ => by rw [h2]; exact hz j9 h1) (vx_runSW (As := [.ref (ad 0), .int (nI i)]) (rest := []) ⟨hx, hb, hml, hown, hts⟩ (c_L_cancel l hst D cy ad hj σ sz (nI i) ((-1000003)) (by rw [(kC_2 hi (fun z9 => z9.elim (lit_ne (a := 7) (b := 2) x2 (by omega) (by omega) (by decide)) (lit_ne (a := 7) (b := 4) x2 (by omega) (by omega) (by decide))))]; exact w13_2 _) σ (if_neg (by rw [(kC_2 hi (fun z9 => z9.elim (lit_ne (a := 7) (b := 2) x2 (by omega) (by omega) (by decide)) (lit_ne (a := 7) (b := 4) x2 (by omega) (by omega) (by decide))))]; decide))) (vx_cwSW 2 hts gL_acts_L_cancel rfl rfl rfl (by decide +kernel) ⟨Nat.le_of_ble_eq_true rfl, Nat.le_of_ble_eq_true rfl⟩) ⟨cx_bl, cx_S hP.left.left hK Az_z hxk hS⟩ rfl rfl hl.1 rfl (lv_room (Nat.le_of_ble_eq_true rfl)) dL_acts_1007 ⟨by show _ ≤ 60; omega, by show _ ≤ 360; omega⟩) hS (fun H locs hPW hS hk1 => ?_)
    have hP := setO hne hTo hP hPW hk1
    refine W.eq (g2 := F0 m 1010 ls [.int (-1000003)]) rfl ?_
    refine lv_iload hx hb dL_acts_1010 (lv_at hl 0 rfl) ?_
    refine lv_icmp_ne (tgt := 1045) hx hb dL_acts_1012 (by decide) (fun c_39 => absurd ((by decide : (-1000003 : Int32) = -1000003)) c_39) (fun c_39 => ?_)
    refine lv_aload_n hx hb dL_acts_1015 rfl (lv_at hl 2 rfl) ?_
    refine lv_iload hx hb dL_acts_1016 (lv_at hl 9 rfl) ?_
    refine lMi (fun q ⟨j9, h1, h2⟩ => by rw [h2]; exact hz2 j9 h1) (vx_runSW (As := [.ref (ad2 0), .int (nI i)]) (rest := []) ⟨hx, hb, hml, hown, hts⟩ (c_L_cancel l hst D cy ad2 hj2 σ sz (nI i) ((-1000003)) (by rw [(kC_2 hi (fun z9 => z9.elim (lit_ne (a := 7) (b := 2) x2 (by omega) (by omega) (by decide)) (lit_ne (a := 7) (b := 4) x2 (by omega) (by omega) (by decide))))]; exact w13_2 _) σ (if_neg (by rw [(kC_2 hi (fun z9 => z9.elim (lit_ne (a := 7) (b := 2) x2 (by omega) (by omega) (by decide)) (lit_ne (a := 7) (b := 4) x2 (by omega) (by omega) (by decide))))]; decide))) (vx_cwSW 2 hts gL_acts_L_cancel rfl rfl rfl (by decide +kernel) ⟨Nat.le_of_ble_eq_true rfl, Nat.le_of_ble_eq_true rfl⟩) ⟨cx_bl, cx_S hP.left.right hK Az_z hxk hS⟩ rfl rfl hl.1 rfl (lv_room (Nat.le_of_ble_eq_true rfl)) dL_acts_1018 ⟨by show _ ≤ 60; omega, by show _ ≤ 360; omega⟩) hS (fun H locs hPW hS hk1 => ?_)
    have hP := setT hne hTt hP hPW hk1
    refine W.eq (g2 := F0 m 1021 ls [.int (-1000003)]) rfl ?_
    refine lv_iload hx hb dL_acts_1021 (lv_at hl 0 rfl) ?_
    refine lv_icmp_ne (tgt := 1045) hx hb dL_acts_1023 (by decide) (fun c_40 => absurd ((by decide : (-1000003 : Int32) = -1000003)) c_40) (fun c_40 => ?_)
    refine lv_iload hx hb dL_acts_1026 (lv_at hl 0 rfl) ?_
    refine lv_if_lt (tgt := 1041) hx hb dL_acts_1028 (by decide) (fun c_41 => ?_) (fun c_41 => absurd ((by decide : (-1000003 : Int32) < 0)) c_41)
    refine lv_iconst (v := 1) hx hb dL_acts_1041 (by decide) ?_
    refine lv_goto (tgt := 1046) hx hb dL_acts_1042 (by decide) ?_
    refine W.widen (k := 60) (n := 360) (by omega) (by omega) ?_
    have hpo : OKs h (N + 70) fa fm fb σ := hO.le (by omega)
    exact W.zret (v := 1) hx hb hr rfl (fun t ht hW => ⟨⟨_, (), rfl, rfl, ⟨_, _, _, _, by rw [ht]; exact hP, hpo⟩⟩, hS.F ht⟩) hS.2.2 dL_acts_1046
