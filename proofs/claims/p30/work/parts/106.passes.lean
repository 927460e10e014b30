/-! TWO OBJECTS AND THE LAW'S ROWS -/
theorem set_app {α : Type} (T : List α) (j : Nat) (e : α) : ∀ X : List α, (X ++ T).set (X.length + j) e = X ++ T.set j e
  | [] => by simp
  | a :: X => by
    rw [show (a :: X).length + j = (X.length + j) + 1 by simp only [List.length_cons]; omega]
    show a :: (X ++ T).set (X.length + j) e = _
    rw [set_app T j e X]
    rfl
theorem get_app {α : Type} (T : List α) (j : Nat) (X : List α) : (X ++ T)[X.length + j]? = T[j]? := by
  rw [List.getElem?_append_right (by omega), Nat.add_sub_cancel_left]
/-- the two objects' cells, and what lies beside them -/
abbrev X2 (cy : Nat → ClassId) (ad ad2 : Nat → Nat) (σ τ : Mem) : va_W := wC cy ad σ ++ wC cy ad2 τ
/-- none of T's cells is one of the object's -/
def noT (ad : Nat → Nat) (T : va_W) : Prop := ∀ (k : Nat) (q : Nat × va_E), T[k]? = some q → ¬ AC ad q.1
def apart (ad ad2 : Nat → Nat) : Prop := ∀ i j, i < 31 → j < 31 → ad i ≠ ad2 j
theorem setO {D : va_G} {cy : Nat → ClassId} {ad ad2 : Nat → Nat} {σ σ1 τ : Mem} {T : va_W} {H H1 : Heap} (hne : apart ad ad2) (hT : noT ad T) (hP : va_P D vwCl (X2 cy ad ad2 σ τ ++ T) H) (h1 : va_P D vwCl (wC cy ad σ1) H1) (hk : ∀ q : Nat, q < H.size → ¬ AC ad q → H1[q]? = H[q]?) : va_P D vwCl (X2 cy ad ad2 σ1 τ ++ T) H1 :=
  (h1.app (hP.left.right.apart hk (wC_no (fun k hk9 ⟨j, hj, e⟩ => hne j k hj hk9 e.symm)))).app (hP.right.apart hk hT)
theorem setT {D : va_G} {cy : Nat → ClassId} {ad ad2 : Nat → Nat} {σ τ τ1 : Mem} {T : va_W} {H H1 : Heap} (hne : apart ad ad2) (hT : noT ad2 T) (hP : va_P D vwCl (X2 cy ad ad2 σ τ ++ T) H) (h1 : va_P D vwCl (wC cy ad2 τ1) H1) (hk : ∀ q : Nat, q < H.size → ¬ AC ad2 q → H1[q]? = H[q]?) : va_P D vwCl (X2 cy ad ad2 σ τ1 ++ T) H1 :=
  ((hP.left.left.apart hk (wC_no (fun k hk9 ⟨j, hj, e⟩ => hne k j hk9 hj e))).app h1).app (hP.right.apart hk hT)
/-- the law's numbers at the start of a method: cells, classes, and what a throw needs -/
def lX (D : va_G) (cy : Nat → ClassId) (sz : Nat) (ws : va_W) (U : State) : Prop := (va_P D vwCl ws U.heap ∧ va_K D vwCl (tyC cy) U) ∧ xk sz U
theorem lX_bl {av : List Value} {D : va_G} {cy : Nat → ClassId} {sz : Nat} {ws : va_W} : FrameBlind (va_Pc av (lX D cy sz ws)) := fun a U g mk h => ⟨h.1, ⟨h.2.1.1, va_K.moved (u := U) (U := U.calling g mk a) (Vm.Alike.refl U.vm) h.2.1.2⟩, xk_calling h.2.2⟩
theorem lX_S {A : Nat → Prop} {av : List Value} {D : va_G} {cy : Nat → ClassId} {sz : Nat} {ws : va_W} {s : State} {H : Heap} {locs : List Loc} (hP : va_P D vwCl ws H) (hK : va_K D vwCl (tyC cy) s) (hAz : ∀ q, A q → sz ≤ q) (h : xk sz s) (hS : va_S A s.heap H locs) : ∀ U : State, U.heap = H → s.WarmedH U.vm → va_Pc av (lX D cy sz ws) av.toArray U := fun U hU hW => ⟨rfl, ⟨by rw [hU]; exact hP, va_K.moved hW.alike hK⟩, xk_S hAz h hS U hU hW⟩
/-- all that the law made -/
abbrev Az (sz : Nat) : Nat → Prop := fun q => sz ≤ q
theorem Az_z {sz : Nat} : ∀ q, Az sz q → sz ≤ q := fun _ h => h
theorem w12_2 (r : Int32) : w12 2 r = -1000002 := by unfold w12; rw [if_neg (by decide), if_neg (by decide)]
theorem w13_2 (r : Int32) : w13 2 r = -1000003 := by unfold w13; rw [if_neg (by decide), if_neg (by decide)]
theorem w123_3 (r : Int32) : w123 3 r = -1000003 := by unfold w123; rw [if_neg (by decide), if_neg (by decide), if_neg (by decide)]
theorem w1_1 (r : Int32) : w1 1 r = -1000001 := by unfold w1; rw [if_neg (by decide)]
theorem w2_1 (r : Int32) : w2 1 r = -1000002 := by unfold w2; rw [if_neg (by decide)]
theorem w12_1 (r : Int32) : w12 1 r = -1000001 := by unfold w12; rw [if_neg (by decide), if_pos rfl]
theorem w13_1 (r : Int32) : w13 1 r = -1000001 := by unfold w13; rw [if_neg (by decide), if_pos rfl]
theorem kA_0 {n : Nat} (h0 : 1 ≤ n) (h1 : n ≤ 200) : kAdvance (nI n) = 0 := by
  unfold kAdvance
  rw [if_pos (by
    simp only [inB, Bool.and_eq_true, decide_eq_true_eq]
    exact ⟨(nI_leI (a := 1) (by omega) (by omega)).mpr h0, (nI_leI (b := 200) (by omega) (by omega)).mpr h1⟩)]
section L5
variable {p : Program} {l : Launch} {e : Env} {R : Room} {s : State} {m : MethodId} {args : Array Value} {below : List Frame} {meth : Method} {c : Code} {H : Heap} {locs : List Loc} {cells slots : Nat} {Q : State → Prop} {cc : ByteArray} {pc : Nat} {ls : Array Slot} {rest : List Value} {D : va_G} {A : Nat → Prop} {H0 : Heap} {cy : Nat → ClassId}
/-- a row of the law is written -/
theorem rs5 {X T : va_W} {j q n k : Nat} {f : Nat → Int32} {v : Int32} (hx : p.tables.exec = Jvm.exec) (hb : c.code = cc) (hK : va_K D vwCl (tyC cy) s) (hP : va_P D vwCl (X ++ T) H) (hD : va_D A (X ++ T)) (hS : va_S A H0 H locs) (hj : T[j]? = some (aW cy q n f)) (hk : k < n) (hn : n ≤ 100) (hdg : decode cc pc = .ok (.iastore, 1))
    (kk : ∀ (H1 : Heap) (locs1 : List Loc), va_P D vwCl (X ++ T.set j (aW cy q n (upd f k v))) H1 → va_D A (X ++ T.set j (aW cy q n (upd f k v))) → va_S A H0 H1 locs1 → W p l e R s m args below meth c H1 locs1 cells slots Q (F0 m (pc + 1) ls rest)) : W p l e R s m args below meth c H locs cells slots Q (F0 m pc ls (.int v :: .int (nI k) :: .ref q :: rest)) := by
  refine va_iast hx hb hK hP hD hS (X.length + j) 0 ((get_app T j X).trans hj) rfl (vp_in_nI hk (by omega)) hdg (fun H1 locs1 h1 h2 h3 => ?_)
  rw [nI_clamp (by omega), set_app] at h1 h2
  exact kk H1 locs1 h1 h2 h3
end L5
set_option maxHeartbeats 1000000 in
set_option maxRecDepth 100000 in
/-- passes -/
theorem c_L_passes (l : Launch) (hst : l.stackTraces = false) (D : va_G) (cy : Nat → ClassId) (ad : Nat → Nat) (σ : Mem) (sz : Nat) (ad2 : Nat → Nat) (hj : inj31 ad) (hj2 : inj31 ad2) (hne : apart ad ad2) (hz : ∀ i, i < 31 → sz ≤ ad i) (hz2 : ∀ i, i < 31 → sz ≤ ad2 i) (T : va_W) (hTo : noT ad T) (hTt : noT ad2 T) (h N n : Nat) (hn0 : 1 ≤ n) (hn2 : n ≤ 200) (hh9 : h < 900000) (hN9 : N + 30000 < 2000000000) (hI : Inv PN h N σ) (hFu : Full σ) : Met l yL_passes wsL_passes ({ frames := 9, cells := 210, slots := 1260, locals := 179 }) (va_Pc [.ref (ad 0), .ref (ad2 0), .int (nI n)] (lX D cy sz (X2 cy ad ad2 σ σ ++ T))) (QI 1 (fun H => va_P D vwCl (X2 cy ad ad2 (sAdv σ n) (sAdv σ n) ++ T) H) (Az sz)) 210 1260 (Az sz) := by
  refine Met.ofW (cc := cL_passes) (maxL := 9) (ret := (some .boolean)) (by decide) rfl ?_
  intro p e s m args below meth c s₁ B hml hv
  obtain ⟨rfl, ⟨hP, hK⟩, hxk⟩ := hv
  have hx := B.exec
  have hb := B.bytes
  have hr := B.returns
  have hts := atoms_spec (ws := wsL_passes) B.pre
  have hown : s.vm.findClass RL = some m.cls := findClass_of_methodNamed B.named
  have hlocks := B.notSynchronized
  have hS : va_S (Az sz) s.heap s.heap [] := va_S.rf
  have hl := lv_entry ([.ref (ad 0), .ref (ad2 0), .int (nI n)]) (n := 9) (Nat.le_of_ble_eq_true rfl)
  rw [lg_entry_eq]
  generalize (lg_sl ([.ref (ad 0), .ref (ad2 0), .int (nI n)]) ++ List.replicate (9 - (lg_sl ([.ref (ad 0), .ref (ad2 0), .int (nI n)])).length) Slot.unset).toArray = ls at hl ⊢
  have hl : lv_has ls 9 [(0, .ref (ad 0)), (1, .ref (ad2 0)), (2, .int (nI n))] := hl
  have hh := hI.1
  have hn1 := next_all hI hh9 hN9 hFu
  rcases hn1 with ⟨hnx, hq⟩ | ⟨c8, c0, c9, hnx, hq⟩
  · refine lv_aload_n hx hb dL_passes_0 rfl (lv_at hl 0 rfl) ?_
    refine cS (W.runV (As := []) (rest := []) ⟨hx, hb, hml, hown, hts⟩ (c_X3_nextChange l D cy ad σ) (cwV 0 hts gL_passes_X3_nextChange rfl rfl rfl (by decide +kernel) ⟨Nat.le_of_ble_eq_true rfl, Nat.le_of_ble_eq_true rfl⟩) ⟨cw_bl, cw_F hP.left.left hK, cw_at hP.left.left hK⟩ rfl rfl hl.1 rfl (lv_room (Nat.le_of_ble_eq_true rfl)) dL_passes_1 ⟨by show _ ≤ 210; omega, by show _ ≤ 1260; omega⟩) (fun _ _ => ?_)
    refine W.eq (g2 := F0 m 4 ls [.int (rNextChange σ)]) rfl ?_
    refine W.eq (g2 := F0 m 4 ls [.int (-1)]) (by rw [hnx]) ?_
    refine lv_istore_n (lv' := [(3, .int (-1)), (0, .ref (ad 0)), (1, .ref (ad2 0)), (2, .int (nI n))]) hx hb dL_passes_4 rfl hl (by decide) rfl (fun ls hl => ?_)
    refine lv_aload_n hx hb dL_passes_5 rfl (lv_at hl 1 rfl) ?_
    refine cS (W.runV (As := []) (rest := []) ⟨hx, hb, hml, hown, hts⟩ (c_X3_now l D cy ad σ) (cwV 0 hts gL_passes_X3_now rfl rfl rfl (by decide +kernel) ⟨Nat.le_of_ble_eq_true rfl, Nat.le_of_ble_eq_true rfl⟩) ⟨cw_bl, cw_F hP.left.left hK, cw_at hP.left.left hK⟩ rfl rfl hl.1 rfl (lv_room (Nat.le_of_ble_eq_true rfl)) dL_passes_6 ⟨by show _ ≤ 210; omega, by show _ ≤ 1260; omega⟩) (fun _ _ => ?_)
    refine W.eq (g2 := F0 m 9 ls [.int (σ 20 6)]) rfl ?_
    refine W.eq (g2 := F0 m 9 ls [.int (nI h)]) (by rw [hh]) ?_
    refine lv_istore (lv' := [(4, .int (nI h)), (3, .int (-1)), (0, .ref (ad 0)), (1, .ref (ad2 0)), (2, .int (nI n))]) hx hb dL_passes_9 hl (by decide) rfl (fun ls hl => ?_)
    refine lv_iconst (v := 0) hx hb dL_passes_11 (by decide) ?_
    refine lv_istore (lv' := [(5, .int 0), (4, .int (nI h)), (3, .int (-1)), (0, .ref (ad 0)), (1, .ref (ad2 0)), (2, .int (nI n))]) hx hb dL_passes_12 hl (by decide) rfl (fun ls hl => ?_)
    refine lv_iload_n hx hb dL_passes_14 rfl (lv_at hl 2 rfl) ?_
    refine lv_aload_n hx hb dL_passes_15 rfl (lv_at hl 4 rfl) ?_
    refine cS (W.runV (As := []) (rest := [.int (-1)]) ⟨hx, hb, hml, hown, hts⟩ (c_X3_nextChange l D cy ad2 σ) (cwV 0 hts gL_passes_X3_nextChange rfl rfl rfl (by decide +kernel) ⟨Nat.le_of_ble_eq_true rfl, Nat.le_of_ble_eq_true rfl⟩) ⟨cw_bl, cw_F hP.left.right hK, cw_at hP.left.right hK⟩ rfl rfl hl.1 rfl (lv_room (Nat.le_of_ble_eq_true rfl)) dL_passes_16 ⟨by show _ ≤ 210; omega, by show _ ≤ 1260; omega⟩) (fun _ _ => ?_)
    refine W.eq (g2 := F0 m 19 ls [.int (rNextChange σ), .int (-1)]) rfl ?_
    refine W.eq (g2 := F0 m 19 ls [.int (-1), .int (-1)]) (by rw [hnx]) ?_
    refine lv_icmp_ne (tgt := 35) hx hb dL_passes_19 (by decide) (fun c_1 => absurd ((by decide : (-1 : Int32) = -1)) c_1) (fun c_1 => ?_)
    refine lv_iload_n hx hb dL_passes_22 rfl (lv_at hl 2 rfl) ?_
    refine lv_iconst (v := (-1)) hx hb dL_passes_23 (by decide) ?_
    refine lv_icmp_eq (tgt := 31) hx hb dL_passes_24 (by decide) (fun c_2 => ?_) (fun c_2 => absurd ((by decide : (-1 : Int32) = -1)) c_2)
    refine lv_iconst (v := 1) hx hb dL_passes_31 (by decide) ?_
    refine lv_goto (tgt := 36) hx hb dL_passes_32 (by decide) ?_
    refine lv_istore (lv' := [(6, .int 1), (5, .int 0), (4, .int (nI h)), (3, .int (-1)), (0, .ref (ad 0)), (1, .ref (ad2 0)), (2, .int (nI n))]) hx hb dL_passes_36 hl (by decide) rfl (fun ls hl => ?_)
    refine lv_iconst (v := 1) hx hb dL_passes_38 (by decide) ?_
    refine lv_istore (lv' := [(7, .int 1), (6, .int 1), (5, .int 0), (4, .int (nI h)), (3, .int (-1)), (0, .ref (ad 0)), (1, .ref (ad2 0)), (2, .int (nI n))]) hx hb dL_passes_39 hl (by decide) rfl (fun ls hl => ?_)
    have e50 : nI (Ad (sAdv σ 0) - Ad σ) = 0 := by show nI (Ad σ - Ad σ) = 0; rw [Nat.sub_self]; rfl
    have hl : lv_has ls 9 [(7, .int 1), (6, .int 1), (5, .int (nI (Ad (sAdv σ 0) - Ad σ))), (4, .int (nI h)), (3, .int (-1)), (0, .ref (ad 0)), (1, .ref (ad2 0)), (2, .int (nI n))] := by rw [e50]; exact hl
    have hl0 : lv_has ls 9 [(7, .int (nI 1)), (5, .int (nI (Ad (sAdv σ 0) - Ad σ))), (6, .int 1), (3, .int (-1)), (4, .int (nI h)), (0, .ref (ad 0)), (1, .ref (ad2 0)), (2, .int (nI n))] := lv_sub hl [0, 2, 1, 4, 3, 5, 6, 7] rfl
    refine w_loopG n (0) 1 (0) 6 (fun k H => va_P D vwCl (X2 cy ad ad2 σ (sAdv σ k) ++ T) H) (fun k => [(7, .int (nI (k + 1))), (5, .int (nI (Ad (sAdv σ k) - Ad σ))), (6, .int 1), (3, .int (-1)), (4, .int (nI h)), (0, .ref (ad 0)), (1, .ref (ad2 0)), (2, .int (nI n))]) hl0 hP hS (Nat.le_refl _) (Nat.le_refl _) (fun H locs ls hl hG hS => ?_) (fun k hk H locs ls hl hG hS ih => ?_)
    · have hl : lv_has ls 9 [(7, .int (nI (n + 1))), (5, .int (nI (Ad (sAdv σ n) - Ad σ))), (6, .int 1), (3, .int (-1)), (4, .int (nI h)), (0, .ref (ad 0)), (1, .ref (ad2 0)), (2, .int (nI n))] := hl
      have hP : va_P D vwCl (X2 cy ad ad2 σ (sAdv σ n) ++ T) H := hG
      obtain ⟨i1, i2, i3, i4⟩ := adv_all hI hh9 hN9 hFu n hn2
      refine lv_iload hx hb dL_passes_41 (lv_at hl 0 rfl) ?_
      refine lv_iload_n hx hb dL_passes_43 rfl (lv_at hl 7 rfl) ?_
      refine lv_icmp_gt (tgt := 110) hx hb dL_passes_44 (by decide) (fun c_3 => ?_) (fun c_3 => absurd (((nI_ltI (a := n) (b := n + 1) (by omega) (by omega)).mpr (by omega))) c_3)
      refine lv_iload hx hb dL_passes_110 (lv_at hl 2 rfl) ?_
      refine lv_if_eq (tgt := 151) hx hb dL_passes_112 (by decide) (fun c_4 => absurd c_4 ((by decide : ¬ (1 : Int32) = 0))) (fun c_4 => ?_)
      refine lv_aload_n hx hb dL_passes_115 rfl (lv_at hl 5 rfl) ?_
      refine lv_iload_n hx hb dL_passes_116 rfl (lv_at hl 7 rfl) ?_
      refine lMi (fun q ⟨j9, h1, h2⟩ => by rw [h2]; exact hz j9 h1) (vx_runSW (As := [.ref (ad 0), .int (nI n)]) (rest := []) ⟨hx, hb, hml, hown, hts⟩ (c_L_advance l hst D cy ad hj σ sz (nI n) (nI (Ad (sAdv σ n) - Ad σ)) ((w2_0 (kA_0 hn0 hn2)).trans (by have h9 := (adv_ans hI hh9 hN9 hFu (k := 0) (n := n) (by omega)).1; rw [Nat.zero_add] at h9; unfold rAdvance gAdvance; rw [ix_nI (by omega)]; exact h9)) (sAdv σ n) (by rw [if_pos (kA_0 hn0 hn2)]; unfold gAdvance; rw [ix_nI (by omega)])) (vx_cwSW 2 hts gL_passes_L_advance rfl rfl rfl (by decide +kernel) ⟨Nat.le_of_ble_eq_true rfl, Nat.le_of_ble_eq_true rfl⟩) ⟨cx_bl, cx_S hP.left.left hK Az_z hxk hS⟩ rfl rfl hl.1 rfl (lv_room (Nat.le_of_ble_eq_true rfl)) dL_passes_117 ⟨by show _ ≤ 210; omega, by show _ ≤ 1260; omega⟩) hS (fun H locs hPW hS hk1 => ?_)
      have hP := setO hne hTo hP hPW hk1
      refine W.eq (g2 := F0 m 120 ls [.int (nI (Ad (sAdv σ n) - Ad σ))]) rfl ?_
      refine lv_iload hx hb dL_passes_120 (lv_at hl 1 rfl) ?_
      refine lv_icmp_ne (tgt := 151) hx hb dL_passes_122 (by decide) (fun c_5 => absurd (rfl) c_5) (fun c_5 => ?_)
      refine lv_aload_n hx hb dL_passes_125 rfl (lv_at hl 5 rfl) ?_
      refine cS (W.runV (As := []) (rest := []) ⟨hx, hb, hml, hown, hts⟩ (c_X3_now l D cy ad (sAdv σ n)) (cwV 0 hts gL_passes_X3_now rfl rfl rfl (by decide +kernel) ⟨Nat.le_of_ble_eq_true rfl, Nat.le_of_ble_eq_true rfl⟩) ⟨cw_bl, cw_F hP.left.left hK, cw_at hP.left.left hK⟩ rfl rfl hl.1 rfl (lv_room (Nat.le_of_ble_eq_true rfl)) dL_passes_126 ⟨by show _ ≤ 210; omega, by show _ ≤ 1260; omega⟩) (fun _ _ => ?_)
      refine W.eq (g2 := F0 m 129 ls [.int ((sAdv σ n) 20 6)]) rfl ?_
      refine W.eq (g2 := F0 m 129 ls [.int (nI (h + n))]) (by rw [i1.1]) ?_
      refine lv_iload hx hb dL_passes_129 (lv_at hl 4 rfl) ?_
      refine lv_iload_n hx hb dL_passes_131 rfl (lv_at hl 7 rfl) ?_
      refine lv_iadd hx hb dL_passes_132 ?_
      refine W.eq (congrArg (fun z9 => F0 m 133 ls [.int z9, .int (nI (h + n))]) (nI_add h n)) ?_
      refine lv_icmp_ne (tgt := 151) hx hb dL_passes_133 (by decide) (fun c_6 => absurd (rfl) c_6) (fun c_6 => ?_)
      refine lv_aload_n hx hb dL_passes_136 rfl (lv_at hl 6 rfl) ?_
      refine cS (W.runV (As := []) (rest := []) ⟨hx, hb, hml, hown, hts⟩ (c_X3_now l D cy ad2 (sAdv σ n)) (cwV 0 hts gL_passes_X3_now rfl rfl rfl (by decide +kernel) ⟨Nat.le_of_ble_eq_true rfl, Nat.le_of_ble_eq_true rfl⟩) ⟨cw_bl, cw_F hP.left.right hK, cw_at hP.left.right hK⟩ rfl rfl hl.1 rfl (lv_room (Nat.le_of_ble_eq_true rfl)) dL_passes_137 ⟨by show _ ≤ 210; omega, by show _ ≤ 1260; omega⟩) (fun _ _ => ?_)
      refine W.eq (g2 := F0 m 140 ls [.int ((sAdv σ n) 20 6)]) rfl ?_
      refine W.eq (g2 := F0 m 140 ls [.int (nI (h + n))]) (by rw [i1.1]) ?_
      refine lv_aload_n hx hb dL_passes_140 rfl (lv_at hl 5 rfl) ?_
      refine cS (W.runV (As := []) (rest := [.int (nI (h + n))]) ⟨hx, hb, hml, hown, hts⟩ (c_X3_now l D cy ad (sAdv σ n)) (cwV 0 hts gL_passes_X3_now rfl rfl rfl (by decide +kernel) ⟨Nat.le_of_ble_eq_true rfl, Nat.le_of_ble_eq_true rfl⟩) ⟨cw_bl, cw_F hP.left.left hK, cw_at hP.left.left hK⟩ rfl rfl hl.1 rfl (lv_room (Nat.le_of_ble_eq_true rfl)) dL_passes_141 ⟨by show _ ≤ 210; omega, by show _ ≤ 1260; omega⟩) (fun _ _ => ?_)
      refine W.eq (g2 := F0 m 144 ls [.int ((sAdv σ n) 20 6), .int (nI (h + n))]) rfl ?_
      refine W.eq (g2 := F0 m 144 ls [.int (nI (h + n)), .int (nI (h + n))]) (by rw [i1.1]) ?_
      refine lv_icmp_ne (tgt := 151) hx hb dL_passes_144 (by decide) (fun c_7 => absurd (rfl) c_7) (fun c_7 => ?_)
      refine lv_iconst (v := 1) hx hb dL_passes_147 (by decide) ?_
      refine lv_goto (tgt := 152) hx hb dL_passes_148 (by decide) ?_
      refine W.widen (k := 210) (n := 1260) (by omega) (by omega) ?_
      exact W.zret (v := 1) hx hb hr rfl (fun t ht hW => ⟨⟨_, (), rfl, rfl, by rw [← ht] at hP; exact hP⟩, hS.F ht⟩) hS.2.2 dL_passes_152
    · have hl : lv_has ls 9 [(7, .int (nI (k + 1))), (5, .int (nI (Ad (sAdv σ k) - Ad σ))), (6, .int 1), (3, .int (-1)), (4, .int (nI h)), (0, .ref (ad 0)), (1, .ref (ad2 0)), (2, .int (nI n))] := hl
      have hP : va_P D vwCl (X2 cy ad ad2 σ (sAdv σ k) ++ T) H := hG
      have ih41 := ih
      have hk200 : k < 200 := by omega
      obtain ⟨i1, i2, i3, i4⟩ := adv_all hI hh9 hN9 hFu k (by omega)
      have hqk := hq k hk200
      have hsum := (adv_ans hI hh9 hN9 hFu (k := k) (n := 1) (by omega)).2
      obtain ⟨hs1, hs2⟩ := hsum
      refine lv_iload hx hb dL_passes_41 (lv_at hl 0 rfl) ?_
      refine lv_iload_n hx hb dL_passes_43 rfl (lv_at hl 7 rfl) ?_
      refine lv_icmp_gt (tgt := 110) hx hb dL_passes_44 (by decide) (fun c_8 => absurd c_8 ((fun z9 => absurd ((nI_ltI (a := n) (b := k + 1) (by omega) (by omega)).mp z9) (by omega)))) (fun c_8 => ?_)
      refine lv_aload_n hx hb dL_passes_47 rfl (lv_at hl 6 rfl) ?_
      refine lv_iconst (v := 1) hx hb dL_passes_48 (by decide) ?_
      refine lMi (fun q ⟨j9, h1, h2⟩ => by rw [h2]; exact hz2 j9 h1) (vx_runSW (As := [.ref (ad2 0), .int 1]) (rest := []) ⟨hx, hb, hml, hown, hts⟩ (c_L_advance l hst D cy ad2 hj2 (sAdv σ k) sz 1 (nI (Ad (sAdv σ (k + 1)) - Ad (sAdv σ k))) ((w2_0 (kA_0 (n := 1) (by omega) (by omega))).trans ((adv_ans hI hh9 hN9 hFu (k := k) (n := 1) (by omega)).1)) (sAdv σ (k + 1)) (if_pos (kA_0 (n := 1) (by omega) (by omega)))) (vx_cwSW 2 hts gL_passes_L_advance rfl rfl rfl (by decide +kernel) ⟨Nat.le_of_ble_eq_true rfl, Nat.le_of_ble_eq_true rfl⟩) ⟨cx_bl, cx_S hP.left.right hK Az_z hxk hS⟩ rfl rfl hl.1 rfl (lv_room (Nat.le_of_ble_eq_true rfl)) dL_passes_49 ⟨by show _ ≤ 210; omega, by show _ ≤ 1260; omega⟩) hS (fun H locs hPW hS hk1 => ?_)
      have hP := setT hne hTt hP hPW hk1
      refine W.eq (g2 := F0 m 52 ls [.int (nI (Ad (sAdv σ (k + 1)) - Ad (sAdv σ k)))]) rfl ?_
      refine lv_istore (lv' := [(8, .int (nI (Ad (sAdv σ (k + 1)) - Ad (sAdv σ k)))), (7, .int (nI (k + 1))), (5, .int (nI (Ad (sAdv σ k) - Ad σ))), (6, .int 1), (3, .int (-1)), (4, .int (nI h)), (0, .ref (ad 0)), (1, .ref (ad2 0)), (2, .int (nI n))]) hx hb dL_passes_52 hl (by decide) rfl (fun ls hl => ?_)
      refine lv_iload hx hb dL_passes_54 (lv_at hl 2 rfl) ?_
      refine lv_iload hx hb dL_passes_56 (lv_at hl 0 rfl) ?_
      refine lv_iadd hx hb dL_passes_58 ?_
      refine W.eq (congrArg (fun z9 => F0 m 59 ls [.int z9]) (nI_add (Ad (sAdv σ k) - Ad σ) (Ad (sAdv σ (k + 1)) - Ad (sAdv σ k)))) ?_
      refine lv_istore (lv' := [(5, .int (nI (Ad (sAdv σ k) - Ad σ + (Ad (sAdv σ (k + 1)) - Ad (sAdv σ k))))), (8, .int (nI (Ad (sAdv σ (k + 1)) - Ad (sAdv σ k)))), (7, .int (nI (k + 1))), (6, .int 1), (3, .int (-1)), (4, .int (nI h)), (0, .ref (ad 0)), (1, .ref (ad2 0)), (2, .int (nI n))]) hx hb dL_passes_59 hl (by decide) rfl (fun ls hl => ?_)
      refine lv_iload hx hb dL_passes_61 (lv_at hl 3 rfl) ?_
      refine lv_if_eq (tgt := 101) hx hb dL_passes_63 (by decide) (fun c_9 => absurd c_9 ((by decide : ¬ (1 : Int32) = 0))) (fun c_9 => ?_)
      refine lv_iload hx hb dL_passes_66 (lv_at hl 1 rfl) ?_
      refine lv_if_lt (tgt := 101) hx hb dL_passes_68 (by decide) (fun c_10 => absurd c_10 ((fun z9 => absurd ((nI_ltI (a := Ad (sAdv σ (k + 1)) - Ad (sAdv σ k)) (b := 0) (by omega) (by omega)).mp z9) (by omega)))) (fun c_10 => ?_)
      refine lv_iload_n hx hb dL_passes_71 rfl (lv_at hl 4 rfl) ?_
      refine lv_if_le (tgt := 81) hx hb dL_passes_72 (by decide) (fun c_11 => ?_) (fun c_11 => absurd ((by decide : (-1 : Int32) ≤ 0)) c_11)
      refine lv_iload hx hb dL_passes_81 (lv_at hl 1 rfl) ?_
      refine lv_if_ne (tgt := 101) hx hb dL_passes_83 (by decide) (fun c_12 => absurd (((nI_eq (a := Ad (sAdv σ (k + 1)) - Ad (sAdv σ k)) (b := 0) (by omega) (by omega)).mpr (by omega))) c_12) (fun c_12 => ?_)
      refine lv_iload hx hb dL_passes_86 (lv_at hl 2 rfl) ?_
      refine lv_iload_n hx hb dL_passes_88 rfl (lv_at hl 4 rfl) ?_
      refine lv_icmp_ne (tgt := 97) hx hb dL_passes_89 (by decide) (fun c_13 => ?_) (fun c_13 => absurd c_13 ((nI_ne_m1 (by omega))))
      refine lv_iconst (v := 1) hx hb dL_passes_97 (by decide) ?_
      refine lv_goto (tgt := 102) hx hb dL_passes_98 (by decide) ?_
      refine lv_istore (lv' := [(6, .int 1), (5, .int (nI (Ad (sAdv σ k) - Ad σ + (Ad (sAdv σ (k + 1)) - Ad (sAdv σ k))))), (8, .int (nI (Ad (sAdv σ (k + 1)) - Ad (sAdv σ k)))), (7, .int (nI (k + 1))), (3, .int (-1)), (4, .int (nI h)), (0, .ref (ad 0)), (1, .ref (ad2 0)), (2, .int (nI n))]) hx hb dL_passes_102 hl (by decide) rfl (fun ls hl => ?_)
      refine lv_iinc (v := nI (k + 1 + 1)) (lv' := [(7, .int (nI (k + 1 + 1))), (6, .int 1), (5, .int (nI (Ad (sAdv σ k) - Ad σ + (Ad (sAdv σ (k + 1)) - Ad (sAdv σ k))))), (8, .int (nI (Ad (sAdv σ (k + 1)) - Ad (sAdv σ k)))), (3, .int (-1)), (4, .int (nI h)), (0, .ref (ad 0)), (1, .ref (ad2 0)), (2, .int (nI n))]) hx hb dL_passes_104 hl (k := 3) rfl (nI_1 (k + 1)) (by decide) rfl (fun ls hl => ?_)
      refine lv_goto (tgt := 41) hx hb dL_passes_107 (by decide) ?_
      have e70 : nI (Ad (sAdv σ (k + 1)) - Ad σ) = nI (Ad (sAdv σ k) - Ad σ + (Ad (sAdv σ (k + 1)) - Ad (sAdv σ k))) := by exact congrArg nI (by omega)
      exact ih41 H locs ls _ _ (by omega) (by omega) (show lv_has ls 9 [(7, .int (nI ((k + 1) + 1))), (5, .int (nI (Ad (sAdv σ (k + 1)) - Ad σ))), (6, .int 1), (3, .int (-1)), (4, .int (nI h)), (0, .ref (ad 0)), (1, .ref (ad2 0)), (2, .int (nI n))] from by rw [e70]; exact lv_sub hl [0, 2, 1, 4, 5, 6, 7, 8] rfl) hP hS
  · refine lv_aload_n hx hb dL_passes_0 rfl (lv_at hl 0 rfl) ?_
    refine cS (W.runV (As := []) (rest := []) ⟨hx, hb, hml, hown, hts⟩ (c_X3_nextChange l D cy ad σ) (cwV 0 hts gL_passes_X3_nextChange rfl rfl rfl (by decide +kernel) ⟨Nat.le_of_ble_eq_true rfl, Nat.le_of_ble_eq_true rfl⟩) ⟨cw_bl, cw_F hP.left.left hK, cw_at hP.left.left hK⟩ rfl rfl hl.1 rfl (lv_room (Nat.le_of_ble_eq_true rfl)) dL_passes_1 ⟨by show _ ≤ 210; omega, by show _ ≤ 1260; omega⟩) (fun _ _ => ?_)
    refine W.eq (g2 := F0 m 4 ls [.int (rNextChange σ)]) rfl ?_
    refine W.eq (g2 := F0 m 4 ls [.int (nI c8)]) (by rw [hnx]) ?_
    refine lv_istore_n (lv' := [(3, .int (nI c8)), (0, .ref (ad 0)), (1, .ref (ad2 0)), (2, .int (nI n))]) hx hb dL_passes_4 rfl hl (by decide) rfl (fun ls hl => ?_)
    refine lv_aload_n hx hb dL_passes_5 rfl (lv_at hl 1 rfl) ?_
    refine cS (W.runV (As := []) (rest := []) ⟨hx, hb, hml, hown, hts⟩ (c_X3_now l D cy ad σ) (cwV 0 hts gL_passes_X3_now rfl rfl rfl (by decide +kernel) ⟨Nat.le_of_ble_eq_true rfl, Nat.le_of_ble_eq_true rfl⟩) ⟨cw_bl, cw_F hP.left.left hK, cw_at hP.left.left hK⟩ rfl rfl hl.1 rfl (lv_room (Nat.le_of_ble_eq_true rfl)) dL_passes_6 ⟨by show _ ≤ 210; omega, by show _ ≤ 1260; omega⟩) (fun _ _ => ?_)
    refine W.eq (g2 := F0 m 9 ls [.int (σ 20 6)]) rfl ?_
    refine W.eq (g2 := F0 m 9 ls [.int (nI h)]) (by rw [hh]) ?_
    refine lv_istore (lv' := [(4, .int (nI h)), (3, .int (nI c8)), (0, .ref (ad 0)), (1, .ref (ad2 0)), (2, .int (nI n))]) hx hb dL_passes_9 hl (by decide) rfl (fun ls hl => ?_)
    refine lv_iconst (v := 0) hx hb dL_passes_11 (by decide) ?_
    refine lv_istore (lv' := [(5, .int 0), (4, .int (nI h)), (3, .int (nI c8)), (0, .ref (ad 0)), (1, .ref (ad2 0)), (2, .int (nI n))]) hx hb dL_passes_12 hl (by decide) rfl (fun ls hl => ?_)
    refine lv_iload_n hx hb dL_passes_14 rfl (lv_at hl 2 rfl) ?_
    refine lv_aload_n hx hb dL_passes_15 rfl (lv_at hl 4 rfl) ?_
    refine cS (W.runV (As := []) (rest := [.int (nI c8)]) ⟨hx, hb, hml, hown, hts⟩ (c_X3_nextChange l D cy ad2 σ) (cwV 0 hts gL_passes_X3_nextChange rfl rfl rfl (by decide +kernel) ⟨Nat.le_of_ble_eq_true rfl, Nat.le_of_ble_eq_true rfl⟩) ⟨cw_bl, cw_F hP.left.right hK, cw_at hP.left.right hK⟩ rfl rfl hl.1 rfl (lv_room (Nat.le_of_ble_eq_true rfl)) dL_passes_16 ⟨by show _ ≤ 210; omega, by show _ ≤ 1260; omega⟩) (fun _ _ => ?_)
    refine W.eq (g2 := F0 m 19 ls [.int (rNextChange σ), .int (nI c8)]) rfl ?_
    refine W.eq (g2 := F0 m 19 ls [.int (nI c8), .int (nI c8)]) (by rw [hnx]) ?_
    refine lv_icmp_ne (tgt := 35) hx hb dL_passes_19 (by decide) (fun c_14 => absurd (rfl) c_14) (fun c_14 => ?_)
    refine lv_iload_n hx hb dL_passes_22 rfl (lv_at hl 2 rfl) ?_
    refine lv_iconst (v := (-1)) hx hb dL_passes_23 (by decide) ?_
    refine lv_icmp_eq (tgt := 31) hx hb dL_passes_24 (by decide) (fun c_15 => absurd c_15 ((nI_ne_m1 (by omega)))) (fun c_15 => ?_)
    refine lv_iload_n hx hb dL_passes_27 rfl (lv_at hl 2 rfl) ?_
    refine lv_if_le (tgt := 35) hx hb dL_passes_28 (by decide) (fun c_16 => absurd c_16 ((fun z9 => absurd ((nI_leI (a := c8) (b := 0) (by omega) (by omega)).mp z9) (by omega)))) (fun c_16 => ?_)
    refine lv_iconst (v := 1) hx hb dL_passes_31 (by decide) ?_
    refine lv_goto (tgt := 36) hx hb dL_passes_32 (by decide) ?_
    refine lv_istore (lv' := [(6, .int 1), (5, .int 0), (4, .int (nI h)), (3, .int (nI c8)), (0, .ref (ad 0)), (1, .ref (ad2 0)), (2, .int (nI n))]) hx hb dL_passes_36 hl (by decide) rfl (fun ls hl => ?_)
    refine lv_iconst (v := 1) hx hb dL_passes_38 (by decide) ?_
    refine lv_istore (lv' := [(7, .int 1), (6, .int 1), (5, .int 0), (4, .int (nI h)), (3, .int (nI c8)), (0, .ref (ad 0)), (1, .ref (ad2 0)), (2, .int (nI n))]) hx hb dL_passes_39 hl (by decide) rfl (fun ls hl => ?_)
    have e50 : nI (Ad (sAdv σ 0) - Ad σ) = 0 := by show nI (Ad σ - Ad σ) = 0; rw [Nat.sub_self]; rfl
    have hl : lv_has ls 9 [(7, .int 1), (6, .int 1), (5, .int (nI (Ad (sAdv σ 0) - Ad σ))), (4, .int (nI h)), (3, .int (nI c8)), (0, .ref (ad 0)), (1, .ref (ad2 0)), (2, .int (nI n))] := by rw [e50]; exact hl
    have hl0 : lv_has ls 9 [(7, .int (nI 1)), (5, .int (nI (Ad (sAdv σ 0) - Ad σ))), (6, .int 1), (3, .int (nI c8)), (4, .int (nI h)), (0, .ref (ad 0)), (1, .ref (ad2 0)), (2, .int (nI n))] := lv_sub hl [0, 2, 1, 4, 3, 5, 6, 7] rfl
    refine w_loopG n (0) 1 (0) 6 (fun k H => va_P D vwCl (X2 cy ad ad2 σ (sAdv σ k) ++ T) H) (fun k => [(7, .int (nI (k + 1))), (5, .int (nI (Ad (sAdv σ k) - Ad σ))), (6, .int 1), (3, .int (nI c8)), (4, .int (nI h)), (0, .ref (ad 0)), (1, .ref (ad2 0)), (2, .int (nI n))]) hl0 hP hS (Nat.le_refl _) (Nat.le_refl _) (fun H locs ls hl hG hS => ?_) (fun k hk H locs ls hl hG hS ih => ?_)
    · have hl : lv_has ls 9 [(7, .int (nI (n + 1))), (5, .int (nI (Ad (sAdv σ n) - Ad σ))), (6, .int 1), (3, .int (nI c8)), (4, .int (nI h)), (0, .ref (ad 0)), (1, .ref (ad2 0)), (2, .int (nI n))] := hl
      have hP : va_P D vwCl (X2 cy ad ad2 σ (sAdv σ n) ++ T) H := hG
      obtain ⟨i1, i2, i3, i4⟩ := adv_all hI hh9 hN9 hFu n hn2
      refine lv_iload hx hb dL_passes_41 (lv_at hl 0 rfl) ?_
      refine lv_iload_n hx hb dL_passes_43 rfl (lv_at hl 7 rfl) ?_
      refine lv_icmp_gt (tgt := 110) hx hb dL_passes_44 (by decide) (fun c_17 => ?_) (fun c_17 => absurd (((nI_ltI (a := n) (b := n + 1) (by omega) (by omega)).mpr (by omega))) c_17)
      refine lv_iload hx hb dL_passes_110 (lv_at hl 2 rfl) ?_
      refine lv_if_eq (tgt := 151) hx hb dL_passes_112 (by decide) (fun c_18 => absurd c_18 ((by decide : ¬ (1 : Int32) = 0))) (fun c_18 => ?_)
      refine lv_aload_n hx hb dL_passes_115 rfl (lv_at hl 5 rfl) ?_
      refine lv_iload_n hx hb dL_passes_116 rfl (lv_at hl 7 rfl) ?_
      refine lMi (fun q ⟨j9, h1, h2⟩ => by rw [h2]; exact hz j9 h1) (vx_runSW (As := [.ref (ad 0), .int (nI n)]) (rest := []) ⟨hx, hb, hml, hown, hts⟩ (c_L_advance l hst D cy ad hj σ sz (nI n) (nI (Ad (sAdv σ n) - Ad σ)) ((w2_0 (kA_0 hn0 hn2)).trans (by have h9 := (adv_ans hI hh9 hN9 hFu (k := 0) (n := n) (by omega)).1; rw [Nat.zero_add] at h9; unfold rAdvance gAdvance; rw [ix_nI (by omega)]; exact h9)) (sAdv σ n) (by rw [if_pos (kA_0 hn0 hn2)]; unfold gAdvance; rw [ix_nI (by omega)])) (vx_cwSW 2 hts gL_passes_L_advance rfl rfl rfl (by decide +kernel) ⟨Nat.le_of_ble_eq_true rfl, Nat.le_of_ble_eq_true rfl⟩) ⟨cx_bl, cx_S hP.left.left hK Az_z hxk hS⟩ rfl rfl hl.1 rfl (lv_room (Nat.le_of_ble_eq_true rfl)) dL_passes_117 ⟨by show _ ≤ 210; omega, by show _ ≤ 1260; omega⟩) hS (fun H locs hPW hS hk1 => ?_)
      have hP := setO hne hTo hP hPW hk1
      refine W.eq (g2 := F0 m 120 ls [.int (nI (Ad (sAdv σ n) - Ad σ))]) rfl ?_
      refine lv_iload hx hb dL_passes_120 (lv_at hl 1 rfl) ?_
      refine lv_icmp_ne (tgt := 151) hx hb dL_passes_122 (by decide) (fun c_19 => absurd (rfl) c_19) (fun c_19 => ?_)
      refine lv_aload_n hx hb dL_passes_125 rfl (lv_at hl 5 rfl) ?_
      refine cS (W.runV (As := []) (rest := []) ⟨hx, hb, hml, hown, hts⟩ (c_X3_now l D cy ad (sAdv σ n)) (cwV 0 hts gL_passes_X3_now rfl rfl rfl (by decide +kernel) ⟨Nat.le_of_ble_eq_true rfl, Nat.le_of_ble_eq_true rfl⟩) ⟨cw_bl, cw_F hP.left.left hK, cw_at hP.left.left hK⟩ rfl rfl hl.1 rfl (lv_room (Nat.le_of_ble_eq_true rfl)) dL_passes_126 ⟨by show _ ≤ 210; omega, by show _ ≤ 1260; omega⟩) (fun _ _ => ?_)
      refine W.eq (g2 := F0 m 129 ls [.int ((sAdv σ n) 20 6)]) rfl ?_
      refine W.eq (g2 := F0 m 129 ls [.int (nI (h + n))]) (by rw [i1.1]) ?_
      refine lv_iload hx hb dL_passes_129 (lv_at hl 4 rfl) ?_
      refine lv_iload_n hx hb dL_passes_131 rfl (lv_at hl 7 rfl) ?_
      refine lv_iadd hx hb dL_passes_132 ?_
      refine W.eq (congrArg (fun z9 => F0 m 133 ls [.int z9, .int (nI (h + n))]) (nI_add h n)) ?_
      refine lv_icmp_ne (tgt := 151) hx hb dL_passes_133 (by decide) (fun c_20 => absurd (rfl) c_20) (fun c_20 => ?_)
      refine lv_aload_n hx hb dL_passes_136 rfl (lv_at hl 6 rfl) ?_
      refine cS (W.runV (As := []) (rest := []) ⟨hx, hb, hml, hown, hts⟩ (c_X3_now l D cy ad2 (sAdv σ n)) (cwV 0 hts gL_passes_X3_now rfl rfl rfl (by decide +kernel) ⟨Nat.le_of_ble_eq_true rfl, Nat.le_of_ble_eq_true rfl⟩) ⟨cw_bl, cw_F hP.left.right hK, cw_at hP.left.right hK⟩ rfl rfl hl.1 rfl (lv_room (Nat.le_of_ble_eq_true rfl)) dL_passes_137 ⟨by show _ ≤ 210; omega, by show _ ≤ 1260; omega⟩) (fun _ _ => ?_)
      refine W.eq (g2 := F0 m 140 ls [.int ((sAdv σ n) 20 6)]) rfl ?_
      refine W.eq (g2 := F0 m 140 ls [.int (nI (h + n))]) (by rw [i1.1]) ?_
      refine lv_aload_n hx hb dL_passes_140 rfl (lv_at hl 5 rfl) ?_
      refine cS (W.runV (As := []) (rest := [.int (nI (h + n))]) ⟨hx, hb, hml, hown, hts⟩ (c_X3_now l D cy ad (sAdv σ n)) (cwV 0 hts gL_passes_X3_now rfl rfl rfl (by decide +kernel) ⟨Nat.le_of_ble_eq_true rfl, Nat.le_of_ble_eq_true rfl⟩) ⟨cw_bl, cw_F hP.left.left hK, cw_at hP.left.left hK⟩ rfl rfl hl.1 rfl (lv_room (Nat.le_of_ble_eq_true rfl)) dL_passes_141 ⟨by show _ ≤ 210; omega, by show _ ≤ 1260; omega⟩) (fun _ _ => ?_)
      refine W.eq (g2 := F0 m 144 ls [.int ((sAdv σ n) 20 6), .int (nI (h + n))]) rfl ?_
      refine W.eq (g2 := F0 m 144 ls [.int (nI (h + n)), .int (nI (h + n))]) (by rw [i1.1]) ?_
      refine lv_icmp_ne (tgt := 151) hx hb dL_passes_144 (by decide) (fun c_21 => absurd (rfl) c_21) (fun c_21 => ?_)
      refine lv_iconst (v := 1) hx hb dL_passes_147 (by decide) ?_
      refine lv_goto (tgt := 152) hx hb dL_passes_148 (by decide) ?_
      refine W.widen (k := 210) (n := 1260) (by omega) (by omega) ?_
      exact W.zret (v := 1) hx hb hr rfl (fun t ht hW => ⟨⟨_, (), rfl, rfl, by rw [← ht] at hP; exact hP⟩, hS.F ht⟩) hS.2.2 dL_passes_152
    · have hl : lv_has ls 9 [(7, .int (nI (k + 1))), (5, .int (nI (Ad (sAdv σ k) - Ad σ))), (6, .int 1), (3, .int (nI c8)), (4, .int (nI h)), (0, .ref (ad 0)), (1, .ref (ad2 0)), (2, .int (nI n))] := hl
      have hP : va_P D vwCl (X2 cy ad ad2 σ (sAdv σ k) ++ T) H := hG
      have ih41 := ih
      have hk200 : k < 200 := by omega
      obtain ⟨i1, i2, i3, i4⟩ := adv_all hI hh9 hN9 hFu k (by omega)
      have hqk := hq k hk200
      have hsum := (adv_ans hI hh9 hN9 hFu (k := k) (n := 1) (by omega)).2
      obtain ⟨hs1, hs2⟩ := hsum
      rcases Nat.lt_trichotomy (k + 1) c8 with hc | hc | hc
      · have hqe := hqk.1 hc
        refine lv_iload hx hb dL_passes_41 (lv_at hl 0 rfl) ?_
        refine lv_iload_n hx hb dL_passes_43 rfl (lv_at hl 7 rfl) ?_
        refine lv_icmp_gt (tgt := 110) hx hb dL_passes_44 (by decide) (fun c_22 => absurd c_22 ((fun z9 => absurd ((nI_ltI (a := n) (b := k + 1) (by omega) (by omega)).mp z9) (by omega)))) (fun c_22 => ?_)
        refine lv_aload_n hx hb dL_passes_47 rfl (lv_at hl 6 rfl) ?_
        refine lv_iconst (v := 1) hx hb dL_passes_48 (by decide) ?_
        refine lMi (fun q ⟨j9, h1, h2⟩ => by rw [h2]; exact hz2 j9 h1) (vx_runSW (As := [.ref (ad2 0), .int 1]) (rest := []) ⟨hx, hb, hml, hown, hts⟩ (c_L_advance l hst D cy ad2 hj2 (sAdv σ k) sz 1 (nI (Ad (sAdv σ (k + 1)) - Ad (sAdv σ k))) ((w2_0 (kA_0 (n := 1) (by omega) (by omega))).trans ((adv_ans hI hh9 hN9 hFu (k := k) (n := 1) (by omega)).1)) (sAdv σ (k + 1)) (if_pos (kA_0 (n := 1) (by omega) (by omega)))) (vx_cwSW 2 hts gL_passes_L_advance rfl rfl rfl (by decide +kernel) ⟨Nat.le_of_ble_eq_true rfl, Nat.le_of_ble_eq_true rfl⟩) ⟨cx_bl, cx_S hP.left.right hK Az_z hxk hS⟩ rfl rfl hl.1 rfl (lv_room (Nat.le_of_ble_eq_true rfl)) dL_passes_49 ⟨by show _ ≤ 210; omega, by show _ ≤ 1260; omega⟩) hS (fun H locs hPW hS hk1 => ?_)
        have hP := setT hne hTt hP hPW hk1
        refine W.eq (g2 := F0 m 52 ls [.int (nI (Ad (sAdv σ (k + 1)) - Ad (sAdv σ k)))]) rfl ?_
        refine lv_istore (lv' := [(8, .int (nI (Ad (sAdv σ (k + 1)) - Ad (sAdv σ k)))), (7, .int (nI (k + 1))), (5, .int (nI (Ad (sAdv σ k) - Ad σ))), (6, .int 1), (3, .int (nI c8)), (4, .int (nI h)), (0, .ref (ad 0)), (1, .ref (ad2 0)), (2, .int (nI n))]) hx hb dL_passes_52 hl (by decide) rfl (fun ls hl => ?_)
        refine lv_iload hx hb dL_passes_54 (lv_at hl 2 rfl) ?_
        refine lv_iload hx hb dL_passes_56 (lv_at hl 0 rfl) ?_
        refine lv_iadd hx hb dL_passes_58 ?_
        refine W.eq (congrArg (fun z9 => F0 m 59 ls [.int z9]) (nI_add (Ad (sAdv σ k) - Ad σ) (Ad (sAdv σ (k + 1)) - Ad (sAdv σ k)))) ?_
        refine lv_istore (lv' := [(5, .int (nI (Ad (sAdv σ k) - Ad σ + (Ad (sAdv σ (k + 1)) - Ad (sAdv σ k))))), (8, .int (nI (Ad (sAdv σ (k + 1)) - Ad (sAdv σ k)))), (7, .int (nI (k + 1))), (6, .int 1), (3, .int (nI c8)), (4, .int (nI h)), (0, .ref (ad 0)), (1, .ref (ad2 0)), (2, .int (nI n))]) hx hb dL_passes_59 hl (by decide) rfl (fun ls hl => ?_)
        refine lv_iload hx hb dL_passes_61 (lv_at hl 3 rfl) ?_
        refine lv_if_eq (tgt := 101) hx hb dL_passes_63 (by decide) (fun c_23 => absurd c_23 ((by decide : ¬ (1 : Int32) = 0))) (fun c_23 => ?_)
        refine lv_iload hx hb dL_passes_66 (lv_at hl 1 rfl) ?_
        refine lv_if_lt (tgt := 101) hx hb dL_passes_68 (by decide) (fun c_24 => absurd c_24 ((fun z9 => absurd ((nI_ltI (a := Ad (sAdv σ (k + 1)) - Ad (sAdv σ k)) (b := 0) (by omega) (by omega)).mp z9) (by omega)))) (fun c_24 => ?_)
        refine lv_iload_n hx hb dL_passes_71 rfl (lv_at hl 4 rfl) ?_
        refine lv_if_le (tgt := 81) hx hb dL_passes_72 (by decide) (fun c_25 => absurd c_25 ((fun z9 => absurd ((nI_leI (a := c8) (b := 0) (by omega) (by omega)).mp z9) (by omega)))) (fun c_25 => ?_)
        refine lv_iload hx hb dL_passes_75 (lv_at hl 2 rfl) ?_
        refine lv_iload_n hx hb dL_passes_77 rfl (lv_at hl 4 rfl) ?_
        refine lv_icmp_ge (tgt := 86) hx hb dL_passes_78 (by decide) (fun c_26 => absurd c_26 ((fun z9 => absurd ((nI_leI (a := c8) (b := k + 1) (by omega) (by omega)).mp z9) (by omega)))) (fun c_26 => ?_)
        refine lv_iload hx hb dL_passes_81 (lv_at hl 1 rfl) ?_
        refine lv_if_ne (tgt := 101) hx hb dL_passes_83 (by decide) (fun c_27 => absurd (((nI_eq (a := Ad (sAdv σ (k + 1)) - Ad (sAdv σ k)) (b := 0) (by omega) (by omega)).mpr (by omega))) c_27) (fun c_27 => ?_)
        refine lv_iload hx hb dL_passes_86 (lv_at hl 2 rfl) ?_
        refine lv_iload_n hx hb dL_passes_88 rfl (lv_at hl 4 rfl) ?_
        refine lv_icmp_ne (tgt := 97) hx hb dL_passes_89 (by decide) (fun c_28 => ?_) (fun c_28 => absurd c_28 ((fun z9 => absurd ((nI_eq (a := k + 1) (b := c8) (by omega) (by omega)).mp z9) (by omega))))
        refine lv_iconst (v := 1) hx hb dL_passes_97 (by decide) ?_
        refine lv_goto (tgt := 102) hx hb dL_passes_98 (by decide) ?_
        refine lv_istore (lv' := [(6, .int 1), (5, .int (nI (Ad (sAdv σ k) - Ad σ + (Ad (sAdv σ (k + 1)) - Ad (sAdv σ k))))), (8, .int (nI (Ad (sAdv σ (k + 1)) - Ad (sAdv σ k)))), (7, .int (nI (k + 1))), (3, .int (nI c8)), (4, .int (nI h)), (0, .ref (ad 0)), (1, .ref (ad2 0)), (2, .int (nI n))]) hx hb dL_passes_102 hl (by decide) rfl (fun ls hl => ?_)
        refine lv_iinc (v := nI (k + 1 + 1)) (lv' := [(7, .int (nI (k + 1 + 1))), (6, .int 1), (5, .int (nI (Ad (sAdv σ k) - Ad σ + (Ad (sAdv σ (k + 1)) - Ad (sAdv σ k))))), (8, .int (nI (Ad (sAdv σ (k + 1)) - Ad (sAdv σ k)))), (3, .int (nI c8)), (4, .int (nI h)), (0, .ref (ad 0)), (1, .ref (ad2 0)), (2, .int (nI n))]) hx hb dL_passes_104 hl (k := 3) rfl (nI_1 (k + 1)) (by decide) rfl (fun ls hl => ?_)
        refine lv_goto (tgt := 41) hx hb dL_passes_107 (by decide) ?_
        have e70 : nI (Ad (sAdv σ (k + 1)) - Ad σ) = nI (Ad (sAdv σ k) - Ad σ + (Ad (sAdv σ (k + 1)) - Ad (sAdv σ k))) := by exact congrArg nI (by omega)
        exact ih41 H locs ls _ _ (by omega) (by omega) (show lv_has ls 9 [(7, .int (nI ((k + 1) + 1))), (5, .int (nI (Ad (sAdv σ (k + 1)) - Ad σ))), (6, .int 1), (3, .int (nI c8)), (4, .int (nI h)), (0, .ref (ad 0)), (1, .ref (ad2 0)), (2, .int (nI n))] from by rw [e70]; exact lv_sub hl [0, 2, 1, 4, 5, 6, 7, 8] rfl) hP hS
      · have hqe := hqk.2 hc
        refine lv_iload hx hb dL_passes_41 (lv_at hl 0 rfl) ?_
        refine lv_iload_n hx hb dL_passes_43 rfl (lv_at hl 7 rfl) ?_
        refine lv_icmp_gt (tgt := 110) hx hb dL_passes_44 (by decide) (fun c_29 => absurd c_29 ((fun z9 => absurd ((nI_ltI (a := n) (b := k + 1) (by omega) (by omega)).mp z9) (by omega)))) (fun c_29 => ?_)
        refine lv_aload_n hx hb dL_passes_47 rfl (lv_at hl 6 rfl) ?_
        refine lv_iconst (v := 1) hx hb dL_passes_48 (by decide) ?_
        refine lMi (fun q ⟨j9, h1, h2⟩ => by rw [h2]; exact hz2 j9 h1) (vx_runSW (As := [.ref (ad2 0), .int 1]) (rest := []) ⟨hx, hb, hml, hown, hts⟩ (c_L_advance l hst D cy ad2 hj2 (sAdv σ k) sz 1 (nI (Ad (sAdv σ (k + 1)) - Ad (sAdv σ k))) ((w2_0 (kA_0 (n := 1) (by omega) (by omega))).trans ((adv_ans hI hh9 hN9 hFu (k := k) (n := 1) (by omega)).1)) (sAdv σ (k + 1)) (if_pos (kA_0 (n := 1) (by omega) (by omega)))) (vx_cwSW 2 hts gL_passes_L_advance rfl rfl rfl (by decide +kernel) ⟨Nat.le_of_ble_eq_true rfl, Nat.le_of_ble_eq_true rfl⟩) ⟨cx_bl, cx_S hP.left.right hK Az_z hxk hS⟩ rfl rfl hl.1 rfl (lv_room (Nat.le_of_ble_eq_true rfl)) dL_passes_49 ⟨by show _ ≤ 210; omega, by show _ ≤ 1260; omega⟩) hS (fun H locs hPW hS hk1 => ?_)
        have hP := setT hne hTt hP hPW hk1
        refine W.eq (g2 := F0 m 52 ls [.int (nI (Ad (sAdv σ (k + 1)) - Ad (sAdv σ k)))]) rfl ?_
        refine lv_istore (lv' := [(8, .int (nI (Ad (sAdv σ (k + 1)) - Ad (sAdv σ k)))), (7, .int (nI (k + 1))), (5, .int (nI (Ad (sAdv σ k) - Ad σ))), (6, .int 1), (3, .int (nI c8)), (4, .int (nI h)), (0, .ref (ad 0)), (1, .ref (ad2 0)), (2, .int (nI n))]) hx hb dL_passes_52 hl (by decide) rfl (fun ls hl => ?_)
        refine lv_iload hx hb dL_passes_54 (lv_at hl 2 rfl) ?_
        refine lv_iload hx hb dL_passes_56 (lv_at hl 0 rfl) ?_
        refine lv_iadd hx hb dL_passes_58 ?_
        refine W.eq (congrArg (fun z9 => F0 m 59 ls [.int z9]) (nI_add (Ad (sAdv σ k) - Ad σ) (Ad (sAdv σ (k + 1)) - Ad (sAdv σ k)))) ?_
        refine lv_istore (lv' := [(5, .int (nI (Ad (sAdv σ k) - Ad σ + (Ad (sAdv σ (k + 1)) - Ad (sAdv σ k))))), (8, .int (nI (Ad (sAdv σ (k + 1)) - Ad (sAdv σ k)))), (7, .int (nI (k + 1))), (6, .int 1), (3, .int (nI c8)), (4, .int (nI h)), (0, .ref (ad 0)), (1, .ref (ad2 0)), (2, .int (nI n))]) hx hb dL_passes_59 hl (by decide) rfl (fun ls hl => ?_)
        refine lv_iload hx hb dL_passes_61 (lv_at hl 3 rfl) ?_
        refine lv_if_eq (tgt := 101) hx hb dL_passes_63 (by decide) (fun c_30 => absurd c_30 ((by decide : ¬ (1 : Int32) = 0))) (fun c_30 => ?_)
        refine lv_iload hx hb dL_passes_66 (lv_at hl 1 rfl) ?_
        refine lv_if_lt (tgt := 101) hx hb dL_passes_68 (by decide) (fun c_31 => absurd c_31 ((fun z9 => absurd ((nI_ltI (a := Ad (sAdv σ (k + 1)) - Ad (sAdv σ k)) (b := 0) (by omega) (by omega)).mp z9) (by omega)))) (fun c_31 => ?_)
        refine lv_iload_n hx hb dL_passes_71 rfl (lv_at hl 4 rfl) ?_
        refine lv_if_le (tgt := 81) hx hb dL_passes_72 (by decide) (fun c_32 => absurd c_32 ((fun z9 => absurd ((nI_leI (a := c8) (b := 0) (by omega) (by omega)).mp z9) (by omega)))) (fun c_32 => ?_)
        refine lv_iload hx hb dL_passes_75 (lv_at hl 2 rfl) ?_
        refine lv_iload_n hx hb dL_passes_77 rfl (lv_at hl 4 rfl) ?_
        refine lv_icmp_ge (tgt := 86) hx hb dL_passes_78 (by decide) (fun c_33 => ?_) (fun c_33 => absurd (((nI_leI (a := c8) (b := k + 1) (by omega) (by omega)).mpr (by omega))) c_33)
        refine lv_iload hx hb dL_passes_86 (lv_at hl 2 rfl) ?_
        refine lv_iload_n hx hb dL_passes_88 rfl (lv_at hl 4 rfl) ?_
        refine lv_icmp_ne (tgt := 97) hx hb dL_passes_89 (by decide) (fun c_34 => absurd (((nI_eq (a := k + 1) (b := c8) (by omega) (by omega)).mpr (by omega))) c_34) (fun c_34 => ?_)
        refine lv_iload hx hb dL_passes_92 (lv_at hl 1 rfl) ?_
        refine lv_if_le (tgt := 101) hx hb dL_passes_94 (by decide) (fun c_35 => absurd c_35 ((fun z9 => absurd ((nI_leI (a := Ad (sAdv σ (k + 1)) - Ad (sAdv σ k)) (b := 0) (by omega) (by omega)).mp z9) (by omega)))) (fun c_35 => ?_)
        refine lv_iconst (v := 1) hx hb dL_passes_97 (by decide) ?_
        refine lv_goto (tgt := 102) hx hb dL_passes_98 (by decide) ?_
        refine lv_istore (lv' := [(6, .int 1), (5, .int (nI (Ad (sAdv σ k) - Ad σ + (Ad (sAdv σ (k + 1)) - Ad (sAdv σ k))))), (8, .int (nI (Ad (sAdv σ (k + 1)) - Ad (sAdv σ k)))), (7, .int (nI (k + 1))), (3, .int (nI c8)), (4, .int (nI h)), (0, .ref (ad 0)), (1, .ref (ad2 0)), (2, .int (nI n))]) hx hb dL_passes_102 hl (by decide) rfl (fun ls hl => ?_)
        refine lv_iinc (v := nI (k + 1 + 1)) (lv' := [(7, .int (nI (k + 1 + 1))), (6, .int 1), (5, .int (nI (Ad (sAdv σ k) - Ad σ + (Ad (sAdv σ (k + 1)) - Ad (sAdv σ k))))), (8, .int (nI (Ad (sAdv σ (k + 1)) - Ad (sAdv σ k)))), (3, .int (nI c8)), (4, .int (nI h)), (0, .ref (ad 0)), (1, .ref (ad2 0)), (2, .int (nI n))]) hx hb dL_passes_104 hl (k := 3) rfl (nI_1 (k + 1)) (by decide) rfl (fun ls hl => ?_)
        refine lv_goto (tgt := 41) hx hb dL_passes_107 (by decide) ?_
        have e70 : nI (Ad (sAdv σ (k + 1)) - Ad σ) = nI (Ad (sAdv σ k) - Ad σ + (Ad (sAdv σ (k + 1)) - Ad (sAdv σ k))) := by exact congrArg nI (by omega)
        exact ih41 H locs ls _ _ (by omega) (by omega) (show lv_has ls 9 [(7, .int (nI ((k + 1) + 1))), (5, .int (nI (Ad (sAdv σ (k + 1)) - Ad σ))), (6, .int 1), (3, .int (nI c8)), (4, .int (nI h)), (0, .ref (ad 0)), (1, .ref (ad2 0)), (2, .int (nI n))] from by rw [e70]; exact lv_sub hl [0, 2, 1, 4, 5, 6, 7, 8] rfl) hP hS
      · refine lv_iload hx hb dL_passes_41 (lv_at hl 0 rfl) ?_
        refine lv_iload_n hx hb dL_passes_43 rfl (lv_at hl 7 rfl) ?_
        refine lv_icmp_gt (tgt := 110) hx hb dL_passes_44 (by decide) (fun c_36 => absurd c_36 ((fun z9 => absurd ((nI_ltI (a := n) (b := k + 1) (by omega) (by omega)).mp z9) (by omega)))) (fun c_36 => ?_)
        refine lv_aload_n hx hb dL_passes_47 rfl (lv_at hl 6 rfl) ?_
        refine lv_iconst (v := 1) hx hb dL_passes_48 (by decide) ?_
        refine lMi (fun q ⟨j9, h1, h2⟩ => by rw [h2]; exact hz2 j9 h1) (vx_runSW (As := [.ref (ad2 0), .int 1]) (rest := []) ⟨hx, hb, hml, hown, hts⟩ (c_L_advance l hst D cy ad2 hj2 (sAdv σ k) sz 1 (nI (Ad (sAdv σ (k + 1)) - Ad (sAdv σ k))) ((w2_0 (kA_0 (n := 1) (by omega) (by omega))).trans ((adv_ans hI hh9 hN9 hFu (k := k) (n := 1) (by omega)).1)) (sAdv σ (k + 1)) (if_pos (kA_0 (n := 1) (by omega) (by omega)))) (vx_cwSW 2 hts gL_passes_L_advance rfl rfl rfl (by decide +kernel) ⟨Nat.le_of_ble_eq_true rfl, Nat.le_of_ble_eq_true rfl⟩) ⟨cx_bl, cx_S hP.left.right hK Az_z hxk hS⟩ rfl rfl hl.1 rfl (lv_room (Nat.le_of_ble_eq_true rfl)) dL_passes_49 ⟨by show _ ≤ 210; omega, by show _ ≤ 1260; omega⟩) hS (fun H locs hPW hS hk1 => ?_)
        have hP := setT hne hTt hP hPW hk1
        refine W.eq (g2 := F0 m 52 ls [.int (nI (Ad (sAdv σ (k + 1)) - Ad (sAdv σ k)))]) rfl ?_
        refine lv_istore (lv' := [(8, .int (nI (Ad (sAdv σ (k + 1)) - Ad (sAdv σ k)))), (7, .int (nI (k + 1))), (5, .int (nI (Ad (sAdv σ k) - Ad σ))), (6, .int 1), (3, .int (nI c8)), (4, .int (nI h)), (0, .ref (ad 0)), (1, .ref (ad2 0)), (2, .int (nI n))]) hx hb dL_passes_52 hl (by decide) rfl (fun ls hl => ?_)
        refine lv_iload hx hb dL_passes_54 (lv_at hl 2 rfl) ?_
        refine lv_iload hx hb dL_passes_56 (lv_at hl 0 rfl) ?_
        refine lv_iadd hx hb dL_passes_58 ?_
        refine W.eq (congrArg (fun z9 => F0 m 59 ls [.int z9]) (nI_add (Ad (sAdv σ k) - Ad σ) (Ad (sAdv σ (k + 1)) - Ad (sAdv σ k)))) ?_
        refine lv_istore (lv' := [(5, .int (nI (Ad (sAdv σ k) - Ad σ + (Ad (sAdv σ (k + 1)) - Ad (sAdv σ k))))), (8, .int (nI (Ad (sAdv σ (k + 1)) - Ad (sAdv σ k)))), (7, .int (nI (k + 1))), (6, .int 1), (3, .int (nI c8)), (4, .int (nI h)), (0, .ref (ad 0)), (1, .ref (ad2 0)), (2, .int (nI n))]) hx hb dL_passes_59 hl (by decide) rfl (fun ls hl => ?_)
        refine lv_iload hx hb dL_passes_61 (lv_at hl 3 rfl) ?_
        refine lv_if_eq (tgt := 101) hx hb dL_passes_63 (by decide) (fun c_37 => absurd c_37 ((by decide : ¬ (1 : Int32) = 0))) (fun c_37 => ?_)
        refine lv_iload hx hb dL_passes_66 (lv_at hl 1 rfl) ?_
        refine lv_if_lt (tgt := 101) hx hb dL_passes_68 (by decide) (fun c_38 => absurd c_38 ((fun z9 => absurd ((nI_ltI (a := Ad (sAdv σ (k + 1)) - Ad (sAdv σ k)) (b := 0) (by omega) (by omega)).mp z9) (by omega)))) (fun c_38 => ?_)
        refine lv_iload_n hx hb dL_passes_71 rfl (lv_at hl 4 rfl) ?_
        refine lv_if_le (tgt := 81) hx hb dL_passes_72 (by decide) (fun c_39 => absurd c_39 ((fun z9 => absurd ((nI_leI (a := c8) (b := 0) (by omega) (by omega)).mp z9) (by omega)))) (fun c_39 => ?_)
        refine lv_iload hx hb dL_passes_75 (lv_at hl 2 rfl) ?_
        refine lv_iload_n hx hb dL_passes_77 rfl (lv_at hl 4 rfl) ?_
        refine lv_icmp_ge (tgt := 86) hx hb dL_passes_78 (by decide) (fun c_40 => ?_) (fun c_40 => absurd (((nI_leI (a := c8) (b := k + 1) (by omega) (by omega)).mpr (by omega))) c_40)
        refine lv_iload hx hb dL_passes_86 (lv_at hl 2 rfl) ?_
        refine lv_iload_n hx hb dL_passes_88 rfl (lv_at hl 4 rfl) ?_
        refine lv_icmp_ne (tgt := 97) hx hb dL_passes_89 (by decide) (fun c_41 => ?_) (fun c_41 => absurd c_41 ((fun z9 => absurd ((nI_eq (a := k + 1) (b := c8) (by omega) (by omega)).mp z9) (by omega))))
        refine lv_iconst (v := 1) hx hb dL_passes_97 (by decide) ?_
        refine lv_goto (tgt := 102) hx hb dL_passes_98 (by decide) ?_
        refine lv_istore (lv' := [(6, .int 1), (5, .int (nI (Ad (sAdv σ k) - Ad σ + (Ad (sAdv σ (k + 1)) - Ad (sAdv σ k))))), (8, .int (nI (Ad (sAdv σ (k + 1)) - Ad (sAdv σ k)))), (7, .int (nI (k + 1))), (3, .int (nI c8)), (4, .int (nI h)), (0, .ref (ad 0)), (1, .ref (ad2 0)), (2, .int (nI n))]) hx hb dL_passes_102 hl (by decide) rfl (fun ls hl => ?_)
        refine lv_iinc (v := nI (k + 1 + 1)) (lv' := [(7, .int (nI (k + 1 + 1))), (6, .int 1), (5, .int (nI (Ad (sAdv σ k) - Ad σ + (Ad (sAdv σ (k + 1)) - Ad (sAdv σ k))))), (8, .int (nI (Ad (sAdv σ (k + 1)) - Ad (sAdv σ k)))), (3, .int (nI c8)), (4, .int (nI h)), (0, .ref (ad 0)), (1, .ref (ad2 0)), (2, .int (nI n))]) hx hb dL_passes_104 hl (k := 3) rfl (nI_1 (k + 1)) (by decide) rfl (fun ls hl => ?_)
        refine lv_goto (tgt := 41) hx hb dL_passes_107 (by decide) ?_
        have e70 : nI (Ad (sAdv σ (k + 1)) - Ad σ) = nI (Ad (sAdv σ k) - Ad σ + (Ad (sAdv σ (k + 1)) - Ad (sAdv σ k))) := by exact congrArg nI (by omega)
        exact ih41 H locs ls _ _ (by omega) (by omega) (show lv_has ls 9 [(7, .int (nI ((k + 1) + 1))), (5, .int (nI (Ad (sAdv σ (k + 1)) - Ad σ))), (6, .int 1), (3, .int (nI c8)), (4, .int (nI h)), (0, .ref (ad 0)), (1, .ref (ad2 0)), (2, .int (nI n))] from by rw [e70]; exact lv_sub hl [0, 2, 1, 4, 5, 6, 7, 8] rfl) hP hS
