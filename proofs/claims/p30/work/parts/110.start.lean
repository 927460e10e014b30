/-! what the law starts from -/
theorem xk_start {b : Nat} {s : State} (hts : ∀ w ∈ lw_tbl, w.before #[Value.ref b] s = true) (hgv : (Jvm.Cond.and given_1 narrow_1).before #[Value.ref b] s = true) : xk s.heap.size s := by
  have hfl := flat_of_before _ hgv
  refine ⟨?_, ?_, fun w hw => va_Nw.of ((by decide +kernel : ∀ w ∈ xkW, w.onTables = true) w hw) (hts w ((by decide +kernel : ∀ w ∈ xkW, w ∈ lw_tbl) w hw)), fun q hq => va_Nc.of (hfl (.not (.castable q.1 q.2)) ((by decide +kernel : ∀ q ∈ xkN, Cond.not (.castable q.1 q.2) ∈ flatC (Jvm.Cond.and given_1 narrow_1)) q hq)), fun q hq => ?_⟩
  · exact vx_Zqof (hts (.laysStatic Bundle.tN "UNASSIGNED_STACK" Bundle.steD) (by decide +kernel)) (hts (.initialized Bundle.tN) (by decide +kernel)) (hfl (.isRef (.static Bundle.tN "UNASSIGNED_STACK" Bundle.steD)) (by decide +kernel)) (fun a h => Nat.not_le.mpr h)
  · exact vx_Zqof (hts (.laysStatic Bundle.tN "SUPPRESSED_SENTINEL" Bundle.listD) (by decide +kernel)) (hts (.initialized Bundle.tN) (by decide +kernel)) (hfl (.isRef (.static Bundle.tN "SUPPRESSED_SENTINEL" Bundle.listD)) (by decide +kernel)) (fun a h => Nat.not_le.mpr h)
  · have h1 := hts (.stringRef RX3 q.1 q.2) ((by decide +kernel : ∀ q ∈ xkS, Cond.stringRef RX3 q.1 q.2 ∈ lw_tbl) q hq)
    have h2 := hfl (.exactly (.string RX3 q.1) "java/lang/String") ((by decide +kernel : ∀ q ∈ xkS, Cond.exactly (.string RX3 q.1) "java/lang/String" ∈ flatC (Jvm.Cond.and given_1 narrow_1)) q hq)
    obtain ⟨a, c, cA, kA, q1, -⟩ := Cond.exactly_spec (args := #[Value.ref b]) (first := s) (o := none) (s := s) (idx := []) (t := .string RX3 q.1) (cls := "java/lang/String") h2
    exact ⟨a, vk_R.of h1 q1⟩
theorem arr_i {args : Array Value} {s : State} (h : (Cond.arrayClass .int).before args s = true) : ∃ cA, ArrOfT s cA .int ∧ va_RA s cA .int := by
  obtain ⟨cA, kA, comp, h1, h2, h3⟩ := Cond.arrayClass_spec h
  exact ⟨cA, fun n z => ⟨fun k h => (by cases h), kA, h2, comp, h3⟩, h1⟩
theorem arr_q {C : String} {args : Array Value} {s : State} (h : (Cond.arrayOver (.object C)).before args s = true) : ∃ cA, ArrOfT s cA (.object C) ∧ va_RA s cA (.object C) := by
  obtain ⟨comp, c, k, h1, h2, h3, h4, h5⟩ := Cond.arrayOver_spec h
  exact ⟨c, fun n z => ⟨fun k h => (by cases h), k, h3, comp, h4⟩, k, comp, h3, h4, h1, h5⟩
theorem K_start {b : Nat} {s : State} (hts : ∀ w ∈ lw_tbl, w.before #[Value.ref b] s = true) : ∃ (D : va_G) (cy : Nat → ClassId), va_K D vwCl (tyC cy) s := by
  obtain ⟨c0, i0, k0⟩ := u_known (C := RX0) (T := TX0) (N := 8) (n := 8) hts inX0 (hts (.instantiable RX0 8) (by decide +kernel))
  obtain ⟨c1, i1, k1⟩ := u_known (C := RX1) (T := TX1) (N := 3) (n := 3) hts inX1 (hts (.instantiable RX1 3) (by decide +kernel))
  obtain ⟨c2, i2, k2⟩ := u_known (C := RX2) (T := TX2) (N := 10) (n := 10) hts inX2 (hts (.instantiable RX2 10) (by decide +kernel))
  obtain ⟨c3, i3, k3⟩ := u_known (C := RX3) (T := TX3) (N := 9) (n := 9) hts inX3 (hts (.instantiable RX3 9) (by decide +kernel))
  obtain ⟨a0, r0⟩ := arr_i (hts (.arrayClass .int) (by decide +kernel))
  obtain ⟨a2, r2⟩ := arr_q (C := "MachineFoundry$Image") (hts (.arrayOver (.object "MachineFoundry$Image")) (by decide +kernel))
  obtain ⟨a3, r3⟩ := arr_q (C := "MachineFoundry$Machine") (hts (.arrayOver (.object "MachineFoundry$Machine")) (by decide +kernel))
  refine ⟨(fun k => match k with | 0 => c0 | 1 => c1 | 2 => c2 | _ => c3, fun k => match k with | 0 => i0 | 1 => i1 | 2 => i2 | _ => i3), fun k => match k with | 2 => a2 | 3 => a3 | _ => a0, fun k q hq => ?_, fun k q hq => ?_⟩
  · match k, hq with
    | 0, hq => cases hq; exact k0
    | 1, hq => cases hq; exact k1
    | 2, hq => cases hq; exact k2
    | 3, hq => cases hq; exact k3
    | k + 4, hq => simp [vwCl] at hq
  · match k, hq with
    | 0, hq => cases hq; exact r0
    | 1, hq => cases hq; exact r0
    | 2, hq => cases hq; exact r2
    | 3, hq => cases hq; exact r3
    | 4, hq => cases hq; exact r0
    | k + 5, hq => simp at hq
theorem inj31_of {A : Nat → Prop} {cy : Nat → ClassId} {ad : Nat → Nat} {σ : Mem} (h : va_D A (wC cy ad σ)) : inj31 ad := fun i j hi hj e => h.1 i j _ _ (wC_at hi) (wC_at hj) e
theorem wC_A {A : Nat → Prop} {cy : Nat → ClassId} {ad : Nat → Nat} {σ : Mem} (h : va_D A (wC cy ad σ)) : ∀ k, k < 31 → A (ad k) := fun k hk => h.2 k _ (wC_at hk)
theorem last_ne {A : Nat → Prop} {ws : va_W} {q : Nat} {e : va_E} (h : va_D A (ws ++ [(q, e)])) : ∀ (k : Nat) (x : Nat × va_E), ws[k]? = some x → x.1 ≠ q := by
  intro k x hx e9
  have hl := (List.getElem?_eq_some_iff.mp hx).1
  have := h.1 k ws.length x (q, e) (by rw [List.getElem?_append_left hl]; exact hx) (wget _ [] ws) e9
  omega

theorem nx_0 : rNextChange σ0 = -1 := by decide +kernel
theorem en_0 : sKept σ0 = 0 := by decide +kernel
theorem wi_0 : σ0 20 7 = 0 := rfl
theorem no_0 : σ0 20 6 = 0 := rfl
theorem q_0 (r : Int32) (y : Nat) : sQ σ0 y r = false := by
  unfold sQ
  rw [show decide (σ0 1 y = 2) = false from rfl, Bool.false_and]
theorem inv_0 : Inv PN 0 0 σ0 := by
  refine ⟨rfl, fun i _ => ⟨0, 0, 0, by omega, rfl, by omega, rfl, rfl, by omega, fun _ => by omega, fun _ => rfl, fun z => absurd z (by omega), fun z => absurd z (by omega), fun z => absurd z (by omega)⟩, ⟨⟨1, by omega, by omega, rfl⟩, ⟨3, by omega, by omega, rfl⟩, fun k _ z => absurd rfl z⟩, ⟨0, Nat.le_refl 0, rfl, fun i _ z => absurd z (show ¬ σ0 1 i = 2 from (by decide : ¬ (0 : Int32) = 2)), fun i j _ _ z => absurd z (show ¬ σ0 1 i = 2 from (by decide : ¬ (0 : Int32) = 2))⟩, ⟨0, Nat.le_refl 0, rfl, fun k _ z => absurd z (Nat.not_lt_zero k)⟩⟩
theorem full_0 : Full σ0 := fun r _ => Or.inl (sQA_empty (ct_none (fun y _ => q_0 (nI r) y)))
/-- a cell of the script, or a number made for it -/
theorem va_Xat {b L : Nat} {xs : Nat → Int32} {A : Nat → Prop} {s : State} {H : Heap} {locs : List Loc} (hX : va_X b L xs s s.heap) (hbl : b < s.heap.size) (hbA : ¬ A b) (hS : va_S A s.heap H locs) : ∀ U : State, U.heap = H → s.WarmedH U.vm → va_X b L xs U U.heap ∧ b < U.heap.size := fun U hU hW => by
  rw [hU]
  exact ⟨(hX.moved hW.alike).kept (hS.2.1 b hbl hbA), Nat.lt_of_lt_of_le hbl hS.1⟩
set_option maxHeartbeats 1000000 in
theorem c_L_at (l : Launch) (b L : Nat) (xs : Nat → Int32) (hL : L ≤ 260) (j : Nat) (hj : j < 1000) : Met l yL_at wsL_at ({ frames := 0, cells := 0, slots := 0, locals := 0 }) (va_Pc [.ref b, .int (nI j)] (fun U => va_X b L xs U U.heap ∧ b < U.heap.size)) (SR (fun r : Int32 => some (.int r)) (fun _ => True)) 0 0 NoA := by
  refine Met.ofW (cc := cL_at) (maxL := 2) (ret := (some .int)) (by decide) rfl ?_
  intro p e s m args below meth c s₁ B hml hv
  obtain ⟨rfl, hX, hbl⟩ := hv
  have hx := B.exec
  have hb := B.bytes
  have hr := B.returns
  have hts := atoms_spec (ws := wsL_at) B.pre
  have hown : s.vm.findClass RL = some m.cls := findClass_of_methodNamed B.named
  have hS : va_S NoA s.heap s.heap [] := va_S.rf
  have hl := lv_entry ([.ref b, .int (nI j)]) (n := 2) (Nat.le_of_ble_eq_true rfl)
  rw [lg_entry_eq]
  generalize (lg_sl ([.ref b, .int (nI j)]) ++ List.replicate (2 - (lg_sl ([.ref b, .int (nI j)])).length) Slot.unset).toArray = ls at hl ⊢
  have hl : lv_has ls 2 [(0, .ref b), (1, .int (nI j))] := hl
  refine lv_iload_n hx hb dL_at_0 rfl (lv_at hl 1 rfl) ?_
  refine lv_aload_n hx hb dL_at_1 rfl (lv_at hl 0 rfl) ?_
  refine va_slen hx hb hX hbl (fun z => z) hS dL_at_2 ?_
  refine lv_icmp_ge (tgt := 12) hx hb dL_at_3 (by decide) (fun c1 => ?_) (fun c1 => ?_)
  · refine lv_ldc (v := 1595769799) hx hb hown (hts (.constant RL 7 (1595769799)) (by decide +kernel)) dL_at_12 ?_
    refine lv_iload_n hx hb dL_at_14 rfl (lv_at hl 1 rfl) ?_
    refine lv_iconst (v := 1) hx hb dL_at_15 (by decide) ?_
    refine lv_iadd hx hb dL_at_16 ?_
    refine lv_imul hx hb dL_at_17 ?_
    refine lv_ldc (v := 950461739) hx hb hown (hts (.constant RL 8 (950461739)) (by decide +kernel)) dL_at_18 ?_
    refine lv_iadd hx hb dL_at_20 ?_
    exact W.iret (v := 1595769799 * (nI j + 1) + 950461739) hx hb hr (fun t ht hW => ⟨_, rfl, trivial, ht⟩) (fun q h => nomatch h) dL_at_21
  · have hjL : j < L := Nat.lt_of_not_le (fun z => c1 (nI_le z (by omega)))
    refine lv_aload_n hx hb dL_at_6 rfl (lv_at hl 0 rfl) ?_
    refine lv_iload_n hx hb dL_at_7 rfl (lv_at hl 1 rfl) ?_
    refine va_sld hx hb hX hbl (fun z => z) hS (vp_in_nI hjL (by omega)) dL_at_8 ?_
    refine lv_goto (tgt := 21) hx hb dL_at_9 (by decide) ?_
    exact W.iret (v := xs (nI j).toNatClampNeg) hx hb hr (fun t ht hW => ⟨_, rfl, trivial, ht⟩) (fun q h => nomatch h) dL_at_21
