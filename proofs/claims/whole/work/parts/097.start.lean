/-! what the law starts from -/
theorem xk_start {b : Nat} {s : State} (hts : ∀ w ∈ lw_tbl, w.before #[Value.ref b] s = true) (hgv : (Jvm.Cond.and given_1 narrow_1).before #[Value.ref b] s = true) : xk s.heap.size s := by
  have hfl := flat_of_before _ hgv
  refine ⟨?_, ?_, fun w hw => va_Nw.of ((by decide +kernel : ∀ w ∈ xkW, w.onTables = true) w hw) (hts w ((by decide +kernel : ∀ w ∈ xkW, w ∈ lw_tbl) w hw)), fun q hq => va_Nc.of (hfl (.not (.castable q.1 q.2)) ((by decide +kernel : ∀ q ∈ xkN, Cond.not (.castable q.1 q.2) ∈ flatC (Jvm.Cond.and given_1 narrow_1)) q hq)), fun q hq => ?_⟩
  · exact vx_Zqof (hts (.laysStatic Bundle.tN "UNASSIGNED_STACK" Bundle.steD) (by decide +kernel)) (hts (.initialized Bundle.tN) (by decide +kernel)) (hfl (.isRef (.static Bundle.tN "UNASSIGNED_STACK" Bundle.steD)) (by decide +kernel)) (fun a h => Nat.not_le.mpr h)
  · exact vx_Zqof (hts (.laysStatic Bundle.tN "SUPPRESSED_SENTINEL" Bundle.listD) (by decide +kernel)) (hts (.initialized Bundle.tN) (by decide +kernel)) (hfl (.isRef (.static Bundle.tN "SUPPRESSED_SENTINEL" Bundle.listD)) (by decide +kernel)) (fun a h => Nat.not_le.mpr h)
  · have h1 := hts (.stringRef RX3 q.1 q.2) ((by decide +kernel : ∀ q ∈ xkS, Cond.stringRef RX3 q.1 q.2 ∈ lw_tbl) q hq)
    have h2 := hfl (.exactly (.string RX3 q.1) "java/lang/String") ((by decide +kernel : ∀ q ∈ xkS, Cond.exactly (.string RX3 q.1) "java/lang/String" ∈ flatC (Jvm.Cond.and given_1 narrow_1)) q hq)
    obtain ⟨a, c, cA, kA, q1, -⟩ := Cond.exactly_spec (args := #[Value.ref b]) (first := s) (o := none) (s := s) (idx := []) (t := .string RX3 q.1) (cls := "java/lang/String") h2
    exact ⟨a, vk_R.of h1 q1⟩
theorem arr_i {args : Array Value} {s : State} (h : (Cond.arrayClass .int).before args s = true) : ∃ cA, ArrOfT s cA .int ∧ va_RA s cA .int := by
  obtain ⟨cA, kA, comp, h1, h2, h3⟩ := Cond.arrayClass_spec h
  exact ⟨cA, fun n z => ⟨fun k h => (by cases h), kA, h2, comp, h3⟩, h1⟩
theorem arr_z {args : Array Value} {s : State} (h : (Cond.arrayClass .boolean).before args s = true) : ∃ cA, ArrOfT s cA .boolean ∧ va_RA s cA .boolean := by
  obtain ⟨cA, kA, comp, h1, h2, h3⟩ := Cond.arrayClass_spec h
  exact ⟨cA, fun n z => ⟨fun k h => (by cases h), kA, h2, comp, h3⟩, h1⟩
theorem arr_j {args : Array Value} {s : State} (h : (Cond.arrayClass .long).before args s = true) : ∃ cA, ArrOfT s cA .long ∧ va_RA s cA .long := by
  obtain ⟨cA, kA, comp, h1, h2, h3⟩ := Cond.arrayClass_spec h
  exact ⟨cA, fun n z => ⟨fun k h => (by cases h), kA, h2, comp, h3⟩, h1⟩
theorem arr_q {C : String} {args : Array Value} {s : State} (h : (Cond.arrayOver (.object C)).before args s = true) : ∃ cA, ArrOfT s cA (.object C) ∧ va_RA s cA (.object C) := by
  obtain ⟨comp, c, k, h1, h2, h3, h4, h5⟩ := Cond.arrayOver_spec h
  exact ⟨c, fun n z => ⟨fun k h => (by cases h), k, h3, comp, h4⟩, k, comp, h3, h4, h1, h5⟩
theorem K_start {b : Nat} {s : State} (hts : ∀ w ∈ lw_tbl, w.before #[Value.ref b] s = true) : ∃ (D : va_G) (cy : Nat → ClassId), va_K D vwCl (tyC cy) s := by
  obtain ⟨c0, i0, k0⟩ := u_known (C := RX0) (T := TX0) (N := 8) (n := 8) hts inX0 (hts (.instantiable RX0 8) (by decide +kernel))
  obtain ⟨c1, i1, k1⟩ := u_known (C := RX1) (T := TX1) (N := 3) (n := 3) hts inX1 (hts (.instantiable RX1 3) (by decide +kernel))
  obtain ⟨c2, i2, k2⟩ := u_known (C := RX2) (T := TX2) (N := 10) (n := 10) hts inX2 (hts (.instantiable RX2 10) (by decide +kernel))
  obtain ⟨c3, i3, k3⟩ := u_known (C := RX3) (T := TX3) (N := 9) (n := 9) hts inX3 (hts (.instantiable RX3 9) (by decide +kernel))
  obtain ⟨c4, i4, k4⟩ := u_known (C := RX4) (T := TX4) (N := 26) (n := 26) hts inX4 (hts (.instantiable RX4 26) (by decide +kernel))
  obtain ⟨a0, r0⟩ := arr_i (hts (.arrayClass .int) (by decide +kernel))
  obtain ⟨a1, r1⟩ := arr_z (hts (.arrayClass .boolean) (by decide +kernel))
  obtain ⟨a2, r2⟩ := arr_q (C := "MachineFoundry$Image") (hts (.arrayOver (.object "MachineFoundry$Image")) (by decide +kernel))
  obtain ⟨a3, r3⟩ := arr_q (C := "MachineFoundry$Machine") (hts (.arrayOver (.object "MachineFoundry$Machine")) (by decide +kernel))
  obtain ⟨a4, r4⟩ := arr_j (hts (.arrayClass .long) (by decide +kernel))
  refine ⟨(fun k => match k with | 0 => c0 | 1 => c1 | 2 => c2 | 3 => c3 | _ => c4, fun k => match k with | 0 => i0 | 1 => i1 | 2 => i2 | 3 => i3 | _ => i4), fun k => match k with | 0 => a0 | 1 => a1 | 2 => a2 | 3 => a3 | _ => a4, fun k q hq => ?_, fun k q hq => ?_⟩
  · match k, hq with
    | 0, hq => cases hq; exact k0
    | 1, hq => cases hq; exact k1
    | 2, hq => cases hq; exact k2
    | 3, hq => cases hq; exact k3
    | 4, hq => cases hq; exact k4
    | k + 5, hq => simp [vwCl] at hq
  · match k, hq with
    | 0, hq => cases hq; exact r0
    | 1, hq => cases hq; exact r1
    | 2, hq => cases hq; exact r2
    | 3, hq => cases hq; exact r3
    | 4, hq => cases hq; exact r4
    | k + 5, hq => simp at hq
theorem inj31_of {A : Nat → Prop} {cy : Nat → ClassId} {ad : Nat → Nat} {σ : Mem} (h : va_D A (wC cy ad σ)) : inj31 ad := fun i j hi hj e => h.1 i j _ _ (wC_at hi) (wC_at hj) e
theorem injM_of {A : Nat → Prop} {cy : Nat → ClassId} {bd : Nat → Nat} {τ : Mem} (h : va_D A (wM cy bd τ)) : injM bd := by
  intro i j hi hj e
  have at9 : ∀ i, i ∈ lM → ∃ (a : Nat) (p : Nat × va_E), lM[a]? = some i ∧ (wM cy bd τ)[a]? = some p ∧ p.1 = bd i := by
    intro i hi
    obtain ⟨a, ha⟩ := List.getElem?_of_mem hi
    have h1 : ((wM cy bd τ).map Prod.fst)[a]? = some (bd i) := by rw [wM_adr, List.getElem?_map, ha]; rfl
    rw [List.getElem?_map] at h1
    cases hp : (wM cy bd τ)[a]? with
    | none => rw [hp] at h1; cases h1
    | some p => rw [hp] at h1; exact ⟨a, p, ha, hp, Option.some.inj h1⟩
  obtain ⟨a, p1, a1, a2, a3⟩ := at9 i hi
  obtain ⟨b, p2, b1, b2, b3⟩ := at9 j hj
  have := h.1 a b p1 p2 a2 b2 (by rw [a3, b3, e])
  subst this
  exact Option.some.inj (a1.symm.trans b1)
theorem wM_A {A : Nat → Prop} {cy : Nat → ClassId} {bd : Nat → Nat} {τ : Mem} (h : va_D A (wM cy bd τ)) : ∀ j, j ∈ lM → A (bd j) := by
  intro i hi
  obtain ⟨a, ha⟩ := List.getElem?_of_mem hi
  have h1 : ((wM cy bd τ).map Prod.fst)[a]? = some (bd i) := by rw [wM_adr, List.getElem?_map, ha]; rfl
  rw [List.getElem?_map] at h1
  cases hp : (wM cy bd τ)[a]? with
  | none => rw [hp] at h1; cases h1
  | some p =>
    rw [hp] at h1
    have e : p.1 = bd i := Option.some.inj h1
    rw [← e]
    exact h.2 a p hp
theorem wC_A {A : Nat → Prop} {cy : Nat → ClassId} {ad : Nat → Nat} {σ : Mem} (h : va_D A (wC cy ad σ)) : ∀ k, k < 31 → A (ad k) := fun k hk => h.2 k _ (wC_at hk)
theorem last_ne {A : Nat → Prop} {ws : va_W} {q : Nat} {e : va_E} (h : va_D A (ws ++ [(q, e)])) : ∀ (k : Nat) (x : Nat × va_E), ws[k]? = some x → x.1 ≠ q := by
  intro k x hx e9
  have hl := (List.getElem?_eq_some_iff.mp hx).1
  have := h.1 k ws.length x (q, e) (by rw [List.getElem?_append_left hl]; exact hx) (wget _ [] ws) e9
  omega
