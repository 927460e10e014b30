/-! from the law's entry to its loop: the class, the reference, the cell for an answer -/
set_option maxHeartbeats 4000000 in
set_option maxRecDepth 100000 in
theorem law_begin {p : Program} {l : Launch} {e : Env} {s : State} {m : MethodId} {below : List Frame} {meth : Method} {c : Code} {Q : State → Prop} {b L : Nat} {xs : Nat → Int32} (hx : p.tables.exec = Jvm.exec) (hb : c.code = cL_law) (hml : c.maxLocals = 7) (hown : s.vm.findClass RL = some m.cls) (htb : ∀ w ∈ lw_tbl, w.before #[Value.ref b] s = true) (hX : va_X b L xs s s.heap) (hbl : b < s.heap.size) (hL9 : L ≤ 3584) (hgv : (Jvm.Cond.and given_1 narrow_1).before #[Value.ref b] s = true) (hst : l.stackTraces = false)
    (hexit : ∀ (H : Heap) (locs : List Loc) (cells slots : Nat) (ls : Array Slot), va_S (A0 s) s.heap H locs → cells ≤ 644319 → slots ≤ 7163146 → W p l e room_1 s m #[Value.ref b] below meth c H locs cells slots Q (F0 m 1580 ls [])) :
    W p l e room_1 s m #[Value.ref b] below meth c s.heap [] 0 0 Q (entryFrame m ([Value.ref b] : List Value).toArray 7) := by
  have hts : ∀ w ∈ wsL_law, w.before #[Value.ref b] s = true := fun w h => htb w (wsL_law_in w h)
  obtain ⟨D, cy, hK⟩ := K_start htb
  have hxk := xk_start htb hgv
  have hO2 : va_AO RX2 s := va_AO.of (htb (.arrayOver (.object RX2)) (by decide +kernel))
  have hO0 : va_AO RX0 s := va_AO.of (htb (.arrayOver (.object RX0)) (by decide +kernel))
  have hNJ : va_Nw nwJ s := va_Nw.of rfl (htb nwJ (by decide +kernel))
  have hA : ∀ q : Nat, s.heap.size ≤ q → A0 s q := fun _ h => h
  have hS : va_S (A0 s) s.heap s.heap [] := va_S.rf
  have hP : va_P D vwCl [] s.heap := fun k q h => by simp at h
  have hD : va_D (A0 s) [] := ⟨fun i j p q h => by simp at h, fun k q h => by simp at h⟩
  have hl := lv_entry ([.ref b]) (n := 7) (Nat.le_of_ble_eq_true rfl)
  rw [lg_entry_eq]
  generalize (lg_sl ([.ref b]) ++ List.replicate (7 - (lg_sl ([.ref b])).length) Slot.unset).toArray = ls at hl ⊢
  have hl : lv_has ls 7 [(0, .ref b)] := hl
  refine va_new (ci := 3) (C := RX3) (T := TX3) (N := 9) hx hb hts inlX3 tyX3 tyX3_ok hown (hts (.classLink RL 8 RX3) (by decide +kernel)) (hts (.instantiable RX3 9) (by decide +kernel)) (hts (.initialized RX3) (by decide +kernel)) hK hP hD hS hA rfl fsX3 (Nat.le_of_ble_eq_true rfl) (Nat.le_of_ble_eq_true rfl) dL_law_0 (fun q0 H hP hD hS => ?_)
  have hP : va_P D vwCl [(q0, .inr (3, [.null, .null, .null, .null, .int 0, .int 0, .int 0, .int 0, .int 0]))] H := hP
  have hq0 : A0 s q0 := hD.2 0 _ rfl
  have hq0l : q0 < H.size := (hP 0 _ rfl).lt
  have hz0 := hS.1
  refine lv_dup hx hb dL_law_3 rfl ?_
  refine lMv (A := fun q => q = q0 ∨ H.size ≤ q) (fun q h => h.elim (fun z => by rw [z]; exact hq0) (fun z => Nat.le_trans hz0 z)) (va_runI (As := []) (rest := [.ref q0]) ⟨hx, hb, hml, hown, hts⟩ (c_X3_init l D cy (fun q => q = q0 ∨ H.size ≤ q) H.size (fun q h => Or.inr h) q0 (Or.inl rfl)) (cwI 0 hts gL_law_X3_init rfl rfl rfl (hts (.initialized RX3) (by decide +kernel)) (hts (.methodLink RL 91 yX3_init) (by decide +kernel)) (hts (.instanceMethod yX3_init) (by decide +kernel)) rfl (by decide +kernel) ⟨Nat.le_of_ble_eq_true rfl, Nat.le_of_ble_eq_true rfl⟩) ⟨ctP3_bl, ctP3_at (Nat.le_refl _) hP hK hO2 hO0 hNJ⟩ rfl rfl hl.1 rfl (lv_room (Nat.le_of_ble_eq_true rfl)) dL_law_4 ⟨Nat.le_of_ble_eq_true rfl, Nat.le_of_ble_eq_true rfl⟩) hS (fun H1 locs hPW hS hk1 => ?_)
  obtain ⟨ad, had, hDa, hC⟩ := hPW
  have hgA : ∀ k, k < 31 → s.heap.size ≤ ad k := fun k hk => (wC_A hDa k hk).elim (fun z => by rw [z]; exact hq0) (fun z => Nat.le_trans hz0 z)
  have hj := inj31_of hDa
  have hDa0 : va_D (A0 s) (wC cy ad σ0) := hDa.weaken (fun _ _ _ h => h.elim (fun z => by rw [z]; exact hq0) (fun z => Nat.le_trans hz0 z))
  refine W.eq (g2 := F0 m 7 ls [.ref (ad 0)]) (by rw [had]) ?_
  refine lv_astore_n (lv' := [(1, .ref (ad 0)), (0, .ref b)]) hx hb dL_law_7 rfl hl (by decide) rfl (fun ls hl => ?_)
  refine va_new (ci := 4) (C := RX4) (T := TX4) (N := 26) hx hb hts inlX4 tyX4 tyX4_ok hown (hts (.classLink RL 92 RX4) (by decide +kernel)) (hts (.instantiable RX4 26) (by decide +kernel)) (hts (.initialized RX4) (by decide +kernel)) hK hC hDa0 hS hA rfl fsX4 (Nat.le_of_ble_eq_true rfl) (Nat.le_of_ble_eq_true rfl) dL_law_8 (fun q1 H2 hP hD hS => ?_)
  have hC := hP.left
  have hP1 := hP.right
  have hne := last_ne hD
  have hq1 : A0 s q1 := hD.2 (wC cy ad σ0).length _ (wget _ [] _)
  have hz2 := hS.1
  have hadl : ∀ k, k < 31 → ad k < H2.size := fun k hk => (hC k _ (wC_at hk)).lt
  have hadn : ∀ k, k < 31 → ad k ≠ q1 := fun k hk => hne k _ (wC_at hk)
  refine lv_dup hx hb dL_law_11 rfl ?_
  refine lMv (A := fun q => q = q1 ∨ H2.size ≤ q) (fun q h => h.elim (fun z => by rw [z]; exact hq1) (fun z => Nat.le_trans hz2 z)) (va_runI (As := []) (rest := [.ref q1]) ⟨hx, hb, hml, hown, hts⟩ (c_X4_init l D cy (fun q => q = q1 ∨ H2.size ≤ q) H2.size (fun q h => Or.inr h) q1 (Or.inl rfl)) (cwI 0 hts gL_law_X4_init rfl rfl rfl (hts (.initialized RX4) (by decide +kernel)) (hts (.methodLink RL 94 yX4_init) (by decide +kernel)) (hts (.instanceMethod yX4_init) (by decide +kernel)) rfl (by decide +kernel) ⟨Nat.le_of_ble_eq_true rfl, Nat.le_of_ble_eq_true rfl⟩) ⟨ctP_bl, ctP_at (Nat.le_refl _) hP1 hK⟩ rfl rfl hl.1 rfl (lv_room (Nat.le_of_ble_eq_true rfl)) dL_law_12 ⟨Nat.le_of_ble_eq_true rfl, Nat.le_of_ble_eq_true rfl⟩) hS (fun H3 locs3 hPW hS hk1 => ?_)
  obtain ⟨bd, hbd, hDb, hM9⟩ := hPW
  have hC := hC.apart hk1 (wC_no (A := fun q => q = q1 ∨ H2.size ≤ q) (fun i h => fun (z : ad i = q1 ∨ H2.size ≤ ad i) => z.elim (hadn i h) (fun z => by have := hadl i h; omega)))
  have hgB : ∀ j, j ∈ lM → s.heap.size ≤ bd j := fun j h => (wM_A hDb j h).elim (fun z => by rw [z]; exact hq1) (fun z => Nat.le_trans hz2 z)
  have hjm := injM_of hDb
  have hdj : ∀ k j, k < 31 → j ∈ lM → ad k ≠ bd j := fun k j hk h e9 => (wM_A hDb j h).elim (fun z => hadn k hk (e9.trans z)) (fun z => by have := hadl k hk; omega)
  have hDb0 : va_D (A0 s) (wM cy bd τ0) := hDb.weaken (fun _ _ _ h => h.elim (fun z => by rw [z]; exact hq1) (fun z => Nat.le_trans hz2 z))
  refine W.eq (g2 := F0 m 15 ls [.ref (bd 0)]) (by rw [hbd]) ?_
  refine lv_astore_n (lv' := [(2, .ref (bd 0)), (1, .ref (ad 0)), (0, .ref b)]) hx hb dL_law_15 rfl hl (by decide) rfl (fun ls hl => ?_)
  refine lv_iconst (v := 1) hx hb dL_law_16 (by decide) ?_
  have hDab : va_D (A0 s) (wC cy ad σ0 ++ wM cy bd τ0) := hDa0.app hDb0 (fun i j p q hp hq h => by
    obtain ⟨h1, h2⟩ := wC_get hp
    obtain ⟨j9, h3, h4⟩ := wM_get hq
    rw [h2, h4] at h
    exact hdj i j9 h1 (List.mem_of_getElem? h3) h)
  refine nwJl hx hb (hts (.arrayClass .long) (by decide +kernel)) hK (hC.app hM9) hDab hS hA 1 (by decide) (by decide) (by decide) (Nat.le_of_ble_eq_true rfl) (Nat.le_of_ble_eq_true rfl) dL_law_17 (fun ob H4 hP hD hS => ?_)
  have hC := hP.left.left
  have hM9 := hP.left.right
  have hO := hP.right
  have hne := last_ne hD
  have hno : ∀ k, k < 31 → ad k ≠ ob := fun k hk => hne k _ (by rw [List.getElem?_append_left (by rw [wC_len]; exact hk)]; exact wC_at hk)
  have hnm : ∀ j, j ∈ lM → bd j ≠ ob := by
    intro j h
    obtain ⟨a, ha⟩ := List.getElem?_of_mem h
    have h1 : ((wM cy bd τ0).map Prod.fst)[a]? = some (bd j) := by rw [wM_adr, List.getElem?_map, ha]; rfl
    rw [List.getElem?_map] at h1
    cases hp : (wM cy bd τ0)[a]? with
    | none => rw [hp] at h1; cases h1
    | some p9 =>
      rw [hp] at h1
      have e9 : p9.1 = bd j := Option.some.inj h1
      rw [← e9]
      exact hne ((wC cy ad σ0).length + a) p9 (by rw [List.getElem?_append_right (by omega), Nat.add_sub_cancel_left]; exact hp)
  have hgO : s.heap.size ≤ ob := hD.2 _ _ (wget _ [] _)
  refine lv_astore_n (lv' := [(3, .ref ob), (2, .ref (bd 0)), (1, .ref (ad 0)), (0, .ref b)]) hx hb dL_law_19 rfl hl (by decide) rfl (fun ls hl => ?_)
  refine lv_iconst (v := 0) hx hb dL_law_20 (by decide) ?_
  refine W.eq (g2 := F0 m 21 ls [.int (nI (7 * 0))]) rfl ?_
  refine lv_istore (lv' := [(4, .int (nI (7 * 0))), (3, .ref ob), (2, .ref (bd 0)), (1, .ref (ad 0)), (0, .ref b)]) hx hb dL_law_21 hl (by decide) rfl (fun ls hl => ?_)
  refine W.widen (k := 100) (n := 1000) (Nat.le_of_ble_eq_true rfl) (Nat.le_of_ble_eq_true rfl) ?_
  exact law_loop (D := D) (cy := cy) (ad := ad) (bd := bd) (ob := ob) ⟨hx, hb, hml, hown, hts, hX, hbl, hL9, hK, hxk, hst, hj, hjm, hno, hnm, hdj, hgA, hgB, hgO⟩ hexit 512 0 rfl H4 _ 100 1000 σ0 τ0 ls (by omega) (by omega) ⟨hC, hM9, ⟨_, hO⟩, hS, LI.start⟩ (lv_sub hl [0, 4, 3, 2, 1] rfl)
