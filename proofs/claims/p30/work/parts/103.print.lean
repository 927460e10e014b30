/-! THE LAW LOOKS: what it prints, matches, and asks of machines, queues and the journal -/
abbrev QL (x : Int64) : Array Value → State → Outcome → State → Prop := va_Ql (fun (r : Int64) (_ : Unit) => r = x) (fun _ _ => True) NoA
theorem lg_self (x : Int64) : lg_cmp x x = 0 := by simp [lg_cmp]
/-- an object and two rows -/
def aX (D : va_G) (cy : Nat → ClassId) (ad : Nat → Nat) (σ : Mem) (sz q1 n1 : Nat) (f1 : Nat → Int32) (q2 n2 : Nat) (f2 : Nat → Int32) (U : State) : Prop := cx D cy ad σ sz U ∧ va_P D vwCl [aW cy q1 n1 f1] U.heap ∧ va_P D vwCl [aW cy q2 n2 f2] U.heap
theorem aX_bl {av : List Value} {D : va_G} {cy : Nat → ClassId} {ad : Nat → Nat} {σ : Mem} {sz q1 n1 q2 n2 : Nat} {f1 f2 : Nat → Int32} : FrameBlind (va_Pc av (aX D cy ad σ sz q1 n1 f1 q2 n2 f2)) := fun a U g mk h => ⟨h.1, (cx_bl (av := av) a U g mk ⟨h.1, h.2.1⟩).2, h.2.2⟩
theorem aX_S {A : Nat → Prop} {av : List Value} {D : va_G} {cy : Nat → ClassId} {ad : Nat → Nat} {σ : Mem} {sz q1 n1 q2 n2 : Nat} {f1 f2 : Nat → Int32} {s : State} {H : Heap} {locs : List Loc} (hP : va_P D vwCl (wC cy ad σ) H) (hK : va_K D vwCl (tyC cy) s) (hAz : ∀ q, A q → sz ≤ q) (h : xk sz s) (hS : va_S A s.heap H locs) (h1 : va_P D vwCl [aW cy q1 n1 f1] H) (h2 : va_P D vwCl [aW cy q2 n2 f2] H) : ∀ U : State, U.heap = H → s.WarmedH U.vm → va_Pc av (aX D cy ad σ sz q1 n1 f1 q2 n2 f2) av.toArray U := fun U hU hW => ⟨rfl, (cx_S (av := av) hP hK hAz h hS U hU hW).2, by rw [hU]; exact h1, by rw [hU]; exact h2⟩
section LL
variable {p : Program} {l : Launch} {e : Env} {R : Room} {s : State} {m : MethodId} {args : Array Value} {below : List Frame} {meth : Method} {c : Code} {H : Heap} {locs : List Loc} {cells slots : Nat} {Q : State → Prop} {ls : Array Slot} {A : Nat → Prop} {H0 : Heap}
theorem w_loopG {head nL : Nat} (N c0 a s0 b : Nat) (G : Nat → Heap → Prop) (L : Nat → List (Nat × Value)) (hl : lv_has ls nL (L 0)) (hG : G 0 H) (hS : va_S A H0 H locs) (hc : cells ≤ c0) (hs : slots ≤ s0)
    (exit : ∀ (H : Heap) (locs : List Loc) (ls : Array Slot), lv_has ls nL (L N) → G N H → va_S A H0 H locs → W p l e R s m args below meth c H locs (c0 + a * N) (s0 + b * N) Q (F0 m head ls []))
    (step : ∀ k, k < N → ∀ (H : Heap) (locs : List Loc) (ls : Array Slot), lv_has ls nL (L k) → G k H → va_S A H0 H locs → (∀ (H : Heap) (locs : List Loc) (ls : Array Slot) (cells slots : Nat), cells ≤ c0 + a * (k + 1) → slots ≤ s0 + b * (k + 1) → lv_has ls nL (L (k + 1)) → G (k + 1) H → va_S A H0 H locs → W p l e R s m args below meth c H locs cells slots Q (F0 m head ls [])) → W p l e R s m args below meth c H locs (c0 + a * k) (s0 + b * k) Q (F0 m head ls [])) :
    W p l e R s m args below meth c H locs cells slots Q (F0 m head ls []) := by
  have key : ∀ (d k : Nat), k + d = N → ∀ (H : Heap) (locs : List Loc) (ls : Array Slot) (cells slots : Nat), cells ≤ c0 + a * k → slots ≤ s0 + b * k → lv_has ls nL (L k) → G k H → va_S A H0 H locs → W p l e R s m args below meth c H locs cells slots Q (F0 m head ls []) := by
    intro d
    induction d with
    | zero =>
      intro k hk H locs ls cells slots h1 h2 hl hG hS
      have e : k = N := by omega
      subst e
      exact W.widen h1 h2 (exit H locs ls hl hG hS)
    | succ d ih =>
      intro k hk H locs ls cells slots h1 h2 hl hG hS
      exact W.widen h1 h2 (step k (by omega) H locs ls hl hG hS (fun H locs ls cells slots h1 h2 hl hG hS => ih (k + 1) (by omega) H locs ls cells slots h1 h2 hl hG hS))
  exact key N 0 (by omega) H locs ls cells slots (by omega) (by omega) hl hG hS
end LL
set_option maxHeartbeats 4000000 in
theorem c_L_low (l : Launch) (z : Int32) (n : Nat) (h0 : 0 < n) (hn : n < 2147483648) : Met l yL_low wsL_low ({ frames := 0, cells := 0, slots := 0, locals := 0 }) (va_Pc [.int z, .int (nI n)] (fun _ => True)) (SR (fun j : Nat => some (.int (nI j))) (fun j => j < n)) 0 0 NoA := by
  refine Met.ofW (cc := cL_low) (maxL := 2) (ret := (some .int)) (by decide) rfl ?_
  intro p e s m args below meth c s₁ B hml hv
  obtain ⟨rfl, -⟩ := hv
  have hx := B.exec
  have hb := B.bytes
  have hr := B.returns
  have hts := atoms_spec (ws := wsL_low) B.pre
  have hown : s.vm.findClass RL = some m.cls := findClass_of_methodNamed B.named
  have hlocks := B.notSynchronized
  have hl := lv_entry ([.int z, .int (nI n)]) (n := 2) (Nat.le_of_ble_eq_true rfl)
  rw [lg_entry_eq]
  generalize (lg_sl ([.int z, .int (nI n)]) ++ List.replicate (2 - (lg_sl ([.int z, .int (nI n)])).length) Slot.unset).toArray = ls at hl ⊢
  have hl : lv_has ls 2 [(0, .int z), (1, .int (nI n))] := hl
  refine lv_iload_n hx hb dL_low_0 rfl (lv_at hl 0 rfl) ?_
  refine lv_ldc (v := 2147483647) hx hb hown (hts (.constant RL 9 (2147483647)) (by decide +kernel)) dL_low_1 ?_
  refine lv_iand hx hb dL_low_3 ?_
  have hq : z.toBitVec.toNat % 2 ^ 31 < 2 ^ 31 := Nat.mod_lt _ (by decide)
  refine W.eq (congrArg (fun z9 => F0 m 4 ls [.int z9]) (pk_and z (m := 2147483647) 31 (by decide))) ?_
  generalize z.toBitVec.toNat % 2 ^ 31 = q at hq ⊢
  refine lv_iload_n hx hb dL_low_4 rfl (lv_at hl 1 rfl) ?_
  refine lv_irem hx hb dL_low_5 (nI_ne0 h0 hn) ?_
  refine W.eq (congrArg (fun z9 => F0 m 6 ls [.int z9]) (pk_rem (a := q) (d := n) hq h0 hn)) ?_
  exact W.iret (v := nI (q % n)) hx hb hr (fun t ht hW => ⟨q % n, rfl, Nat.mod_lt _ h0, ht⟩) (fun q h => nomatch h) dL_low_6
def pA (σ : Mem) : Nat → Int64
  | 0 => (43 * ((43 * ((σ 20 6).toInt64)) + ((σ 20 7).toInt64))) + ((sKept σ).toInt64)
  | k + 1 => (43 * ((43 * ((43 * ((43 * ((43 * ((43 * ((43 * (pA σ k)) + ((w1 (kM (nI k)) (rStateOf σ (nI k))).toInt64))) + ((w1 (kM (nI k)) (rReason σ (nI k))).toInt64))) + ((w1 (kM (nI k)) (rMatchOf σ (nI k))).toInt64))) + ((w1 (kM (nI k)) (rImageOf σ (nI k))).toInt64))) + ((w1 (kM (nI k)) (rEndOf σ (nI k))).toInt64))) + ((w1 (kM (nI k)) (rFailuresOf σ (nI k))).toInt64))) + ((w1 (kQueueAt ((nI k) - (nI k) / 4 * 4) ((nI k) / 4)) (rQueueAt σ ((nI k) - (nI k) / 4 * 4) ((nI k) / 4))).toInt64)
def pB (σ : Mem) : Nat → Int64
  | 0 => pA σ 16
  | k + 1 => (43 * ((43 * (pB σ k)) + ((w1 (kMachineAt σ (nI k)) (rMachineAt σ (nI k))).toInt64))) + ((w12 (kStateBefore σ (w1 (kMachineAt σ (nI k)) (rMachineAt σ (nI k))) (nI (k + 1))) (rStateBefore σ (w1 (kMachineAt σ (nI k)) (rMachineAt σ (nI k))) (nI (k + 1)))).toInt64)
set_option maxHeartbeats 4000000 in
set_option maxRecDepth 100000 in
/-- print -/
theorem c_L_print (l : Launch) (hst : l.stackTraces = false) (D : va_G) (cy : Nat → ClassId) (ad : Nat → Nat) (σ : Mem) (sz : Nat) (w : Nat) (hw : w ≤ 40) (hkp : sKept σ = nI w) : Met l yL_print wsL_print ({ frames := 9, cells := 280, slots := 1680, locals := 153 }) (va_Pc [.ref (ad 0)] (cx D cy ad σ sz)) (QL (pB σ w)) 280 1680 NoA := by
  refine Met.ofW (cc := cL_print) (maxL := 4) (ret := (some .long)) (by decide) rfl ?_
  intro p e s m args below meth c s₁ B hml hv
  obtain ⟨rfl, ⟨hP, hK⟩, hxk⟩ := hv
  have hx := B.exec
  have hb := B.bytes
  have hr := B.returns
  have hts := atoms_spec (ws := wsL_print) B.pre
  have hown : s.vm.findClass RL = some m.cls := findClass_of_methodNamed B.named
  have hlocks := B.notSynchronized
  have hS : va_S NoA s.heap s.heap [] := va_S.rf
  have hl := lv_entry ([.ref (ad 0)]) (n := 4) (Nat.le_of_ble_eq_true rfl)
  rw [lg_entry_eq]
  generalize (lg_sl ([.ref (ad 0)]) ++ List.replicate (4 - (lg_sl ([.ref (ad 0)])).length) Slot.unset).toArray = ls at hl ⊢
  have hl : lv_has ls 4 [(0, .ref (ad 0))] := hl
  refine lv_ldc2 (v := 43) hx hb hown (hts (.constantLong RL 97 (43)) (by decide +kernel)) dL_print_0 ?_
  refine lv_aload_n hx hb dL_print_3 rfl (lv_at hl 0 rfl) ?_
  refine cS (W.runV (As := []) (rest := [.long 43]) ⟨hx, hb, hml, hown, hts⟩ (c_X3_now l D cy ad σ) (cwV 0 hts gL_print_X3_now rfl rfl rfl (by decide +kernel) ⟨Nat.le_of_ble_eq_true rfl, Nat.le_of_ble_eq_true rfl⟩) ⟨cw_bl, cw_F hP hK, cw_at hP hK⟩ rfl rfl hl.1 rfl (lv_room (Nat.le_of_ble_eq_true rfl)) dL_print_4 ⟨by show _ ≤ 280; omega, by show _ ≤ 1680; omega⟩) (fun _ _ => ?_)
  refine W.eq (g2 := F0 m 7 ls [.int (σ 20 6), .long 43]) rfl ?_
  refine lv_i2l hx hb dL_print_7 rfl ?_
  refine lv_lmul hx hb dL_print_8 ?_
  refine lv_aload_n hx hb dL_print_9 rfl (lv_at hl 0 rfl) ?_
  refine cS (W.runV (As := []) (rest := [.long (43 * ((σ 20 6).toInt64))]) ⟨hx, hb, hml, hown, hts⟩ (c_X3_wipes l D cy ad σ) (cwV 0 hts gL_print_X3_wipes rfl rfl rfl (by decide +kernel) ⟨Nat.le_of_ble_eq_true rfl, Nat.le_of_ble_eq_true rfl⟩) ⟨cw_bl, cw_F hP hK, cw_at hP hK⟩ rfl rfl hl.1 rfl (lv_room (Nat.le_of_ble_eq_true rfl)) dL_print_10 ⟨by show _ ≤ 280; omega, by show _ ≤ 1680; omega⟩) (fun _ _ => ?_)
  refine W.eq (g2 := F0 m 13 ls [.int (σ 20 7), .long (43 * ((σ 20 6).toInt64))]) rfl ?_
  refine lv_i2l hx hb dL_print_13 rfl ?_
  refine lv_ladd hx hb dL_print_14 ?_
  refine lv_lstore_n (lv' := [(1, .long ((43 * ((σ 20 6).toInt64)) + ((σ 20 7).toInt64))), (0, .ref (ad 0))]) hx hb dL_print_15 rfl hl (by decide) rfl (fun ls hl => ?_)
  refine lv_ldc2 (v := 43) hx hb hown (hts (.constantLong RL 97 (43)) (by decide +kernel)) dL_print_16 ?_
  refine lv_lload_n hx hb dL_print_19 rfl (lv_at hl 0 rfl) ?_
  refine lv_lmul hx hb dL_print_20 ?_
  refine lv_aload_n hx hb dL_print_21 rfl (lv_at hl 1 rfl) ?_
  refine cS (W.runV (As := []) (rest := [.long (43 * ((43 * ((σ 20 6).toInt64)) + ((σ 20 7).toInt64)))]) ⟨hx, hb, hml, hown, hts⟩ (c_X3_entries l D cy ad σ) (cwV 0 hts gL_print_X3_entries rfl rfl rfl (by decide +kernel) ⟨Nat.le_of_ble_eq_true rfl, Nat.le_of_ble_eq_true rfl⟩) ⟨cw_bl, cw_F hP hK, cw_at hP hK⟩ rfl rfl hl.1 rfl (lv_room (Nat.le_of_ble_eq_true rfl)) dL_print_22 ⟨by show _ ≤ 280; omega, by show _ ≤ 1680; omega⟩) (fun _ _ => ?_)
  refine W.eq (g2 := F0 m 25 ls [.int (sKept σ), .long (43 * ((43 * ((σ 20 6).toInt64)) + ((σ 20 7).toInt64)))]) rfl ?_
  refine W.eq (g2 := F0 m 25 ls [.int (sKept σ), .long (43 * ((43 * ((σ 20 6).toInt64)) + ((σ 20 7).toInt64)))]) (by rw [show sKept σ = sKept σ from rfl]) ?_
  refine lv_i2l hx hb dL_print_25 rfl ?_
  refine lv_ladd hx hb dL_print_26 ?_
  refine lv_lstore_n (lv' := [(1, .long ((43 * ((43 * ((σ 20 6).toInt64)) + ((σ 20 7).toInt64))) + ((sKept σ).toInt64))), (0, .ref (ad 0))]) hx hb dL_print_27 rfl hl (by decide) rfl (fun ls hl => ?_)
  refine lv_iconst (v := 0) hx hb dL_print_28 (by decide) ?_
  refine lv_istore_n (lv' := [(3, .int 0), (1, .long ((43 * ((43 * ((σ 20 6).toInt64)) + ((σ 20 7).toInt64))) + ((sKept σ).toInt64))), (0, .ref (ad 0))]) hx hb dL_print_29 rfl hl (by decide) rfl (fun ls hl => ?_)
  have hl0 : lv_has ls 4 [(3, .int (nI 0)), (1, .long (pA σ 0)), (0, .ref (ad 0))] := lv_sub hl [0, 1, 2] rfl
  refine w_loopG 16 (0) 7 (0) 42 (fun k H => va_P D vwCl (wC cy ad σ) H) (fun k => [(3, .int (nI k)), (1, .long (pA σ k)), (0, .ref (ad 0))]) hl0 hP hS (Nat.le_refl _) (Nat.le_refl _) (fun H locs ls hl hG hS => ?_) (fun k hk H locs ls hl hG hS ih => ?_)
  · have hl : lv_has ls 4 [(3, .int (nI 16)), (1, .long (pA σ 16)), (0, .ref (ad 0))] := hl
    have hP : va_P D vwCl (wC cy ad σ) H := hG
    refine lv_iload_n hx hb dL_print_30 rfl (lv_at hl 0 rfl) ?_
    refine lv_bipush (v := 16) hx hb dL_print_31 (by decide) ?_
    refine lv_icmp_ge (tgt := 128) hx hb dL_print_33 (by decide) (fun c_1 => ?_) (fun c_1 => absurd (((nI_leI (a := 16) (b := 16) (by omega) (by omega)).mpr (by omega))) c_1)
    refine lv_iconst (v := 0) hx hb dL_print_128 (by decide) ?_
    refine lv_istore_n (lv' := [(3, .int 0), (1, .long (pA σ 16)), (0, .ref (ad 0))]) hx hb dL_print_129 rfl hl (by decide) rfl (fun ls hl => ?_)
    have hl0 : lv_has ls 4 [(3, .int (nI 0)), (1, .long (pB σ 0)), (0, .ref (ad 0))] := lv_sub hl [0, 1, 2] rfl
    refine w_loopG w (0 + 7 * 16) 4 (0 + 42 * 16) 24 (fun k H => va_P D vwCl (wC cy ad σ) H) (fun k => [(3, .int (nI k)), (1, .long (pB σ k)), (0, .ref (ad 0))]) hl0 hP hS (Nat.le_refl _) (Nat.le_refl _) (fun H locs ls hl hG hS => ?_) (fun k hk H locs ls hl hG hS ih => ?_)
    · have hl : lv_has ls 4 [(3, .int (nI w)), (1, .long (pB σ w)), (0, .ref (ad 0))] := hl
      have hP : va_P D vwCl (wC cy ad σ) H := hG
      refine lv_iload_n hx hb dL_print_130 rfl (lv_at hl 0 rfl) ?_
      refine lv_aload_n hx hb dL_print_131 rfl (lv_at hl 2 rfl) ?_
      refine cS (W.runV (As := []) (rest := [.int (nI w)]) ⟨hx, hb, hml, hown, hts⟩ (c_X3_entries l D cy ad σ) (cwV 0 hts gL_print_X3_entries rfl rfl rfl (by decide +kernel) ⟨Nat.le_of_ble_eq_true rfl, Nat.le_of_ble_eq_true rfl⟩) ⟨cw_bl, cw_F hP hK, cw_at hP hK⟩ rfl rfl hl.1 rfl (lv_room (Nat.le_of_ble_eq_true rfl)) dL_print_132 ⟨by show _ ≤ 280; omega, by show _ ≤ 1680; omega⟩) (fun _ _ => ?_)
      refine W.eq (g2 := F0 m 135 ls [.int (sKept σ), .int (nI w)]) rfl ?_
      refine W.eq (g2 := F0 m 135 ls [.int (nI w), .int (nI w)]) (by rw [hkp]) ?_
      refine lv_icmp_ge (tgt := 175) hx hb dL_print_135 (by decide) (fun c_2 => ?_) (fun c_2 => absurd (((nI_leI (a := w) (b := w) (by omega) (by omega)).mpr (by omega))) c_2)
      refine lv_lload_n hx hb dL_print_175 rfl (lv_at hl 1 rfl) ?_
      refine W.widen (k := 280) (n := 1680) (by omega) (by omega) ?_
      exact W.lret (v := pB σ w) hx hb hr (fun t ht hW => ⟨⟨_, (), rfl, rfl, trivial⟩, hS.F ht⟩) hS.2.2 dL_print_176
    · have hl : lv_has ls 4 [(3, .int (nI k)), (1, .long (pB σ k)), (0, .ref (ad 0))] := hl
      have hP : va_P D vwCl (wC cy ad σ) H := hG
      have ih130 := ih
      refine lv_iload_n hx hb dL_print_130 rfl (lv_at hl 0 rfl) ?_
      refine lv_aload_n hx hb dL_print_131 rfl (lv_at hl 2 rfl) ?_
      refine cS (W.runV (As := []) (rest := [.int (nI k)]) ⟨hx, hb, hml, hown, hts⟩ (c_X3_entries l D cy ad σ) (cwV 0 hts gL_print_X3_entries rfl rfl rfl (by decide +kernel) ⟨Nat.le_of_ble_eq_true rfl, Nat.le_of_ble_eq_true rfl⟩) ⟨cw_bl, cw_F hP hK, cw_at hP hK⟩ rfl rfl hl.1 rfl (lv_room (Nat.le_of_ble_eq_true rfl)) dL_print_132 ⟨by show _ ≤ 280; omega, by show _ ≤ 1680; omega⟩) (fun _ _ => ?_)
      refine W.eq (g2 := F0 m 135 ls [.int (sKept σ), .int (nI k)]) rfl ?_
      refine W.eq (g2 := F0 m 135 ls [.int (nI w), .int (nI k)]) (by rw [hkp]) ?_
      refine lv_icmp_ge (tgt := 175) hx hb dL_print_135 (by decide) (fun c_3 => absurd c_3 ((fun z9 => absurd ((nI_leI (a := w) (b := k) (by omega) (by omega)).mp z9) (by omega)))) (fun c_3 => ?_)
      refine lv_ldc2 (v := 43) hx hb hown (hts (.constantLong RL 97 (43)) (by decide +kernel)) dL_print_138 ?_
      refine lv_ldc2 (v := 43) hx hb hown (hts (.constantLong RL 97 (43)) (by decide +kernel)) dL_print_141 ?_
      refine lv_lload_n hx hb dL_print_144 rfl (lv_at hl 1 rfl) ?_
      refine lv_lmul hx hb dL_print_145 ?_
      refine lv_aload_n hx hb dL_print_146 rfl (lv_at hl 2 rfl) ?_
      refine lv_iload_n hx hb dL_print_147 rfl (lv_at hl 0 rfl) ?_
      refine rMi (vx_runSW (As := [.ref (ad 0), .int (nI k)]) (rest := [.long (43 * (pB σ k)), .long 43]) ⟨hx, hb, hml, hown, hts⟩ (c_L_machineAt l hst D cy ad σ sz (nI k) (w1 (kMachineAt σ (nI k)) (rMachineAt σ (nI k))) rfl) (vx_cwSW 2 hts gL_print_L_machineAt rfl rfl rfl (by decide +kernel) ⟨Nat.le_of_ble_eq_true rfl, Nat.le_of_ble_eq_true rfl⟩) ⟨cx_bl, cx_S hP hK NoA_z hxk hS⟩ rfl rfl hl.1 rfl (lv_room (Nat.le_of_ble_eq_true rfl)) dL_print_148 ⟨by show _ ≤ 280; omega, by show _ ≤ 1680; omega⟩) hS (fun H locs hS hg => ?_)
      have hP := hP.grown hg
      refine W.eq (g2 := F0 m 151 ls [.int (w1 (kMachineAt σ (nI k)) (rMachineAt σ (nI k))), .long (43 * (pB σ k)), .long 43]) rfl ?_
      refine lv_i2l hx hb dL_print_151 rfl ?_
      refine lv_ladd hx hb dL_print_152 ?_
      refine lv_lmul hx hb dL_print_153 ?_
      refine lv_aload_n hx hb dL_print_154 rfl (lv_at hl 2 rfl) ?_
      refine lv_aload_n hx hb dL_print_155 rfl (lv_at hl 2 rfl) ?_
      refine lv_iload_n hx hb dL_print_156 rfl (lv_at hl 0 rfl) ?_
      refine rMi (vx_runSW (As := [.ref (ad 0), .int (nI k)]) (rest := [.ref (ad 0), .long (43 * ((43 * (pB σ k)) + ((w1 (kMachineAt σ (nI k)) (rMachineAt σ (nI k))).toInt64)))]) ⟨hx, hb, hml, hown, hts⟩ (c_L_machineAt l hst D cy ad σ sz (nI k) (w1 (kMachineAt σ (nI k)) (rMachineAt σ (nI k))) rfl) (vx_cwSW 2 hts gL_print_L_machineAt rfl rfl rfl (by decide +kernel) ⟨Nat.le_of_ble_eq_true rfl, Nat.le_of_ble_eq_true rfl⟩) ⟨cx_bl, cx_S hP hK NoA_z hxk hS⟩ rfl rfl hl.1 rfl (lv_room (Nat.le_of_ble_eq_true rfl)) dL_print_157 ⟨by show _ ≤ 280; omega, by show _ ≤ 1680; omega⟩) hS (fun H locs hS hg => ?_)
      have hP := hP.grown hg
      refine W.eq (g2 := F0 m 160 ls [.int (w1 (kMachineAt σ (nI k)) (rMachineAt σ (nI k))), .ref (ad 0), .long (43 * ((43 * (pB σ k)) + ((w1 (kMachineAt σ (nI k)) (rMachineAt σ (nI k))).toInt64)))]) rfl ?_
      refine lv_iload_n hx hb dL_print_160 rfl (lv_at hl 0 rfl) ?_
      refine lv_iconst (v := 1) hx hb dL_print_161 (by decide) ?_
      refine lv_iadd hx hb dL_print_162 ?_
      refine W.eq (g2 := F0 m 163 ls [.int (nI (k + 1)), .int (w1 (kMachineAt σ (nI k)) (rMachineAt σ (nI k))), .ref (ad 0), .long (43 * ((43 * (pB σ k)) + ((w1 (kMachineAt σ (nI k)) (rMachineAt σ (nI k))).toInt64)))]) (by rw [nI_1]) ?_
      refine rMi (vx_runSW (As := [.ref (ad 0), .int (w1 (kMachineAt σ (nI k)) (rMachineAt σ (nI k))), .int (nI (k + 1))]) (rest := [.long (43 * ((43 * (pB σ k)) + ((w1 (kMachineAt σ (nI k)) (rMachineAt σ (nI k))).toInt64)))]) ⟨hx, hb, hml, hown, hts⟩ (c_L_stateBefore l hst D cy ad σ sz (w1 (kMachineAt σ (nI k)) (rMachineAt σ (nI k))) (nI (k + 1)) (w12 (kStateBefore σ (w1 (kMachineAt σ (nI k)) (rMachineAt σ (nI k))) (nI (k + 1))) (rStateBefore σ (w1 (kMachineAt σ (nI k)) (rMachineAt σ (nI k))) (nI (k + 1)))) rfl) (vx_cwSW 3 hts gL_print_L_stateBefore rfl rfl rfl (by decide +kernel) ⟨Nat.le_of_ble_eq_true rfl, Nat.le_of_ble_eq_true rfl⟩) ⟨cx_bl, cx_S hP hK NoA_z hxk hS⟩ rfl rfl hl.1 rfl (lv_room (Nat.le_of_ble_eq_true rfl)) dL_print_163 ⟨by show _ ≤ 280; omega, by show _ ≤ 1680; omega⟩) hS (fun H locs hS hg => ?_)
      have hP := hP.grown hg
      refine W.eq (g2 := F0 m 166 ls [.int (w12 (kStateBefore σ (w1 (kMachineAt σ (nI k)) (rMachineAt σ (nI k))) (nI (k + 1))) (rStateBefore σ (w1 (kMachineAt σ (nI k)) (rMachineAt σ (nI k))) (nI (k + 1)))), .long (43 * ((43 * (pB σ k)) + ((w1 (kMachineAt σ (nI k)) (rMachineAt σ (nI k))).toInt64)))]) rfl ?_
      refine lv_i2l hx hb dL_print_166 rfl ?_
      refine lv_ladd hx hb dL_print_167 ?_
      refine lv_lstore_n (lv' := [(1, .long ((43 * ((43 * (pB σ k)) + ((w1 (kMachineAt σ (nI k)) (rMachineAt σ (nI k))).toInt64))) + ((w12 (kStateBefore σ (w1 (kMachineAt σ (nI k)) (rMachineAt σ (nI k))) (nI (k + 1))) (rStateBefore σ (w1 (kMachineAt σ (nI k)) (rMachineAt σ (nI k))) (nI (k + 1)))).toInt64))), (3, .int (nI k)), (0, .ref (ad 0))]) hx hb dL_print_168 rfl hl (by decide) rfl (fun ls hl => ?_)
      refine lv_iinc (v := nI (k + 1)) (lv' := [(3, .int (nI (k + 1))), (1, .long ((43 * ((43 * (pB σ k)) + ((w1 (kMachineAt σ (nI k)) (rMachineAt σ (nI k))).toInt64))) + ((w12 (kStateBefore σ (w1 (kMachineAt σ (nI k)) (rMachineAt σ (nI k))) (nI (k + 1))) (rStateBefore σ (w1 (kMachineAt σ (nI k)) (rMachineAt σ (nI k))) (nI (k + 1)))).toInt64))), (0, .ref (ad 0))]) hx hb dL_print_169 hl (k := 1) rfl (nI_1 k) (by decide) rfl (fun ls hl => ?_)
      refine lv_goto (tgt := 130) hx hb dL_print_172 (by decide) ?_
      have e70 : pB σ (k + 1) = (43 * ((43 * (pB σ k)) + ((w1 (kMachineAt σ (nI k)) (rMachineAt σ (nI k))).toInt64))) + ((w12 (kStateBefore σ (w1 (kMachineAt σ (nI k)) (rMachineAt σ (nI k))) (nI (k + 1))) (rStateBefore σ (w1 (kMachineAt σ (nI k)) (rMachineAt σ (nI k))) (nI (k + 1)))).toInt64) := by rfl
      exact ih130 H locs ls _ _ (by omega) (by omega) (show lv_has ls 4 [(3, .int (nI (k + 1))), (1, .long (pB σ (k + 1))), (0, .ref (ad 0))] from by rw [e70]; exact lv_sub hl [0, 1, 2] rfl) hP hS
  · have hl : lv_has ls 4 [(3, .int (nI k)), (1, .long (pA σ k)), (0, .ref (ad 0))] := hl
    have hP : va_P D vwCl (wC cy ad σ) H := hG
    have ih30 := ih
    refine lv_iload_n hx hb dL_print_30 rfl (lv_at hl 0 rfl) ?_
    refine lv_bipush (v := 16) hx hb dL_print_31 (by decide) ?_
    refine lv_icmp_ge (tgt := 128) hx hb dL_print_33 (by decide) (fun c_4 => absurd c_4 ((fun z9 => absurd ((nI_leI (a := 16) (b := k) (by omega) (by omega)).mp z9) (by omega)))) (fun c_4 => ?_)
    refine lv_ldc2 (v := 43) hx hb hown (hts (.constantLong RL 97 (43)) (by decide +kernel)) dL_print_36 ?_
    refine lv_ldc2 (v := 43) hx hb hown (hts (.constantLong RL 97 (43)) (by decide +kernel)) dL_print_39 ?_
    refine lv_ldc2 (v := 43) hx hb hown (hts (.constantLong RL 97 (43)) (by decide +kernel)) dL_print_42 ?_
    refine lv_ldc2 (v := 43) hx hb hown (hts (.constantLong RL 97 (43)) (by decide +kernel)) dL_print_45 ?_
    refine lv_lload_n hx hb dL_print_48 rfl (lv_at hl 1 rfl) ?_
    refine lv_lmul hx hb dL_print_49 ?_
    refine lv_aload_n hx hb dL_print_50 rfl (lv_at hl 2 rfl) ?_
    refine lv_iload_n hx hb dL_print_51 rfl (lv_at hl 0 rfl) ?_
    refine rMi (vx_runSW (As := [.ref (ad 0), .int (nI k)]) (rest := [.long (43 * (pA σ k)), .long 43, .long 43, .long 43]) ⟨hx, hb, hml, hown, hts⟩ (c_L_stateOf l hst D cy ad σ sz (nI k) (w1 (kM (nI k)) (rStateOf σ (nI k))) rfl) (vx_cwSW 2 hts gL_print_L_stateOf rfl rfl rfl (by decide +kernel) ⟨Nat.le_of_ble_eq_true rfl, Nat.le_of_ble_eq_true rfl⟩) ⟨cx_bl, cx_S hP hK NoA_z hxk hS⟩ rfl rfl hl.1 rfl (lv_room (Nat.le_of_ble_eq_true rfl)) dL_print_52 ⟨by show _ ≤ 280; omega, by show _ ≤ 1680; omega⟩) hS (fun H locs hS hg => ?_)
    have hP := hP.grown hg
    refine W.eq (g2 := F0 m 55 ls [.int (w1 (kM (nI k)) (rStateOf σ (nI k))), .long (43 * (pA σ k)), .long 43, .long 43, .long 43]) rfl ?_
    refine lv_i2l hx hb dL_print_55 rfl ?_
    refine lv_ladd hx hb dL_print_56 ?_
    refine lv_lmul hx hb dL_print_57 ?_
    refine lv_aload_n hx hb dL_print_58 rfl (lv_at hl 2 rfl) ?_
    refine lv_iload_n hx hb dL_print_59 rfl (lv_at hl 0 rfl) ?_
    refine rMi (vx_runSW (As := [.ref (ad 0), .int (nI k)]) (rest := [.long (43 * ((43 * (pA σ k)) + ((w1 (kM (nI k)) (rStateOf σ (nI k))).toInt64))), .long 43, .long 43]) ⟨hx, hb, hml, hown, hts⟩ (c_L_reason l hst D cy ad σ sz (nI k) (w1 (kM (nI k)) (rReason σ (nI k))) rfl) (vx_cwSW 2 hts gL_print_L_reason rfl rfl rfl (by decide +kernel) ⟨Nat.le_of_ble_eq_true rfl, Nat.le_of_ble_eq_true rfl⟩) ⟨cx_bl, cx_S hP hK NoA_z hxk hS⟩ rfl rfl hl.1 rfl (lv_room (Nat.le_of_ble_eq_true rfl)) dL_print_60 ⟨by show _ ≤ 280; omega, by show _ ≤ 1680; omega⟩) hS (fun H locs hS hg => ?_)
    have hP := hP.grown hg
    refine W.eq (g2 := F0 m 63 ls [.int (w1 (kM (nI k)) (rReason σ (nI k))), .long (43 * ((43 * (pA σ k)) + ((w1 (kM (nI k)) (rStateOf σ (nI k))).toInt64))), .long 43, .long 43]) rfl ?_
    refine lv_i2l hx hb dL_print_63 rfl ?_
    refine lv_ladd hx hb dL_print_64 ?_
    refine lv_lmul hx hb dL_print_65 ?_
    refine lv_aload_n hx hb dL_print_66 rfl (lv_at hl 2 rfl) ?_
    refine lv_iload_n hx hb dL_print_67 rfl (lv_at hl 0 rfl) ?_
    refine rMi (vx_runSW (As := [.ref (ad 0), .int (nI k)]) (rest := [.long (43 * ((43 * ((43 * (pA σ k)) + ((w1 (kM (nI k)) (rStateOf σ (nI k))).toInt64))) + ((w1 (kM (nI k)) (rReason σ (nI k))).toInt64))), .long 43]) ⟨hx, hb, hml, hown, hts⟩ (c_L_matchOf l hst D cy ad σ sz (nI k) (w1 (kM (nI k)) (rMatchOf σ (nI k))) rfl) (vx_cwSW 2 hts gL_print_L_matchOf rfl rfl rfl (by decide +kernel) ⟨Nat.le_of_ble_eq_true rfl, Nat.le_of_ble_eq_true rfl⟩) ⟨cx_bl, cx_S hP hK NoA_z hxk hS⟩ rfl rfl hl.1 rfl (lv_room (Nat.le_of_ble_eq_true rfl)) dL_print_68 ⟨by show _ ≤ 280; omega, by show _ ≤ 1680; omega⟩) hS (fun H locs hS hg => ?_)
    have hP := hP.grown hg
    refine W.eq (g2 := F0 m 71 ls [.int (w1 (kM (nI k)) (rMatchOf σ (nI k))), .long (43 * ((43 * ((43 * (pA σ k)) + ((w1 (kM (nI k)) (rStateOf σ (nI k))).toInt64))) + ((w1 (kM (nI k)) (rReason σ (nI k))).toInt64))), .long 43]) rfl ?_
    refine lv_i2l hx hb dL_print_71 rfl ?_
    refine lv_ladd hx hb dL_print_72 ?_
    refine lv_lmul hx hb dL_print_73 ?_
    refine lv_aload_n hx hb dL_print_74 rfl (lv_at hl 2 rfl) ?_
    refine lv_iload_n hx hb dL_print_75 rfl (lv_at hl 0 rfl) ?_
    refine rMi (vx_runSW (As := [.ref (ad 0), .int (nI k)]) (rest := [.long (43 * ((43 * ((43 * ((43 * (pA σ k)) + ((w1 (kM (nI k)) (rStateOf σ (nI k))).toInt64))) + ((w1 (kM (nI k)) (rReason σ (nI k))).toInt64))) + ((w1 (kM (nI k)) (rMatchOf σ (nI k))).toInt64)))]) ⟨hx, hb, hml, hown, hts⟩ (c_L_imageOf l hst D cy ad σ sz (nI k) (w1 (kM (nI k)) (rImageOf σ (nI k))) rfl) (vx_cwSW 2 hts gL_print_L_imageOf rfl rfl rfl (by decide +kernel) ⟨Nat.le_of_ble_eq_true rfl, Nat.le_of_ble_eq_true rfl⟩) ⟨cx_bl, cx_S hP hK NoA_z hxk hS⟩ rfl rfl hl.1 rfl (lv_room (Nat.le_of_ble_eq_true rfl)) dL_print_76 ⟨by show _ ≤ 280; omega, by show _ ≤ 1680; omega⟩) hS (fun H locs hS hg => ?_)
    have hP := hP.grown hg
    refine W.eq (g2 := F0 m 79 ls [.int (w1 (kM (nI k)) (rImageOf σ (nI k))), .long (43 * ((43 * ((43 * ((43 * (pA σ k)) + ((w1 (kM (nI k)) (rStateOf σ (nI k))).toInt64))) + ((w1 (kM (nI k)) (rReason σ (nI k))).toInt64))) + ((w1 (kM (nI k)) (rMatchOf σ (nI k))).toInt64)))]) rfl ?_
    refine lv_i2l hx hb dL_print_79 rfl ?_
    refine lv_ladd hx hb dL_print_80 ?_
    refine lv_lstore_n (lv' := [(1, .long ((43 * ((43 * ((43 * ((43 * (pA σ k)) + ((w1 (kM (nI k)) (rStateOf σ (nI k))).toInt64))) + ((w1 (kM (nI k)) (rReason σ (nI k))).toInt64))) + ((w1 (kM (nI k)) (rMatchOf σ (nI k))).toInt64))) + ((w1 (kM (nI k)) (rImageOf σ (nI k))).toInt64))), (3, .int (nI k)), (0, .ref (ad 0))]) hx hb dL_print_81 rfl hl (by decide) rfl (fun ls hl => ?_)
    refine lv_ldc2 (v := 43) hx hb hown (hts (.constantLong RL 97 (43)) (by decide +kernel)) dL_print_82 ?_
    refine lv_ldc2 (v := 43) hx hb hown (hts (.constantLong RL 97 (43)) (by decide +kernel)) dL_print_85 ?_
    refine lv_ldc2 (v := 43) hx hb hown (hts (.constantLong RL 97 (43)) (by decide +kernel)) dL_print_88 ?_
    refine lv_lload_n hx hb dL_print_91 rfl (lv_at hl 0 rfl) ?_
    refine lv_lmul hx hb dL_print_92 ?_
    refine lv_aload_n hx hb dL_print_93 rfl (lv_at hl 2 rfl) ?_
    refine lv_iload_n hx hb dL_print_94 rfl (lv_at hl 1 rfl) ?_
    refine rMi (vx_runSW (As := [.ref (ad 0), .int (nI k)]) (rest := [.long (43 * ((43 * ((43 * ((43 * ((43 * (pA σ k)) + ((w1 (kM (nI k)) (rStateOf σ (nI k))).toInt64))) + ((w1 (kM (nI k)) (rReason σ (nI k))).toInt64))) + ((w1 (kM (nI k)) (rMatchOf σ (nI k))).toInt64))) + ((w1 (kM (nI k)) (rImageOf σ (nI k))).toInt64))), .long 43, .long 43]) ⟨hx, hb, hml, hown, hts⟩ (c_L_endOf l hst D cy ad σ sz (nI k) (w1 (kM (nI k)) (rEndOf σ (nI k))) rfl) (vx_cwSW 2 hts gL_print_L_endOf rfl rfl rfl (by decide +kernel) ⟨Nat.le_of_ble_eq_true rfl, Nat.le_of_ble_eq_true rfl⟩) ⟨cx_bl, cx_S hP hK NoA_z hxk hS⟩ rfl rfl hl.1 rfl (lv_room (Nat.le_of_ble_eq_true rfl)) dL_print_95 ⟨by show _ ≤ 280; omega, by show _ ≤ 1680; omega⟩) hS (fun H locs hS hg => ?_)
    have hP := hP.grown hg
    refine W.eq (g2 := F0 m 98 ls [.int (w1 (kM (nI k)) (rEndOf σ (nI k))), .long (43 * ((43 * ((43 * ((43 * ((43 * (pA σ k)) + ((w1 (kM (nI k)) (rStateOf σ (nI k))).toInt64))) + ((w1 (kM (nI k)) (rReason σ (nI k))).toInt64))) + ((w1 (kM (nI k)) (rMatchOf σ (nI k))).toInt64))) + ((w1 (kM (nI k)) (rImageOf σ (nI k))).toInt64))), .long 43, .long 43]) rfl ?_
    refine lv_i2l hx hb dL_print_98 rfl ?_
    refine lv_ladd hx hb dL_print_99 ?_
    refine lv_lmul hx hb dL_print_100 ?_
    refine lv_aload_n hx hb dL_print_101 rfl (lv_at hl 2 rfl) ?_
    refine lv_iload_n hx hb dL_print_102 rfl (lv_at hl 1 rfl) ?_
    refine rMi (vx_runSW (As := [.ref (ad 0), .int (nI k)]) (rest := [.long (43 * ((43 * ((43 * ((43 * ((43 * ((43 * (pA σ k)) + ((w1 (kM (nI k)) (rStateOf σ (nI k))).toInt64))) + ((w1 (kM (nI k)) (rReason σ (nI k))).toInt64))) + ((w1 (kM (nI k)) (rMatchOf σ (nI k))).toInt64))) + ((w1 (kM (nI k)) (rImageOf σ (nI k))).toInt64))) + ((w1 (kM (nI k)) (rEndOf σ (nI k))).toInt64))), .long 43]) ⟨hx, hb, hml, hown, hts⟩ (c_L_failuresOf l hst D cy ad σ sz (nI k) (w1 (kM (nI k)) (rFailuresOf σ (nI k))) rfl) (vx_cwSW 2 hts gL_print_L_failuresOf rfl rfl rfl (by decide +kernel) ⟨Nat.le_of_ble_eq_true rfl, Nat.le_of_ble_eq_true rfl⟩) ⟨cx_bl, cx_S hP hK NoA_z hxk hS⟩ rfl rfl hl.1 rfl (lv_room (Nat.le_of_ble_eq_true rfl)) dL_print_103 ⟨by show _ ≤ 280; omega, by show _ ≤ 1680; omega⟩) hS (fun H locs hS hg => ?_)
    have hP := hP.grown hg
    refine W.eq (g2 := F0 m 106 ls [.int (w1 (kM (nI k)) (rFailuresOf σ (nI k))), .long (43 * ((43 * ((43 * ((43 * ((43 * ((43 * (pA σ k)) + ((w1 (kM (nI k)) (rStateOf σ (nI k))).toInt64))) + ((w1 (kM (nI k)) (rReason σ (nI k))).toInt64))) + ((w1 (kM (nI k)) (rMatchOf σ (nI k))).toInt64))) + ((w1 (kM (nI k)) (rImageOf σ (nI k))).toInt64))) + ((w1 (kM (nI k)) (rEndOf σ (nI k))).toInt64))), .long 43]) rfl ?_
    refine lv_i2l hx hb dL_print_106 rfl ?_
    refine lv_ladd hx hb dL_print_107 ?_
    refine lv_lmul hx hb dL_print_108 ?_
    refine lv_aload_n hx hb dL_print_109 rfl (lv_at hl 2 rfl) ?_
    refine lv_iload_n hx hb dL_print_110 rfl (lv_at hl 1 rfl) ?_
    refine lv_iconst (v := 4) hx hb dL_print_111 (by decide) ?_
    refine lv_irem hx hb dL_print_112 (by decide) ?_
    refine lv_iload_n hx hb dL_print_113 rfl (lv_at hl 1 rfl) ?_
    refine lv_iconst (v := 4) hx hb dL_print_114 (by decide) ?_
    refine lv_idiv hx hb dL_print_115 (by decide) ?_
    refine rMi (vx_runSW (As := [.ref (ad 0), .int ((nI k) - (nI k) / 4 * 4), .int ((nI k) / 4)]) (rest := [.long (43 * ((43 * ((43 * ((43 * ((43 * ((43 * ((43 * (pA σ k)) + ((w1 (kM (nI k)) (rStateOf σ (nI k))).toInt64))) + ((w1 (kM (nI k)) (rReason σ (nI k))).toInt64))) + ((w1 (kM (nI k)) (rMatchOf σ (nI k))).toInt64))) + ((w1 (kM (nI k)) (rImageOf σ (nI k))).toInt64))) + ((w1 (kM (nI k)) (rEndOf σ (nI k))).toInt64))) + ((w1 (kM (nI k)) (rFailuresOf σ (nI k))).toInt64)))]) ⟨hx, hb, hml, hown, hts⟩ (c_L_queueAt l hst D cy ad σ sz ((nI k) - (nI k) / 4 * 4) ((nI k) / 4) (w1 (kQueueAt ((nI k) - (nI k) / 4 * 4) ((nI k) / 4)) (rQueueAt σ ((nI k) - (nI k) / 4 * 4) ((nI k) / 4))) rfl) (vx_cwSW 3 hts gL_print_L_queueAt rfl rfl rfl (by decide +kernel) ⟨Nat.le_of_ble_eq_true rfl, Nat.le_of_ble_eq_true rfl⟩) ⟨cx_bl, cx_S hP hK NoA_z hxk hS⟩ rfl rfl hl.1 rfl (lv_room (Nat.le_of_ble_eq_true rfl)) dL_print_116 ⟨by show _ ≤ 280; omega, by show _ ≤ 1680; omega⟩) hS (fun H locs hS hg => ?_)
    have hP := hP.grown hg
    refine W.eq (g2 := F0 m 119 ls [.int (w1 (kQueueAt ((nI k) - (nI k) / 4 * 4) ((nI k) / 4)) (rQueueAt σ ((nI k) - (nI k) / 4 * 4) ((nI k) / 4))), .long (43 * ((43 * ((43 * ((43 * ((43 * ((43 * ((43 * (pA σ k)) + ((w1 (kM (nI k)) (rStateOf σ (nI k))).toInt64))) + ((w1 (kM (nI k)) (rReason σ (nI k))).toInt64))) + ((w1 (kM (nI k)) (rMatchOf σ (nI k))).toInt64))) + ((w1 (kM (nI k)) (rImageOf σ (nI k))).toInt64))) + ((w1 (kM (nI k)) (rEndOf σ (nI k))).toInt64))) + ((w1 (kM (nI k)) (rFailuresOf σ (nI k))).toInt64)))]) rfl ?_
    refine lv_i2l hx hb dL_print_119 rfl ?_
    refine lv_ladd hx hb dL_print_120 ?_
    refine lv_lstore_n (lv' := [(1, .long ((43 * ((43 * ((43 * ((43 * ((43 * ((43 * ((43 * (pA σ k)) + ((w1 (kM (nI k)) (rStateOf σ (nI k))).toInt64))) + ((w1 (kM (nI k)) (rReason σ (nI k))).toInt64))) + ((w1 (kM (nI k)) (rMatchOf σ (nI k))).toInt64))) + ((w1 (kM (nI k)) (rImageOf σ (nI k))).toInt64))) + ((w1 (kM (nI k)) (rEndOf σ (nI k))).toInt64))) + ((w1 (kM (nI k)) (rFailuresOf σ (nI k))).toInt64))) + ((w1 (kQueueAt ((nI k) - (nI k) / 4 * 4) ((nI k) / 4)) (rQueueAt σ ((nI k) - (nI k) / 4 * 4) ((nI k) / 4))).toInt64))), (3, .int (nI k)), (0, .ref (ad 0))]) hx hb dL_print_121 rfl hl (by decide) rfl (fun ls hl => ?_)
    refine lv_iinc (v := nI (k + 1)) (lv' := [(3, .int (nI (k + 1))), (1, .long ((43 * ((43 * ((43 * ((43 * ((43 * ((43 * ((43 * (pA σ k)) + ((w1 (kM (nI k)) (rStateOf σ (nI k))).toInt64))) + ((w1 (kM (nI k)) (rReason σ (nI k))).toInt64))) + ((w1 (kM (nI k)) (rMatchOf σ (nI k))).toInt64))) + ((w1 (kM (nI k)) (rImageOf σ (nI k))).toInt64))) + ((w1 (kM (nI k)) (rEndOf σ (nI k))).toInt64))) + ((w1 (kM (nI k)) (rFailuresOf σ (nI k))).toInt64))) + ((w1 (kQueueAt ((nI k) - (nI k) / 4 * 4) ((nI k) / 4)) (rQueueAt σ ((nI k) - (nI k) / 4 * 4) ((nI k) / 4))).toInt64))), (0, .ref (ad 0))]) hx hb dL_print_122 hl (k := 1) rfl (nI_1 k) (by decide) rfl (fun ls hl => ?_)
    refine lv_goto (tgt := 30) hx hb dL_print_125 (by decide) ?_
    have e70 : pA σ (k + 1) = (43 * ((43 * ((43 * ((43 * ((43 * ((43 * ((43 * (pA σ k)) + ((w1 (kM (nI k)) (rStateOf σ (nI k))).toInt64))) + ((w1 (kM (nI k)) (rReason σ (nI k))).toInt64))) + ((w1 (kM (nI k)) (rMatchOf σ (nI k))).toInt64))) + ((w1 (kM (nI k)) (rImageOf σ (nI k))).toInt64))) + ((w1 (kM (nI k)) (rEndOf σ (nI k))).toInt64))) + ((w1 (kM (nI k)) (rFailuresOf σ (nI k))).toInt64))) + ((w1 (kQueueAt ((nI k) - (nI k) / 4 * 4) ((nI k) / 4)) (rQueueAt σ ((nI k) - (nI k) / 4 * 4) ((nI k) / 4))).toInt64) := by rfl
    exact ih30 H locs ls _ _ (by omega) (by omega) (show lv_has ls 4 [(3, .int (nI (k + 1))), (1, .long (pA σ (k + 1))), (0, .ref (ad 0))] from by rw [e70]; exact lv_sub hl [0, 1, 2] rfl) hP hS
