/-! THE CONSTRUCTORS: worlds that grow -/
def ctP (D : va_G) (cy : Nat → ClassId) (sz : Nat) (ws : va_W) (U : State) : Prop := sz ≤ U.heap.size ∧ va_P D vwCl ws U.heap ∧ va_K D vwCl (tyC cy) U
theorem ctP_bl {av : List Value} {D : va_G} {cy : Nat → ClassId} {sz : Nat} {ws : va_W} : FrameBlind (va_Pc av (ctP D cy sz ws)) := fun a U g mk h => ⟨h.1, h.2.1, h.2.2.1, va_K.moved (u := U) (U := U.calling g mk a) (Vm.Alike.refl U.vm) h.2.2.2⟩
theorem ctP_at {av : List Value} {D : va_G} {cy : Nat → ClassId} {sz : Nat} {ws : va_W} {s : State} {H : Heap} (hz : sz ≤ H.size) (hP : va_P D vwCl ws H) (hK : va_K D vwCl (tyC cy) s) : ∀ U : State, U.heap = H → s.WarmedH U.vm → va_Pc av (ctP D cy sz ws) av.toArray U := fun U hU hW => ⟨rfl, by rw [hU]; exact hz, by rw [hU]; exact hP, va_K.moved hW.alike hK⟩
abbrev nwJ : Cond := .methodLinkNest RX3 27 yX1_init "MachineFoundry"
def ctP3 (D : va_G) (cy : Nat → ClassId) (sz : Nat) (ws : va_W) (U : State) : Prop := ctP D cy sz ws U ∧ va_AO RX2 U ∧ va_AO RX0 U ∧ va_Nw nwJ U
theorem ctP3_bl {av : List Value} {D : va_G} {cy : Nat → ClassId} {sz : Nat} {ws : va_W} : FrameBlind (va_Pc av (ctP3 D cy sz ws)) := fun a U g mk h => ⟨h.1, (ctP_bl (av := av) a U g mk ⟨h.1, h.2.1⟩).2, va_AO.moved (u := U) (U := U.calling g mk a) (Vm.Alike.refl U.vm) h.2.2.1, va_AO.moved (u := U) (U := U.calling g mk a) (Vm.Alike.refl U.vm) h.2.2.2.1, va_Nw.same rfl rfl h.2.2.2.2⟩
theorem ctP3_at {av : List Value} {D : va_G} {cy : Nat → ClassId} {sz : Nat} {ws : va_W} {s : State} {H : Heap} (hz : sz ≤ H.size) (hP : va_P D vwCl ws H) (hK : va_K D vwCl (tyC cy) s) (h1 : va_AO RX2 s) (h2 : va_AO RX0 s) (h3 : va_Nw nwJ s) : ∀ U : State, U.heap = H → s.WarmedH U.vm → va_Pc av (ctP3 D cy sz ws) av.toArray U := fun U hU hW => ⟨rfl, (ctP_at (av := av) hz hP hK U hU hW).2, va_AO.moved hW.alike h1, va_AO.moved hW.alike h2, va_Nw.warmM hW h3⟩
theorem wset {α : Type} (x x' : α) (t : List α) : ∀ ws : List α, (ws ++ x :: t).set ws.length x' = ws ++ x' :: t
  | [] => rfl
  | a :: ws => by
    show a :: (ws ++ x :: t).set ws.length x' = _
    rw [wset x x' t ws]
    rfl
theorem wget {α : Type} (x : α) (t ws : List α) : (ws ++ x :: t)[ws.length]? = some x := by simp
theorem va_D_one {A : Nat → Prop} {a : Nat} {e : va_E} (h : A a) : va_D A [(a, e)] := by
  refine ⟨fun i j p q hp hq _ => ?_, fun k q hq => ?_⟩
  · have h1 := (List.getElem?_eq_some_iff.mp hp).1
    have h2 := (List.getElem?_eq_some_iff.mp hq).1
    simp at h1 h2
    omega
  · have h1 := (List.getElem?_eq_some_iff.mp hq).1
    simp at h1
    subst h1
    cases hq
    exact h
/-- a row of references, said by another function that agrees below its length -/
theorem refs_cong {D : va_G} {cl : List vw_C} {ws : va_W} {H : Heap} {k a n : Nat} {cA : ClassId} {f g : Nat → Option Nat} (hP : va_P D cl ws H) (h : ws[k]? = some (a, .inl (cA, n, .inr (.inr (.inr (.inr f)))))) (hfg : ∀ i, i < n → f i = g i) : va_P D cl (ws.set k (a, .inl (cA, n, .inr (.inr (.inr (.inr g)))))) H := by
  intro j q hq
  by_cases hj : j = k
  · subst hj
    have hl := (List.getElem?_eq_some_iff.mp h).1
    rw [List.getElem?_set_self hl] at hq
    cases hq
    have h1 : H[a]? = some (vp_cell cA (n, .inr (.inr (.inr (.inr f))))) := hP j _ h
    show H[a]? = some (vp_cell cA (n, .inr (.inr (.inr (.inr g)))))
    rw [h1, vp_cell_q, vp_cell_q]
    unfold arrV
    congr 3
    funext i
    show va_rf (f i.1) = va_rf (g i.1)
    rw [hfg i.1 i.2]
  · rw [List.getElem?_set_ne (Ne.symm hj)] at hq
    exact hP j q hq
section CT
variable {p : Program} {l : Launch} {e : Env} {R : Room} {s : State} {m : MethodId} {args : Array Value} {below : List Frame} {meth : Method} {c : Code} {H : Heap} {locs : List Loc} {cells slots : Nat} {Q : State → Prop} {cc : ByteArray} {pc : Nat} {ls : Array Slot} {rest st0 : List Value} {D : va_G} {A : Nat → Prop} {a : Array Value} {ws : va_W} {H0 : Heap} {cy : Nat → ClassId} {mc ms : Nat}
theorem cMvN {PW : Heap → Prop} (hr : va_Run p l e R s m args below meth c H locs cells slots mc ms (F0 m pc ls st0) rest (QV PW A a) A) (hS : va_S A H0 H locs) (kk : ∀ (H1 : Heap) (locs1 : List Loc), PW H1 → va_S A H0 H1 locs1 → W p l e R s m args below meth c H1 locs1 (cells + mc) (slots + ms) Q (F0 m (pc + 3) ls rest)) : W p l e R s m args below meth c H locs cells slots Q (F0 m pc ls st0) :=
  va_callv hr hS (fun _ _ h => h) (fun _ h => h) (fun u t H1 locs1 ht _ _ hB _ _ hS1 => kk H1 locs1 (by rw [← ht]; exact hB) hS1)
theorem nwI (hx : p.tables.exec = Jvm.exec) (hb : c.code = cc) (harr : (Cond.arrayClass .int).before args s = true) (hK : va_K D vwCl (tyC cy) s) (hP : va_P D vwCl ws H) (hD : va_D A ws) (hS : va_S A H0 H locs) (hA : ∀ q, H0.size ≤ q → A q) {n : Int32} (N : Nat) (hn : ¬ n < 0) (hN : n.toNatClampNeg = N) (h9 : N ≤ 100) (hc : cells + 1 ≤ R.cells) (hs : slots + N ≤ R.slots) (hdg : decode cc pc = .ok (.newarray .int, 2))
    (kk : ∀ (q : Nat) (H1 : Heap), va_P D vwCl (ws ++ [(q, .inl (cy 0, N, .inl (fun _ => 0)))]) H1 → va_D A (ws ++ [(q, .inl (cy 0, N, .inl (fun _ => 0)))]) → va_S A H0 H1 locs → W p l e R s m args below meth c H1 locs (cells + 1) (slots + N) Q (F0 m (pc + 2) ls (.ref q :: rest))) : W p l e R s m args below meth c H locs cells slots Q (F0 m pc ls (.int n :: rest)) := by
  refine va_newa (atype := .int) (ty := .int) (a0 := (N, .inl (fun _ => 0))) hx hb harr rfl hK hP hD hS hA (fun cA => rfl) hn hN (by show N * 4 ≤ 536870912; omega) hc hs hdg (fun q cA H1 hK1 hP1 hD1 hS1 => ?_)
  have h1 := va_nm_int (hK1.2 5 (cA, .int) rfl).2
  have h2 := va_nm_int (hK.2 0 (cy 0, .int) rfl).2
  rw [h1] at h2
  cases h2
  exact kk q H1 hP1 hD1 hS1
theorem nwQ {own C : String} {index : Nat} (k : Nat) (ht : (tyC cy)[k]? = some (cy k, .object C)) (hx : p.tables.exec = Jvm.exec) (hb : c.code = cc) (hown : s.vm.findClass own = some m.cls) (hclink : (Cond.classLink own index C).before args s = true) (hover : va_AO C s) (hK : va_K D vwCl (tyC cy) s) (hP : va_P D vwCl ws H) (hD : va_D A ws) (hS : va_S A H0 H locs) (hA : ∀ q, H0.size ≤ q → A q) {n : Int32} (N : Nat) (hn : ¬ n < 0) (hN : n.toNatClampNeg = N) (h9 : N ≤ 100) (hc : cells + 1 ≤ R.cells) (hs : slots + N ≤ R.slots) (hdg : decode cc pc = .ok (.anewarray index, 3))
    (kk : ∀ (q : Nat) (H1 : Heap), va_P D vwCl (ws ++ [(q, .inl (cy k, N, .inr (.inr (.inr (.inr (fun _ => none))))))]) H1 → va_D A (ws ++ [(q, .inl (cy k, N, .inr (.inr (.inr (.inr (fun _ => none))))))]) → va_S A H0 H1 locs → W p l e R s m args below meth c H1 locs (cells + 1) (slots + N) Q (F0 m (pc + 3) ls (.ref q :: rest))) : W p l e R s m args below meth c H locs cells slots Q (F0 m pc ls (.int n :: rest)) := by
  refine va_newq hx hb hown hclink hover hK hP hD hS hA hn hN (by omega) hc hs hdg (fun q cA H1 hK1 hP1 hD1 hS1 => ?_)
  obtain ⟨_, _, _, _, _, h1⟩ : va_RA s cA (.object C) := (hK1.2 5 (cA, .object C) rfl).2
  obtain ⟨_, _, _, _, _, h2⟩ : va_RA s (cy k) (.object C) := (hK.2 k (cy k, .object C) ht).2
  rw [h1] at h2
  cases h2
  exact kk q H1 hP1 hD1 hS1
end CT
theorem fsX0 : ∀ j, j < 8 → defaultValue (tyX0 j) = vp_V [.int 0, .int 0, .int 0, .int 0, .int 0, .int 0, .int 0, .int 0] j := by
  intro j hj
  rcases (show j = 0 ∨ j = 1 ∨ j = 2 ∨ j = 3 ∨ j = 4 ∨ j = 5 ∨ j = 6 ∨ j = 7 by omega) with rfl | rfl | rfl | rfl | rfl | rfl | rfl | rfl <;> rfl
theorem fsX1 : ∀ j, j < 3 → defaultValue (tyX1 j) = vp_V [.null, .null, .int 0] j := by
  intro j hj
  rcases (show j = 0 ∨ j = 1 ∨ j = 2 by omega) with rfl | rfl | rfl <;> rfl
theorem fsX2 : ∀ j, j < 10 → defaultValue (tyX2 j) = vp_V [.int 0, .int 0, .int 0, .int 0, .int 0, .int 0, .int 0, .int 0, .int 0, .int 0] j := by
  intro j hj
  rcases (show j = 0 ∨ j = 1 ∨ j = 2 ∨ j = 3 ∨ j = 4 ∨ j = 5 ∨ j = 6 ∨ j = 7 ∨ j = 8 ∨ j = 9 by omega) with rfl | rfl | rfl | rfl | rfl | rfl | rfl | rfl | rfl | rfl <;> rfl
theorem fsX3 : ∀ j, j < 9 → defaultValue (tyX3 j) = vp_V [.null, .null, .null, .null, .int 0, .int 0, .int 0, .int 0, .int 0] j := by
  intro j hj
  rcases (show j = 0 ∨ j = 1 ∨ j = 2 ∨ j = 3 ∨ j = 4 ∨ j = 5 ∨ j = 6 ∨ j = 7 ∨ j = 8 by omega) with rfl | rfl | rfl | rfl | rfl | rfl | rfl | rfl | rfl <;> rfl
def b4 : Nat → Int32 := upd (upd (upd (upd (fun _ => 0) 0 2) 1 2) 2 2) 3 2
def σ0 : Mem := fun a b => match a with
  | 7 => -1
  | 8 => -1
  | 17 => 2
  | 20 => (match b with
    | 4 => 1
    | 5 => 3
    | _ => 0)
  | 21 => b4 b
  | _ => 0
set_option maxHeartbeats 4000000 in
set_option maxRecDepth 100000 in
theorem c_X0_init (l : Launch) (D : va_G) (cy : Nat → ClassId) (A : Nat → Prop) (sz : Nat) (ws : va_W) (q : Nat) (za : Int32) (hD : va_D A (ws ++ [(q, .inr (0, [.int 0, .int 0, .int 0, .int 0, .int 0, .int 0, .int 0, .int 0]))])) : Met l yX0_init wsX0_init ({ frames := 1, cells := 0, slots := 0, locals := 12 }) (va_Pc [.ref q, .int za] (ctP D cy sz (ws ++ [(q, .inr (0, [.int 0, .int 0, .int 0, .int 0, .int 0, .int 0, .int 0, .int 0]))]))) (QV (fun H => va_P D vwCl (ws ++ [(q, .inr (0, [.int za, .int 0, .int 0, .int 0, .int 0, .int 0, .int 0, .int 2]))]) H ∧ va_D A (ws ++ [(q, .inr (0, [.int za, .int 0, .int 0, .int 0, .int 0, .int 0, .int 0, .int 2]))])) A) 0 0 A := by
  refine Met.ofW (cc := cX0_init) (maxL := 2) (ret := none) (by decide) rfl ?_
  intro p e s m args below meth c s₁ B hml hv
  obtain ⟨rfl, hz, hP, hK⟩ := hv
  have hx := B.exec
  have hb := B.bytes
  have hr := B.returns
  have hts := atoms_spec (ws := wsX0_init) B.pre
  have hown : s.vm.findClass RX0 = some m.cls := findClass_of_methodNamed B.named
  have hlocks := B.notSynchronized
  have hin : meth.name = "<init>" := (name_of_methodNamed B.named B.method).1
  have hf0 := fun (w : Cond) (h : w ∈ wsX00) => hts w ((by decide +kernel : ∀ w ∈ wsX00, w ∈ wsX0_init) w h)
  have hS : va_S A s.heap s.heap [] := va_S.rf
  have hl := lv_entry ([.ref q, .int za]) (n := 2) (Nat.le_of_ble_eq_true rfl)
  rw [lg_entry_eq]
  generalize (lg_sl ([.ref q, .int za]) ++ List.replicate (2 - (lg_sl ([.ref q, .int za])).length) Slot.unset).toArray = ls at hl ⊢
  have hl : lv_has ls 2 [(0, .ref q), (1, .int za)] := hl
  refine lv_aload_n hx hb dX0_init_0 rfl (lv_at hl 0 rfl) ?_
  refine W.objInit hx hb hown (hts (.methodLink RX0 3 objectInit) (by decide +kernel)) (hts (.instanceMethod objectInit) (by decide +kernel)) (hts (.code objectInit ⟨#[0xb1]⟩ 1 none) (by decide +kernel)) rfl (by rw [hml]; exact hl.1) rfl dX0_init_1 (Nat.le_of_ble_eq_true rfl) (Nat.le_of_ble_eq_true rfl) ?_
  refine W.eq (g2 := F0 m 4 ls []) rfl ?_
  refine lv_aload_n hx hb dX0_init_4 rfl (lv_at hl 0 rfl) ?_
  refine lv_iconst (v := 0) hx hb dX0_init_5 (by decide) ?_
  refine va_put (ty := .boolean) (v := .int 0) (ci := 0) (C := RX0) (T := TX0) (N := 8) hx hb hf0 (fun _ h => h) tyX0 tyX0_ok nmX0 hown hK hP hD hS ws.length (wget _ _ ws) rfl 1 (by decide) (hts (.fieldLink RX0 9 "MachineFoundry$Image" "isSet" "Z") (by decide +kernel)) (fun _ h => h) rfl (by decide +kernel) rfl rfl (by decide : 1 < 8) dX0_init_6 (fun H locs hP hD hS => ?_)
  have hP : va_P D vwCl (ws ++ [(q, .inr (0, [.int 0, .int 0, .int 0, .int 0, .int 0, .int 0, .int 0, .int 0]))]) H := by rw [wset] at hP; exact hP
  have hD : va_D A (ws ++ [(q, .inr (0, [.int 0, .int 0, .int 0, .int 0, .int 0, .int 0, .int 0, .int 0]))]) := by rw [wset] at hD; exact hD
  refine lv_aload_n hx hb dX0_init_9 rfl (lv_at hl 0 rfl) ?_
  refine lv_iconst (v := 0) hx hb dX0_init_10 (by decide) ?_
  refine va_put (ty := .int) (v := .int 0) (ci := 0) (C := RX0) (T := TX0) (N := 8) hx hb hf0 (fun _ h => h) tyX0 tyX0_ok nmX0 hown hK hP hD hS ws.length (wget _ _ ws) rfl 2 (by decide) (hts (.fieldLink RX0 15 "MachineFoundry$Image" "priority" "I") (by decide +kernel)) (fun _ h => h) rfl (by decide +kernel) rfl rfl (by decide : 2 < 8) dX0_init_11 (fun H locs hP hD hS => ?_)
  have hP : va_P D vwCl (ws ++ [(q, .inr (0, [.int 0, .int 0, .int 0, .int 0, .int 0, .int 0, .int 0, .int 0]))]) H := by rw [wset] at hP; exact hP
  have hD : va_D A (ws ++ [(q, .inr (0, [.int 0, .int 0, .int 0, .int 0, .int 0, .int 0, .int 0, .int 0]))]) := by rw [wset] at hD; exact hD
  refine lv_aload_n hx hb dX0_init_14 rfl (lv_at hl 0 rfl) ?_
  refine lv_iconst (v := 0) hx hb dX0_init_15 (by decide) ?_
  refine va_put (ty := .int) (v := .int 0) (ci := 0) (C := RX0) (T := TX0) (N := 8) hx hb hf0 (fun _ h => h) tyX0 tyX0_ok nmX0 hown hK hP hD hS ws.length (wget _ _ ws) rfl 3 (by decide) (hts (.fieldLink RX0 19 "MachineFoundry$Image" "memory" "I") (by decide +kernel)) (fun _ h => h) rfl (by decide +kernel) rfl rfl (by decide : 3 < 8) dX0_init_16 (fun H locs hP hD hS => ?_)
  have hP : va_P D vwCl (ws ++ [(q, .inr (0, [.int 0, .int 0, .int 0, .int 0, .int 0, .int 0, .int 0, .int 0]))]) H := by rw [wset] at hP; exact hP
  have hD : va_D A (ws ++ [(q, .inr (0, [.int 0, .int 0, .int 0, .int 0, .int 0, .int 0, .int 0, .int 0]))]) := by rw [wset] at hD; exact hD
  refine lv_aload_n hx hb dX0_init_19 rfl (lv_at hl 0 rfl) ?_
  refine lv_iconst (v := 0) hx hb dX0_init_20 (by decide) ?_
  refine va_put (ty := .int) (v := .int 0) (ci := 0) (C := RX0) (T := TX0) (N := 8) hx hb hf0 (fun _ h => h) tyX0 tyX0_ok nmX0 hown hK hP hD hS ws.length (wget _ _ ws) rfl 4 (by decide) (hts (.fieldLink RX0 22 "MachineFoundry$Image" "kinds" "I") (by decide +kernel)) (fun _ h => h) rfl (by decide +kernel) rfl rfl (by decide : 4 < 8) dX0_init_21 (fun H locs hP hD hS => ?_)
  have hP : va_P D vwCl (ws ++ [(q, .inr (0, [.int 0, .int 0, .int 0, .int 0, .int 0, .int 0, .int 0, .int 0]))]) H := by rw [wset] at hP; exact hP
  have hD : va_D A (ws ++ [(q, .inr (0, [.int 0, .int 0, .int 0, .int 0, .int 0, .int 0, .int 0, .int 0]))]) := by rw [wset] at hD; exact hD
  refine lv_aload_n hx hb dX0_init_24 rfl (lv_at hl 0 rfl) ?_
  refine lv_iconst (v := 0) hx hb dX0_init_25 (by decide) ?_
  refine va_put (ty := .int) (v := .int 0) (ci := 0) (C := RX0) (T := TX0) (N := 8) hx hb hf0 (fun _ h => h) tyX0 tyX0_ok nmX0 hown hK hP hD hS ws.length (wget _ _ ws) rfl 5 (by decide) (hts (.fieldLink RX0 25 "MachineFoundry$Image" "required" "I") (by decide +kernel)) (fun _ h => h) rfl (by decide +kernel) rfl rfl (by decide : 5 < 8) dX0_init_26 (fun H locs hP hD hS => ?_)
  have hP : va_P D vwCl (ws ++ [(q, .inr (0, [.int 0, .int 0, .int 0, .int 0, .int 0, .int 0, .int 0, .int 0]))]) H := by rw [wset] at hP; exact hP
  have hD : va_D A (ws ++ [(q, .inr (0, [.int 0, .int 0, .int 0, .int 0, .int 0, .int 0, .int 0, .int 0]))]) := by rw [wset] at hD; exact hD
  refine lv_aload_n hx hb dX0_init_29 rfl (lv_at hl 0 rfl) ?_
  refine lv_iconst (v := 0) hx hb dX0_init_30 (by decide) ?_
  refine va_put (ty := .int) (v := .int 0) (ci := 0) (C := RX0) (T := TX0) (N := 8) hx hb hf0 (fun _ h => h) tyX0 tyX0_ok nmX0 hown hK hP hD hS ws.length (wget _ _ ws) rfl 6 (by decide) (hts (.fieldLink RX0 28 "MachineFoundry$Image" "barred" "I") (by decide +kernel)) (fun _ h => h) rfl (by decide +kernel) rfl rfl (by decide : 6 < 8) dX0_init_31 (fun H locs hP hD hS => ?_)
  have hP : va_P D vwCl (ws ++ [(q, .inr (0, [.int 0, .int 0, .int 0, .int 0, .int 0, .int 0, .int 0, .int 0]))]) H := by rw [wset] at hP; exact hP
  have hD : va_D A (ws ++ [(q, .inr (0, [.int 0, .int 0, .int 0, .int 0, .int 0, .int 0, .int 0, .int 0]))]) := by rw [wset] at hD; exact hD
  refine lv_aload_n hx hb dX0_init_34 rfl (lv_at hl 0 rfl) ?_
  refine lv_iconst (v := 2) hx hb dX0_init_35 (by decide) ?_
  refine va_put (ty := .int) (v := .int 2) (ci := 0) (C := RX0) (T := TX0) (N := 8) hx hb hf0 (fun _ h => h) tyX0 tyX0_ok nmX0 hown hK hP hD hS ws.length (wget _ _ ws) rfl 7 (by decide) (hts (.fieldLink RX0 31 "MachineFoundry$Image" "time" "I") (by decide +kernel)) (fun _ h => h) rfl (by decide +kernel) rfl rfl (by decide : 7 < 8) dX0_init_36 (fun H locs hP hD hS => ?_)
  have hP : va_P D vwCl (ws ++ [(q, .inr (0, [.int 0, .int 0, .int 0, .int 0, .int 0, .int 0, .int 0, .int 2]))]) H := by rw [wset] at hP; exact hP
  have hD : va_D A (ws ++ [(q, .inr (0, [.int 0, .int 0, .int 0, .int 0, .int 0, .int 0, .int 0, .int 2]))]) := by rw [wset] at hD; exact hD
  refine lv_aload_n hx hb dX0_init_39 rfl (lv_at hl 0 rfl) ?_
  refine lv_iload_n hx hb dX0_init_40 rfl (lv_at hl 1 rfl) ?_
  refine va_putF (ty := .int) (v := .int za) (ci := 0) (C := RX0) (T := TX0) (N := 8) hx hb hf0 (fun _ h => h) tyX0 tyX0_ok nmX0 hown hK hP hD hS ws.length (wget _ _ ws) rfl 0 (by decide) (hts (.fieldLink RX0 34 "MachineFoundry$Image" "number" "I") (by decide +kernel)) (fun _ h => h) rfl hin rfl (by decide +kernel) rfl rfl (by decide : 0 < 8) dX0_init_41 (fun H locs hP hD hS => ?_)
  have hP : va_P D vwCl (ws ++ [(q, .inr (0, [.int za, .int 0, .int 0, .int 0, .int 0, .int 0, .int 0, .int 2]))]) H := by rw [wset] at hP; exact hP
  have hD : va_D A (ws ++ [(q, .inr (0, [.int za, .int 0, .int 0, .int 0, .int 0, .int 0, .int 0, .int 2]))]) := by rw [wset] at hD; exact hD
  exact W.vret hx hb hr (fun t ht hW => ⟨⟨(), rfl, trivial, by rw [← ht] at hP; exact ⟨hP, hD⟩⟩, hS.F ht⟩) hS.2.2 dX0_init_44
set_option maxHeartbeats 4000000 in
set_option maxRecDepth 100000 in
theorem c_X2_init (l : Launch) (D : va_G) (cy : Nat → ClassId) (A : Nat → Prop) (sz : Nat) (ws : va_W) (q : Nat) (za : Int32) (hD : va_D A (ws ++ [(q, .inr (2, [.int 0, .int 0, .int 0, .int 0, .int 0, .int 0, .int 0, .int 0, .int 0, .int 0]))])) : Met l yX2_init wsX2_init ({ frames := 1, cells := 0, slots := 0, locals := 12 }) (va_Pc [.ref q, .int za] (ctP D cy sz (ws ++ [(q, .inr (2, [.int 0, .int 0, .int 0, .int 0, .int 0, .int 0, .int 0, .int 0, .int 0, .int 0]))]))) (QV (fun H => va_P D vwCl (ws ++ [(q, .inr (2, [.int za, .int 0, .int 0, .int 0, .int 0, .int 0, .int 0, .int (-1), .int (-1), .int 0]))]) H ∧ va_D A (ws ++ [(q, .inr (2, [.int za, .int 0, .int 0, .int 0, .int 0, .int 0, .int 0, .int (-1), .int (-1), .int 0]))])) A) 0 0 A := by
  refine Met.ofW (cc := cX2_init) (maxL := 2) (ret := none) (by decide) rfl ?_
  intro p e s m args below meth c s₁ B hml hv
  obtain ⟨rfl, hz, hP, hK⟩ := hv
  have hx := B.exec
  have hb := B.bytes
  have hr := B.returns
  have hts := atoms_spec (ws := wsX2_init) B.pre
  have hown : s.vm.findClass RX2 = some m.cls := findClass_of_methodNamed B.named
  have hlocks := B.notSynchronized
  have hin : meth.name = "<init>" := (name_of_methodNamed B.named B.method).1
  have hf2 := fun (w : Cond) (h : w ∈ wsX20) => hts w ((by decide +kernel : ∀ w ∈ wsX20, w ∈ wsX2_init) w h)
  have hS : va_S A s.heap s.heap [] := va_S.rf
  have hl := lv_entry ([.ref q, .int za]) (n := 2) (Nat.le_of_ble_eq_true rfl)
  rw [lg_entry_eq]
  generalize (lg_sl ([.ref q, .int za]) ++ List.replicate (2 - (lg_sl ([.ref q, .int za])).length) Slot.unset).toArray = ls at hl ⊢
  have hl : lv_has ls 2 [(0, .ref q), (1, .int za)] := hl
  refine lv_aload_n hx hb dX2_init_0 rfl (lv_at hl 0 rfl) ?_
  refine W.objInit hx hb hown (hts (.methodLink RX2 3 objectInit) (by decide +kernel)) (hts (.instanceMethod objectInit) (by decide +kernel)) (hts (.code objectInit ⟨#[0xb1]⟩ 1 none) (by decide +kernel)) rfl (by rw [hml]; exact hl.1) rfl dX2_init_1 (Nat.le_of_ble_eq_true rfl) (Nat.le_of_ble_eq_true rfl) ?_
  refine W.eq (g2 := F0 m 4 ls []) rfl ?_
  refine lv_aload_n hx hb dX2_init_4 rfl (lv_at hl 0 rfl) ?_
  refine lv_iconst (v := 0) hx hb dX2_init_5 (by decide) ?_
  refine va_put (ty := .int) (v := .int 0) (ci := 2) (C := RX2) (T := TX2) (N := 10) hx hb hf2 (fun _ h => h) tyX2 tyX2_ok nmX2 hown hK hP hD hS ws.length (wget _ _ ws) rfl 1 (by decide) (hts (.fieldLink RX2 9 "MachineFoundry$Machine" "state" "I") (by decide +kernel)) (fun _ h => h) rfl (by decide +kernel) rfl rfl (by decide : 1 < 10) dX2_init_6 (fun H locs hP hD hS => ?_)
  have hP : va_P D vwCl (ws ++ [(q, .inr (2, [.int 0, .int 0, .int 0, .int 0, .int 0, .int 0, .int 0, .int 0, .int 0, .int 0]))]) H := by rw [wset] at hP; exact hP
  have hD : va_D A (ws ++ [(q, .inr (2, [.int 0, .int 0, .int 0, .int 0, .int 0, .int 0, .int 0, .int 0, .int 0, .int 0]))]) := by rw [wset] at hD; exact hD
  refine lv_aload_n hx hb dX2_init_9 rfl (lv_at hl 0 rfl) ?_
  refine lv_iconst (v := 0) hx hb dX2_init_10 (by decide) ?_
  refine va_put (ty := .int) (v := .int 0) (ci := 2) (C := RX2) (T := TX2) (N := 10) hx hb hf2 (fun _ h => h) tyX2 tyX2_ok nmX2 hown hK hP hD hS ws.length (wget _ _ ws) rfl 2 (by decide) (hts (.fieldLink RX2 15 "MachineFoundry$Machine" "rack" "I") (by decide +kernel)) (fun _ h => h) rfl (by decide +kernel) rfl rfl (by decide : 2 < 10) dX2_init_11 (fun H locs hP hD hS => ?_)
  have hP : va_P D vwCl (ws ++ [(q, .inr (2, [.int 0, .int 0, .int 0, .int 0, .int 0, .int 0, .int 0, .int 0, .int 0, .int 0]))]) H := by rw [wset] at hP; exact hP
  have hD : va_D A (ws ++ [(q, .inr (2, [.int 0, .int 0, .int 0, .int 0, .int 0, .int 0, .int 0, .int 0, .int 0, .int 0]))]) := by rw [wset] at hD; exact hD
  refine lv_aload_n hx hb dX2_init_14 rfl (lv_at hl 0 rfl) ?_
  refine lv_iconst (v := 0) hx hb dX2_init_15 (by decide) ?_
  refine va_put (ty := .int) (v := .int 0) (ci := 2) (C := RX2) (T := TX2) (N := 10) hx hb hf2 (fun _ h => h) tyX2 tyX2_ok nmX2 hown hK hP hD hS ws.length (wget _ _ ws) rfl 3 (by decide) (hts (.fieldLink RX2 18 "MachineFoundry$Machine" "memory" "I") (by decide +kernel)) (fun _ h => h) rfl (by decide +kernel) rfl rfl (by decide : 3 < 10) dX2_init_16 (fun H locs hP hD hS => ?_)
  have hP : va_P D vwCl (ws ++ [(q, .inr (2, [.int 0, .int 0, .int 0, .int 0, .int 0, .int 0, .int 0, .int 0, .int 0, .int 0]))]) H := by rw [wset] at hP; exact hP
  have hD : va_D A (ws ++ [(q, .inr (2, [.int 0, .int 0, .int 0, .int 0, .int 0, .int 0, .int 0, .int 0, .int 0, .int 0]))]) := by rw [wset] at hD; exact hD
  refine lv_aload_n hx hb dX2_init_19 rfl (lv_at hl 0 rfl) ?_
  refine lv_iconst (v := 0) hx hb dX2_init_20 (by decide) ?_
  refine va_put (ty := .int) (v := .int 0) (ci := 2) (C := RX2) (T := TX2) (N := 10) hx hb hf2 (fun _ h => h) tyX2 tyX2_ok nmX2 hown hK hP hD hS ws.length (wget _ _ ws) rfl 4 (by decide) (hts (.fieldLink RX2 21 "MachineFoundry$Machine" "kind" "I") (by decide +kernel)) (fun _ h => h) rfl (by decide +kernel) rfl rfl (by decide : 4 < 10) dX2_init_21 (fun H locs hP hD hS => ?_)
  have hP : va_P D vwCl (ws ++ [(q, .inr (2, [.int 0, .int 0, .int 0, .int 0, .int 0, .int 0, .int 0, .int 0, .int 0, .int 0]))]) H := by rw [wset] at hP; exact hP
  have hD : va_D A (ws ++ [(q, .inr (2, [.int 0, .int 0, .int 0, .int 0, .int 0, .int 0, .int 0, .int 0, .int 0, .int 0]))]) := by rw [wset] at hD; exact hD
  refine lv_aload_n hx hb dX2_init_24 rfl (lv_at hl 0 rfl) ?_
  refine lv_iconst (v := 0) hx hb dX2_init_25 (by decide) ?_
  refine va_put (ty := .int) (v := .int 0) (ci := 2) (C := RX2) (T := TX2) (N := 10) hx hb hf2 (fun _ h => h) tyX2 tyX2_ok nmX2 hown hK hP hD hS ws.length (wget _ _ ws) rfl 5 (by decide) (hts (.fieldLink RX2 24 "MachineFoundry$Machine" "tags" "I") (by decide +kernel)) (fun _ h => h) rfl (by decide +kernel) rfl rfl (by decide : 5 < 10) dX2_init_26 (fun H locs hP hD hS => ?_)
  have hP : va_P D vwCl (ws ++ [(q, .inr (2, [.int 0, .int 0, .int 0, .int 0, .int 0, .int 0, .int 0, .int 0, .int 0, .int 0]))]) H := by rw [wset] at hP; exact hP
  have hD : va_D A (ws ++ [(q, .inr (2, [.int 0, .int 0, .int 0, .int 0, .int 0, .int 0, .int 0, .int 0, .int 0, .int 0]))]) := by rw [wset] at hD; exact hD
  refine lv_aload_n hx hb dX2_init_29 rfl (lv_at hl 0 rfl) ?_
  refine lv_iconst (v := 0) hx hb dX2_init_30 (by decide) ?_
  refine va_put (ty := .int) (v := .int 0) (ci := 2) (C := RX2) (T := TX2) (N := 10) hx hb hf2 (fun _ h => h) tyX2 tyX2_ok nmX2 hown hK hP hD hS ws.length (wget _ _ ws) rfl 6 (by decide) (hts (.fieldLink RX2 27 "MachineFoundry$Machine" "failures" "I") (by decide +kernel)) (fun _ h => h) rfl (by decide +kernel) rfl rfl (by decide : 6 < 10) dX2_init_31 (fun H locs hP hD hS => ?_)
  have hP : va_P D vwCl (ws ++ [(q, .inr (2, [.int 0, .int 0, .int 0, .int 0, .int 0, .int 0, .int 0, .int 0, .int 0, .int 0]))]) H := by rw [wset] at hP; exact hP
  have hD : va_D A (ws ++ [(q, .inr (2, [.int 0, .int 0, .int 0, .int 0, .int 0, .int 0, .int 0, .int 0, .int 0, .int 0]))]) := by rw [wset] at hD; exact hD
  refine lv_aload_n hx hb dX2_init_34 rfl (lv_at hl 0 rfl) ?_
  refine lv_iconst (v := (-1)) hx hb dX2_init_35 (by decide) ?_
  refine va_put (ty := .int) (v := .int (-1)) (ci := 2) (C := RX2) (T := TX2) (N := 10) hx hb hf2 (fun _ h => h) tyX2 tyX2_ok nmX2 hown hK hP hD hS ws.length (wget _ _ ws) rfl 7 (by decide) (hts (.fieldLink RX2 30 "MachineFoundry$Machine" "image" "I") (by decide +kernel)) (fun _ h => h) rfl (by decide +kernel) rfl rfl (by decide : 7 < 10) dX2_init_36 (fun H locs hP hD hS => ?_)
  have hP : va_P D vwCl (ws ++ [(q, .inr (2, [.int 0, .int 0, .int 0, .int 0, .int 0, .int 0, .int 0, .int (-1), .int 0, .int 0]))]) H := by rw [wset] at hP; exact hP
  have hD : va_D A (ws ++ [(q, .inr (2, [.int 0, .int 0, .int 0, .int 0, .int 0, .int 0, .int 0, .int (-1), .int 0, .int 0]))]) := by rw [wset] at hD; exact hD
  refine lv_aload_n hx hb dX2_init_39 rfl (lv_at hl 0 rfl) ?_
  refine lv_iconst (v := (-1)) hx hb dX2_init_40 (by decide) ?_
  refine va_put (ty := .int) (v := .int (-1)) (ci := 2) (C := RX2) (T := TX2) (N := 10) hx hb hf2 (fun _ h => h) tyX2 tyX2_ok nmX2 hown hK hP hD hS ws.length (wget _ _ ws) rfl 8 (by decide) (hts (.fieldLink RX2 33 "MachineFoundry$Machine" "end" "I") (by decide +kernel)) (fun _ h => h) rfl (by decide +kernel) rfl rfl (by decide : 8 < 10) dX2_init_41 (fun H locs hP hD hS => ?_)
  have hP : va_P D vwCl (ws ++ [(q, .inr (2, [.int 0, .int 0, .int 0, .int 0, .int 0, .int 0, .int 0, .int (-1), .int (-1), .int 0]))]) H := by rw [wset] at hP; exact hP
  have hD : va_D A (ws ++ [(q, .inr (2, [.int 0, .int 0, .int 0, .int 0, .int 0, .int 0, .int 0, .int (-1), .int (-1), .int 0]))]) := by rw [wset] at hD; exact hD
  refine lv_aload_n hx hb dX2_init_44 rfl (lv_at hl 0 rfl) ?_
  refine lv_iconst (v := 0) hx hb dX2_init_45 (by decide) ?_
  refine va_put (ty := .int) (v := .int 0) (ci := 2) (C := RX2) (T := TX2) (N := 10) hx hb hf2 (fun _ h => h) tyX2 tyX2_ok nmX2 hown hK hP hD hS ws.length (wget _ _ ws) rfl 9 (by decide) (hts (.fieldLink RX2 36 "MachineFoundry$Machine" "ticket" "I") (by decide +kernel)) (fun _ h => h) rfl (by decide +kernel) rfl rfl (by decide : 9 < 10) dX2_init_46 (fun H locs hP hD hS => ?_)
  have hP : va_P D vwCl (ws ++ [(q, .inr (2, [.int 0, .int 0, .int 0, .int 0, .int 0, .int 0, .int 0, .int (-1), .int (-1), .int 0]))]) H := by rw [wset] at hP; exact hP
  have hD : va_D A (ws ++ [(q, .inr (2, [.int 0, .int 0, .int 0, .int 0, .int 0, .int 0, .int 0, .int (-1), .int (-1), .int 0]))]) := by rw [wset] at hD; exact hD
  refine lv_aload_n hx hb dX2_init_49 rfl (lv_at hl 0 rfl) ?_
  refine lv_iload_n hx hb dX2_init_50 rfl (lv_at hl 1 rfl) ?_
  refine va_putF (ty := .int) (v := .int za) (ci := 2) (C := RX2) (T := TX2) (N := 10) hx hb hf2 (fun _ h => h) tyX2 tyX2_ok nmX2 hown hK hP hD hS ws.length (wget _ _ ws) rfl 0 (by decide) (hts (.fieldLink RX2 39 "MachineFoundry$Machine" "number" "I") (by decide +kernel)) (fun _ h => h) rfl hin rfl (by decide +kernel) rfl rfl (by decide : 0 < 10) dX2_init_51 (fun H locs hP hD hS => ?_)
  have hP : va_P D vwCl (ws ++ [(q, .inr (2, [.int za, .int 0, .int 0, .int 0, .int 0, .int 0, .int 0, .int (-1), .int (-1), .int 0]))]) H := by rw [wset] at hP; exact hP
  have hD : va_D A (ws ++ [(q, .inr (2, [.int za, .int 0, .int 0, .int 0, .int 0, .int 0, .int 0, .int (-1), .int (-1), .int 0]))]) := by rw [wset] at hD; exact hD
  exact W.vret hx hb hr (fun t ht hW => ⟨⟨(), rfl, trivial, by rw [← ht] at hP; exact ⟨hP, hD⟩⟩, hS.F ht⟩) hS.2.2 dX2_init_54
set_option maxHeartbeats 4000000 in
set_option maxRecDepth 100000 in
theorem c_X1_init (l : Launch) (D : va_G) (cy : Nat → ClassId) (A : Nat → Prop) (sz : Nat) (hA0 : ∀ q, sz ≤ q → A q) (ws : va_W) (q : Nat) (hD : va_D A (ws ++ [(q, .inr (1, [.null, .null, .int 0]))])) : Met l yX1_init wsX1_init ({ frames := 1, cells := 2, slots := 80, locals := 12 }) (va_Pc [.ref q] (ctP D cy sz (ws ++ [(q, .inr (1, [.null, .null, .int 0]))]))) (QV (fun H => ∃ q5 q6 : Nat, va_P D vwCl (ws ++ [(q, .inr (1, [.ref q5, .ref q6, .int 0])), (q5, .inl (cy 0, 40, .inl (fun _ => 0))), (q6, .inl (cy 0, 40, .inl (fun _ => 0)))]) H ∧ va_D A (ws ++ [(q, .inr (1, [.ref q5, .ref q6, .int 0])), (q5, .inl (cy 0, 40, .inl (fun _ => 0))), (q6, .inl (cy 0, 40, .inl (fun _ => 0)))])) A) 2 80 A := by
  refine Met.ofW (cc := cX1_init) (maxL := 1) (ret := none) (by decide) rfl ?_
  intro p e s m args below meth c s₁ B hml hv
  obtain ⟨rfl, hz, hP, hK⟩ := hv
  have hx := B.exec
  have hb := B.bytes
  have hr := B.returns
  have hts := atoms_spec (ws := wsX1_init) B.pre
  have hown : s.vm.findClass RX1 = some m.cls := findClass_of_methodNamed B.named
  have hlocks := B.notSynchronized
  have hin : meth.name = "<init>" := (name_of_methodNamed B.named B.method).1
  have hf1 := fun (w : Cond) (h : w ∈ wsX10) => hts w ((by decide +kernel : ∀ w ∈ wsX10, w ∈ wsX1_init) w h)
  have hS : va_S A s.heap s.heap [] := va_S.rf
  have hA : ∀ q : Nat, s.heap.size ≤ q → A q := fun q h => hA0 q (Nat.le_trans hz h)
  have hl := lv_entry ([.ref q]) (n := 1) (Nat.le_of_ble_eq_true rfl)
  rw [lg_entry_eq]
  generalize (lg_sl ([.ref q]) ++ List.replicate (1 - (lg_sl ([.ref q])).length) Slot.unset).toArray = ls at hl ⊢
  have hl : lv_has ls 1 [(0, .ref q)] := hl
  refine lv_aload_n hx hb dX1_init_0 rfl (lv_at hl 0 rfl) ?_
  refine W.objInit hx hb hown (hts (.methodLink RX1 1 objectInit) (by decide +kernel)) (hts (.instanceMethod objectInit) (by decide +kernel)) (hts (.code objectInit ⟨#[0xb1]⟩ 1 none) (by decide +kernel)) rfl (by rw [hml]; exact hl.1) rfl dX1_init_1 (Nat.le_of_ble_eq_true rfl) (Nat.le_of_ble_eq_true rfl) ?_
  refine W.eq (g2 := F0 m 4 ls []) rfl ?_
  refine lv_aload_n hx hb dX1_init_4 rfl (lv_at hl 0 rfl) ?_
  refine lv_bipush (v := 40) hx hb dX1_init_5 (by decide) ?_
  refine nwI hx hb (hts (.arrayClass .int) (by decide +kernel)) hK hP hD hS hA 40 (by decide) (by decide) (by decide) (Nat.le_of_ble_eq_true rfl) (Nat.le_of_ble_eq_true rfl) dX1_init_7 (fun q1 H hP hD hS => ?_)
  have hP : va_P D vwCl (ws ++ [(q, .inr (1, [.null, .null, .int 0])), (q1, .inl (cy 0, 40, .inl (fun _ => 0)))]) H := by rw [List.append_assoc] at hP; exact hP
  have hD : va_D A (ws ++ [(q, .inr (1, [.null, .null, .int 0])), (q1, .inl (cy 0, 40, .inl (fun _ => 0)))]) := by rw [List.append_assoc] at hD; exact hD
  refine va_putF (ty := .array .int) (v := .ref q1) (ci := 1) (C := RX1) (T := TX1) (N := 3) hx hb hf1 (fun _ h => h) tyX1 tyX1_ok nmX1 hown hK hP hD hS ws.length (wget _ _ ws) rfl 0 (by decide) (hts (.fieldLink RX1 7 "MachineFoundry$Journal" "numbers" "[I") (by decide +kernel)) (fun _ h => h) rfl hin rfl (by decide +kernel) rfl rfl (by decide : 0 < 3) dX1_init_9 (fun H locs hP hD hS => ?_)
  have hP : va_P D vwCl (ws ++ [(q, .inr (1, [.ref q1, .null, .int 0])), (q1, .inl (cy 0, 40, .inl (fun _ => 0)))]) H := by rw [wset] at hP; exact hP
  have hD : va_D A (ws ++ [(q, .inr (1, [.ref q1, .null, .int 0])), (q1, .inl (cy 0, 40, .inl (fun _ => 0)))]) := by rw [wset] at hD; exact hD
  refine lv_aload_n hx hb dX1_init_12 rfl (lv_at hl 0 rfl) ?_
  refine lv_bipush (v := 40) hx hb dX1_init_13 (by decide) ?_
  refine nwI hx hb (hts (.arrayClass .int) (by decide +kernel)) hK hP hD hS hA 40 (by decide) (by decide) (by decide) (Nat.le_of_ble_eq_true rfl) (Nat.le_of_ble_eq_true rfl) dX1_init_15 (fun q2 H hP hD hS => ?_)
  have hP : va_P D vwCl (ws ++ [(q, .inr (1, [.ref q1, .null, .int 0])), (q1, .inl (cy 0, 40, .inl (fun _ => 0))), (q2, .inl (cy 0, 40, .inl (fun _ => 0)))]) H := by rw [List.append_assoc] at hP; exact hP
  have hD : va_D A (ws ++ [(q, .inr (1, [.ref q1, .null, .int 0])), (q1, .inl (cy 0, 40, .inl (fun _ => 0))), (q2, .inl (cy 0, 40, .inl (fun _ => 0)))]) := by rw [List.append_assoc] at hD; exact hD
  refine va_putF (ty := .array .int) (v := .ref q2) (ci := 1) (C := RX1) (T := TX1) (N := 3) hx hb hf1 (fun _ h => h) tyX1 tyX1_ok nmX1 hown hK hP hD hS ws.length (wget _ _ ws) rfl 1 (by decide) (hts (.fieldLink RX1 13 "MachineFoundry$Journal" "statesBefore" "[I") (by decide +kernel)) (fun _ h => h) rfl hin rfl (by decide +kernel) rfl rfl (by decide : 1 < 3) dX1_init_17 (fun H locs hP hD hS => ?_)
  have hP : va_P D vwCl (ws ++ [(q, .inr (1, [.ref q1, .ref q2, .int 0])), (q1, .inl (cy 0, 40, .inl (fun _ => 0))), (q2, .inl (cy 0, 40, .inl (fun _ => 0)))]) H := by rw [wset] at hP; exact hP
  have hD : va_D A (ws ++ [(q, .inr (1, [.ref q1, .ref q2, .int 0])), (q1, .inl (cy 0, 40, .inl (fun _ => 0))), (q2, .inl (cy 0, 40, .inl (fun _ => 0)))]) := by rw [wset] at hD; exact hD
  refine lv_aload_n hx hb dX1_init_20 rfl (lv_at hl 0 rfl) ?_
  refine lv_iconst (v := 0) hx hb dX1_init_21 (by decide) ?_
  refine va_put (ty := .int) (v := .int 0) (ci := 1) (C := RX1) (T := TX1) (N := 3) hx hb hf1 (fun _ h => h) tyX1 tyX1_ok nmX1 hown hK hP hD hS ws.length (wget _ _ ws) rfl 2 (by decide) (hts (.fieldLink RX1 16 "MachineFoundry$Journal" "added" "I") (by decide +kernel)) (fun _ h => h) rfl (by decide +kernel) rfl rfl (by decide : 2 < 3) dX1_init_22 (fun H locs hP hD hS => ?_)
  have hP : va_P D vwCl (ws ++ [(q, .inr (1, [.ref q1, .ref q2, .int 0])), (q1, .inl (cy 0, 40, .inl (fun _ => 0))), (q2, .inl (cy 0, 40, .inl (fun _ => 0)))]) H := by rw [wset] at hP; exact hP
  have hD : va_D A (ws ++ [(q, .inr (1, [.ref q1, .ref q2, .int 0])), (q1, .inl (cy 0, 40, .inl (fun _ => 0))), (q2, .inl (cy 0, 40, .inl (fun _ => 0)))]) := by rw [wset] at hD; exact hD
  exact W.vret hx hb hr (fun t ht hW => ⟨⟨(), rfl, trivial, by rw [← ht] at hP; exact ⟨q1, q2, hP, hD⟩⟩, hS.F ht⟩) hS.2.2 dX1_init_25
