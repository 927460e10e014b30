/-! THE LAW'S OWN METHODS: a call of the class, what it throws as a number -/
theorem metWH {l : Launch} {y : MethodName} {ws ws' : List Cond} {rm : Room} {Pc : Array Value → State → Prop} {Qc : Array Value → State → Outcome → State → Prop} {mc ms : Nat} {free : Addr → Prop} {cc : ByteArray} {maxL : Nat} {ret : Option FieldType} {hh : List (Nat × Nat × Nat × Nat)}
    (hy : plainName y.cls = true) (hw : ws = Cond.codeWith y cc maxL ret hh :: ws')
    (body : ∀ p e s m args below meth c s₁, BodyLoose p l y (headSpec ws rm) cc maxL ret e s m args below meth c s₁ → c.maxLocals = maxL → Pc args s →
      W p l e (headSpec ws rm).room s m args below meth c s.heap [] 0 0 (MQ below Qc args s mc ms free) (entryFrame m args maxL)) : Met l y ws rm Pc Qc mc ms free := by
  refine MetFree.of_bodyS (code := cc) (maxLocals := maxL) (ret := ret) hy ?_ ?_
  · intro args s m h hn
    obtain ⟨m9, meth, c, hn9, h1, h2, h3, h4, -, h5, h6, -⟩ := Cond.codeWith_spec (atoms_spec (ws := ws) h _ (by rw [hw]; exact List.mem_cons_self))
    cases hn.symm.trans hn9
    exact ⟨meth, c, h1, h2, h3, h4, h5, h6⟩
  · intro p e s m args below meth c s₁ B hml hP _
    have hh0 : s₁.heap = s.heap := by rw [B.state]; rfl
    obtain ⟨t, a1, o, b1, b2, b3, b4⟩ := body p e s m args below meth c s₁ B hml hP s₁ hh0 (Stand.of_body B)
    exact ⟨t, o, a1, b1, b2, b3, b4⟩
abbrev oW (cy : Nat → ClassId) (ob : Nat) (f : Nat → Int64) : va_W := [(ob, .inl (cy 4, 1, .inr (.inl f)))]
/-- the class's cells, and the cell where the law keeps an answer -/
def AO (ad : Nat → Nat) (ob : Nat) : Nat → Prop := fun q => AC ad q ∨ q = ob
def lx (D : va_G) (cy : Nat → ClassId) (ad : Nat → Nat) (σ : Mem) (sz ob : Nat) (f : Nat → Int64) (U : State) : Prop := cx D cy ad σ sz U ∧ va_P D vwCl (oW cy ob f) U.heap
theorem lx_bl {av : List Value} {D : va_G} {cy : Nat → ClassId} {ad : Nat → Nat} {σ : Mem} {sz ob : Nat} {f : Nat → Int64} : FrameBlind (va_Pc av (lx D cy ad σ sz ob f)) := fun a U g mk h => ⟨h.1, (cx_bl (av := av) a U g mk ⟨h.1, h.2.1⟩).2, h.2.2⟩
theorem va_P.grown {D : va_G} {cl : List vw_C} {ws : va_W} {H H1 : Heap} (hP : va_P D cl ws H) (h : ∀ q : Nat, q < H.size → H1[q]? = H[q]?) : va_P D cl ws H1 := hP.kept (fun k q hq => h _ ((hP k q hq).lt))
theorem va_P.apart {D : va_G} {cl : List vw_C} {ws : va_W} {H H1 : Heap} {A : Nat → Prop} (hP : va_P D cl ws H) (h : ∀ q : Nat, q < H.size → ¬ A q → H1[q]? = H[q]?) (hA : ∀ (k : Nat) (q : Nat × va_E), ws[k]? = some q → ¬ A q.1) : va_P D cl ws H1 := hP.kept (fun k q hq => h _ ((hP k q hq).lt) (hA k q hq))
theorem va_P.left {D : va_G} {cl : List vw_C} {w1 w2 : va_W} {H : Heap} (hP : va_P D cl (w1 ++ w2) H) : va_P D cl w1 H := fun k q hq => hP k q (by rw [List.getElem?_append_left (List.getElem?_eq_some_iff.mp hq).1]; exact hq)
theorem va_P.right {D : va_G} {cl : List vw_C} {w1 w2 : va_W} {H : Heap} (hP : va_P D cl (w1 ++ w2) H) : va_P D cl w2 H := fun k q hq => hP (w1.length + k) q (by rw [List.getElem?_append_right (by omega), Nat.add_sub_cancel_left]; exact hq)
theorem va_S.grown {A : Nat → Prop} {H0 H1 : Heap} (h1 : H0.size ≤ H1.size) (h2 : ∀ q : Nat, q < H0.size → H1[q]? = H0[q]?) : va_S A H0 H1 [] := ⟨h1, fun q hq _ => h2 q hq, fun _ h => nomatch h⟩
theorem oW_no {cy : Nat → ClassId} {ad : Nat → Nat} {ob : Nat} {f : Nat → Int64} (hno : ∀ k, k < 31 → ad k ≠ ob) : ∀ (k : Nat) (q : Nat × va_E), (oW cy ob f)[k]? = some q → ¬ AC ad q.1 := by
  intro k q hq ⟨j, hj, he⟩
  have h1 := (List.getElem?_eq_some_iff.mp hq).1
  simp at h1
  subst h1
  cases hq
  exact hno j hj he.symm
theorem wCo_D {cy : Nat → ClassId} {ad : Nat → Nat} {ob : Nat} {f : Nat → Int64} (hj : inj31 ad) (hno : ∀ k, k < 31 → ad k ≠ ob) (σ : Mem) : va_D (AO ad ob) (wC cy ad σ ++ oW cy ob f) := by
  refine va_D.app ((wC_D (cy := cy) hj σ).weaken (fun _ _ _ h => Or.inl h)) (va_D_one (Or.inr rfl)) (fun i j p q hp hq h => ?_)
  obtain ⟨k, hk, he⟩ := (wC_D (cy := cy) hj σ).2 i p hp
  have h1 := (List.getElem?_eq_some_iff.mp hq).1
  simp at h1
  subst h1
  cases hq
  exact hno k hk (he.symm.trans h)
theorem va_S.cast {A : Nat → Prop} {H0 H : Heap} {locs : List Loc} (h : va_S A H0 H locs) : va_S A H0 H locs := h
section WR
variable {p : Program} {l : Launch} {e : Env} {R : Room} {s : State} {m : MethodId} {args : Array Value} {below : List Frame} {meth : Method} {c : Code} {H : Heap} {locs : List Loc} {cells slots : Nat} {Q : State → Prop} {cc : ByteArray} {pc : Nat} {ls : Array Slot} {rest st0 : List Value} {D : va_G} {A A0 : Nat → Prop} {a : Array Value} {H0 : Heap} {cy : Nat → ClassId} {mc ms : Nat} {EX : String → Prop}
theorem xMvA {PW : Heap → Prop} (hsub : ∀ q, A q → A0 q) (hr : vx_Run p l e R s m args below meth c H locs cells slots mc ms (F0 m pc ls st0) rest (QV PW A a) (XE EX) A) (hS : va_S A0 H0 H locs)
    (kx : ∀ (E : String) (ce : Cell) (q9 : Addr) (H1 : Heap) (locs1 : List Loc), EX E → va_S A0 H0 H1 locs1 → H.size ≤ H1.size → (∀ q : Nat, q < H.size → H1[q]? = H[q]?) → H1[q9]? = some ce → ce.vm = .none → s.vm.findClass E = some ce.cls → vx_W p l e R s m args below meth c H1 locs1 (cells + mc) (slots + ms) Q (F0 m pc ls rest) q9)
    (kk : ∀ (H1 : Heap) (locs1 : List Loc), PW H1 → va_S A0 H0 H1 locs1 → H.size ≤ H1.size → (∀ q : Nat, q < H.size → ¬ A q → H1[q]? = H[q]?) → W p l e R s m args below meth c H1 locs1 (cells + mc) (slots + ms) Q (F0 m (pc + 3) ls rest)) : W p l e R s m args below meth c H locs cells slots Q (F0 m pc ls st0) :=
  vx_callv hr hS (fun q _ h => hsub q h) (fun q h => hsub q h) (fun _ _ h => h.elim)
    (fun E ce q9 u t H1 locs1 ht _ _ hB hz hk hS1 h1 h2 h3 => kx E ce q9 H1 locs1 hB hS1 hz (fun q hq => hk q hq (fun z => z)) h1 h2 h3)
    (fun u t H1 locs1 ht _ _ hB hz hk hS1 => kk H1 locs1 (by rw [← ht]; exact hB) hS1 hz hk)
theorem xMiA {x : Int32} {PW : Heap → Prop} (hsub : ∀ q, A q → A0 q) (hr : vx_Run p l e R s m args below meth c H locs cells slots mc ms (F0 m pc ls st0) rest (QI x PW A a) (XE EX) A) (hS : va_S A0 H0 H locs)
    (kx : ∀ (E : String) (ce : Cell) (q9 : Addr) (H1 : Heap) (locs1 : List Loc), EX E → va_S A0 H0 H1 locs1 → H.size ≤ H1.size → (∀ q : Nat, q < H.size → H1[q]? = H[q]?) → H1[q9]? = some ce → ce.vm = .none → s.vm.findClass E = some ce.cls → vx_W p l e R s m args below meth c H1 locs1 (cells + mc) (slots + ms) Q (F0 m pc ls rest) q9)
    (kk : ∀ (H1 : Heap) (locs1 : List Loc), PW H1 → va_S A0 H0 H1 locs1 → H.size ≤ H1.size → (∀ q : Nat, q < H.size → ¬ A q → H1[q]? = H[q]?) → W p l e R s m args below meth c H1 locs1 (cells + mc) (slots + ms) Q (F0 m (pc + 3) ls (.int x :: rest))) : W p l e R s m args below meth c H locs cells slots Q (F0 m pc ls st0) :=
  vx_calli hr hS (fun q _ h => hsub q h) (fun q h => hsub q h) (fun _ _ h => h.elim)
    (fun E ce q9 u t H1 locs1 ht _ _ hB hz hk hS1 h1 h2 h3 => kx E ce q9 H1 locs1 hB hS1 hz (fun q hq => hk q hq (fun z => z)) h1 h2 h3)
    (fun r u t H1 locs1 ht _ hr9 hB hz hk hS1 => by rw [hr9]; exact kk H1 locs1 (by rw [← ht]; exact hB) hS1 hz hk)
/-- the answer goes into the cell of the law -/
theorem stO {ad : Nat → Nat} {ob : Nat} {f : Nat → Int64} {σ : Mem} (hx : p.tables.exec = Jvm.exec) (hb : c.code = cc) (hK : va_K D vwCl (tyC cy) s) (hj : inj31 ad) (hno : ∀ k, k < 31 → ad k ≠ ob) (hP : va_P D vwCl (wC cy ad σ) H) (hPo : va_P D vwCl (oW cy ob f) H) (hS : va_S (AO ad ob) H0 H locs) {x : Int64} (hdg : decode cc pc = .ok (.lastore, 1))
    (kk : ∀ (H1 : Heap) (locs1 : List Loc) (f1 : Nat → Int64), f1 0 = x → va_P D vwCl (wC cy ad σ) H1 → va_P D vwCl (oW cy ob f1) H1 → va_S (AO ad ob) H0 H1 locs1 → W p l e R s m args below meth c H1 locs1 cells slots Q (F0 m (pc + 1) ls rest)) : W p l e R s m args below meth c H locs cells slots Q (F0 m pc ls (.long x :: .int 0 :: .ref ob :: rest)) := by
  refine va_last hx hb hK (hP.app hPo) (wCo_D hj hno σ) hS (wC cy ad σ).length 4 (wget _ [] _) rfl (vp_in_nI (show 0 < 1 by decide) (by decide)) hdg (fun H1 locs1 h1 _ h3 => ?_)
  rw [wset] at h1
  exact kk H1 locs1 _ rfl h1.left h1.right h3
end WR
set_option maxHeartbeats 4000000 in
set_option maxRecDepth 100000 in
theorem c_L_setImage (l : Launch) (hst : l.stackTraces = false) (D : va_G) (cy : Nat → ClassId) (ad : Nat → Nat) (hj : inj31 ad) (σ : Mem) (sz : Nat) (za zb zc zd ze zf : Int32) : Met l yL_setImage wsL_setImage ({ frames := 8, cells := 6, slots := 36, locals := 141 }) (va_Pc [.ref (ad 0), .int za, .int zb, .int zc, .int zd, .int ze, .int zf] (cx D cy ad σ sz)) (QI (kSetImage za zb zc zd ze zf) (fun H => va_P D vwCl (wC cy ad (if kSetImage za zb zc zd ze zf = 0 then gSetImage σ za zb zc zd ze zf else σ)) H) (AC ad)) 6 36 (AC ad) := by
  refine metWH (cc := cL_setImage) (maxL := 8) (ret := (some .int)) (hh := [(0, 13, 16, 13), (0, 13, 20, 15)]) (by decide) rfl ?_
  intro p e s m args below meth c s₁ B hml hv
  obtain ⟨rfl, ⟨hP, hK⟩, hxk⟩ := hv
  have hx := B.exec
  have hb := B.bytes
  have hr := B.returns
  have hts := atoms_spec (ws := wsL_setImage) B.pre
  have hown : s.vm.findClass RL = some m.cls := findClass_of_methodNamed B.named
  have hT := vx_table (x := yL_setImage) B (hts (.codeWith yL_setImage cL_setImage 8 (some .int) [(0, 13, 16, 13), (0, 13, 20, 15)]) List.mem_cons_self)
  have hS : va_S (AC ad) s.heap s.heap [] := va_S.rf
  have hl := lv_entry ([.ref (ad 0), .int za, .int zb, .int zc, .int zd, .int ze, .int zf]) (n := 8) (Nat.le_of_ble_eq_true rfl)
  rw [lg_entry_eq]
  generalize (lg_sl ([.ref (ad 0), .int za, .int zb, .int zc, .int zd, .int ze, .int zf]) ++ List.replicate (8 - (lg_sl ([.ref (ad 0), .int za, .int zb, .int zc, .int zd, .int ze, .int zf])).length) Slot.unset).toArray = ls at hl ⊢
  have hl : lv_has ls 8 [(0, .ref (ad 0)), (1, .int za), (2, .int zb), (3, .int zc), (4, .int zd), (5, .int ze), (6, .int zf)] := hl
  refine lv_aload_n hx hb dL_setImage_0 rfl (lv_at hl 0 rfl) ?_
  refine lv_iload_n hx hb dL_setImage_1 rfl (lv_at hl 1 rfl) ?_
  refine lv_iload_n hx hb dL_setImage_2 rfl (lv_at hl 2 rfl) ?_
  refine lv_iload_n hx hb dL_setImage_3 rfl (lv_at hl 3 rfl) ?_
  refine lv_iload hx hb dL_setImage_4 (lv_at hl 4 rfl) ?_
  refine lv_iload hx hb dL_setImage_6 (lv_at hl 5 rfl) ?_
  refine lv_iload hx hb dL_setImage_8 (lv_at hl 6 rfl) ?_
  refine xMvA (fun _ h => h) (vx_runV (As := [.int za, .int zb, .int zc, .int zd, .int ze, .int zf]) (rest := []) ⟨hx, hb, hml, hown, hts⟩ (c_X3_setImage l hst D cy ad hj σ sz za zb zc zd ze zf) (cwV 6 hts gL_setImage_X3_setImage rfl rfl rfl (by decide +kernel) ⟨Nat.le_of_ble_eq_true rfl, Nat.le_of_ble_eq_true rfl⟩) ⟨cx_bl, cw_F hP hK, cx_at hP hK hxk⟩ rfl rfl hl.1 rfl (lv_room (Nat.le_of_ble_eq_true rfl)) dL_setImage_10 ⟨Nat.le_of_ble_eq_true rfl, Nat.le_of_ble_eq_true rfl⟩) hS (fun E ce q9 H locs hE hS hz hk h3 h4 h5 => ?_) (fun H locs hP hS hz hk => ?_)
  · have hP := hP.grown hk
    rcases (show ex12 _ _ from hE) with ⟨rfl, hk0⟩ | ⟨rfl, hk0⟩
    · refine vx_catch (name := "java/lang/IndexOutOfBoundsException") hown [] ⟨0, 13, 16, 13⟩ [⟨0, 13, 20, 15⟩] (hT.trans rfl) (fun _ h => nomatch h) rfl (by decide) (hts (.classLink RL 13 "java/lang/IndexOutOfBoundsException") (by decide +kernel)) (va_Nw.use rfl (hxk.2.2.1 (.castable "java/lang/IndexOutOfBoundsException" "java/lang/IndexOutOfBoundsException") (by decide +kernel))) h3 h4 h5 ?_
      refine lv_astore (lv' := [(7, .ref q9), (0, .ref (ad 0)), (1, .int za), (2, .int zb), (3, .int zc), (4, .int zd), (5, .int ze), (6, .int zf)]) hx hb dL_setImage_16 hl (by decide) rfl (fun ls hl => ?_)
      refine lv_iconst (v := 1) hx hb dL_setImage_18 (by decide) ?_
      have hn0 : ¬ kSetImage za zb zc zd ze zf = 0 := by rw [hk0]; decide
      have hP : va_P D vwCl (wC cy ad (if kSetImage za zb zc zd ze zf = 0 then gSetImage σ za zb zc zd ze zf else σ)) H := by rw [if_neg hn0]; exact hP
      exact W.iret (v := 1) hx hb hr (fun t ht hW => ⟨⟨_, (), rfl, hk0.symm, by rw [← ht] at hP; exact hP⟩, hS.F ht⟩) hS.2.2 dL_setImage_19
    · refine vx_catch (name := "java/lang/IllegalArgumentException") hown [⟨0, 13, 16, 13⟩] ⟨0, 13, 20, 15⟩ [] (hT.trans rfl) (fun z hz9 => by rw [List.mem_singleton.mp hz9]; exact Or.inr ⟨by decide, "java/lang/IndexOutOfBoundsException", hts (.classLink RL 13 "java/lang/IndexOutOfBoundsException") (by decide +kernel), hxk.2.2.2.1 ("java/lang/IllegalArgumentException", "java/lang/IndexOutOfBoundsException") (by decide +kernel)⟩) rfl (by decide) (hts (.classLink RL 15 "java/lang/IllegalArgumentException") (by decide +kernel)) (va_Nw.use rfl (hxk.2.2.1 (.castable "java/lang/IllegalArgumentException" "java/lang/IllegalArgumentException") (by decide +kernel))) h3 h4 h5 ?_
      refine lv_astore (lv' := [(7, .ref q9), (0, .ref (ad 0)), (1, .int za), (2, .int zb), (3, .int zc), (4, .int zd), (5, .int ze), (6, .int zf)]) hx hb dL_setImage_20 hl (by decide) rfl (fun ls hl => ?_)
      refine lv_iconst (v := 2) hx hb dL_setImage_22 (by decide) ?_
      have hn0 : ¬ kSetImage za zb zc zd ze zf = 0 := by rw [hk0]; decide
      have hP : va_P D vwCl (wC cy ad (if kSetImage za zb zc zd ze zf = 0 then gSetImage σ za zb zc zd ze zf else σ)) H := by rw [if_neg hn0]; exact hP
      exact W.iret (v := 2) hx hb hr (fun t ht hW => ⟨⟨_, (), rfl, hk0.symm, by rw [← ht] at hP; exact hP⟩, hS.F ht⟩) hS.2.2 dL_setImage_23
  · obtain ⟨hk0, hP⟩ := hP
    refine W.eq (g2 := F0 m 13 ls []) rfl ?_
    refine lv_goto (tgt := 24) hx hb dL_setImage_13 (by decide) ?_
    refine lv_iconst (v := 0) hx hb dL_setImage_24 (by decide) ?_
    have hP : va_P D vwCl (wC cy ad (if kSetImage za zb zc zd ze zf = 0 then gSetImage σ za zb zc zd ze zf else σ)) H := by rw [if_pos hk0]; exact hP
    exact W.iret (v := 0) hx hb hr (fun t ht hW => ⟨⟨_, (), rfl, hk0.symm, by rw [← ht] at hP; exact hP⟩, hS.F ht⟩) hS.2.2 dL_setImage_25
set_option maxHeartbeats 4000000 in
set_option maxRecDepth 100000 in
theorem c_L_setTime (l : Launch) (hst : l.stackTraces = false) (D : va_G) (cy : Nat → ClassId) (ad : Nat → Nat) (hj : inj31 ad) (σ : Mem) (sz : Nat) (ob : Nat) (hno : ∀ k, k < 31 → ad k ≠ ob) (f : Nat → Int64) (za zb : Int32) : Met l yL_setTime wsL_setTime ({ frames := 9, cells := 3, slots := 18, locals := 149 }) (va_Pc [.ref (ad 0), .int za, .int zb, .ref ob] (lx D cy ad σ sz ob f)) (QI (kSetTime σ za zb) (fun H => va_P D vwCl (wC cy ad (if kSetTime σ za zb = 0 then gSetTime σ za zb else σ)) H ∧ ∃ f1, va_P D vwCl (oW cy ob f1) H ∧ (kSetTime σ za zb = 0 → f1 0 = (rSetTime σ za).toInt64)) (AO ad ob)) 3 18 (AO ad ob) := by
  refine metWH (cc := cL_setTime) (maxL := 5) (ret := (some .int)) (hh := [(0, 10, 13, 13), (0, 10, 17, 15)]) (by decide) rfl ?_
  intro p e s m args below meth c s₁ B hml hv
  obtain ⟨rfl, ⟨⟨hP, hK⟩, hxk⟩, hPo⟩ := hv
  have hx := B.exec
  have hb := B.bytes
  have hr := B.returns
  have hts := atoms_spec (ws := wsL_setTime) B.pre
  have hown : s.vm.findClass RL = some m.cls := findClass_of_methodNamed B.named
  have hT := vx_table (x := yL_setTime) B (hts (.codeWith yL_setTime cL_setTime 5 (some .int) [(0, 10, 13, 13), (0, 10, 17, 15)]) List.mem_cons_self)
  have hS : va_S (AO ad ob) s.heap s.heap [] := va_S.rf
  have hl := lv_entry ([.ref (ad 0), .int za, .int zb, .ref ob]) (n := 5) (Nat.le_of_ble_eq_true rfl)
  rw [lg_entry_eq]
  generalize (lg_sl ([.ref (ad 0), .int za, .int zb, .ref ob]) ++ List.replicate (5 - (lg_sl ([.ref (ad 0), .int za, .int zb, .ref ob])).length) Slot.unset).toArray = ls at hl ⊢
  have hl : lv_has ls 5 [(0, .ref (ad 0)), (1, .int za), (2, .int zb), (3, .ref ob)] := hl
  refine lv_aload_n hx hb dL_setTime_0 rfl (lv_at hl 3 rfl) ?_
  refine lv_iconst (v := 0) hx hb dL_setTime_1 (by decide) ?_
  refine lv_aload_n hx hb dL_setTime_2 rfl (lv_at hl 0 rfl) ?_
  refine lv_iload_n hx hb dL_setTime_3 rfl (lv_at hl 1 rfl) ?_
  refine lv_iload_n hx hb dL_setTime_4 rfl (lv_at hl 2 rfl) ?_
  refine xMiA (fun _ h => Or.inl h) (vx_runV (As := [.int za, .int zb]) (rest := [.int 0, .ref ob]) ⟨hx, hb, hml, hown, hts⟩ (c_X3_setTime l hst D cy ad hj σ sz za zb) (cwV 2 hts gL_setTime_X3_setTime rfl rfl rfl (by decide +kernel) ⟨Nat.le_of_ble_eq_true rfl, Nat.le_of_ble_eq_true rfl⟩) ⟨cx_bl, cw_F hP hK, cx_at hP hK hxk⟩ rfl rfl hl.1 rfl (lv_room (Nat.le_of_ble_eq_true rfl)) dL_setTime_5 ⟨Nat.le_of_ble_eq_true rfl, Nat.le_of_ble_eq_true rfl⟩) hS (fun E ce q9 H locs hE hS hz hk h3 h4 h5 => ?_) (fun H locs hP hS hz hk => ?_)
  · have hP := hP.grown hk
    have hPo := hPo.grown hk
    rcases (show ex12 _ _ from hE) with ⟨rfl, hk0⟩ | ⟨rfl, hk0⟩
    · refine vx_catch (name := "java/lang/IndexOutOfBoundsException") hown [] ⟨0, 10, 13, 13⟩ [⟨0, 10, 17, 15⟩] (hT.trans rfl) (fun _ h => nomatch h) rfl (by decide) (hts (.classLink RL 13 "java/lang/IndexOutOfBoundsException") (by decide +kernel)) (va_Nw.use rfl (hxk.2.2.1 (.castable "java/lang/IndexOutOfBoundsException" "java/lang/IndexOutOfBoundsException") (by decide +kernel))) h3 h4 h5 ?_
      refine lv_astore (lv' := [(4, .ref q9), (0, .ref (ad 0)), (1, .int za), (2, .int zb), (3, .ref ob)]) hx hb dL_setTime_13 hl (by decide) rfl (fun ls hl => ?_)
      refine lv_iconst (v := 1) hx hb dL_setTime_15 (by decide) ?_
      have hn0 : ¬ kSetTime σ za zb = 0 := by rw [hk0]; decide
      have hP : va_P D vwCl (wC cy ad (if kSetTime σ za zb = 0 then gSetTime σ za zb else σ)) H := by rw [if_neg hn0]; exact hP
      exact W.iret (v := 1) hx hb hr (fun t ht hW => ⟨⟨_, (), rfl, hk0.symm, ⟨by rw [← ht] at hP; exact hP, f, by rw [ht]; exact hPo, fun h => absurd h hn0⟩⟩, hS.F ht⟩) hS.2.2 dL_setTime_16
    · refine vx_catch (name := "java/lang/IllegalArgumentException") hown [⟨0, 10, 13, 13⟩] ⟨0, 10, 17, 15⟩ [] (hT.trans rfl) (fun z hz9 => by rw [List.mem_singleton.mp hz9]; exact Or.inr ⟨by decide, "java/lang/IndexOutOfBoundsException", hts (.classLink RL 13 "java/lang/IndexOutOfBoundsException") (by decide +kernel), hxk.2.2.2.1 ("java/lang/IllegalArgumentException", "java/lang/IndexOutOfBoundsException") (by decide +kernel)⟩) rfl (by decide) (hts (.classLink RL 15 "java/lang/IllegalArgumentException") (by decide +kernel)) (va_Nw.use rfl (hxk.2.2.1 (.castable "java/lang/IllegalArgumentException" "java/lang/IllegalArgumentException") (by decide +kernel))) h3 h4 h5 ?_
      refine lv_astore (lv' := [(4, .ref q9), (0, .ref (ad 0)), (1, .int za), (2, .int zb), (3, .ref ob)]) hx hb dL_setTime_17 hl (by decide) rfl (fun ls hl => ?_)
      refine lv_iconst (v := 2) hx hb dL_setTime_19 (by decide) ?_
      have hn0 : ¬ kSetTime σ za zb = 0 := by rw [hk0]; decide
      have hP : va_P D vwCl (wC cy ad (if kSetTime σ za zb = 0 then gSetTime σ za zb else σ)) H := by rw [if_neg hn0]; exact hP
      exact W.iret (v := 2) hx hb hr (fun t ht hW => ⟨⟨_, (), rfl, hk0.symm, ⟨by rw [← ht] at hP; exact hP, f, by rw [ht]; exact hPo, fun h => absurd h hn0⟩⟩, hS.F ht⟩) hS.2.2 dL_setTime_20
  · obtain ⟨hk0, hP⟩ := hP
    have hPo := hPo.apart hk (oW_no hno)
    refine W.eq (g2 := F0 m 8 ls [.int (rSetTime σ za), .int 0, .ref ob]) rfl ?_
    refine lv_i2l hx hb dL_setTime_8 rfl ?_
    refine stO hx hb hK hj hno hP hPo hS dL_setTime_9 (fun H locs f1 hf1 hP hPo hS => ?_)
    refine lv_goto (tgt := 21) hx hb dL_setTime_10 (by decide) ?_
    refine lv_iconst (v := 0) hx hb dL_setTime_21 (by decide) ?_
    have hP : va_P D vwCl (wC cy ad (if kSetTime σ za zb = 0 then gSetTime σ za zb else σ)) H := by rw [if_pos hk0]; exact hP
    exact W.iret (v := 0) hx hb hr (fun t ht hW => ⟨⟨_, (), rfl, hk0.symm, ⟨by rw [← ht] at hP; exact hP, f1, by rw [ht]; exact hPo, fun _ => hf1⟩⟩, hS.F ht⟩) hS.2.2 dL_setTime_22
set_option maxHeartbeats 4000000 in
set_option maxRecDepth 100000 in
theorem c_L_dropImage (l : Launch) (hst : l.stackTraces = false) (D : va_G) (cy : Nat → ClassId) (ad : Nat → Nat) (hj : inj31 ad) (σ : Mem) (sz : Nat) (za : Int32) : Met l yL_dropImage wsL_dropImage ({ frames := 9, cells := 2, slots := 12, locals := 147 }) (va_Pc [.ref (ad 0), .int za] (cx D cy ad σ sz)) (QI (kDropImage σ za) (fun H => va_P D vwCl (wC cy ad (if kDropImage σ za = 0 then gDropImage σ za else σ)) H) (AC ad)) 2 12 (AC ad) := by
  refine metWH (cc := cL_dropImage) (maxL := 3) (ret := (some .int)) (hh := [(0, 5, 8, 13)]) (by decide) rfl ?_
  intro p e s m args below meth c s₁ B hml hv
  obtain ⟨rfl, ⟨hP, hK⟩, hxk⟩ := hv
  have hx := B.exec
  have hb := B.bytes
  have hr := B.returns
  have hts := atoms_spec (ws := wsL_dropImage) B.pre
  have hown : s.vm.findClass RL = some m.cls := findClass_of_methodNamed B.named
  have hT := vx_table (x := yL_dropImage) B (hts (.codeWith yL_dropImage cL_dropImage 3 (some .int) [(0, 5, 8, 13)]) List.mem_cons_self)
  have hS : va_S (AC ad) s.heap s.heap [] := va_S.rf
  have hl := lv_entry ([.ref (ad 0), .int za]) (n := 3) (Nat.le_of_ble_eq_true rfl)
  rw [lg_entry_eq]
  generalize (lg_sl ([.ref (ad 0), .int za]) ++ List.replicate (3 - (lg_sl ([.ref (ad 0), .int za])).length) Slot.unset).toArray = ls at hl ⊢
  have hl : lv_has ls 3 [(0, .ref (ad 0)), (1, .int za)] := hl
  refine lv_aload_n hx hb dL_dropImage_0 rfl (lv_at hl 0 rfl) ?_
  refine lv_iload_n hx hb dL_dropImage_1 rfl (lv_at hl 1 rfl) ?_
  refine xMvA (fun _ h => h) (vx_runV (As := [.int za]) (rest := []) ⟨hx, hb, hml, hown, hts⟩ (c_X3_dropImage l hst D cy ad hj σ sz za) (cwV 1 hts gL_dropImage_X3_dropImage rfl rfl rfl (by decide +kernel) ⟨Nat.le_of_ble_eq_true rfl, Nat.le_of_ble_eq_true rfl⟩) ⟨cx_bl, cw_F hP hK, cx_at hP hK hxk⟩ rfl rfl hl.1 rfl (lv_room (Nat.le_of_ble_eq_true rfl)) dL_dropImage_2 ⟨Nat.le_of_ble_eq_true rfl, Nat.le_of_ble_eq_true rfl⟩) hS (fun E ce q9 H locs hE hS hz hk h3 h4 h5 => ?_) (fun H locs hP hS hz hk => ?_)
  · have hP := hP.grown hk
    obtain ⟨rfl, hk0⟩ := hE
    refine vx_catch (name := "java/lang/IndexOutOfBoundsException") hown [] ⟨0, 5, 8, 13⟩ [] (hT.trans rfl) (fun _ h => nomatch h) rfl (by decide) (hts (.classLink RL 13 "java/lang/IndexOutOfBoundsException") (by decide +kernel)) (va_Nw.use rfl (hxk.2.2.1 (.castable "java/lang/IndexOutOfBoundsException" "java/lang/IndexOutOfBoundsException") (by decide +kernel))) h3 h4 h5 ?_
    refine lv_astore_n (lv' := [(2, .ref q9), (0, .ref (ad 0)), (1, .int za)]) hx hb dL_dropImage_8 rfl hl (by decide) rfl (fun ls hl => ?_)
    refine lv_iconst (v := 1) hx hb dL_dropImage_9 (by decide) ?_
    have hn0 : ¬ kDropImage σ za = 0 := by rw [hk0]; decide
    have hP : va_P D vwCl (wC cy ad (if kDropImage σ za = 0 then gDropImage σ za else σ)) H := by rw [if_neg hn0]; exact hP
    exact W.iret (v := 1) hx hb hr (fun t ht hW => ⟨⟨_, (), rfl, hk0.symm, by rw [← ht] at hP; exact hP⟩, hS.F ht⟩) hS.2.2 dL_dropImage_10
  · obtain ⟨hk0, hP⟩ := hP
    refine W.eq (g2 := F0 m 5 ls []) rfl ?_
    refine lv_goto (tgt := 11) hx hb dL_dropImage_5 (by decide) ?_
    refine lv_iconst (v := 0) hx hb dL_dropImage_11 (by decide) ?_
    have hP : va_P D vwCl (wC cy ad (if kDropImage σ za = 0 then gDropImage σ za else σ)) H := by rw [if_pos hk0]; exact hP
    exact W.iret (v := 0) hx hb hr (fun t ht hW => ⟨⟨_, (), rfl, hk0.symm, by rw [← ht] at hP; exact hP⟩, hS.F ht⟩) hS.2.2 dL_dropImage_12
set_option maxHeartbeats 4000000 in
set_option maxRecDepth 100000 in
theorem c_L_setBatch (l : Launch) (hst : l.stackTraces = false) (D : va_G) (cy : Nat → ClassId) (ad : Nat → Nat) (hj : inj31 ad) (σ : Mem) (sz : Nat) (ob : Nat) (hno : ∀ k, k < 31 → ad k ≠ ob) (f : Nat → Int64) (za zb : Int32) : Met l yL_setBatch wsL_setBatch ({ frames := 8, cells := 1, slots := 6, locals := 137 }) (va_Pc [.ref (ad 0), .int za, .int zb, .ref ob] (lx D cy ad σ sz ob f)) (QI (kSetBatch za zb) (fun H => va_P D vwCl (wC cy ad (if kSetBatch za zb = 0 then gSetBatch σ za zb else σ)) H ∧ ∃ f1, va_P D vwCl (oW cy ob f1) H ∧ (kSetBatch za zb = 0 → f1 0 = (rSetBatch σ za).toInt64)) (AO ad ob)) 1 6 (AO ad ob) := by
  refine metWH (cc := cL_setBatch) (maxL := 5) (ret := (some .int)) (hh := [(0, 10, 13, 13), (0, 10, 17, 15)]) (by decide) rfl ?_
  intro p e s m args below meth c s₁ B hml hv
  obtain ⟨rfl, ⟨⟨hP, hK⟩, hxk⟩, hPo⟩ := hv
  have hx := B.exec
  have hb := B.bytes
  have hr := B.returns
  have hts := atoms_spec (ws := wsL_setBatch) B.pre
  have hown : s.vm.findClass RL = some m.cls := findClass_of_methodNamed B.named
  have hT := vx_table (x := yL_setBatch) B (hts (.codeWith yL_setBatch cL_setBatch 5 (some .int) [(0, 10, 13, 13), (0, 10, 17, 15)]) List.mem_cons_self)
  have hS : va_S (AO ad ob) s.heap s.heap [] := va_S.rf
  have hl := lv_entry ([.ref (ad 0), .int za, .int zb, .ref ob]) (n := 5) (Nat.le_of_ble_eq_true rfl)
  rw [lg_entry_eq]
  generalize (lg_sl ([.ref (ad 0), .int za, .int zb, .ref ob]) ++ List.replicate (5 - (lg_sl ([.ref (ad 0), .int za, .int zb, .ref ob])).length) Slot.unset).toArray = ls at hl ⊢
  have hl : lv_has ls 5 [(0, .ref (ad 0)), (1, .int za), (2, .int zb), (3, .ref ob)] := hl
  refine lv_aload_n hx hb dL_setBatch_0 rfl (lv_at hl 3 rfl) ?_
  refine lv_iconst (v := 0) hx hb dL_setBatch_1 (by decide) ?_
  refine lv_aload_n hx hb dL_setBatch_2 rfl (lv_at hl 0 rfl) ?_
  refine lv_iload_n hx hb dL_setBatch_3 rfl (lv_at hl 1 rfl) ?_
  refine lv_iload_n hx hb dL_setBatch_4 rfl (lv_at hl 2 rfl) ?_
  refine xMiA (fun _ h => Or.inl h) (vx_runV (As := [.int za, .int zb]) (rest := [.int 0, .ref ob]) ⟨hx, hb, hml, hown, hts⟩ (c_X3_setBatch l hst D cy ad hj σ sz za zb) (cwV 2 hts gL_setBatch_X3_setBatch rfl rfl rfl (by decide +kernel) ⟨Nat.le_of_ble_eq_true rfl, Nat.le_of_ble_eq_true rfl⟩) ⟨cx_bl, cw_F hP hK, cx_at hP hK hxk⟩ rfl rfl hl.1 rfl (lv_room (Nat.le_of_ble_eq_true rfl)) dL_setBatch_5 ⟨Nat.le_of_ble_eq_true rfl, Nat.le_of_ble_eq_true rfl⟩) hS (fun E ce q9 H locs hE hS hz hk h3 h4 h5 => ?_) (fun H locs hP hS hz hk => ?_)
  · have hP := hP.grown hk
    have hPo := hPo.grown hk
    rcases (show ex12 _ _ from hE) with ⟨rfl, hk0⟩ | ⟨rfl, hk0⟩
    · refine vx_catch (name := "java/lang/IndexOutOfBoundsException") hown [] ⟨0, 10, 13, 13⟩ [⟨0, 10, 17, 15⟩] (hT.trans rfl) (fun _ h => nomatch h) rfl (by decide) (hts (.classLink RL 13 "java/lang/IndexOutOfBoundsException") (by decide +kernel)) (va_Nw.use rfl (hxk.2.2.1 (.castable "java/lang/IndexOutOfBoundsException" "java/lang/IndexOutOfBoundsException") (by decide +kernel))) h3 h4 h5 ?_
      refine lv_astore (lv' := [(4, .ref q9), (0, .ref (ad 0)), (1, .int za), (2, .int zb), (3, .ref ob)]) hx hb dL_setBatch_13 hl (by decide) rfl (fun ls hl => ?_)
      refine lv_iconst (v := 1) hx hb dL_setBatch_15 (by decide) ?_
      have hn0 : ¬ kSetBatch za zb = 0 := by rw [hk0]; decide
      have hP : va_P D vwCl (wC cy ad (if kSetBatch za zb = 0 then gSetBatch σ za zb else σ)) H := by rw [if_neg hn0]; exact hP
      exact W.iret (v := 1) hx hb hr (fun t ht hW => ⟨⟨_, (), rfl, hk0.symm, ⟨by rw [← ht] at hP; exact hP, f, by rw [ht]; exact hPo, fun h => absurd h hn0⟩⟩, hS.F ht⟩) hS.2.2 dL_setBatch_16
    · refine vx_catch (name := "java/lang/IllegalArgumentException") hown [⟨0, 10, 13, 13⟩] ⟨0, 10, 17, 15⟩ [] (hT.trans rfl) (fun z hz9 => by rw [List.mem_singleton.mp hz9]; exact Or.inr ⟨by decide, "java/lang/IndexOutOfBoundsException", hts (.classLink RL 13 "java/lang/IndexOutOfBoundsException") (by decide +kernel), hxk.2.2.2.1 ("java/lang/IllegalArgumentException", "java/lang/IndexOutOfBoundsException") (by decide +kernel)⟩) rfl (by decide) (hts (.classLink RL 15 "java/lang/IllegalArgumentException") (by decide +kernel)) (va_Nw.use rfl (hxk.2.2.1 (.castable "java/lang/IllegalArgumentException" "java/lang/IllegalArgumentException") (by decide +kernel))) h3 h4 h5 ?_
      refine lv_astore (lv' := [(4, .ref q9), (0, .ref (ad 0)), (1, .int za), (2, .int zb), (3, .ref ob)]) hx hb dL_setBatch_17 hl (by decide) rfl (fun ls hl => ?_)
      refine lv_iconst (v := 2) hx hb dL_setBatch_19 (by decide) ?_
      have hn0 : ¬ kSetBatch za zb = 0 := by rw [hk0]; decide
      have hP : va_P D vwCl (wC cy ad (if kSetBatch za zb = 0 then gSetBatch σ za zb else σ)) H := by rw [if_neg hn0]; exact hP
      exact W.iret (v := 2) hx hb hr (fun t ht hW => ⟨⟨_, (), rfl, hk0.symm, ⟨by rw [← ht] at hP; exact hP, f, by rw [ht]; exact hPo, fun h => absurd h hn0⟩⟩, hS.F ht⟩) hS.2.2 dL_setBatch_20
  · obtain ⟨hk0, hP⟩ := hP
    have hPo := hPo.apart hk (oW_no hno)
    refine W.eq (g2 := F0 m 8 ls [.int (rSetBatch σ za), .int 0, .ref ob]) rfl ?_
    refine lv_i2l hx hb dL_setBatch_8 rfl ?_
    refine stO hx hb hK hj hno hP hPo hS dL_setBatch_9 (fun H locs f1 hf1 hP hPo hS => ?_)
    refine lv_goto (tgt := 21) hx hb dL_setBatch_10 (by decide) ?_
    refine lv_iconst (v := 0) hx hb dL_setBatch_21 (by decide) ?_
    have hP : va_P D vwCl (wC cy ad (if kSetBatch za zb = 0 then gSetBatch σ za zb else σ)) H := by rw [if_pos hk0]; exact hP
    exact W.iret (v := 0) hx hb hr (fun t ht hW => ⟨⟨_, (), rfl, hk0.symm, ⟨by rw [← ht] at hP; exact hP, f1, by rw [ht]; exact hPo, fun _ => hf1⟩⟩, hS.F ht⟩) hS.2.2 dL_setBatch_22
set_option maxHeartbeats 4000000 in
set_option maxRecDepth 100000 in
theorem c_L_setRetries (l : Launch) (hst : l.stackTraces = false) (D : va_G) (cy : Nat → ClassId) (ad : Nat → Nat) (hj : inj31 ad) (σ : Mem) (sz : Nat) (za zb : Int32) : Met l yL_setRetries wsL_setRetries ({ frames := 8, cells := 2, slots := 12, locals := 136 }) (va_Pc [.ref (ad 0), .int za, .int zb] (cx D cy ad σ sz)) (QI (kSetRetries za zb) (fun H => va_P D vwCl (wC cy ad (if kSetRetries za zb = 0 then gSetRetries σ za zb else σ)) H) (AC ad)) 2 12 (AC ad) := by
  refine metWH (cc := cL_setRetries) (maxL := 4) (ret := (some .int)) (hh := [(0, 6, 9, 15)]) (by decide) rfl ?_
  intro p e s m args below meth c s₁ B hml hv
  obtain ⟨rfl, ⟨hP, hK⟩, hxk⟩ := hv
  have hx := B.exec
  have hb := B.bytes
  have hr := B.returns
  have hts := atoms_spec (ws := wsL_setRetries) B.pre
  have hown : s.vm.findClass RL = some m.cls := findClass_of_methodNamed B.named
  have hT := vx_table (x := yL_setRetries) B (hts (.codeWith yL_setRetries cL_setRetries 4 (some .int) [(0, 6, 9, 15)]) List.mem_cons_self)
  have hS : va_S (AC ad) s.heap s.heap [] := va_S.rf
  have hl := lv_entry ([.ref (ad 0), .int za, .int zb]) (n := 4) (Nat.le_of_ble_eq_true rfl)
  rw [lg_entry_eq]
  generalize (lg_sl ([.ref (ad 0), .int za, .int zb]) ++ List.replicate (4 - (lg_sl ([.ref (ad 0), .int za, .int zb])).length) Slot.unset).toArray = ls at hl ⊢
  have hl : lv_has ls 4 [(0, .ref (ad 0)), (1, .int za), (2, .int zb)] := hl
  refine lv_aload_n hx hb dL_setRetries_0 rfl (lv_at hl 0 rfl) ?_
  refine lv_iload_n hx hb dL_setRetries_1 rfl (lv_at hl 1 rfl) ?_
  refine lv_iload_n hx hb dL_setRetries_2 rfl (lv_at hl 2 rfl) ?_
  refine xMvA (fun _ h => h) (vx_runV (As := [.int za, .int zb]) (rest := []) ⟨hx, hb, hml, hown, hts⟩ (c_X3_setRetries l hst D cy ad hj σ sz za zb) (cwV 2 hts gL_setRetries_X3_setRetries rfl rfl rfl (by decide +kernel) ⟨Nat.le_of_ble_eq_true rfl, Nat.le_of_ble_eq_true rfl⟩) ⟨cx_bl, cw_F hP hK, cx_at hP hK hxk⟩ rfl rfl hl.1 rfl (lv_room (Nat.le_of_ble_eq_true rfl)) dL_setRetries_3 ⟨Nat.le_of_ble_eq_true rfl, Nat.le_of_ble_eq_true rfl⟩) hS (fun E ce q9 H locs hE hS hz hk h3 h4 h5 => ?_) (fun H locs hP hS hz hk => ?_)
  · have hP := hP.grown hk
    obtain ⟨rfl, hk0⟩ := hE
    refine vx_catch (name := "java/lang/IllegalArgumentException") hown [] ⟨0, 6, 9, 15⟩ [] (hT.trans rfl) (fun _ h => nomatch h) rfl (by decide) (hts (.classLink RL 15 "java/lang/IllegalArgumentException") (by decide +kernel)) (va_Nw.use rfl (hxk.2.2.1 (.castable "java/lang/IllegalArgumentException" "java/lang/IllegalArgumentException") (by decide +kernel))) h3 h4 h5 ?_
    refine lv_astore_n (lv' := [(3, .ref q9), (0, .ref (ad 0)), (1, .int za), (2, .int zb)]) hx hb dL_setRetries_9 rfl hl (by decide) rfl (fun ls hl => ?_)
    refine lv_iconst (v := 1) hx hb dL_setRetries_10 (by decide) ?_
    have hn0 : ¬ kSetRetries za zb = 0 := by rw [hk0]; decide
    have hP : va_P D vwCl (wC cy ad (if kSetRetries za zb = 0 then gSetRetries σ za zb else σ)) H := by rw [if_neg hn0]; exact hP
    exact W.iret (v := 1) hx hb hr (fun t ht hW => ⟨⟨_, (), rfl, hk0.symm, by rw [← ht] at hP; exact hP⟩, hS.F ht⟩) hS.2.2 dL_setRetries_11
  · obtain ⟨hk0, hP⟩ := hP
    refine W.eq (g2 := F0 m 6 ls []) rfl ?_
    refine lv_goto (tgt := 12) hx hb dL_setRetries_6 (by decide) ?_
    refine lv_iconst (v := 0) hx hb dL_setRetries_12 (by decide) ?_
    have hP : va_P D vwCl (wC cy ad (if kSetRetries za zb = 0 then gSetRetries σ za zb else σ)) H := by rw [if_pos hk0]; exact hP
    exact W.iret (v := 0) hx hb hr (fun t ht hW => ⟨⟨_, (), rfl, hk0.symm, by rw [← ht] at hP; exact hP⟩, hS.F ht⟩) hS.2.2 dL_setRetries_13
set_option maxHeartbeats 4000000 in
set_option maxRecDepth 100000 in
theorem c_L_report (l : Launch) (hst : l.stackTraces = false) (D : va_G) (cy : Nat → ClassId) (ad : Nat → Nat) (hj : inj31 ad) (σ : Mem) (sz : Nat) (ob : Nat) (hno : ∀ k, k < 31 → ad k ≠ ob) (f : Nat → Int64) (za zb zc zd ze : Int32) : Met l yL_report wsL_report ({ frames := 8, cells := 5, slots := 30, locals := 141 }) (va_Pc [.ref (ad 0), .int za, .int zb, .int zc, .int zd, .int ze, .ref ob] (lx D cy ad σ sz ob f)) (QI (kReport za zb zc zd ze) (fun H => va_P D vwCl (wC cy ad (if kReport za zb zc zd ze = 0 then gReport σ za zb zc zd ze else σ)) H ∧ ∃ f1, va_P D vwCl (oW cy ob f1) H ∧ (kReport za zb zc zd ze = 0 → f1 0 = (rReport σ za zb zc zd ze).toInt64)) (AO ad ob)) 5 30 (AO ad ob) := by
  refine metWH (cc := cL_report) (maxL := 8) (ret := (some .int)) (hh := [(0, 16, 19, 13), (0, 16, 23, 15)]) (by decide) rfl ?_
  intro p e s m args below meth c s₁ B hml hv
  obtain ⟨rfl, ⟨⟨hP, hK⟩, hxk⟩, hPo⟩ := hv
  have hx := B.exec
  have hb := B.bytes
  have hr := B.returns
  have hts := atoms_spec (ws := wsL_report) B.pre
  have hown : s.vm.findClass RL = some m.cls := findClass_of_methodNamed B.named
  have hT := vx_table (x := yL_report) B (hts (.codeWith yL_report cL_report 8 (some .int) [(0, 16, 19, 13), (0, 16, 23, 15)]) List.mem_cons_self)
  have hS : va_S (AO ad ob) s.heap s.heap [] := va_S.rf
  have hl := lv_entry ([.ref (ad 0), .int za, .int zb, .int zc, .int zd, .int ze, .ref ob]) (n := 8) (Nat.le_of_ble_eq_true rfl)
  rw [lg_entry_eq]
  generalize (lg_sl ([.ref (ad 0), .int za, .int zb, .int zc, .int zd, .int ze, .ref ob]) ++ List.replicate (8 - (lg_sl ([.ref (ad 0), .int za, .int zb, .int zc, .int zd, .int ze, .ref ob])).length) Slot.unset).toArray = ls at hl ⊢
  have hl : lv_has ls 8 [(0, .ref (ad 0)), (1, .int za), (2, .int zb), (3, .int zc), (4, .int zd), (5, .int ze), (6, .ref ob)] := hl
  refine lv_aload hx hb dL_report_0 (lv_at hl 6 rfl) ?_
  refine lv_iconst (v := 0) hx hb dL_report_2 (by decide) ?_
  refine lv_aload_n hx hb dL_report_3 rfl (lv_at hl 0 rfl) ?_
  refine lv_iload_n hx hb dL_report_4 rfl (lv_at hl 1 rfl) ?_
  refine lv_iload_n hx hb dL_report_5 rfl (lv_at hl 2 rfl) ?_
  refine lv_iload_n hx hb dL_report_6 rfl (lv_at hl 3 rfl) ?_
  refine lv_iload hx hb dL_report_7 (lv_at hl 4 rfl) ?_
  refine lv_iload hx hb dL_report_9 (lv_at hl 5 rfl) ?_
  refine xMiA (fun _ h => Or.inl h) (vx_runV (As := [.int za, .int zb, .int zc, .int zd, .int ze]) (rest := [.int 0, .ref ob]) ⟨hx, hb, hml, hown, hts⟩ (c_X3_report l hst D cy ad hj σ sz za zb zc zd ze) (cwV 5 hts gL_report_X3_report rfl rfl rfl (by decide +kernel) ⟨Nat.le_of_ble_eq_true rfl, Nat.le_of_ble_eq_true rfl⟩) ⟨cx_bl, cw_F hP hK, cx_at hP hK hxk⟩ rfl rfl hl.1 rfl (lv_room (Nat.le_of_ble_eq_true rfl)) dL_report_11 ⟨Nat.le_of_ble_eq_true rfl, Nat.le_of_ble_eq_true rfl⟩) hS (fun E ce q9 H locs hE hS hz hk h3 h4 h5 => ?_) (fun H locs hP hS hz hk => ?_)
  · have hP := hP.grown hk
    have hPo := hPo.grown hk
    rcases (show ex12 _ _ from hE) with ⟨rfl, hk0⟩ | ⟨rfl, hk0⟩
    · refine vx_catch (name := "java/lang/IndexOutOfBoundsException") hown [] ⟨0, 16, 19, 13⟩ [⟨0, 16, 23, 15⟩] (hT.trans rfl) (fun _ h => nomatch h) rfl (by decide) (hts (.classLink RL 13 "java/lang/IndexOutOfBoundsException") (by decide +kernel)) (va_Nw.use rfl (hxk.2.2.1 (.castable "java/lang/IndexOutOfBoundsException" "java/lang/IndexOutOfBoundsException") (by decide +kernel))) h3 h4 h5 ?_
      refine lv_astore (lv' := [(7, .ref q9), (0, .ref (ad 0)), (1, .int za), (2, .int zb), (3, .int zc), (4, .int zd), (5, .int ze), (6, .ref ob)]) hx hb dL_report_19 hl (by decide) rfl (fun ls hl => ?_)
      refine lv_iconst (v := 1) hx hb dL_report_21 (by decide) ?_
      have hn0 : ¬ kReport za zb zc zd ze = 0 := by rw [hk0]; decide
      have hP : va_P D vwCl (wC cy ad (if kReport za zb zc zd ze = 0 then gReport σ za zb zc zd ze else σ)) H := by rw [if_neg hn0]; exact hP
      exact W.iret (v := 1) hx hb hr (fun t ht hW => ⟨⟨_, (), rfl, hk0.symm, ⟨by rw [← ht] at hP; exact hP, f, by rw [ht]; exact hPo, fun h => absurd h hn0⟩⟩, hS.F ht⟩) hS.2.2 dL_report_22
    · refine vx_catch (name := "java/lang/IllegalArgumentException") hown [⟨0, 16, 19, 13⟩] ⟨0, 16, 23, 15⟩ [] (hT.trans rfl) (fun z hz9 => by rw [List.mem_singleton.mp hz9]; exact Or.inr ⟨by decide, "java/lang/IndexOutOfBoundsException", hts (.classLink RL 13 "java/lang/IndexOutOfBoundsException") (by decide +kernel), hxk.2.2.2.1 ("java/lang/IllegalArgumentException", "java/lang/IndexOutOfBoundsException") (by decide +kernel)⟩) rfl (by decide) (hts (.classLink RL 15 "java/lang/IllegalArgumentException") (by decide +kernel)) (va_Nw.use rfl (hxk.2.2.1 (.castable "java/lang/IllegalArgumentException" "java/lang/IllegalArgumentException") (by decide +kernel))) h3 h4 h5 ?_
      refine lv_astore (lv' := [(7, .ref q9), (0, .ref (ad 0)), (1, .int za), (2, .int zb), (3, .int zc), (4, .int zd), (5, .int ze), (6, .ref ob)]) hx hb dL_report_23 hl (by decide) rfl (fun ls hl => ?_)
      refine lv_iconst (v := 2) hx hb dL_report_25 (by decide) ?_
      have hn0 : ¬ kReport za zb zc zd ze = 0 := by rw [hk0]; decide
      have hP : va_P D vwCl (wC cy ad (if kReport za zb zc zd ze = 0 then gReport σ za zb zc zd ze else σ)) H := by rw [if_neg hn0]; exact hP
      exact W.iret (v := 2) hx hb hr (fun t ht hW => ⟨⟨_, (), rfl, hk0.symm, ⟨by rw [← ht] at hP; exact hP, f, by rw [ht]; exact hPo, fun h => absurd h hn0⟩⟩, hS.F ht⟩) hS.2.2 dL_report_26
  · obtain ⟨hk0, hP⟩ := hP
    have hPo := hPo.apart hk (oW_no hno)
    refine W.eq (g2 := F0 m 14 ls [.int (rReport σ za zb zc zd ze), .int 0, .ref ob]) rfl ?_
    refine lv_i2l hx hb dL_report_14 rfl ?_
    refine stO hx hb hK hj hno hP hPo hS dL_report_15 (fun H locs f1 hf1 hP hPo hS => ?_)
    refine lv_goto (tgt := 27) hx hb dL_report_16 (by decide) ?_
    refine lv_iconst (v := 0) hx hb dL_report_27 (by decide) ?_
    have hP : va_P D vwCl (wC cy ad (if kReport za zb zc zd ze = 0 then gReport σ za zb zc zd ze else σ)) H := by rw [if_pos hk0]; exact hP
    exact W.iret (v := 0) hx hb hr (fun t ht hW => ⟨⟨_, (), rfl, hk0.symm, ⟨by rw [← ht] at hP; exact hP, f1, by rw [ht]; exact hPo, fun _ => hf1⟩⟩, hS.F ht⟩) hS.2.2 dL_report_28
set_option maxHeartbeats 4000000 in
set_option maxRecDepth 100000 in
theorem c_L_order (l : Launch) (hst : l.stackTraces = false) (D : va_G) (cy : Nat → ClassId) (ad : Nat → Nat) (hj : inj31 ad) (σ : Mem) (sz : Nat) (ob : Nat) (hno : ∀ k, k < 31 → ad k ≠ ob) (f : Nat → Int64) (za : Int32) : Met l yL_order wsL_order ({ frames := 8, cells := 2, slots := 12, locals := 136 }) (va_Pc [.ref (ad 0), .int za, .ref ob] (lx D cy ad σ sz ob f)) (QI (kOrder σ za) (fun H => va_P D vwCl (wC cy ad (if kOrder σ za = 0 then gOrder σ za else σ)) H ∧ ∃ f1, va_P D vwCl (oW cy ob f1) H ∧ (kOrder σ za = 0 → f1 0 = (rOrder σ za).toInt64)) (AO ad ob)) 2 12 (AO ad ob) := by
  refine metWH (cc := cL_order) (maxL := 4) (ret := (some .int)) (hh := [(0, 9, 12, 13), (0, 9, 15, 40)]) (by decide) rfl ?_
  intro p e s m args below meth c s₁ B hml hv
  obtain ⟨rfl, ⟨⟨hP, hK⟩, hxk⟩, hPo⟩ := hv
  have hx := B.exec
  have hb := B.bytes
  have hr := B.returns
  have hts := atoms_spec (ws := wsL_order) B.pre
  have hown : s.vm.findClass RL = some m.cls := findClass_of_methodNamed B.named
  have hT := vx_table (x := yL_order) B (hts (.codeWith yL_order cL_order 4 (some .int) [(0, 9, 12, 13), (0, 9, 15, 40)]) List.mem_cons_self)
  have hS : va_S (AO ad ob) s.heap s.heap [] := va_S.rf
  have hl := lv_entry ([.ref (ad 0), .int za, .ref ob]) (n := 4) (Nat.le_of_ble_eq_true rfl)
  rw [lg_entry_eq]
  generalize (lg_sl ([.ref (ad 0), .int za, .ref ob]) ++ List.replicate (4 - (lg_sl ([.ref (ad 0), .int za, .ref ob])).length) Slot.unset).toArray = ls at hl ⊢
  have hl : lv_has ls 4 [(0, .ref (ad 0)), (1, .int za), (2, .ref ob)] := hl
  refine lv_aload_n hx hb dL_order_0 rfl (lv_at hl 2 rfl) ?_
  refine lv_iconst (v := 0) hx hb dL_order_1 (by decide) ?_
  refine lv_aload_n hx hb dL_order_2 rfl (lv_at hl 0 rfl) ?_
  refine lv_iload_n hx hb dL_order_3 rfl (lv_at hl 1 rfl) ?_
  refine xMiA (fun _ h => Or.inl h) (vx_runV (As := [.int za]) (rest := [.int 0, .ref ob]) ⟨hx, hb, hml, hown, hts⟩ (c_X3_order l hst D cy ad hj σ sz za) (cwV 1 hts gL_order_X3_order rfl rfl rfl (by decide +kernel) ⟨Nat.le_of_ble_eq_true rfl, Nat.le_of_ble_eq_true rfl⟩) ⟨cx_bl, cw_F hP hK, cx_at hP hK hxk⟩ rfl rfl hl.1 rfl (lv_room (Nat.le_of_ble_eq_true rfl)) dL_order_4 ⟨Nat.le_of_ble_eq_true rfl, Nat.le_of_ble_eq_true rfl⟩) hS (fun E ce q9 H locs hE hS hz hk h3 h4 h5 => ?_) (fun H locs hP hS hz hk => ?_)
  · have hP := hP.grown hk
    have hPo := hPo.grown hk
    rcases (show ex13 _ _ from hE) with ⟨rfl, hk0⟩ | ⟨rfl, hk0⟩
    · refine vx_catch (name := "java/lang/IndexOutOfBoundsException") hown [] ⟨0, 9, 12, 13⟩ [⟨0, 9, 15, 40⟩] (hT.trans rfl) (fun _ h => nomatch h) rfl (by decide) (hts (.classLink RL 13 "java/lang/IndexOutOfBoundsException") (by decide +kernel)) (va_Nw.use rfl (hxk.2.2.1 (.castable "java/lang/IndexOutOfBoundsException" "java/lang/IndexOutOfBoundsException") (by decide +kernel))) h3 h4 h5 ?_
      refine lv_astore_n (lv' := [(3, .ref q9), (0, .ref (ad 0)), (1, .int za), (2, .ref ob)]) hx hb dL_order_12 rfl hl (by decide) rfl (fun ls hl => ?_)
      refine lv_iconst (v := 1) hx hb dL_order_13 (by decide) ?_
      have hn0 : ¬ kOrder σ za = 0 := by rw [hk0]; decide
      have hP : va_P D vwCl (wC cy ad (if kOrder σ za = 0 then gOrder σ za else σ)) H := by rw [if_neg hn0]; exact hP
      exact W.iret (v := 1) hx hb hr (fun t ht hW => ⟨⟨_, (), rfl, hk0.symm, ⟨by rw [← ht] at hP; exact hP, f, by rw [ht]; exact hPo, fun h => absurd h hn0⟩⟩, hS.F ht⟩) hS.2.2 dL_order_14
    · refine vx_catch (name := "java/lang/IllegalStateException") hown [⟨0, 9, 12, 13⟩] ⟨0, 9, 15, 40⟩ [] (hT.trans rfl) (fun z hz9 => by rw [List.mem_singleton.mp hz9]; exact Or.inr ⟨by decide, "java/lang/IndexOutOfBoundsException", hts (.classLink RL 13 "java/lang/IndexOutOfBoundsException") (by decide +kernel), hxk.2.2.2.1 ("java/lang/IllegalStateException", "java/lang/IndexOutOfBoundsException") (by decide +kernel)⟩) rfl (by decide) (hts (.classLink RL 40 "java/lang/IllegalStateException") (by decide +kernel)) (va_Nw.use rfl (hxk.2.2.1 (.castable "java/lang/IllegalStateException" "java/lang/IllegalStateException") (by decide +kernel))) h3 h4 h5 ?_
      refine lv_astore_n (lv' := [(3, .ref q9), (0, .ref (ad 0)), (1, .int za), (2, .ref ob)]) hx hb dL_order_15 rfl hl (by decide) rfl (fun ls hl => ?_)
      refine lv_iconst (v := 2) hx hb dL_order_16 (by decide) ?_
      have hn0 : ¬ kOrder σ za = 0 := by rw [hk0]; decide
      have hP : va_P D vwCl (wC cy ad (if kOrder σ za = 0 then gOrder σ za else σ)) H := by rw [if_neg hn0]; exact hP
      exact W.iret (v := 2) hx hb hr (fun t ht hW => ⟨⟨_, (), rfl, hk0.symm, ⟨by rw [← ht] at hP; exact hP, f, by rw [ht]; exact hPo, fun h => absurd h hn0⟩⟩, hS.F ht⟩) hS.2.2 dL_order_17
  · obtain ⟨hk0, hP⟩ := hP
    have hPo := hPo.apart hk (oW_no hno)
    refine W.eq (g2 := F0 m 7 ls [.int (rOrder σ za), .int 0, .ref ob]) rfl ?_
    refine lv_i2l hx hb dL_order_7 rfl ?_
    refine stO hx hb hK hj hno hP hPo hS dL_order_8 (fun H locs f1 hf1 hP hPo hS => ?_)
    refine lv_goto (tgt := 18) hx hb dL_order_9 (by decide) ?_
    refine lv_iconst (v := 0) hx hb dL_order_18 (by decide) ?_
    have hP : va_P D vwCl (wC cy ad (if kOrder σ za = 0 then gOrder σ za else σ)) H := by rw [if_pos hk0]; exact hP
    exact W.iret (v := 0) hx hb hr (fun t ht hW => ⟨⟨_, (), rfl, hk0.symm, ⟨by rw [← ht] at hP; exact hP, f1, by rw [ht]; exact hPo, fun _ => hf1⟩⟩, hS.F ht⟩) hS.2.2 dL_order_19
set_option maxHeartbeats 4000000 in
set_option maxRecDepth 100000 in
theorem c_L_cancel (l : Launch) (hst : l.stackTraces = false) (D : va_G) (cy : Nat → ClassId) (ad : Nat → Nat) (hj : inj31 ad) (σ : Mem) (sz : Nat) (za : Int32) : Met l yL_cancel wsL_cancel ({ frames := 8, cells := 2, slots := 12, locals := 136 }) (va_Pc [.ref (ad 0), .int za] (cx D cy ad σ sz)) (QI (kCancel σ za) (fun H => va_P D vwCl (wC cy ad (if kCancel σ za = 0 then gCancel σ za else σ)) H) (AC ad)) 2 12 (AC ad) := by
  refine metWH (cc := cL_cancel) (maxL := 3) (ret := (some .int)) (hh := [(0, 5, 8, 13), (0, 5, 11, 40)]) (by decide) rfl ?_
  intro p e s m args below meth c s₁ B hml hv
  obtain ⟨rfl, ⟨hP, hK⟩, hxk⟩ := hv
  have hx := B.exec
  have hb := B.bytes
  have hr := B.returns
  have hts := atoms_spec (ws := wsL_cancel) B.pre
  have hown : s.vm.findClass RL = some m.cls := findClass_of_methodNamed B.named
  have hT := vx_table (x := yL_cancel) B (hts (.codeWith yL_cancel cL_cancel 3 (some .int) [(0, 5, 8, 13), (0, 5, 11, 40)]) List.mem_cons_self)
  have hS : va_S (AC ad) s.heap s.heap [] := va_S.rf
  have hl := lv_entry ([.ref (ad 0), .int za]) (n := 3) (Nat.le_of_ble_eq_true rfl)
  rw [lg_entry_eq]
  generalize (lg_sl ([.ref (ad 0), .int za]) ++ List.replicate (3 - (lg_sl ([.ref (ad 0), .int za])).length) Slot.unset).toArray = ls at hl ⊢
  have hl : lv_has ls 3 [(0, .ref (ad 0)), (1, .int za)] := hl
  refine lv_aload_n hx hb dL_cancel_0 rfl (lv_at hl 0 rfl) ?_
  refine lv_iload_n hx hb dL_cancel_1 rfl (lv_at hl 1 rfl) ?_
  refine xMvA (fun _ h => h) (vx_runV (As := [.int za]) (rest := []) ⟨hx, hb, hml, hown, hts⟩ (c_X3_cancel l hst D cy ad hj σ sz za) (cwV 1 hts gL_cancel_X3_cancel rfl rfl rfl (by decide +kernel) ⟨Nat.le_of_ble_eq_true rfl, Nat.le_of_ble_eq_true rfl⟩) ⟨cx_bl, cw_F hP hK, cx_at hP hK hxk⟩ rfl rfl hl.1 rfl (lv_room (Nat.le_of_ble_eq_true rfl)) dL_cancel_2 ⟨Nat.le_of_ble_eq_true rfl, Nat.le_of_ble_eq_true rfl⟩) hS (fun E ce q9 H locs hE hS hz hk h3 h4 h5 => ?_) (fun H locs hP hS hz hk => ?_)
  · have hP := hP.grown hk
    rcases (show ex13 _ _ from hE) with ⟨rfl, hk0⟩ | ⟨rfl, hk0⟩
    · refine vx_catch (name := "java/lang/IndexOutOfBoundsException") hown [] ⟨0, 5, 8, 13⟩ [⟨0, 5, 11, 40⟩] (hT.trans rfl) (fun _ h => nomatch h) rfl (by decide) (hts (.classLink RL 13 "java/lang/IndexOutOfBoundsException") (by decide +kernel)) (va_Nw.use rfl (hxk.2.2.1 (.castable "java/lang/IndexOutOfBoundsException" "java/lang/IndexOutOfBoundsException") (by decide +kernel))) h3 h4 h5 ?_
      refine lv_astore_n (lv' := [(2, .ref q9), (0, .ref (ad 0)), (1, .int za)]) hx hb dL_cancel_8 rfl hl (by decide) rfl (fun ls hl => ?_)
      refine lv_iconst (v := 1) hx hb dL_cancel_9 (by decide) ?_
      have hn0 : ¬ kCancel σ za = 0 := by rw [hk0]; decide
      have hP : va_P D vwCl (wC cy ad (if kCancel σ za = 0 then gCancel σ za else σ)) H := by rw [if_neg hn0]; exact hP
      exact W.iret (v := 1) hx hb hr (fun t ht hW => ⟨⟨_, (), rfl, hk0.symm, by rw [← ht] at hP; exact hP⟩, hS.F ht⟩) hS.2.2 dL_cancel_10
    · refine vx_catch (name := "java/lang/IllegalStateException") hown [⟨0, 5, 8, 13⟩] ⟨0, 5, 11, 40⟩ [] (hT.trans rfl) (fun z hz9 => by rw [List.mem_singleton.mp hz9]; exact Or.inr ⟨by decide, "java/lang/IndexOutOfBoundsException", hts (.classLink RL 13 "java/lang/IndexOutOfBoundsException") (by decide +kernel), hxk.2.2.2.1 ("java/lang/IllegalStateException", "java/lang/IndexOutOfBoundsException") (by decide +kernel)⟩) rfl (by decide) (hts (.classLink RL 40 "java/lang/IllegalStateException") (by decide +kernel)) (va_Nw.use rfl (hxk.2.2.1 (.castable "java/lang/IllegalStateException" "java/lang/IllegalStateException") (by decide +kernel))) h3 h4 h5 ?_
      refine lv_astore_n (lv' := [(2, .ref q9), (0, .ref (ad 0)), (1, .int za)]) hx hb dL_cancel_11 rfl hl (by decide) rfl (fun ls hl => ?_)
      refine lv_iconst (v := 2) hx hb dL_cancel_12 (by decide) ?_
      have hn0 : ¬ kCancel σ za = 0 := by rw [hk0]; decide
      have hP : va_P D vwCl (wC cy ad (if kCancel σ za = 0 then gCancel σ za else σ)) H := by rw [if_neg hn0]; exact hP
      exact W.iret (v := 2) hx hb hr (fun t ht hW => ⟨⟨_, (), rfl, hk0.symm, by rw [← ht] at hP; exact hP⟩, hS.F ht⟩) hS.2.2 dL_cancel_13
  · obtain ⟨hk0, hP⟩ := hP
    refine W.eq (g2 := F0 m 5 ls []) rfl ?_
    refine lv_goto (tgt := 14) hx hb dL_cancel_5 (by decide) ?_
    refine lv_iconst (v := 0) hx hb dL_cancel_14 (by decide) ?_
    have hP : va_P D vwCl (wC cy ad (if kCancel σ za = 0 then gCancel σ za else σ)) H := by rw [if_pos hk0]; exact hP
    exact W.iret (v := 0) hx hb hr (fun t ht hW => ⟨⟨_, (), rfl, hk0.symm, by rw [← ht] at hP; exact hP⟩, hS.F ht⟩) hS.2.2 dL_cancel_15
set_option maxHeartbeats 4000000 in
set_option maxRecDepth 100000 in
theorem c_L_finish (l : Launch) (hst : l.stackTraces = false) (D : va_G) (cy : Nat → ClassId) (ad : Nat → Nat) (hj : inj31 ad) (σ : Mem) (sz : Nat) (ob : Nat) (hno : ∀ k, k < 31 → ad k ≠ ob) (f : Nat → Int64) (za : Int32) (gd : Bool) : Met l yL_finish wsL_finish ({ frames := 8, cells := 2, slots := 12, locals := 137 }) (va_Pc [.ref (ad 0), .int za, .int (b2i gd), .ref ob] (lx D cy ad σ sz ob f)) (QI (kFinish σ za) (fun H => va_P D vwCl (wC cy ad (if kFinish σ za = 0 then gFinish σ za gd else σ)) H ∧ ∃ f1, va_P D vwCl (oW cy ob f1) H ∧ (kFinish σ za = 0 → f1 0 = (rFinish σ za gd).toInt64)) (AO ad ob)) 2 12 (AO ad ob) := by
  refine metWH (cc := cL_finish) (maxL := 5) (ret := (some .int)) (hh := [(0, 10, 13, 13), (0, 10, 17, 40)]) (by decide) rfl ?_
  intro p e s m args below meth c s₁ B hml hv
  obtain ⟨rfl, ⟨⟨hP, hK⟩, hxk⟩, hPo⟩ := hv
  have hx := B.exec
  have hb := B.bytes
  have hr := B.returns
  have hts := atoms_spec (ws := wsL_finish) B.pre
  have hown : s.vm.findClass RL = some m.cls := findClass_of_methodNamed B.named
  have hT := vx_table (x := yL_finish) B (hts (.codeWith yL_finish cL_finish 5 (some .int) [(0, 10, 13, 13), (0, 10, 17, 40)]) List.mem_cons_self)
  have hS : va_S (AO ad ob) s.heap s.heap [] := va_S.rf
  have hl := lv_entry ([.ref (ad 0), .int za, .int (b2i gd), .ref ob]) (n := 5) (Nat.le_of_ble_eq_true rfl)
  rw [lg_entry_eq]
  generalize (lg_sl ([.ref (ad 0), .int za, .int (b2i gd), .ref ob]) ++ List.replicate (5 - (lg_sl ([.ref (ad 0), .int za, .int (b2i gd), .ref ob])).length) Slot.unset).toArray = ls at hl ⊢
  have hl : lv_has ls 5 [(0, .ref (ad 0)), (1, .int za), (2, .int (b2i gd)), (3, .ref ob)] := hl
  refine lv_aload_n hx hb dL_finish_0 rfl (lv_at hl 3 rfl) ?_
  refine lv_iconst (v := 0) hx hb dL_finish_1 (by decide) ?_
  refine lv_aload_n hx hb dL_finish_2 rfl (lv_at hl 0 rfl) ?_
  refine lv_iload_n hx hb dL_finish_3 rfl (lv_at hl 1 rfl) ?_
  refine lv_iload_n hx hb dL_finish_4 rfl (lv_at hl 2 rfl) ?_
  refine xMiA (fun _ h => Or.inl h) (vx_runV (As := [.int za, .int (b2i gd)]) (rest := [.int 0, .ref ob]) ⟨hx, hb, hml, hown, hts⟩ (c_X3_finish l hst D cy ad hj σ sz za gd) (cwV 2 hts gL_finish_X3_finish rfl rfl rfl (by decide +kernel) ⟨Nat.le_of_ble_eq_true rfl, Nat.le_of_ble_eq_true rfl⟩) ⟨cx_bl, cw_F hP hK, cx_at hP hK hxk⟩ rfl rfl hl.1 rfl (lv_room (Nat.le_of_ble_eq_true rfl)) dL_finish_5 ⟨Nat.le_of_ble_eq_true rfl, Nat.le_of_ble_eq_true rfl⟩) hS (fun E ce q9 H locs hE hS hz hk h3 h4 h5 => ?_) (fun H locs hP hS hz hk => ?_)
  · have hP := hP.grown hk
    have hPo := hPo.grown hk
    rcases (show ex13 _ _ from hE) with ⟨rfl, hk0⟩ | ⟨rfl, hk0⟩
    · refine vx_catch (name := "java/lang/IndexOutOfBoundsException") hown [] ⟨0, 10, 13, 13⟩ [⟨0, 10, 17, 40⟩] (hT.trans rfl) (fun _ h => nomatch h) rfl (by decide) (hts (.classLink RL 13 "java/lang/IndexOutOfBoundsException") (by decide +kernel)) (va_Nw.use rfl (hxk.2.2.1 (.castable "java/lang/IndexOutOfBoundsException" "java/lang/IndexOutOfBoundsException") (by decide +kernel))) h3 h4 h5 ?_
      refine lv_astore (lv' := [(4, .ref q9), (0, .ref (ad 0)), (1, .int za), (2, .int (b2i gd)), (3, .ref ob)]) hx hb dL_finish_13 hl (by decide) rfl (fun ls hl => ?_)
      refine lv_iconst (v := 1) hx hb dL_finish_15 (by decide) ?_
      have hn0 : ¬ kFinish σ za = 0 := by rw [hk0]; decide
      have hP : va_P D vwCl (wC cy ad (if kFinish σ za = 0 then gFinish σ za gd else σ)) H := by rw [if_neg hn0]; exact hP
      exact W.iret (v := 1) hx hb hr (fun t ht hW => ⟨⟨_, (), rfl, hk0.symm, ⟨by rw [← ht] at hP; exact hP, f, by rw [ht]; exact hPo, fun h => absurd h hn0⟩⟩, hS.F ht⟩) hS.2.2 dL_finish_16
    · refine vx_catch (name := "java/lang/IllegalStateException") hown [⟨0, 10, 13, 13⟩] ⟨0, 10, 17, 40⟩ [] (hT.trans rfl) (fun z hz9 => by rw [List.mem_singleton.mp hz9]; exact Or.inr ⟨by decide, "java/lang/IndexOutOfBoundsException", hts (.classLink RL 13 "java/lang/IndexOutOfBoundsException") (by decide +kernel), hxk.2.2.2.1 ("java/lang/IllegalStateException", "java/lang/IndexOutOfBoundsException") (by decide +kernel)⟩) rfl (by decide) (hts (.classLink RL 40 "java/lang/IllegalStateException") (by decide +kernel)) (va_Nw.use rfl (hxk.2.2.1 (.castable "java/lang/IllegalStateException" "java/lang/IllegalStateException") (by decide +kernel))) h3 h4 h5 ?_
      refine lv_astore (lv' := [(4, .ref q9), (0, .ref (ad 0)), (1, .int za), (2, .int (b2i gd)), (3, .ref ob)]) hx hb dL_finish_17 hl (by decide) rfl (fun ls hl => ?_)
      refine lv_iconst (v := 2) hx hb dL_finish_19 (by decide) ?_
      have hn0 : ¬ kFinish σ za = 0 := by rw [hk0]; decide
      have hP : va_P D vwCl (wC cy ad (if kFinish σ za = 0 then gFinish σ za gd else σ)) H := by rw [if_neg hn0]; exact hP
      exact W.iret (v := 2) hx hb hr (fun t ht hW => ⟨⟨_, (), rfl, hk0.symm, ⟨by rw [← ht] at hP; exact hP, f, by rw [ht]; exact hPo, fun h => absurd h hn0⟩⟩, hS.F ht⟩) hS.2.2 dL_finish_20
  · obtain ⟨hk0, hP⟩ := hP
    have hPo := hPo.apart hk (oW_no hno)
    refine W.eq (g2 := F0 m 8 ls [.int (rFinish σ za gd), .int 0, .ref ob]) rfl ?_
    refine lv_i2l hx hb dL_finish_8 rfl ?_
    refine stO hx hb hK hj hno hP hPo hS dL_finish_9 (fun H locs f1 hf1 hP hPo hS => ?_)
    refine lv_goto (tgt := 21) hx hb dL_finish_10 (by decide) ?_
    refine lv_iconst (v := 0) hx hb dL_finish_21 (by decide) ?_
    have hP : va_P D vwCl (wC cy ad (if kFinish σ za = 0 then gFinish σ za gd else σ)) H := by rw [if_pos hk0]; exact hP
    exact W.iret (v := 0) hx hb hr (fun t ht hW => ⟨⟨_, (), rfl, hk0.symm, ⟨by rw [← ht] at hP; exact hP, f1, by rw [ht]; exact hPo, fun _ => hf1⟩⟩, hS.F ht⟩) hS.2.2 dL_finish_22
set_option maxHeartbeats 4000000 in
set_option maxRecDepth 100000 in
theorem c_L_retire (l : Launch) (hst : l.stackTraces = false) (D : va_G) (cy : Nat → ClassId) (ad : Nat → Nat) (hj : inj31 ad) (σ : Mem) (sz : Nat) (za zb : Int32) : Met l yL_retire wsL_retire ({ frames := 8, cells := 3, slots := 18, locals := 137 }) (va_Pc [.ref (ad 0), .int za, .int zb] (cx D cy ad σ sz)) (QI (kRetire σ za zb) (fun H => va_P D vwCl (wC cy ad (if kRetire σ za zb = 0 then gRetire σ za zb else σ)) H) (AC ad)) 3 18 (AC ad) := by
  refine metWH (cc := cL_retire) (maxL := 4) (ret := (some .int)) (hh := [(0, 6, 9, 13), (0, 6, 12, 15), (0, 6, 15, 40)]) (by decide) rfl ?_
  intro p e s m args below meth c s₁ B hml hv
  obtain ⟨rfl, ⟨hP, hK⟩, hxk⟩ := hv
  have hx := B.exec
  have hb := B.bytes
  have hr := B.returns
  have hts := atoms_spec (ws := wsL_retire) B.pre
  have hown : s.vm.findClass RL = some m.cls := findClass_of_methodNamed B.named
  have hT := vx_table (x := yL_retire) B (hts (.codeWith yL_retire cL_retire 4 (some .int) [(0, 6, 9, 13), (0, 6, 12, 15), (0, 6, 15, 40)]) List.mem_cons_self)
  have hS : va_S (AC ad) s.heap s.heap [] := va_S.rf
  have hl := lv_entry ([.ref (ad 0), .int za, .int zb]) (n := 4) (Nat.le_of_ble_eq_true rfl)
  rw [lg_entry_eq]
  generalize (lg_sl ([.ref (ad 0), .int za, .int zb]) ++ List.replicate (4 - (lg_sl ([.ref (ad 0), .int za, .int zb])).length) Slot.unset).toArray = ls at hl ⊢
  have hl : lv_has ls 4 [(0, .ref (ad 0)), (1, .int za), (2, .int zb)] := hl
  refine lv_aload_n hx hb dL_retire_0 rfl (lv_at hl 0 rfl) ?_
  refine lv_iload_n hx hb dL_retire_1 rfl (lv_at hl 1 rfl) ?_
  refine lv_iload_n hx hb dL_retire_2 rfl (lv_at hl 2 rfl) ?_
  refine xMvA (fun _ h => h) (vx_runV (As := [.int za, .int zb]) (rest := []) ⟨hx, hb, hml, hown, hts⟩ (c_X3_retire l hst D cy ad hj σ sz za zb) (cwV 2 hts gL_retire_X3_retire rfl rfl rfl (by decide +kernel) ⟨Nat.le_of_ble_eq_true rfl, Nat.le_of_ble_eq_true rfl⟩) ⟨cx_bl, cw_F hP hK, cx_at hP hK hxk⟩ rfl rfl hl.1 rfl (lv_room (Nat.le_of_ble_eq_true rfl)) dL_retire_3 ⟨Nat.le_of_ble_eq_true rfl, Nat.le_of_ble_eq_true rfl⟩) hS (fun E ce q9 H locs hE hS hz hk h3 h4 h5 => ?_) (fun H locs hP hS hz hk => ?_)
  · have hP := hP.grown hk
    rcases (show ex123 _ _ from hE) with ⟨rfl, hk0⟩ | ⟨rfl, hk0⟩ | ⟨rfl, hk0⟩
    · refine vx_catch (name := "java/lang/IndexOutOfBoundsException") hown [] ⟨0, 6, 9, 13⟩ [⟨0, 6, 12, 15⟩, ⟨0, 6, 15, 40⟩] (hT.trans rfl) (fun _ h => nomatch h) rfl (by decide) (hts (.classLink RL 13 "java/lang/IndexOutOfBoundsException") (by decide +kernel)) (va_Nw.use rfl (hxk.2.2.1 (.castable "java/lang/IndexOutOfBoundsException" "java/lang/IndexOutOfBoundsException") (by decide +kernel))) h3 h4 h5 ?_
      refine lv_astore_n (lv' := [(3, .ref q9), (0, .ref (ad 0)), (1, .int za), (2, .int zb)]) hx hb dL_retire_9 rfl hl (by decide) rfl (fun ls hl => ?_)
      refine lv_iconst (v := 1) hx hb dL_retire_10 (by decide) ?_
      have hn0 : ¬ kRetire σ za zb = 0 := by rw [hk0]; decide
      have hP : va_P D vwCl (wC cy ad (if kRetire σ za zb = 0 then gRetire σ za zb else σ)) H := by rw [if_neg hn0]; exact hP
      exact W.iret (v := 1) hx hb hr (fun t ht hW => ⟨⟨_, (), rfl, hk0.symm, by rw [← ht] at hP; exact hP⟩, hS.F ht⟩) hS.2.2 dL_retire_11
    · refine vx_catch (name := "java/lang/IllegalArgumentException") hown [⟨0, 6, 9, 13⟩] ⟨0, 6, 12, 15⟩ [⟨0, 6, 15, 40⟩] (hT.trans rfl) (fun z hz9 => by rw [List.mem_singleton.mp hz9]; exact Or.inr ⟨by decide, "java/lang/IndexOutOfBoundsException", hts (.classLink RL 13 "java/lang/IndexOutOfBoundsException") (by decide +kernel), hxk.2.2.2.1 ("java/lang/IllegalArgumentException", "java/lang/IndexOutOfBoundsException") (by decide +kernel)⟩) rfl (by decide) (hts (.classLink RL 15 "java/lang/IllegalArgumentException") (by decide +kernel)) (va_Nw.use rfl (hxk.2.2.1 (.castable "java/lang/IllegalArgumentException" "java/lang/IllegalArgumentException") (by decide +kernel))) h3 h4 h5 ?_
      refine lv_astore_n (lv' := [(3, .ref q9), (0, .ref (ad 0)), (1, .int za), (2, .int zb)]) hx hb dL_retire_12 rfl hl (by decide) rfl (fun ls hl => ?_)
      refine lv_iconst (v := 2) hx hb dL_retire_13 (by decide) ?_
      have hn0 : ¬ kRetire σ za zb = 0 := by rw [hk0]; decide
      have hP : va_P D vwCl (wC cy ad (if kRetire σ za zb = 0 then gRetire σ za zb else σ)) H := by rw [if_neg hn0]; exact hP
      exact W.iret (v := 2) hx hb hr (fun t ht hW => ⟨⟨_, (), rfl, hk0.symm, by rw [← ht] at hP; exact hP⟩, hS.F ht⟩) hS.2.2 dL_retire_14
    · refine vx_catch (name := "java/lang/IllegalStateException") hown [⟨0, 6, 9, 13⟩, ⟨0, 6, 12, 15⟩] ⟨0, 6, 15, 40⟩ [] (hT.trans rfl) (fun z hz9 => by rcases List.mem_cons.mp hz9 with rfl | hz9; exact Or.inr ⟨by decide, "java/lang/IndexOutOfBoundsException", hts (.classLink RL 13 "java/lang/IndexOutOfBoundsException") (by decide +kernel), hxk.2.2.2.1 ("java/lang/IllegalStateException", "java/lang/IndexOutOfBoundsException") (by decide +kernel)⟩; rw [List.mem_singleton.mp hz9]; exact Or.inr ⟨by decide, "java/lang/IllegalArgumentException", hts (.classLink RL 15 "java/lang/IllegalArgumentException") (by decide +kernel), hxk.2.2.2.1 ("java/lang/IllegalStateException", "java/lang/IllegalArgumentException") (by decide +kernel)⟩) rfl (by decide) (hts (.classLink RL 40 "java/lang/IllegalStateException") (by decide +kernel)) (va_Nw.use rfl (hxk.2.2.1 (.castable "java/lang/IllegalStateException" "java/lang/IllegalStateException") (by decide +kernel))) h3 h4 h5 ?_
      refine lv_astore_n (lv' := [(3, .ref q9), (0, .ref (ad 0)), (1, .int za), (2, .int zb)]) hx hb dL_retire_15 rfl hl (by decide) rfl (fun ls hl => ?_)
      refine lv_iconst (v := 3) hx hb dL_retire_16 (by decide) ?_
      have hn0 : ¬ kRetire σ za zb = 0 := by rw [hk0]; decide
      have hP : va_P D vwCl (wC cy ad (if kRetire σ za zb = 0 then gRetire σ za zb else σ)) H := by rw [if_neg hn0]; exact hP
      exact W.iret (v := 3) hx hb hr (fun t ht hW => ⟨⟨_, (), rfl, hk0.symm, by rw [← ht] at hP; exact hP⟩, hS.F ht⟩) hS.2.2 dL_retire_17
  · obtain ⟨hk0, hP⟩ := hP
    refine W.eq (g2 := F0 m 6 ls []) rfl ?_
    refine lv_goto (tgt := 18) hx hb dL_retire_6 (by decide) ?_
    refine lv_iconst (v := 0) hx hb dL_retire_18 (by decide) ?_
    have hP : va_P D vwCl (wC cy ad (if kRetire σ za zb = 0 then gRetire σ za zb else σ)) H := by rw [if_pos hk0]; exact hP
    exact W.iret (v := 0) hx hb hr (fun t ht hW => ⟨⟨_, (), rfl, hk0.symm, by rw [← ht] at hP; exact hP⟩, hS.F ht⟩) hS.2.2 dL_retire_19
set_option maxHeartbeats 4000000 in
set_option maxRecDepth 100000 in
theorem c_L_keep (l : Launch) (hst : l.stackTraces = false) (D : va_G) (cy : Nat → ClassId) (ad : Nat → Nat) (hj : inj31 ad) (σ : Mem) (sz : Nat) (za : Int32) : Met l yL_keep wsL_keep ({ frames := 8, cells := 2, slots := 12, locals := 136 }) (va_Pc [.ref (ad 0), .int za] (cx D cy ad σ sz)) (QI (kKeep σ za) (fun H => va_P D vwCl (wC cy ad (if kKeep σ za = 0 then gKeep σ za else σ)) H) (AC ad)) 2 12 (AC ad) := by
  refine metWH (cc := cL_keep) (maxL := 3) (ret := (some .int)) (hh := [(0, 5, 8, 13), (0, 5, 11, 40)]) (by decide) rfl ?_
  intro p e s m args below meth c s₁ B hml hv
  obtain ⟨rfl, ⟨hP, hK⟩, hxk⟩ := hv
  have hx := B.exec
  have hb := B.bytes
  have hr := B.returns
  have hts := atoms_spec (ws := wsL_keep) B.pre
  have hown : s.vm.findClass RL = some m.cls := findClass_of_methodNamed B.named
  have hT := vx_table (x := yL_keep) B (hts (.codeWith yL_keep cL_keep 3 (some .int) [(0, 5, 8, 13), (0, 5, 11, 40)]) List.mem_cons_self)
  have hS : va_S (AC ad) s.heap s.heap [] := va_S.rf
  have hl := lv_entry ([.ref (ad 0), .int za]) (n := 3) (Nat.le_of_ble_eq_true rfl)
  rw [lg_entry_eq]
  generalize (lg_sl ([.ref (ad 0), .int za]) ++ List.replicate (3 - (lg_sl ([.ref (ad 0), .int za])).length) Slot.unset).toArray = ls at hl ⊢
  have hl : lv_has ls 3 [(0, .ref (ad 0)), (1, .int za)] := hl
  refine lv_aload_n hx hb dL_keep_0 rfl (lv_at hl 0 rfl) ?_
  refine lv_iload_n hx hb dL_keep_1 rfl (lv_at hl 1 rfl) ?_
  refine xMvA (fun _ h => h) (vx_runV (As := [.int za]) (rest := []) ⟨hx, hb, hml, hown, hts⟩ (c_X3_keep l hst D cy ad hj σ sz za) (cwV 1 hts gL_keep_X3_keep rfl rfl rfl (by decide +kernel) ⟨Nat.le_of_ble_eq_true rfl, Nat.le_of_ble_eq_true rfl⟩) ⟨cx_bl, cw_F hP hK, cx_at hP hK hxk⟩ rfl rfl hl.1 rfl (lv_room (Nat.le_of_ble_eq_true rfl)) dL_keep_2 ⟨Nat.le_of_ble_eq_true rfl, Nat.le_of_ble_eq_true rfl⟩) hS (fun E ce q9 H locs hE hS hz hk h3 h4 h5 => ?_) (fun H locs hP hS hz hk => ?_)
  · have hP := hP.grown hk
    rcases (show ex13 _ _ from hE) with ⟨rfl, hk0⟩ | ⟨rfl, hk0⟩
    · refine vx_catch (name := "java/lang/IndexOutOfBoundsException") hown [] ⟨0, 5, 8, 13⟩ [⟨0, 5, 11, 40⟩] (hT.trans rfl) (fun _ h => nomatch h) rfl (by decide) (hts (.classLink RL 13 "java/lang/IndexOutOfBoundsException") (by decide +kernel)) (va_Nw.use rfl (hxk.2.2.1 (.castable "java/lang/IndexOutOfBoundsException" "java/lang/IndexOutOfBoundsException") (by decide +kernel))) h3 h4 h5 ?_
      refine lv_astore_n (lv' := [(2, .ref q9), (0, .ref (ad 0)), (1, .int za)]) hx hb dL_keep_8 rfl hl (by decide) rfl (fun ls hl => ?_)
      refine lv_iconst (v := 1) hx hb dL_keep_9 (by decide) ?_
      have hn0 : ¬ kKeep σ za = 0 := by rw [hk0]; decide
      have hP : va_P D vwCl (wC cy ad (if kKeep σ za = 0 then gKeep σ za else σ)) H := by rw [if_neg hn0]; exact hP
      exact W.iret (v := 1) hx hb hr (fun t ht hW => ⟨⟨_, (), rfl, hk0.symm, by rw [← ht] at hP; exact hP⟩, hS.F ht⟩) hS.2.2 dL_keep_10
    · refine vx_catch (name := "java/lang/IllegalStateException") hown [⟨0, 5, 8, 13⟩] ⟨0, 5, 11, 40⟩ [] (hT.trans rfl) (fun z hz9 => by rw [List.mem_singleton.mp hz9]; exact Or.inr ⟨by decide, "java/lang/IndexOutOfBoundsException", hts (.classLink RL 13 "java/lang/IndexOutOfBoundsException") (by decide +kernel), hxk.2.2.2.1 ("java/lang/IllegalStateException", "java/lang/IndexOutOfBoundsException") (by decide +kernel)⟩) rfl (by decide) (hts (.classLink RL 40 "java/lang/IllegalStateException") (by decide +kernel)) (va_Nw.use rfl (hxk.2.2.1 (.castable "java/lang/IllegalStateException" "java/lang/IllegalStateException") (by decide +kernel))) h3 h4 h5 ?_
      refine lv_astore_n (lv' := [(2, .ref q9), (0, .ref (ad 0)), (1, .int za)]) hx hb dL_keep_11 rfl hl (by decide) rfl (fun ls hl => ?_)
      refine lv_iconst (v := 2) hx hb dL_keep_12 (by decide) ?_
      have hn0 : ¬ kKeep σ za = 0 := by rw [hk0]; decide
      have hP : va_P D vwCl (wC cy ad (if kKeep σ za = 0 then gKeep σ za else σ)) H := by rw [if_neg hn0]; exact hP
      exact W.iret (v := 2) hx hb hr (fun t ht hW => ⟨⟨_, (), rfl, hk0.symm, by rw [← ht] at hP; exact hP⟩, hS.F ht⟩) hS.2.2 dL_keep_13
  · obtain ⟨hk0, hP⟩ := hP
    refine W.eq (g2 := F0 m 5 ls []) rfl ?_
    refine lv_goto (tgt := 14) hx hb dL_keep_5 (by decide) ?_
    refine lv_iconst (v := 0) hx hb dL_keep_14 (by decide) ?_
    have hP : va_P D vwCl (wC cy ad (if kKeep σ za = 0 then gKeep σ za else σ)) H := by rw [if_pos hk0]; exact hP
    exact W.iret (v := 0) hx hb hr (fun t ht hW => ⟨⟨_, (), rfl, hk0.symm, by rw [← ht] at hP; exact hP⟩, hS.F ht⟩) hS.2.2 dL_keep_15
set_option maxHeartbeats 4000000 in
set_option maxRecDepth 100000 in
theorem c_L_release (l : Launch) (hst : l.stackTraces = false) (D : va_G) (cy : Nat → ClassId) (ad : Nat → Nat) (hj : inj31 ad) (σ : Mem) (sz : Nat) (za : Int32) : Met l yL_release wsL_release ({ frames := 8, cells := 2, slots := 12, locals := 136 }) (va_Pc [.ref (ad 0), .int za] (cx D cy ad σ sz)) (QI (kRelease σ za) (fun H => va_P D vwCl (wC cy ad (if kRelease σ za = 0 then gRelease σ za else σ)) H) (AC ad)) 2 12 (AC ad) := by
  refine metWH (cc := cL_release) (maxL := 3) (ret := (some .int)) (hh := [(0, 5, 8, 13), (0, 5, 11, 40)]) (by decide) rfl ?_
  intro p e s m args below meth c s₁ B hml hv
  obtain ⟨rfl, ⟨hP, hK⟩, hxk⟩ := hv
  have hx := B.exec
  have hb := B.bytes
  have hr := B.returns
  have hts := atoms_spec (ws := wsL_release) B.pre
  have hown : s.vm.findClass RL = some m.cls := findClass_of_methodNamed B.named
  have hT := vx_table (x := yL_release) B (hts (.codeWith yL_release cL_release 3 (some .int) [(0, 5, 8, 13), (0, 5, 11, 40)]) List.mem_cons_self)
  have hS : va_S (AC ad) s.heap s.heap [] := va_S.rf
  have hl := lv_entry ([.ref (ad 0), .int za]) (n := 3) (Nat.le_of_ble_eq_true rfl)
  rw [lg_entry_eq]
  generalize (lg_sl ([.ref (ad 0), .int za]) ++ List.replicate (3 - (lg_sl ([.ref (ad 0), .int za])).length) Slot.unset).toArray = ls at hl ⊢
  have hl : lv_has ls 3 [(0, .ref (ad 0)), (1, .int za)] := hl
  refine lv_aload_n hx hb dL_release_0 rfl (lv_at hl 0 rfl) ?_
  refine lv_iload_n hx hb dL_release_1 rfl (lv_at hl 1 rfl) ?_
  refine xMvA (fun _ h => h) (vx_runV (As := [.int za]) (rest := []) ⟨hx, hb, hml, hown, hts⟩ (c_X3_release l hst D cy ad hj σ sz za) (cwV 1 hts gL_release_X3_release rfl rfl rfl (by decide +kernel) ⟨Nat.le_of_ble_eq_true rfl, Nat.le_of_ble_eq_true rfl⟩) ⟨cx_bl, cw_F hP hK, cx_at hP hK hxk⟩ rfl rfl hl.1 rfl (lv_room (Nat.le_of_ble_eq_true rfl)) dL_release_2 ⟨Nat.le_of_ble_eq_true rfl, Nat.le_of_ble_eq_true rfl⟩) hS (fun E ce q9 H locs hE hS hz hk h3 h4 h5 => ?_) (fun H locs hP hS hz hk => ?_)
  · have hP := hP.grown hk
    rcases (show ex13 _ _ from hE) with ⟨rfl, hk0⟩ | ⟨rfl, hk0⟩
    · refine vx_catch (name := "java/lang/IndexOutOfBoundsException") hown [] ⟨0, 5, 8, 13⟩ [⟨0, 5, 11, 40⟩] (hT.trans rfl) (fun _ h => nomatch h) rfl (by decide) (hts (.classLink RL 13 "java/lang/IndexOutOfBoundsException") (by decide +kernel)) (va_Nw.use rfl (hxk.2.2.1 (.castable "java/lang/IndexOutOfBoundsException" "java/lang/IndexOutOfBoundsException") (by decide +kernel))) h3 h4 h5 ?_
      refine lv_astore_n (lv' := [(2, .ref q9), (0, .ref (ad 0)), (1, .int za)]) hx hb dL_release_8 rfl hl (by decide) rfl (fun ls hl => ?_)
      refine lv_iconst (v := 1) hx hb dL_release_9 (by decide) ?_
      have hn0 : ¬ kRelease σ za = 0 := by rw [hk0]; decide
      have hP : va_P D vwCl (wC cy ad (if kRelease σ za = 0 then gRelease σ za else σ)) H := by rw [if_neg hn0]; exact hP
      exact W.iret (v := 1) hx hb hr (fun t ht hW => ⟨⟨_, (), rfl, hk0.symm, by rw [← ht] at hP; exact hP⟩, hS.F ht⟩) hS.2.2 dL_release_10
    · refine vx_catch (name := "java/lang/IllegalStateException") hown [⟨0, 5, 8, 13⟩] ⟨0, 5, 11, 40⟩ [] (hT.trans rfl) (fun z hz9 => by rw [List.mem_singleton.mp hz9]; exact Or.inr ⟨by decide, "java/lang/IndexOutOfBoundsException", hts (.classLink RL 13 "java/lang/IndexOutOfBoundsException") (by decide +kernel), hxk.2.2.2.1 ("java/lang/IllegalStateException", "java/lang/IndexOutOfBoundsException") (by decide +kernel)⟩) rfl (by decide) (hts (.classLink RL 40 "java/lang/IllegalStateException") (by decide +kernel)) (va_Nw.use rfl (hxk.2.2.1 (.castable "java/lang/IllegalStateException" "java/lang/IllegalStateException") (by decide +kernel))) h3 h4 h5 ?_
      refine lv_astore_n (lv' := [(2, .ref q9), (0, .ref (ad 0)), (1, .int za)]) hx hb dL_release_11 rfl hl (by decide) rfl (fun ls hl => ?_)
      refine lv_iconst (v := 2) hx hb dL_release_12 (by decide) ?_
      have hn0 : ¬ kRelease σ za = 0 := by rw [hk0]; decide
      have hP : va_P D vwCl (wC cy ad (if kRelease σ za = 0 then gRelease σ za else σ)) H := by rw [if_neg hn0]; exact hP
      exact W.iret (v := 2) hx hb hr (fun t ht hW => ⟨⟨_, (), rfl, hk0.symm, by rw [← ht] at hP; exact hP⟩, hS.F ht⟩) hS.2.2 dL_release_13
  · obtain ⟨hk0, hP⟩ := hP
    refine W.eq (g2 := F0 m 5 ls []) rfl ?_
    refine lv_goto (tgt := 14) hx hb dL_release_5 (by decide) ?_
    refine lv_iconst (v := 0) hx hb dL_release_14 (by decide) ?_
    have hP : va_P D vwCl (wC cy ad (if kRelease σ za = 0 then gRelease σ za else σ)) H := by rw [if_pos hk0]; exact hP
    exact W.iret (v := 0) hx hb hr (fun t ht hW => ⟨⟨_, (), rfl, hk0.symm, by rw [← ht] at hP; exact hP⟩, hS.F ht⟩) hS.2.2 dL_release_15
set_option maxHeartbeats 4000000 in
set_option maxRecDepth 100000 in
theorem c_L_advance (l : Launch) (hst : l.stackTraces = false) (D : va_G) (cy : Nat → ClassId) (ad : Nat → Nat) (hj : inj31 ad) (σ : Mem) (sz : Nat) (ob : Nat) (hno : ∀ k, k < 31 → ad k ≠ ob) (f : Nat → Int64) (za : Int32) : Met l yL_advance wsL_advance ({ frames := 8, cells := 1, slots := 6, locals := 157 }) (va_Pc [.ref (ad 0), .int za, .ref ob] (lx D cy ad σ sz ob f)) (QI (kAdvance za) (fun H => va_P D vwCl (wC cy ad (if kAdvance za = 0 then gAdvance σ za else σ)) H ∧ ∃ f1, va_P D vwCl (oW cy ob f1) H ∧ (kAdvance za = 0 → f1 0 = (rAdvance σ za).toInt64)) (AO ad ob)) 1 6 (AO ad ob) := by
  refine metWH (cc := cL_advance) (maxL := 4) (ret := (some .int)) (hh := [(0, 9, 12, 15)]) (by decide) rfl ?_
  intro p e s m args below meth c s₁ B hml hv
  obtain ⟨rfl, ⟨⟨hP, hK⟩, hxk⟩, hPo⟩ := hv
  have hx := B.exec
  have hb := B.bytes
  have hr := B.returns
  have hts := atoms_spec (ws := wsL_advance) B.pre
  have hown : s.vm.findClass RL = some m.cls := findClass_of_methodNamed B.named
  have hT := vx_table (x := yL_advance) B (hts (.codeWith yL_advance cL_advance 4 (some .int) [(0, 9, 12, 15)]) List.mem_cons_self)
  have hS : va_S (AO ad ob) s.heap s.heap [] := va_S.rf
  have hl := lv_entry ([.ref (ad 0), .int za, .ref ob]) (n := 4) (Nat.le_of_ble_eq_true rfl)
  rw [lg_entry_eq]
  generalize (lg_sl ([.ref (ad 0), .int za, .ref ob]) ++ List.replicate (4 - (lg_sl ([.ref (ad 0), .int za, .ref ob])).length) Slot.unset).toArray = ls at hl ⊢
  have hl : lv_has ls 4 [(0, .ref (ad 0)), (1, .int za), (2, .ref ob)] := hl
  refine lv_aload_n hx hb dL_advance_0 rfl (lv_at hl 2 rfl) ?_
  refine lv_iconst (v := 0) hx hb dL_advance_1 (by decide) ?_
  refine lv_aload_n hx hb dL_advance_2 rfl (lv_at hl 0 rfl) ?_
  refine lv_iload_n hx hb dL_advance_3 rfl (lv_at hl 1 rfl) ?_
  refine xMiA (fun _ h => Or.inl h) (vx_runV (As := [.int za]) (rest := [.int 0, .ref ob]) ⟨hx, hb, hml, hown, hts⟩ (c_X3_advance l hst D cy ad hj σ sz za) (cwV 1 hts gL_advance_X3_advance rfl rfl rfl (by decide +kernel) ⟨Nat.le_of_ble_eq_true rfl, Nat.le_of_ble_eq_true rfl⟩) ⟨cx_bl, cw_F hP hK, cx_at hP hK hxk⟩ rfl rfl hl.1 rfl (lv_room (Nat.le_of_ble_eq_true rfl)) dL_advance_4 ⟨Nat.le_of_ble_eq_true rfl, Nat.le_of_ble_eq_true rfl⟩) hS (fun E ce q9 H locs hE hS hz hk h3 h4 h5 => ?_) (fun H locs hP hS hz hk => ?_)
  · have hP := hP.grown hk
    have hPo := hPo.grown hk
    obtain ⟨rfl, hk0⟩ := hE
    refine vx_catch (name := "java/lang/IllegalArgumentException") hown [] ⟨0, 9, 12, 15⟩ [] (hT.trans rfl) (fun _ h => nomatch h) rfl (by decide) (hts (.classLink RL 15 "java/lang/IllegalArgumentException") (by decide +kernel)) (va_Nw.use rfl (hxk.2.2.1 (.castable "java/lang/IllegalArgumentException" "java/lang/IllegalArgumentException") (by decide +kernel))) h3 h4 h5 ?_
    refine lv_astore_n (lv' := [(3, .ref q9), (0, .ref (ad 0)), (1, .int za), (2, .ref ob)]) hx hb dL_advance_12 rfl hl (by decide) rfl (fun ls hl => ?_)
    refine lv_iconst (v := 1) hx hb dL_advance_13 (by decide) ?_
    have hn0 : ¬ kAdvance za = 0 := by rw [hk0]; decide
    have hP : va_P D vwCl (wC cy ad (if kAdvance za = 0 then gAdvance σ za else σ)) H := by rw [if_neg hn0]; exact hP
    exact W.iret (v := 1) hx hb hr (fun t ht hW => ⟨⟨_, (), rfl, hk0.symm, ⟨by rw [← ht] at hP; exact hP, f, by rw [ht]; exact hPo, fun h => absurd h hn0⟩⟩, hS.F ht⟩) hS.2.2 dL_advance_14
  · obtain ⟨hk0, hP⟩ := hP
    have hPo := hPo.apart hk (oW_no hno)
    refine W.eq (g2 := F0 m 7 ls [.int (rAdvance σ za), .int 0, .ref ob]) rfl ?_
    refine lv_i2l hx hb dL_advance_7 rfl ?_
    refine stO hx hb hK hj hno hP hPo hS dL_advance_8 (fun H locs f1 hf1 hP hPo hS => ?_)
    refine lv_goto (tgt := 15) hx hb dL_advance_9 (by decide) ?_
    refine lv_iconst (v := 0) hx hb dL_advance_15 (by decide) ?_
    have hP : va_P D vwCl (wC cy ad (if kAdvance za = 0 then gAdvance σ za else σ)) H := by rw [if_pos hk0]; exact hP
    exact W.iret (v := 0) hx hb hr (fun t ht hW => ⟨⟨_, (), rfl, hk0.symm, ⟨by rw [← ht] at hP; exact hP, f1, by rw [ht]; exact hPo, fun _ => hf1⟩⟩, hS.F ht⟩) hS.2.2 dL_advance_16
set_option maxHeartbeats 4000000 in
set_option maxRecDepth 100000 in
theorem c_L_stateOf (l : Launch) (hst : l.stackTraces = false) (D : va_G) (cy : Nat → ClassId) (ad : Nat → Nat) (hj : inj31 ad) (σ : Mem) (sz : Nat) (ob : Nat) (hno : ∀ k, k < 31 → ad k ≠ ob) (f : Nat → Int64) (za : Int32) : Met l yL_stateOf wsL_stateOf ({ frames := 8, cells := 1, slots := 6, locals := 124 }) (va_Pc [.ref (ad 0), .int za, .ref ob] (lx D cy ad σ sz ob f)) (QI (kM za) (fun H => va_P D vwCl (wC cy ad σ) H ∧ ∃ f1, va_P D vwCl (oW cy ob f1) H ∧ (kM za = 0 → f1 0 = (rStateOf σ za).toInt64)) (AO ad ob)) 1 6 (AO ad ob) := by
  refine metWH (cc := cL_stateOf) (maxL := 4) (ret := (some .int)) (hh := [(0, 9, 12, 13)]) (by decide) rfl ?_
  intro p e s m args below meth c s₁ B hml hv
  obtain ⟨rfl, ⟨⟨hP, hK⟩, hxk⟩, hPo⟩ := hv
  have hx := B.exec
  have hb := B.bytes
  have hr := B.returns
  have hts := atoms_spec (ws := wsL_stateOf) B.pre
  have hown : s.vm.findClass RL = some m.cls := findClass_of_methodNamed B.named
  have hT := vx_table (x := yL_stateOf) B (hts (.codeWith yL_stateOf cL_stateOf 4 (some .int) [(0, 9, 12, 13)]) List.mem_cons_self)
  have hS : va_S (AO ad ob) s.heap s.heap [] := va_S.rf
  have hl := lv_entry ([.ref (ad 0), .int za, .ref ob]) (n := 4) (Nat.le_of_ble_eq_true rfl)
  rw [lg_entry_eq]
  generalize (lg_sl ([.ref (ad 0), .int za, .ref ob]) ++ List.replicate (4 - (lg_sl ([.ref (ad 0), .int za, .ref ob])).length) Slot.unset).toArray = ls at hl ⊢
  have hl : lv_has ls 4 [(0, .ref (ad 0)), (1, .int za), (2, .ref ob)] := hl
  refine lv_aload_n hx hb dL_stateOf_0 rfl (lv_at hl 2 rfl) ?_
  refine lv_iconst (v := 0) hx hb dL_stateOf_1 (by decide) ?_
  refine lv_aload_n hx hb dL_stateOf_2 rfl (lv_at hl 0 rfl) ?_
  refine lv_iload_n hx hb dL_stateOf_3 rfl (lv_at hl 1 rfl) ?_
  refine xS (vx_runV (As := [.int za]) (rest := [.int 0, .ref ob]) ⟨hx, hb, hml, hown, hts⟩ (c_X3_stateOf l hst D cy ad σ sz za) (cwV 1 hts gL_stateOf_X3_stateOf rfl rfl rfl (by decide +kernel) ⟨Nat.le_of_ble_eq_true rfl, Nat.le_of_ble_eq_true rfl⟩) ⟨cx_bl, cw_F hP hK, cx_at hP hK hxk⟩ rfl rfl hl.1 rfl (lv_room (Nat.le_of_ble_eq_true rfl)) dL_stateOf_4 ⟨Nat.le_of_ble_eq_true rfl, Nat.le_of_ble_eq_true rfl⟩) (fun E ce q9 H hE hz hk h3 h4 h5 => ?_) (fun u hk0 => ?_)
  · have hS : va_S (AO ad ob) s.heap H [] := va_S.grown hz hk
    have hP := hP.grown hk
    have hPo := hPo.grown hk
    obtain ⟨rfl, hk0⟩ := hE
    refine vx_catch (name := "java/lang/IndexOutOfBoundsException") hown [] ⟨0, 9, 12, 13⟩ [] (hT.trans rfl) (fun _ h => nomatch h) rfl (by decide) (hts (.classLink RL 13 "java/lang/IndexOutOfBoundsException") (by decide +kernel)) (va_Nw.use rfl (hxk.2.2.1 (.castable "java/lang/IndexOutOfBoundsException" "java/lang/IndexOutOfBoundsException") (by decide +kernel))) h3 h4 h5 ?_
    refine lv_astore_n (lv' := [(3, .ref q9), (0, .ref (ad 0)), (1, .int za), (2, .ref ob)]) hx hb dL_stateOf_12 rfl hl (by decide) rfl (fun ls hl => ?_)
    refine lv_iconst (v := 1) hx hb dL_stateOf_13 (by decide) ?_
    have hn0 : ¬ kM za = 0 := by rw [hk0]; decide
    exact W.iret (v := 1) hx hb hr (fun t ht hW => ⟨⟨_, (), rfl, hk0.symm, ⟨by rw [← ht] at hP; exact hP, f, by rw [ht]; exact hPo, fun h => absurd h hn0⟩⟩, hS.F ht⟩) hS.2.2 dL_stateOf_14
  · refine W.eq (g2 := F0 m 7 ls [.int (rStateOf σ za), .int 0, .ref ob]) rfl ?_
    refine lv_i2l hx hb dL_stateOf_7 rfl ?_
    refine stO hx hb hK hj hno hP hPo hS dL_stateOf_8 (fun H locs f1 hf1 hP hPo hS => ?_)
    refine lv_goto (tgt := 15) hx hb dL_stateOf_9 (by decide) ?_
    refine lv_iconst (v := 0) hx hb dL_stateOf_15 (by decide) ?_
    exact W.iret (v := 0) hx hb hr (fun t ht hW => ⟨⟨_, (), rfl, hk0.symm, ⟨by rw [← ht] at hP; exact hP, f1, by rw [ht]; exact hPo, fun _ => hf1⟩⟩, hS.F ht⟩) hS.2.2 dL_stateOf_16
set_option maxHeartbeats 4000000 in
set_option maxRecDepth 100000 in
theorem c_L_reason (l : Launch) (hst : l.stackTraces = false) (D : va_G) (cy : Nat → ClassId) (ad : Nat → Nat) (hj : inj31 ad) (σ : Mem) (sz : Nat) (ob : Nat) (hno : ∀ k, k < 31 → ad k ≠ ob) (f : Nat → Int64) (za : Int32) : Met l yL_reason wsL_reason ({ frames := 8, cells := 1, slots := 6, locals := 126 }) (va_Pc [.ref (ad 0), .int za, .ref ob] (lx D cy ad σ sz ob f)) (QI (kM za) (fun H => va_P D vwCl (wC cy ad σ) H ∧ ∃ f1, va_P D vwCl (oW cy ob f1) H ∧ (kM za = 0 → f1 0 = (rReason σ za).toInt64)) (AO ad ob)) 1 6 (AO ad ob) := by
  refine metWH (cc := cL_reason) (maxL := 4) (ret := (some .int)) (hh := [(0, 9, 12, 13)]) (by decide) rfl ?_
  intro p e s m args below meth c s₁ B hml hv
  obtain ⟨rfl, ⟨⟨hP, hK⟩, hxk⟩, hPo⟩ := hv
  have hx := B.exec
  have hb := B.bytes
  have hr := B.returns
  have hts := atoms_spec (ws := wsL_reason) B.pre
  have hown : s.vm.findClass RL = some m.cls := findClass_of_methodNamed B.named
  have hT := vx_table (x := yL_reason) B (hts (.codeWith yL_reason cL_reason 4 (some .int) [(0, 9, 12, 13)]) List.mem_cons_self)
  have hS : va_S (AO ad ob) s.heap s.heap [] := va_S.rf
  have hl := lv_entry ([.ref (ad 0), .int za, .ref ob]) (n := 4) (Nat.le_of_ble_eq_true rfl)
  rw [lg_entry_eq]
  generalize (lg_sl ([.ref (ad 0), .int za, .ref ob]) ++ List.replicate (4 - (lg_sl ([.ref (ad 0), .int za, .ref ob])).length) Slot.unset).toArray = ls at hl ⊢
  have hl : lv_has ls 4 [(0, .ref (ad 0)), (1, .int za), (2, .ref ob)] := hl
  refine lv_aload_n hx hb dL_reason_0 rfl (lv_at hl 2 rfl) ?_
  refine lv_iconst (v := 0) hx hb dL_reason_1 (by decide) ?_
  refine lv_aload_n hx hb dL_reason_2 rfl (lv_at hl 0 rfl) ?_
  refine lv_iload_n hx hb dL_reason_3 rfl (lv_at hl 1 rfl) ?_
  refine xS (vx_runV (As := [.int za]) (rest := [.int 0, .ref ob]) ⟨hx, hb, hml, hown, hts⟩ (c_X3_reason l hst D cy ad σ sz za) (cwV 1 hts gL_reason_X3_reason rfl rfl rfl (by decide +kernel) ⟨Nat.le_of_ble_eq_true rfl, Nat.le_of_ble_eq_true rfl⟩) ⟨cx_bl, cw_F hP hK, cx_at hP hK hxk⟩ rfl rfl hl.1 rfl (lv_room (Nat.le_of_ble_eq_true rfl)) dL_reason_4 ⟨Nat.le_of_ble_eq_true rfl, Nat.le_of_ble_eq_true rfl⟩) (fun E ce q9 H hE hz hk h3 h4 h5 => ?_) (fun u hk0 => ?_)
  · have hS : va_S (AO ad ob) s.heap H [] := va_S.grown hz hk
    have hP := hP.grown hk
    have hPo := hPo.grown hk
    obtain ⟨rfl, hk0⟩ := hE
    refine vx_catch (name := "java/lang/IndexOutOfBoundsException") hown [] ⟨0, 9, 12, 13⟩ [] (hT.trans rfl) (fun _ h => nomatch h) rfl (by decide) (hts (.classLink RL 13 "java/lang/IndexOutOfBoundsException") (by decide +kernel)) (va_Nw.use rfl (hxk.2.2.1 (.castable "java/lang/IndexOutOfBoundsException" "java/lang/IndexOutOfBoundsException") (by decide +kernel))) h3 h4 h5 ?_
    refine lv_astore_n (lv' := [(3, .ref q9), (0, .ref (ad 0)), (1, .int za), (2, .ref ob)]) hx hb dL_reason_12 rfl hl (by decide) rfl (fun ls hl => ?_)
    refine lv_iconst (v := 1) hx hb dL_reason_13 (by decide) ?_
    have hn0 : ¬ kM za = 0 := by rw [hk0]; decide
    exact W.iret (v := 1) hx hb hr (fun t ht hW => ⟨⟨_, (), rfl, hk0.symm, ⟨by rw [← ht] at hP; exact hP, f, by rw [ht]; exact hPo, fun h => absurd h hn0⟩⟩, hS.F ht⟩) hS.2.2 dL_reason_14
  · refine W.eq (g2 := F0 m 7 ls [.int (rReason σ za), .int 0, .ref ob]) rfl ?_
    refine lv_i2l hx hb dL_reason_7 rfl ?_
    refine stO hx hb hK hj hno hP hPo hS dL_reason_8 (fun H locs f1 hf1 hP hPo hS => ?_)
    refine lv_goto (tgt := 15) hx hb dL_reason_9 (by decide) ?_
    refine lv_iconst (v := 0) hx hb dL_reason_15 (by decide) ?_
    exact W.iret (v := 0) hx hb hr (fun t ht hW => ⟨⟨_, (), rfl, hk0.symm, ⟨by rw [← ht] at hP; exact hP, f1, by rw [ht]; exact hPo, fun _ => hf1⟩⟩, hS.F ht⟩) hS.2.2 dL_reason_16
set_option maxHeartbeats 4000000 in
set_option maxRecDepth 100000 in
theorem c_L_matchOf (l : Launch) (hst : l.stackTraces = false) (D : va_G) (cy : Nat → ClassId) (ad : Nat → Nat) (hj : inj31 ad) (σ : Mem) (sz : Nat) (ob : Nat) (hno : ∀ k, k < 31 → ad k ≠ ob) (f : Nat → Int64) (za : Int32) : Met l yL_matchOf wsL_matchOf ({ frames := 8, cells := 1, slots := 6, locals := 125 }) (va_Pc [.ref (ad 0), .int za, .ref ob] (lx D cy ad σ sz ob f)) (QI (kM za) (fun H => va_P D vwCl (wC cy ad σ) H ∧ ∃ f1, va_P D vwCl (oW cy ob f1) H ∧ (kM za = 0 → f1 0 = (rMatchOf σ za).toInt64)) (AO ad ob)) 1 6 (AO ad ob) := by
  refine metWH (cc := cL_matchOf) (maxL := 4) (ret := (some .int)) (hh := [(0, 9, 12, 13)]) (by decide) rfl ?_
  intro p e s m args below meth c s₁ B hml hv
  obtain ⟨rfl, ⟨⟨hP, hK⟩, hxk⟩, hPo⟩ := hv
  have hx := B.exec
  have hb := B.bytes
  have hr := B.returns
  have hts := atoms_spec (ws := wsL_matchOf) B.pre
  have hown : s.vm.findClass RL = some m.cls := findClass_of_methodNamed B.named
  have hT := vx_table (x := yL_matchOf) B (hts (.codeWith yL_matchOf cL_matchOf 4 (some .int) [(0, 9, 12, 13)]) List.mem_cons_self)
  have hS : va_S (AO ad ob) s.heap s.heap [] := va_S.rf
  have hl := lv_entry ([.ref (ad 0), .int za, .ref ob]) (n := 4) (Nat.le_of_ble_eq_true rfl)
  rw [lg_entry_eq]
  generalize (lg_sl ([.ref (ad 0), .int za, .ref ob]) ++ List.replicate (4 - (lg_sl ([.ref (ad 0), .int za, .ref ob])).length) Slot.unset).toArray = ls at hl ⊢
  have hl : lv_has ls 4 [(0, .ref (ad 0)), (1, .int za), (2, .ref ob)] := hl
  refine lv_aload_n hx hb dL_matchOf_0 rfl (lv_at hl 2 rfl) ?_
  refine lv_iconst (v := 0) hx hb dL_matchOf_1 (by decide) ?_
  refine lv_aload_n hx hb dL_matchOf_2 rfl (lv_at hl 0 rfl) ?_
  refine lv_iload_n hx hb dL_matchOf_3 rfl (lv_at hl 1 rfl) ?_
  refine xS (vx_runV (As := [.int za]) (rest := [.int 0, .ref ob]) ⟨hx, hb, hml, hown, hts⟩ (c_X3_matchOf l hst D cy ad σ sz za) (cwV 1 hts gL_matchOf_X3_matchOf rfl rfl rfl (by decide +kernel) ⟨Nat.le_of_ble_eq_true rfl, Nat.le_of_ble_eq_true rfl⟩) ⟨cx_bl, cw_F hP hK, cx_at hP hK hxk⟩ rfl rfl hl.1 rfl (lv_room (Nat.le_of_ble_eq_true rfl)) dL_matchOf_4 ⟨Nat.le_of_ble_eq_true rfl, Nat.le_of_ble_eq_true rfl⟩) (fun E ce q9 H hE hz hk h3 h4 h5 => ?_) (fun u hk0 => ?_)
  · have hS : va_S (AO ad ob) s.heap H [] := va_S.grown hz hk
    have hP := hP.grown hk
    have hPo := hPo.grown hk
    obtain ⟨rfl, hk0⟩ := hE
    refine vx_catch (name := "java/lang/IndexOutOfBoundsException") hown [] ⟨0, 9, 12, 13⟩ [] (hT.trans rfl) (fun _ h => nomatch h) rfl (by decide) (hts (.classLink RL 13 "java/lang/IndexOutOfBoundsException") (by decide +kernel)) (va_Nw.use rfl (hxk.2.2.1 (.castable "java/lang/IndexOutOfBoundsException" "java/lang/IndexOutOfBoundsException") (by decide +kernel))) h3 h4 h5 ?_
    refine lv_astore_n (lv' := [(3, .ref q9), (0, .ref (ad 0)), (1, .int za), (2, .ref ob)]) hx hb dL_matchOf_12 rfl hl (by decide) rfl (fun ls hl => ?_)
    refine lv_iconst (v := 1) hx hb dL_matchOf_13 (by decide) ?_
    have hn0 : ¬ kM za = 0 := by rw [hk0]; decide
    exact W.iret (v := 1) hx hb hr (fun t ht hW => ⟨⟨_, (), rfl, hk0.symm, ⟨by rw [← ht] at hP; exact hP, f, by rw [ht]; exact hPo, fun h => absurd h hn0⟩⟩, hS.F ht⟩) hS.2.2 dL_matchOf_14
  · refine W.eq (g2 := F0 m 7 ls [.int (rMatchOf σ za), .int 0, .ref ob]) rfl ?_
    refine lv_i2l hx hb dL_matchOf_7 rfl ?_
    refine stO hx hb hK hj hno hP hPo hS dL_matchOf_8 (fun H locs f1 hf1 hP hPo hS => ?_)
    refine lv_goto (tgt := 15) hx hb dL_matchOf_9 (by decide) ?_
    refine lv_iconst (v := 0) hx hb dL_matchOf_15 (by decide) ?_
    exact W.iret (v := 0) hx hb hr (fun t ht hW => ⟨⟨_, (), rfl, hk0.symm, ⟨by rw [← ht] at hP; exact hP, f1, by rw [ht]; exact hPo, fun _ => hf1⟩⟩, hS.F ht⟩) hS.2.2 dL_matchOf_16
set_option maxHeartbeats 4000000 in
set_option maxRecDepth 100000 in
theorem c_L_imageOf (l : Launch) (hst : l.stackTraces = false) (D : va_G) (cy : Nat → ClassId) (ad : Nat → Nat) (hj : inj31 ad) (σ : Mem) (sz : Nat) (ob : Nat) (hno : ∀ k, k < 31 → ad k ≠ ob) (f : Nat → Int64) (za : Int32) : Met l yL_imageOf wsL_imageOf ({ frames := 8, cells := 1, slots := 6, locals := 125 }) (va_Pc [.ref (ad 0), .int za, .ref ob] (lx D cy ad σ sz ob f)) (QI (kM za) (fun H => va_P D vwCl (wC cy ad σ) H ∧ ∃ f1, va_P D vwCl (oW cy ob f1) H ∧ (kM za = 0 → f1 0 = (rImageOf σ za).toInt64)) (AO ad ob)) 1 6 (AO ad ob) := by
  refine metWH (cc := cL_imageOf) (maxL := 4) (ret := (some .int)) (hh := [(0, 9, 12, 13)]) (by decide) rfl ?_
  intro p e s m args below meth c s₁ B hml hv
  obtain ⟨rfl, ⟨⟨hP, hK⟩, hxk⟩, hPo⟩ := hv
  have hx := B.exec
  have hb := B.bytes
  have hr := B.returns
  have hts := atoms_spec (ws := wsL_imageOf) B.pre
  have hown : s.vm.findClass RL = some m.cls := findClass_of_methodNamed B.named
  have hT := vx_table (x := yL_imageOf) B (hts (.codeWith yL_imageOf cL_imageOf 4 (some .int) [(0, 9, 12, 13)]) List.mem_cons_self)
  have hS : va_S (AO ad ob) s.heap s.heap [] := va_S.rf
  have hl := lv_entry ([.ref (ad 0), .int za, .ref ob]) (n := 4) (Nat.le_of_ble_eq_true rfl)
  rw [lg_entry_eq]
  generalize (lg_sl ([.ref (ad 0), .int za, .ref ob]) ++ List.replicate (4 - (lg_sl ([.ref (ad 0), .int za, .ref ob])).length) Slot.unset).toArray = ls at hl ⊢
  have hl : lv_has ls 4 [(0, .ref (ad 0)), (1, .int za), (2, .ref ob)] := hl
  refine lv_aload_n hx hb dL_imageOf_0 rfl (lv_at hl 2 rfl) ?_
  refine lv_iconst (v := 0) hx hb dL_imageOf_1 (by decide) ?_
  refine lv_aload_n hx hb dL_imageOf_2 rfl (lv_at hl 0 rfl) ?_
  refine lv_iload_n hx hb dL_imageOf_3 rfl (lv_at hl 1 rfl) ?_
  refine xS (vx_runV (As := [.int za]) (rest := [.int 0, .ref ob]) ⟨hx, hb, hml, hown, hts⟩ (c_X3_imageOf l hst D cy ad σ sz za) (cwV 1 hts gL_imageOf_X3_imageOf rfl rfl rfl (by decide +kernel) ⟨Nat.le_of_ble_eq_true rfl, Nat.le_of_ble_eq_true rfl⟩) ⟨cx_bl, cw_F hP hK, cx_at hP hK hxk⟩ rfl rfl hl.1 rfl (lv_room (Nat.le_of_ble_eq_true rfl)) dL_imageOf_4 ⟨Nat.le_of_ble_eq_true rfl, Nat.le_of_ble_eq_true rfl⟩) (fun E ce q9 H hE hz hk h3 h4 h5 => ?_) (fun u hk0 => ?_)
  · have hS : va_S (AO ad ob) s.heap H [] := va_S.grown hz hk
    have hP := hP.grown hk
    have hPo := hPo.grown hk
    obtain ⟨rfl, hk0⟩ := hE
    refine vx_catch (name := "java/lang/IndexOutOfBoundsException") hown [] ⟨0, 9, 12, 13⟩ [] (hT.trans rfl) (fun _ h => nomatch h) rfl (by decide) (hts (.classLink RL 13 "java/lang/IndexOutOfBoundsException") (by decide +kernel)) (va_Nw.use rfl (hxk.2.2.1 (.castable "java/lang/IndexOutOfBoundsException" "java/lang/IndexOutOfBoundsException") (by decide +kernel))) h3 h4 h5 ?_
    refine lv_astore_n (lv' := [(3, .ref q9), (0, .ref (ad 0)), (1, .int za), (2, .ref ob)]) hx hb dL_imageOf_12 rfl hl (by decide) rfl (fun ls hl => ?_)
    refine lv_iconst (v := 1) hx hb dL_imageOf_13 (by decide) ?_
    have hn0 : ¬ kM za = 0 := by rw [hk0]; decide
    exact W.iret (v := 1) hx hb hr (fun t ht hW => ⟨⟨_, (), rfl, hk0.symm, ⟨by rw [← ht] at hP; exact hP, f, by rw [ht]; exact hPo, fun h => absurd h hn0⟩⟩, hS.F ht⟩) hS.2.2 dL_imageOf_14
  · refine W.eq (g2 := F0 m 7 ls [.int (rImageOf σ za), .int 0, .ref ob]) rfl ?_
    refine lv_i2l hx hb dL_imageOf_7 rfl ?_
    refine stO hx hb hK hj hno hP hPo hS dL_imageOf_8 (fun H locs f1 hf1 hP hPo hS => ?_)
    refine lv_goto (tgt := 15) hx hb dL_imageOf_9 (by decide) ?_
    refine lv_iconst (v := 0) hx hb dL_imageOf_15 (by decide) ?_
    exact W.iret (v := 0) hx hb hr (fun t ht hW => ⟨⟨_, (), rfl, hk0.symm, ⟨by rw [← ht] at hP; exact hP, f1, by rw [ht]; exact hPo, fun _ => hf1⟩⟩, hS.F ht⟩) hS.2.2 dL_imageOf_16
set_option maxHeartbeats 4000000 in
set_option maxRecDepth 100000 in
theorem c_L_endOf (l : Launch) (hst : l.stackTraces = false) (D : va_G) (cy : Nat → ClassId) (ad : Nat → Nat) (hj : inj31 ad) (σ : Mem) (sz : Nat) (ob : Nat) (hno : ∀ k, k < 31 → ad k ≠ ob) (f : Nat → Int64) (za : Int32) : Met l yL_endOf wsL_endOf ({ frames := 8, cells := 1, slots := 6, locals := 125 }) (va_Pc [.ref (ad 0), .int za, .ref ob] (lx D cy ad σ sz ob f)) (QI (kM za) (fun H => va_P D vwCl (wC cy ad σ) H ∧ ∃ f1, va_P D vwCl (oW cy ob f1) H ∧ (kM za = 0 → f1 0 = (rEndOf σ za).toInt64)) (AO ad ob)) 1 6 (AO ad ob) := by
  refine metWH (cc := cL_endOf) (maxL := 4) (ret := (some .int)) (hh := [(0, 9, 12, 13)]) (by decide) rfl ?_
  intro p e s m args below meth c s₁ B hml hv
  obtain ⟨rfl, ⟨⟨hP, hK⟩, hxk⟩, hPo⟩ := hv
  have hx := B.exec
  have hb := B.bytes
  have hr := B.returns
  have hts := atoms_spec (ws := wsL_endOf) B.pre
  have hown : s.vm.findClass RL = some m.cls := findClass_of_methodNamed B.named
  have hT := vx_table (x := yL_endOf) B (hts (.codeWith yL_endOf cL_endOf 4 (some .int) [(0, 9, 12, 13)]) List.mem_cons_self)
  have hS : va_S (AO ad ob) s.heap s.heap [] := va_S.rf
  have hl := lv_entry ([.ref (ad 0), .int za, .ref ob]) (n := 4) (Nat.le_of_ble_eq_true rfl)
  rw [lg_entry_eq]
  generalize (lg_sl ([.ref (ad 0), .int za, .ref ob]) ++ List.replicate (4 - (lg_sl ([.ref (ad 0), .int za, .ref ob])).length) Slot.unset).toArray = ls at hl ⊢
  have hl : lv_has ls 4 [(0, .ref (ad 0)), (1, .int za), (2, .ref ob)] := hl
  refine lv_aload_n hx hb dL_endOf_0 rfl (lv_at hl 2 rfl) ?_
  refine lv_iconst (v := 0) hx hb dL_endOf_1 (by decide) ?_
  refine lv_aload_n hx hb dL_endOf_2 rfl (lv_at hl 0 rfl) ?_
  refine lv_iload_n hx hb dL_endOf_3 rfl (lv_at hl 1 rfl) ?_
  refine xS (vx_runV (As := [.int za]) (rest := [.int 0, .ref ob]) ⟨hx, hb, hml, hown, hts⟩ (c_X3_endOf l hst D cy ad σ sz za) (cwV 1 hts gL_endOf_X3_endOf rfl rfl rfl (by decide +kernel) ⟨Nat.le_of_ble_eq_true rfl, Nat.le_of_ble_eq_true rfl⟩) ⟨cx_bl, cw_F hP hK, cx_at hP hK hxk⟩ rfl rfl hl.1 rfl (lv_room (Nat.le_of_ble_eq_true rfl)) dL_endOf_4 ⟨Nat.le_of_ble_eq_true rfl, Nat.le_of_ble_eq_true rfl⟩) (fun E ce q9 H hE hz hk h3 h4 h5 => ?_) (fun u hk0 => ?_)
  · have hS : va_S (AO ad ob) s.heap H [] := va_S.grown hz hk
    have hP := hP.grown hk
    have hPo := hPo.grown hk
    obtain ⟨rfl, hk0⟩ := hE
    refine vx_catch (name := "java/lang/IndexOutOfBoundsException") hown [] ⟨0, 9, 12, 13⟩ [] (hT.trans rfl) (fun _ h => nomatch h) rfl (by decide) (hts (.classLink RL 13 "java/lang/IndexOutOfBoundsException") (by decide +kernel)) (va_Nw.use rfl (hxk.2.2.1 (.castable "java/lang/IndexOutOfBoundsException" "java/lang/IndexOutOfBoundsException") (by decide +kernel))) h3 h4 h5 ?_
    refine lv_astore_n (lv' := [(3, .ref q9), (0, .ref (ad 0)), (1, .int za), (2, .ref ob)]) hx hb dL_endOf_12 rfl hl (by decide) rfl (fun ls hl => ?_)
    refine lv_iconst (v := 1) hx hb dL_endOf_13 (by decide) ?_
    have hn0 : ¬ kM za = 0 := by rw [hk0]; decide
    exact W.iret (v := 1) hx hb hr (fun t ht hW => ⟨⟨_, (), rfl, hk0.symm, ⟨by rw [← ht] at hP; exact hP, f, by rw [ht]; exact hPo, fun h => absurd h hn0⟩⟩, hS.F ht⟩) hS.2.2 dL_endOf_14
  · refine W.eq (g2 := F0 m 7 ls [.int (rEndOf σ za), .int 0, .ref ob]) rfl ?_
    refine lv_i2l hx hb dL_endOf_7 rfl ?_
    refine stO hx hb hK hj hno hP hPo hS dL_endOf_8 (fun H locs f1 hf1 hP hPo hS => ?_)
    refine lv_goto (tgt := 15) hx hb dL_endOf_9 (by decide) ?_
    refine lv_iconst (v := 0) hx hb dL_endOf_15 (by decide) ?_
    exact W.iret (v := 0) hx hb hr (fun t ht hW => ⟨⟨_, (), rfl, hk0.symm, ⟨by rw [← ht] at hP; exact hP, f1, by rw [ht]; exact hPo, fun _ => hf1⟩⟩, hS.F ht⟩) hS.2.2 dL_endOf_16
set_option maxHeartbeats 4000000 in
set_option maxRecDepth 100000 in
theorem c_L_failuresOf (l : Launch) (hst : l.stackTraces = false) (D : va_G) (cy : Nat → ClassId) (ad : Nat → Nat) (hj : inj31 ad) (σ : Mem) (sz : Nat) (ob : Nat) (hno : ∀ k, k < 31 → ad k ≠ ob) (f : Nat → Int64) (za : Int32) : Met l yL_failuresOf wsL_failuresOf ({ frames := 8, cells := 1, slots := 6, locals := 124 }) (va_Pc [.ref (ad 0), .int za, .ref ob] (lx D cy ad σ sz ob f)) (QI (kM za) (fun H => va_P D vwCl (wC cy ad σ) H ∧ ∃ f1, va_P D vwCl (oW cy ob f1) H ∧ (kM za = 0 → f1 0 = (rFailuresOf σ za).toInt64)) (AO ad ob)) 1 6 (AO ad ob) := by
  refine metWH (cc := cL_failuresOf) (maxL := 4) (ret := (some .int)) (hh := [(0, 9, 12, 13)]) (by decide) rfl ?_
  intro p e s m args below meth c s₁ B hml hv
  obtain ⟨rfl, ⟨⟨hP, hK⟩, hxk⟩, hPo⟩ := hv
  have hx := B.exec
  have hb := B.bytes
  have hr := B.returns
  have hts := atoms_spec (ws := wsL_failuresOf) B.pre
  have hown : s.vm.findClass RL = some m.cls := findClass_of_methodNamed B.named
  have hT := vx_table (x := yL_failuresOf) B (hts (.codeWith yL_failuresOf cL_failuresOf 4 (some .int) [(0, 9, 12, 13)]) List.mem_cons_self)
  have hS : va_S (AO ad ob) s.heap s.heap [] := va_S.rf
  have hl := lv_entry ([.ref (ad 0), .int za, .ref ob]) (n := 4) (Nat.le_of_ble_eq_true rfl)
  rw [lg_entry_eq]
  generalize (lg_sl ([.ref (ad 0), .int za, .ref ob]) ++ List.replicate (4 - (lg_sl ([.ref (ad 0), .int za, .ref ob])).length) Slot.unset).toArray = ls at hl ⊢
  have hl : lv_has ls 4 [(0, .ref (ad 0)), (1, .int za), (2, .ref ob)] := hl
  refine lv_aload_n hx hb dL_failuresOf_0 rfl (lv_at hl 2 rfl) ?_
  refine lv_iconst (v := 0) hx hb dL_failuresOf_1 (by decide) ?_
  refine lv_aload_n hx hb dL_failuresOf_2 rfl (lv_at hl 0 rfl) ?_
  refine lv_iload_n hx hb dL_failuresOf_3 rfl (lv_at hl 1 rfl) ?_
  refine xS (vx_runV (As := [.int za]) (rest := [.int 0, .ref ob]) ⟨hx, hb, hml, hown, hts⟩ (c_X3_failuresOf l hst D cy ad σ sz za) (cwV 1 hts gL_failuresOf_X3_failuresOf rfl rfl rfl (by decide +kernel) ⟨Nat.le_of_ble_eq_true rfl, Nat.le_of_ble_eq_true rfl⟩) ⟨cx_bl, cw_F hP hK, cx_at hP hK hxk⟩ rfl rfl hl.1 rfl (lv_room (Nat.le_of_ble_eq_true rfl)) dL_failuresOf_4 ⟨Nat.le_of_ble_eq_true rfl, Nat.le_of_ble_eq_true rfl⟩) (fun E ce q9 H hE hz hk h3 h4 h5 => ?_) (fun u hk0 => ?_)
  · have hS : va_S (AO ad ob) s.heap H [] := va_S.grown hz hk
    have hP := hP.grown hk
    have hPo := hPo.grown hk
    obtain ⟨rfl, hk0⟩ := hE
    refine vx_catch (name := "java/lang/IndexOutOfBoundsException") hown [] ⟨0, 9, 12, 13⟩ [] (hT.trans rfl) (fun _ h => nomatch h) rfl (by decide) (hts (.classLink RL 13 "java/lang/IndexOutOfBoundsException") (by decide +kernel)) (va_Nw.use rfl (hxk.2.2.1 (.castable "java/lang/IndexOutOfBoundsException" "java/lang/IndexOutOfBoundsException") (by decide +kernel))) h3 h4 h5 ?_
    refine lv_astore_n (lv' := [(3, .ref q9), (0, .ref (ad 0)), (1, .int za), (2, .ref ob)]) hx hb dL_failuresOf_12 rfl hl (by decide) rfl (fun ls hl => ?_)
    refine lv_iconst (v := 1) hx hb dL_failuresOf_13 (by decide) ?_
    have hn0 : ¬ kM za = 0 := by rw [hk0]; decide
    exact W.iret (v := 1) hx hb hr (fun t ht hW => ⟨⟨_, (), rfl, hk0.symm, ⟨by rw [← ht] at hP; exact hP, f, by rw [ht]; exact hPo, fun h => absurd h hn0⟩⟩, hS.F ht⟩) hS.2.2 dL_failuresOf_14
  · refine W.eq (g2 := F0 m 7 ls [.int (rFailuresOf σ za), .int 0, .ref ob]) rfl ?_
    refine lv_i2l hx hb dL_failuresOf_7 rfl ?_
    refine stO hx hb hK hj hno hP hPo hS dL_failuresOf_8 (fun H locs f1 hf1 hP hPo hS => ?_)
    refine lv_goto (tgt := 15) hx hb dL_failuresOf_9 (by decide) ?_
    refine lv_iconst (v := 0) hx hb dL_failuresOf_15 (by decide) ?_
    exact W.iret (v := 0) hx hb hr (fun t ht hW => ⟨⟨_, (), rfl, hk0.symm, ⟨by rw [← ht] at hP; exact hP, f1, by rw [ht]; exact hPo, fun _ => hf1⟩⟩, hS.F ht⟩) hS.2.2 dL_failuresOf_16
set_option maxHeartbeats 4000000 in
set_option maxRecDepth 100000 in
theorem c_L_installing (l : Launch) (hst : l.stackTraces = false) (D : va_G) (cy : Nat → ClassId) (ad : Nat → Nat) (hj : inj31 ad) (σ : Mem) (sz : Nat) (ob : Nat) (hno : ∀ k, k < 31 → ad k ≠ ob) (f : Nat → Int64) (za : Int32) : Met l yL_installing wsL_installing ({ frames := 7, cells := 1, slots := 6, locals := 103 }) (va_Pc [.ref (ad 0), .int za, .ref ob] (lx D cy ad σ sz ob f)) (QI (kR za) (fun H => va_P D vwCl (wC cy ad σ) H ∧ ∃ f1, va_P D vwCl (oW cy ob f1) H ∧ (kR za = 0 → f1 0 = (rInstalling σ za).toInt64)) (AO ad ob)) 1 6 (AO ad ob) := by
  refine metWH (cc := cL_installing) (maxL := 4) (ret := (some .int)) (hh := [(0, 9, 12, 13)]) (by decide) rfl ?_
  intro p e s m args below meth c s₁ B hml hv
  obtain ⟨rfl, ⟨⟨hP, hK⟩, hxk⟩, hPo⟩ := hv
  have hx := B.exec
  have hb := B.bytes
  have hr := B.returns
  have hts := atoms_spec (ws := wsL_installing) B.pre
  have hown : s.vm.findClass RL = some m.cls := findClass_of_methodNamed B.named
  have hT := vx_table (x := yL_installing) B (hts (.codeWith yL_installing cL_installing 4 (some .int) [(0, 9, 12, 13)]) List.mem_cons_self)
  have hS : va_S (AO ad ob) s.heap s.heap [] := va_S.rf
  have hl := lv_entry ([.ref (ad 0), .int za, .ref ob]) (n := 4) (Nat.le_of_ble_eq_true rfl)
  rw [lg_entry_eq]
  generalize (lg_sl ([.ref (ad 0), .int za, .ref ob]) ++ List.replicate (4 - (lg_sl ([.ref (ad 0), .int za, .ref ob])).length) Slot.unset).toArray = ls at hl ⊢
  have hl : lv_has ls 4 [(0, .ref (ad 0)), (1, .int za), (2, .ref ob)] := hl
  refine lv_aload_n hx hb dL_installing_0 rfl (lv_at hl 2 rfl) ?_
  refine lv_iconst (v := 0) hx hb dL_installing_1 (by decide) ?_
  refine lv_aload_n hx hb dL_installing_2 rfl (lv_at hl 0 rfl) ?_
  refine lv_iload_n hx hb dL_installing_3 rfl (lv_at hl 1 rfl) ?_
  refine xS (vx_runV (As := [.int za]) (rest := [.int 0, .ref ob]) ⟨hx, hb, hml, hown, hts⟩ (c_X3_installing l hst D cy ad σ sz za) (cwV 1 hts gL_installing_X3_installing rfl rfl rfl (by decide +kernel) ⟨Nat.le_of_ble_eq_true rfl, Nat.le_of_ble_eq_true rfl⟩) ⟨cx_bl, cw_F hP hK, cx_at hP hK hxk⟩ rfl rfl hl.1 rfl (lv_room (Nat.le_of_ble_eq_true rfl)) dL_installing_4 ⟨Nat.le_of_ble_eq_true rfl, Nat.le_of_ble_eq_true rfl⟩) (fun E ce q9 H hE hz hk h3 h4 h5 => ?_) (fun u hk0 => ?_)
  · have hS : va_S (AO ad ob) s.heap H [] := va_S.grown hz hk
    have hP := hP.grown hk
    have hPo := hPo.grown hk
    obtain ⟨rfl, hk0⟩ := hE
    refine vx_catch (name := "java/lang/IndexOutOfBoundsException") hown [] ⟨0, 9, 12, 13⟩ [] (hT.trans rfl) (fun _ h => nomatch h) rfl (by decide) (hts (.classLink RL 13 "java/lang/IndexOutOfBoundsException") (by decide +kernel)) (va_Nw.use rfl (hxk.2.2.1 (.castable "java/lang/IndexOutOfBoundsException" "java/lang/IndexOutOfBoundsException") (by decide +kernel))) h3 h4 h5 ?_
    refine lv_astore_n (lv' := [(3, .ref q9), (0, .ref (ad 0)), (1, .int za), (2, .ref ob)]) hx hb dL_installing_12 rfl hl (by decide) rfl (fun ls hl => ?_)
    refine lv_iconst (v := 1) hx hb dL_installing_13 (by decide) ?_
    have hn0 : ¬ kR za = 0 := by rw [hk0]; decide
    exact W.iret (v := 1) hx hb hr (fun t ht hW => ⟨⟨_, (), rfl, hk0.symm, ⟨by rw [← ht] at hP; exact hP, f, by rw [ht]; exact hPo, fun h => absurd h hn0⟩⟩, hS.F ht⟩) hS.2.2 dL_installing_14
  · refine W.eq (g2 := F0 m 7 ls [.int (rInstalling σ za), .int 0, .ref ob]) rfl ?_
    refine lv_i2l hx hb dL_installing_7 rfl ?_
    refine stO hx hb hK hj hno hP hPo hS dL_installing_8 (fun H locs f1 hf1 hP hPo hS => ?_)
    refine lv_goto (tgt := 15) hx hb dL_installing_9 (by decide) ?_
    refine lv_iconst (v := 0) hx hb dL_installing_15 (by decide) ?_
    exact W.iret (v := 0) hx hb hr (fun t ht hW => ⟨⟨_, (), rfl, hk0.symm, ⟨by rw [← ht] at hP; exact hP, f1, by rw [ht]; exact hPo, fun _ => hf1⟩⟩, hS.F ht⟩) hS.2.2 dL_installing_16
set_option maxHeartbeats 4000000 in
set_option maxRecDepth 100000 in
theorem c_L_queueAt (l : Launch) (hst : l.stackTraces = false) (D : va_G) (cy : Nat → ClassId) (ad : Nat → Nat) (hj : inj31 ad) (σ : Mem) (sz : Nat) (ob : Nat) (hno : ∀ k, k < 31 → ad k ≠ ob) (f : Nat → Int64) (za zb : Int32) : Met l yL_queueAt wsL_queueAt ({ frames := 7, cells := 1, slots := 6, locals := 105 }) (va_Pc [.ref (ad 0), .int za, .int zb, .ref ob] (lx D cy ad σ sz ob f)) (QI (kQueueAt za zb) (fun H => va_P D vwCl (wC cy ad σ) H ∧ ∃ f1, va_P D vwCl (oW cy ob f1) H ∧ (kQueueAt za zb = 0 → f1 0 = (rQueueAt σ za zb).toInt64)) (AO ad ob)) 1 6 (AO ad ob) := by
  refine metWH (cc := cL_queueAt) (maxL := 5) (ret := (some .int)) (hh := [(0, 10, 13, 13)]) (by decide) rfl ?_
  intro p e s m args below meth c s₁ B hml hv
  obtain ⟨rfl, ⟨⟨hP, hK⟩, hxk⟩, hPo⟩ := hv
  have hx := B.exec
  have hb := B.bytes
  have hr := B.returns
  have hts := atoms_spec (ws := wsL_queueAt) B.pre
  have hown : s.vm.findClass RL = some m.cls := findClass_of_methodNamed B.named
  have hT := vx_table (x := yL_queueAt) B (hts (.codeWith yL_queueAt cL_queueAt 5 (some .int) [(0, 10, 13, 13)]) List.mem_cons_self)
  have hS : va_S (AO ad ob) s.heap s.heap [] := va_S.rf
  have hl := lv_entry ([.ref (ad 0), .int za, .int zb, .ref ob]) (n := 5) (Nat.le_of_ble_eq_true rfl)
  rw [lg_entry_eq]
  generalize (lg_sl ([.ref (ad 0), .int za, .int zb, .ref ob]) ++ List.replicate (5 - (lg_sl ([.ref (ad 0), .int za, .int zb, .ref ob])).length) Slot.unset).toArray = ls at hl ⊢
  have hl : lv_has ls 5 [(0, .ref (ad 0)), (1, .int za), (2, .int zb), (3, .ref ob)] := hl
  refine lv_aload_n hx hb dL_queueAt_0 rfl (lv_at hl 3 rfl) ?_
  refine lv_iconst (v := 0) hx hb dL_queueAt_1 (by decide) ?_
  refine lv_aload_n hx hb dL_queueAt_2 rfl (lv_at hl 0 rfl) ?_
  refine lv_iload_n hx hb dL_queueAt_3 rfl (lv_at hl 1 rfl) ?_
  refine lv_iload_n hx hb dL_queueAt_4 rfl (lv_at hl 2 rfl) ?_
  refine xS (vx_runV (As := [.int za, .int zb]) (rest := [.int 0, .ref ob]) ⟨hx, hb, hml, hown, hts⟩ (c_X3_queueAt l hst D cy ad σ sz za zb) (cwV 2 hts gL_queueAt_X3_queueAt rfl rfl rfl (by decide +kernel) ⟨Nat.le_of_ble_eq_true rfl, Nat.le_of_ble_eq_true rfl⟩) ⟨cx_bl, cw_F hP hK, cx_at hP hK hxk⟩ rfl rfl hl.1 rfl (lv_room (Nat.le_of_ble_eq_true rfl)) dL_queueAt_5 ⟨Nat.le_of_ble_eq_true rfl, Nat.le_of_ble_eq_true rfl⟩) (fun E ce q9 H hE hz hk h3 h4 h5 => ?_) (fun u hk0 => ?_)
  · have hS : va_S (AO ad ob) s.heap H [] := va_S.grown hz hk
    have hP := hP.grown hk
    have hPo := hPo.grown hk
    obtain ⟨rfl, hk0⟩ := hE
    refine vx_catch (name := "java/lang/IndexOutOfBoundsException") hown [] ⟨0, 10, 13, 13⟩ [] (hT.trans rfl) (fun _ h => nomatch h) rfl (by decide) (hts (.classLink RL 13 "java/lang/IndexOutOfBoundsException") (by decide +kernel)) (va_Nw.use rfl (hxk.2.2.1 (.castable "java/lang/IndexOutOfBoundsException" "java/lang/IndexOutOfBoundsException") (by decide +kernel))) h3 h4 h5 ?_
    refine lv_astore (lv' := [(4, .ref q9), (0, .ref (ad 0)), (1, .int za), (2, .int zb), (3, .ref ob)]) hx hb dL_queueAt_13 hl (by decide) rfl (fun ls hl => ?_)
    refine lv_iconst (v := 1) hx hb dL_queueAt_15 (by decide) ?_
    have hn0 : ¬ kQueueAt za zb = 0 := by rw [hk0]; decide
    exact W.iret (v := 1) hx hb hr (fun t ht hW => ⟨⟨_, (), rfl, hk0.symm, ⟨by rw [← ht] at hP; exact hP, f, by rw [ht]; exact hPo, fun h => absurd h hn0⟩⟩, hS.F ht⟩) hS.2.2 dL_queueAt_16
  · refine W.eq (g2 := F0 m 8 ls [.int (rQueueAt σ za zb), .int 0, .ref ob]) rfl ?_
    refine lv_i2l hx hb dL_queueAt_8 rfl ?_
    refine stO hx hb hK hj hno hP hPo hS dL_queueAt_9 (fun H locs f1 hf1 hP hPo hS => ?_)
    refine lv_goto (tgt := 17) hx hb dL_queueAt_10 (by decide) ?_
    refine lv_iconst (v := 0) hx hb dL_queueAt_17 (by decide) ?_
    exact W.iret (v := 0) hx hb hr (fun t ht hW => ⟨⟨_, (), rfl, hk0.symm, ⟨by rw [← ht] at hP; exact hP, f1, by rw [ht]; exact hPo, fun _ => hf1⟩⟩, hS.F ht⟩) hS.2.2 dL_queueAt_18
set_option maxHeartbeats 4000000 in
set_option maxRecDepth 100000 in
theorem c_L_machineAt (l : Launch) (hst : l.stackTraces = false) (D : va_G) (cy : Nat → ClassId) (ad : Nat → Nat) (hj : inj31 ad) (σ : Mem) (sz : Nat) (ob : Nat) (hno : ∀ k, k < 31 → ad k ≠ ob) (f : Nat → Int64) (za : Int32) : Met l yL_machineAt wsL_machineAt ({ frames := 7, cells := 1, slots := 6, locals := 103 }) (va_Pc [.ref (ad 0), .int za, .ref ob] (lx D cy ad σ sz ob f)) (QI (kMachineAt σ za) (fun H => va_P D vwCl (wC cy ad σ) H ∧ ∃ f1, va_P D vwCl (oW cy ob f1) H ∧ (kMachineAt σ za = 0 → f1 0 = (rMachineAt σ za).toInt64)) (AO ad ob)) 1 6 (AO ad ob) := by
  refine metWH (cc := cL_machineAt) (maxL := 4) (ret := (some .int)) (hh := [(0, 9, 12, 13)]) (by decide) rfl ?_
  intro p e s m args below meth c s₁ B hml hv
  obtain ⟨rfl, ⟨⟨hP, hK⟩, hxk⟩, hPo⟩ := hv
  have hx := B.exec
  have hb := B.bytes
  have hr := B.returns
  have hts := atoms_spec (ws := wsL_machineAt) B.pre
  have hown : s.vm.findClass RL = some m.cls := findClass_of_methodNamed B.named
  have hT := vx_table (x := yL_machineAt) B (hts (.codeWith yL_machineAt cL_machineAt 4 (some .int) [(0, 9, 12, 13)]) List.mem_cons_self)
  have hS : va_S (AO ad ob) s.heap s.heap [] := va_S.rf
  have hl := lv_entry ([.ref (ad 0), .int za, .ref ob]) (n := 4) (Nat.le_of_ble_eq_true rfl)
  rw [lg_entry_eq]
  generalize (lg_sl ([.ref (ad 0), .int za, .ref ob]) ++ List.replicate (4 - (lg_sl ([.ref (ad 0), .int za, .ref ob])).length) Slot.unset).toArray = ls at hl ⊢
  have hl : lv_has ls 4 [(0, .ref (ad 0)), (1, .int za), (2, .ref ob)] := hl
  refine lv_aload_n hx hb dL_machineAt_0 rfl (lv_at hl 2 rfl) ?_
  refine lv_iconst (v := 0) hx hb dL_machineAt_1 (by decide) ?_
  refine lv_aload_n hx hb dL_machineAt_2 rfl (lv_at hl 0 rfl) ?_
  refine lv_iload_n hx hb dL_machineAt_3 rfl (lv_at hl 1 rfl) ?_
  refine xS (vx_runV (As := [.int za]) (rest := [.int 0, .ref ob]) ⟨hx, hb, hml, hown, hts⟩ (c_X3_machineAt l hst D cy ad σ sz za) (cwV 1 hts gL_machineAt_X3_machineAt rfl rfl rfl (by decide +kernel) ⟨Nat.le_of_ble_eq_true rfl, Nat.le_of_ble_eq_true rfl⟩) ⟨cx_bl, cw_F hP hK, cx_at hP hK hxk⟩ rfl rfl hl.1 rfl (lv_room (Nat.le_of_ble_eq_true rfl)) dL_machineAt_4 ⟨Nat.le_of_ble_eq_true rfl, Nat.le_of_ble_eq_true rfl⟩) (fun E ce q9 H hE hz hk h3 h4 h5 => ?_) (fun u hk0 => ?_)
  · have hS : va_S (AO ad ob) s.heap H [] := va_S.grown hz hk
    have hP := hP.grown hk
    have hPo := hPo.grown hk
    obtain ⟨rfl, hk0⟩ := hE
    refine vx_catch (name := "java/lang/IndexOutOfBoundsException") hown [] ⟨0, 9, 12, 13⟩ [] (hT.trans rfl) (fun _ h => nomatch h) rfl (by decide) (hts (.classLink RL 13 "java/lang/IndexOutOfBoundsException") (by decide +kernel)) (va_Nw.use rfl (hxk.2.2.1 (.castable "java/lang/IndexOutOfBoundsException" "java/lang/IndexOutOfBoundsException") (by decide +kernel))) h3 h4 h5 ?_
    refine lv_astore_n (lv' := [(3, .ref q9), (0, .ref (ad 0)), (1, .int za), (2, .ref ob)]) hx hb dL_machineAt_12 rfl hl (by decide) rfl (fun ls hl => ?_)
    refine lv_iconst (v := 1) hx hb dL_machineAt_13 (by decide) ?_
    have hn0 : ¬ kMachineAt σ za = 0 := by rw [hk0]; decide
    exact W.iret (v := 1) hx hb hr (fun t ht hW => ⟨⟨_, (), rfl, hk0.symm, ⟨by rw [← ht] at hP; exact hP, f, by rw [ht]; exact hPo, fun h => absurd h hn0⟩⟩, hS.F ht⟩) hS.2.2 dL_machineAt_14
  · refine W.eq (g2 := F0 m 7 ls [.int (rMachineAt σ za), .int 0, .ref ob]) rfl ?_
    refine lv_i2l hx hb dL_machineAt_7 rfl ?_
    refine stO hx hb hK hj hno hP hPo hS dL_machineAt_8 (fun H locs f1 hf1 hP hPo hS => ?_)
    refine lv_goto (tgt := 15) hx hb dL_machineAt_9 (by decide) ?_
    refine lv_iconst (v := 0) hx hb dL_machineAt_15 (by decide) ?_
    exact W.iret (v := 0) hx hb hr (fun t ht hW => ⟨⟨_, (), rfl, hk0.symm, ⟨by rw [← ht] at hP; exact hP, f1, by rw [ht]; exact hPo, fun _ => hf1⟩⟩, hS.F ht⟩) hS.2.2 dL_machineAt_16
set_option maxHeartbeats 4000000 in
set_option maxRecDepth 100000 in
theorem c_L_stateBefore (l : Launch) (hst : l.stackTraces = false) (D : va_G) (cy : Nat → ClassId) (ad : Nat → Nat) (hj : inj31 ad) (σ : Mem) (sz : Nat) (ob : Nat) (hno : ∀ k, k < 31 → ad k ≠ ob) (f : Nat → Int64) (za zb : Int32) : Met l yL_stateBefore wsL_stateBefore ({ frames := 8, cells := 2, slots := 12, locals := 130 }) (va_Pc [.ref (ad 0), .int za, .int zb, .ref ob] (lx D cy ad σ sz ob f)) (QI (kStateBefore σ za zb) (fun H => va_P D vwCl (wC cy ad σ) H ∧ ∃ f1, va_P D vwCl (oW cy ob f1) H ∧ (kStateBefore σ za zb = 0 → f1 0 = (rStateBefore σ za zb).toInt64)) (AO ad ob)) 2 12 (AO ad ob) := by
  refine metWH (cc := cL_stateBefore) (maxL := 5) (ret := (some .int)) (hh := [(0, 10, 13, 13), (0, 10, 17, 15)]) (by decide) rfl ?_
  intro p e s m args below meth c s₁ B hml hv
  obtain ⟨rfl, ⟨⟨hP, hK⟩, hxk⟩, hPo⟩ := hv
  have hx := B.exec
  have hb := B.bytes
  have hr := B.returns
  have hts := atoms_spec (ws := wsL_stateBefore) B.pre
  have hown : s.vm.findClass RL = some m.cls := findClass_of_methodNamed B.named
  have hT := vx_table (x := yL_stateBefore) B (hts (.codeWith yL_stateBefore cL_stateBefore 5 (some .int) [(0, 10, 13, 13), (0, 10, 17, 15)]) List.mem_cons_self)
  have hS : va_S (AO ad ob) s.heap s.heap [] := va_S.rf
  have hl := lv_entry ([.ref (ad 0), .int za, .int zb, .ref ob]) (n := 5) (Nat.le_of_ble_eq_true rfl)
  rw [lg_entry_eq]
  generalize (lg_sl ([.ref (ad 0), .int za, .int zb, .ref ob]) ++ List.replicate (5 - (lg_sl ([.ref (ad 0), .int za, .int zb, .ref ob])).length) Slot.unset).toArray = ls at hl ⊢
  have hl : lv_has ls 5 [(0, .ref (ad 0)), (1, .int za), (2, .int zb), (3, .ref ob)] := hl
  refine lv_aload_n hx hb dL_stateBefore_0 rfl (lv_at hl 3 rfl) ?_
  refine lv_iconst (v := 0) hx hb dL_stateBefore_1 (by decide) ?_
  refine lv_aload_n hx hb dL_stateBefore_2 rfl (lv_at hl 0 rfl) ?_
  refine lv_iload_n hx hb dL_stateBefore_3 rfl (lv_at hl 1 rfl) ?_
  refine lv_iload_n hx hb dL_stateBefore_4 rfl (lv_at hl 2 rfl) ?_
  refine xS (vx_runV (As := [.int za, .int zb]) (rest := [.int 0, .ref ob]) ⟨hx, hb, hml, hown, hts⟩ (c_X3_stateBefore l hst D cy ad σ sz za zb) (cwV 2 hts gL_stateBefore_X3_stateBefore rfl rfl rfl (by decide +kernel) ⟨Nat.le_of_ble_eq_true rfl, Nat.le_of_ble_eq_true rfl⟩) ⟨cx_bl, cw_F hP hK, cx_at hP hK hxk⟩ rfl rfl hl.1 rfl (lv_room (Nat.le_of_ble_eq_true rfl)) dL_stateBefore_5 ⟨Nat.le_of_ble_eq_true rfl, Nat.le_of_ble_eq_true rfl⟩) (fun E ce q9 H hE hz hk h3 h4 h5 => ?_) (fun u hk0 => ?_)
  · have hS : va_S (AO ad ob) s.heap H [] := va_S.grown hz hk
    have hP := hP.grown hk
    have hPo := hPo.grown hk
    rcases (show ex12 _ _ from hE) with ⟨rfl, hk0⟩ | ⟨rfl, hk0⟩
    · refine vx_catch (name := "java/lang/IndexOutOfBoundsException") hown [] ⟨0, 10, 13, 13⟩ [⟨0, 10, 17, 15⟩] (hT.trans rfl) (fun _ h => nomatch h) rfl (by decide) (hts (.classLink RL 13 "java/lang/IndexOutOfBoundsException") (by decide +kernel)) (va_Nw.use rfl (hxk.2.2.1 (.castable "java/lang/IndexOutOfBoundsException" "java/lang/IndexOutOfBoundsException") (by decide +kernel))) h3 h4 h5 ?_
      refine lv_astore (lv' := [(4, .ref q9), (0, .ref (ad 0)), (1, .int za), (2, .int zb), (3, .ref ob)]) hx hb dL_stateBefore_13 hl (by decide) rfl (fun ls hl => ?_)
      refine lv_iconst (v := 1) hx hb dL_stateBefore_15 (by decide) ?_
      have hn0 : ¬ kStateBefore σ za zb = 0 := by rw [hk0]; decide
      exact W.iret (v := 1) hx hb hr (fun t ht hW => ⟨⟨_, (), rfl, hk0.symm, ⟨by rw [← ht] at hP; exact hP, f, by rw [ht]; exact hPo, fun h => absurd h hn0⟩⟩, hS.F ht⟩) hS.2.2 dL_stateBefore_16
    · refine vx_catch (name := "java/lang/IllegalArgumentException") hown [⟨0, 10, 13, 13⟩] ⟨0, 10, 17, 15⟩ [] (hT.trans rfl) (fun z hz9 => by rw [List.mem_singleton.mp hz9]; exact Or.inr ⟨by decide, "java/lang/IndexOutOfBoundsException", hts (.classLink RL 13 "java/lang/IndexOutOfBoundsException") (by decide +kernel), hxk.2.2.2.1 ("java/lang/IllegalArgumentException", "java/lang/IndexOutOfBoundsException") (by decide +kernel)⟩) rfl (by decide) (hts (.classLink RL 15 "java/lang/IllegalArgumentException") (by decide +kernel)) (va_Nw.use rfl (hxk.2.2.1 (.castable "java/lang/IllegalArgumentException" "java/lang/IllegalArgumentException") (by decide +kernel))) h3 h4 h5 ?_
      refine lv_astore (lv' := [(4, .ref q9), (0, .ref (ad 0)), (1, .int za), (2, .int zb), (3, .ref ob)]) hx hb dL_stateBefore_17 hl (by decide) rfl (fun ls hl => ?_)
      refine lv_iconst (v := 2) hx hb dL_stateBefore_19 (by decide) ?_
      have hn0 : ¬ kStateBefore σ za zb = 0 := by rw [hk0]; decide
      exact W.iret (v := 2) hx hb hr (fun t ht hW => ⟨⟨_, (), rfl, hk0.symm, ⟨by rw [← ht] at hP; exact hP, f, by rw [ht]; exact hPo, fun h => absurd h hn0⟩⟩, hS.F ht⟩) hS.2.2 dL_stateBefore_20
  · refine W.eq (g2 := F0 m 8 ls [.int (rStateBefore σ za zb), .int 0, .ref ob]) rfl ?_
    refine lv_i2l hx hb dL_stateBefore_8 rfl ?_
    refine stO hx hb hK hj hno hP hPo hS dL_stateBefore_9 (fun H locs f1 hf1 hP hPo hS => ?_)
    refine lv_goto (tgt := 21) hx hb dL_stateBefore_10 (by decide) ?_
    refine lv_iconst (v := 0) hx hb dL_stateBefore_21 (by decide) ?_
    exact W.iret (v := 0) hx hb hr (fun t ht hW => ⟨⟨_, (), rfl, hk0.symm, ⟨by rw [← ht] at hP; exact hP, f1, by rw [ht]; exact hPo, fun _ => hf1⟩⟩, hS.F ht⟩) hS.2.2 dL_stateBefore_22
