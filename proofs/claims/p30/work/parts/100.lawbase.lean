/-! THE LAW'S OWN METHODS: what their walks stand on -/
theorem metWH {l : Launch} {y : MethodName} {ws ws' : List Cond} {rm : Room} {Pc : Array Value → State → Prop} {Qc : Array Value → State → Outcome → State → Prop} {mc ms : Nat} {free : Addr → Prop} {cc : ByteArray} {maxL : Nat} {ret : Option FieldType} {hh : List (Nat × Nat × Nat × Nat)}
    (hy : plainName y.cls = true) (hw : ws = Cond.codeWith y cc maxL ret hh :: ws')
    (body : ∀ p e s m args below meth c s₁, BodyLoose p l y (headSpec ws rm) cc maxL ret e s m args below meth c s₁ → c.maxLocals = maxL → Pc args s →
      W p l e (headSpec ws rm).room s m args below meth c s.heap [] 0 0 (MQ below Qc args s mc ms free) (entryFrame m args maxL)) : Met l y ws rm Pc Qc mc ms free := by
  refine MetFree.of_bodyS (code := cc) (maxLocals := maxL) (ret := ret) hy ?_ ?_
  · intro args s m h hn
    obtain ⟨m9, meth, c, hn9, h1, h2, h3, h4, -, h5, h6, -⟩ := Cond.codeWith_spec (atoms_spec (ws := ws) h _ (by rw [hw]; exact List.mem_cons_self))
    cases hn.symm.trans hn9
    exact ⟨meth, c, h1, h2, h3, h4, h5, h6⟩
  · intro p e s m args below meth c s₁ B hml hP _
    have hh0 : s₁.heap = s.heap := by rw [B.state]; rfl
    obtain ⟨t, a1, o, b1, b2, b3, b4⟩ := body p e s m args below meth c s₁ B hml hP s₁ hh0 (Stand.of_body B)
    exact ⟨t, o, a1, b1, b2, b3, b4⟩
theorem va_P.grown {D : va_G} {cl : List vw_C} {ws : va_W} {H H1 : Heap} (hP : va_P D cl ws H) (h : ∀ q : Nat, q < H.size → H1[q]? = H[q]?) : va_P D cl ws H1 := hP.kept (fun k q hq => h _ ((hP k q hq).lt))
theorem va_P.apart {D : va_G} {cl : List vw_C} {ws : va_W} {H H1 : Heap} {A : Nat → Prop} (hP : va_P D cl ws H) (h : ∀ q : Nat, q < H.size → ¬ A q → H1[q]? = H[q]?) (hA : ∀ (k : Nat) (q : Nat × va_E), ws[k]? = some q → ¬ A q.1) : va_P D cl ws H1 := hP.kept (fun k q hq => h _ ((hP k q hq).lt) (hA k q hq))
theorem va_P.left {D : va_G} {cl : List vw_C} {w1 w2 : va_W} {H : Heap} (hP : va_P D cl (w1 ++ w2) H) : va_P D cl w1 H := fun k q hq => hP k q (by rw [List.getElem?_append_left (List.getElem?_eq_some_iff.mp hq).1]; exact hq)
theorem va_P.right {D : va_G} {cl : List vw_C} {w1 w2 : va_W} {H : Heap} (hP : va_P D cl (w1 ++ w2) H) : va_P D cl w2 H := fun k q hq => hP (w1.length + k) q (by rw [List.getElem?_append_right (by omega), Nat.add_sub_cancel_left]; exact hq)
theorem va_S.grown {A : Nat → Prop} {H0 H1 : Heap} (h1 : H0.size ≤ H1.size) (h2 : ∀ q : Nat, q < H0.size → H1[q]? = H0[q]?) : va_S A H0 H1 [] := ⟨h1, fun q hq _ => h2 q hq, fun _ h => nomatch h⟩
theorem wC_no {cy : Nat → ClassId} {ad : Nat → Nat} {σ : Mem} {A : Nat → Prop} (h : ∀ k, k < 31 → ¬ A (ad k)) : ∀ (k : Nat) (q : Nat × va_E), (wC cy ad σ)[k]? = some q → ¬ A q.1 := by
  intro k q hq
  obtain ⟨h1, h2⟩ := wC_get hq
  rw [h2]
  exact h k h1
theorem va_P.one {D : va_G} {cl : List vw_C} {ws : va_W} {H : Heap} {k : Nat} {q : Nat × va_E} (hP : va_P D cl ws H) (h : ws[k]? = some q) : va_P D cl [q] H := by
  intro j p hp
  have h1 := (List.getElem?_eq_some_iff.mp hp).1
  simp at h1
  subst h1
  cases hp
  exact hP k _ h
theorem xk_S {A : Nat → Prop} {sz : Nat} {s : State} {H : Heap} {locs : List Loc} (hAz : ∀ q, A q → sz ≤ q) (h : xk sz s) (hS : va_S A s.heap H locs) : ∀ U : State, U.heap = H → s.WarmedH U.vm → xk sz U := fun U hU hW => xk_warm h hU hW (fun q hq hn => hS.2.1 q hq (fun z => hn (hAz q z)))
theorem cx_S {A : Nat → Prop} {av : List Value} {D : va_G} {cy : Nat → ClassId} {ad : Nat → Nat} {σ : Mem} {sz : Nat} {s : State} {H : Heap} {locs : List Loc} (hP : va_P D vwCl (wC cy ad σ) H) (hK : va_K D vwCl (tyC cy) s) (hAz : ∀ q, A q → sz ≤ q) (h : xk sz s) (hS : va_S A s.heap H locs) : ∀ U : State, U.heap = H → s.WarmedH U.vm → va_Pc av (cx D cy ad σ sz) av.toArray U := fun U hU hW => ⟨rfl, (cw_at (av := av) hP hK U hU hW).2, xk_S hAz h hS U hU hW⟩
theorem NoA_z {sz : Nat} : ∀ q, NoA q → sz ≤ q := fun _ h => h.elim
/-- an array of numbers -/
abbrev aW (cy : Nat → ClassId) (q n : Nat) (f : Nat → Int32) : Nat × va_E := (q, .inl (cy 0, n, .inl f))
/-- what a wrapper answers: the call's answer, or a number for what was thrown -/
def w1 (k r : Int32) : Int32 := if k = 0 then r else -1000001
def w2 (k r : Int32) : Int32 := if k = 0 then r else -1000002
def w12 (k r : Int32) : Int32 := if k = 0 then r else if k = 1 then -1000001 else -1000002
def w13 (k r : Int32) : Int32 := if k = 0 then r else if k = 1 then -1000001 else -1000003
def w123 (k r : Int32) : Int32 := if k = 0 then r else if k = 1 then -1000001 else if k = 2 then -1000002 else -1000003
section LW
variable {p : Program} {l : Launch} {e : Env} {R : Room} {s : State} {m : MethodId} {args : Array Value} {below : List Frame} {meth : Method} {c : Code} {H : Heap} {locs : List Loc} {cells slots : Nat} {Q : State → Prop} {cc : ByteArray} {pc : Nat} {ls : Array Slot} {rest st0 : List Value} {D : va_G} {A A0 A1 : Nat → Prop} {a : Array Value} {H0 : Heap} {cy : Nat → ClassId} {mc ms : Nat} {EX : String → Prop}
theorem xMvA {PW : Heap → Prop} (hsub : ∀ q, A q → A0 q) (hr : vx_Run p l e R s m args below meth c H locs cells slots mc ms (F0 m pc ls st0) rest (QV PW A a) (XE EX) A) (hS : va_S A0 H0 H locs)
    (kx : ∀ (E : String) (ce : Cell) (q9 : Addr) (H1 : Heap) (locs1 : List Loc), EX E → va_S A0 H0 H1 locs1 → H.size ≤ H1.size → (∀ q : Nat, q < H.size → H1[q]? = H[q]?) → H1[q9]? = some ce → ce.vm = .none → s.vm.findClass E = some ce.cls → vx_W p l e R s m args below meth c H1 locs1 (cells + mc) (slots + ms) Q (F0 m pc ls rest) q9)
    (kk : ∀ (H1 : Heap) (locs1 : List Loc), PW H1 → va_S A0 H0 H1 locs1 → H.size ≤ H1.size → (∀ q : Nat, q < H.size → ¬ A q → H1[q]? = H[q]?) → W p l e R s m args below meth c H1 locs1 (cells + mc) (slots + ms) Q (F0 m (pc + 3) ls rest)) : W p l e R s m args below meth c H locs cells slots Q (F0 m pc ls st0) :=
  vx_callv hr hS (fun q _ h => hsub q h) (fun q h => hsub q h) (fun _ _ h => h.elim)
    (fun E ce q9 u t H1 locs1 ht _ _ hB hz hk hS1 h1 h2 h3 => kx E ce q9 H1 locs1 hB hS1 hz (fun q hq => hk q hq (fun z => z)) h1 h2 h3)
    (fun u t H1 locs1 ht _ _ hB hz hk hS1 => kk H1 locs1 (by rw [← ht]; exact hB) hS1 hz hk)
theorem xMiA {x : Int32} {PW : Heap → Prop} (hsub : ∀ q, A q → A0 q) (hr : vx_Run p l e R s m args below meth c H locs cells slots mc ms (F0 m pc ls st0) rest (QI x PW A a) (XE EX) A) (hS : va_S A0 H0 H locs)
    (kx : ∀ (E : String) (ce : Cell) (q9 : Addr) (H1 : Heap) (locs1 : List Loc), EX E → va_S A0 H0 H1 locs1 → H.size ≤ H1.size → (∀ q : Nat, q < H.size → H1[q]? = H[q]?) → H1[q9]? = some ce → ce.vm = .none → s.vm.findClass E = some ce.cls → vx_W p l e R s m args below meth c H1 locs1 (cells + mc) (slots + ms) Q (F0 m pc ls rest) q9)
    (kk : ∀ (H1 : Heap) (locs1 : List Loc), PW H1 → va_S A0 H0 H1 locs1 → H.size ≤ H1.size → (∀ q : Nat, q < H.size → ¬ A q → H1[q]? = H[q]?) → W p l e R s m args below meth c H1 locs1 (cells + mc) (slots + ms) Q (F0 m (pc + 3) ls (.int x :: rest))) : W p l e R s m args below meth c H locs cells slots Q (F0 m pc ls st0) :=
  vx_calli hr hS (fun q _ h => hsub q h) (fun q h => hsub q h) (fun _ _ h => h.elim)
    (fun E ce q9 u t H1 locs1 ht _ _ hB hz hk hS1 h1 h2 h3 => kx E ce q9 H1 locs1 hB hS1 hz (fun q hq => hk q hq (fun z => z)) h1 h2 h3)
    (fun r u t H1 locs1 ht _ hr9 hB hz hk hS1 => by rw [hr9]; exact kk H1 locs1 (by rw [← ht]; exact hB) hS1 hz hk)
theorem lMi {x : Int32} {PW : Heap → Prop} (hsub : ∀ q, A q → A1 q) (hr : va_Run p l e R s m args below meth c H locs cells slots mc ms (F0 m pc ls st0) rest (QI x PW A a) A) (hS : va_S A1 H0 H locs)
    (kk : ∀ (H1 : Heap) (locs1 : List Loc), PW H1 → va_S A1 H0 H1 locs1 → (∀ q : Nat, q < H.size → ¬ A q → H1[q]? = H[q]?) → W p l e R s m args below meth c H1 locs1 (cells + mc) (slots + ms) Q (F0 m (pc + 3) ls (.int x :: rest))) : W p l e R s m args below meth c H locs cells slots Q (F0 m pc ls st0) :=
  va_calli hr hS (fun q _ h => hsub q h) (fun q h => hsub q h) (fun r u t H1 locs1 ht _ hr9 hB hz hk hS1 => by rw [hr9]; exact kk H1 locs1 (by rw [← ht]; exact hB) hS1 hk)
/-- a call that writes nothing old and answers a number -/
theorem rMi {x : Int32} {PW : Heap → Prop} (hr : va_Run p l e R s m args below meth c H locs cells slots mc ms (F0 m pc ls st0) rest (QI x PW NoA a) NoA) (hS : va_S A1 H0 H locs)
    (kk : ∀ (H1 : Heap) (locs1 : List Loc), va_S A1 H0 H1 locs1 → (∀ q : Nat, q < H.size → H1[q]? = H[q]?) → W p l e R s m args below meth c H1 locs1 (cells + mc) (slots + ms) Q (F0 m (pc + 3) ls (.int x :: rest))) : W p l e R s m args below meth c H locs cells slots Q (F0 m pc ls st0) :=
  lMi (fun _ h => h.elim) hr hS (fun H1 locs1 _ h2 h3 => kk H1 locs1 h2 (fun q hq => h3 q hq (fun z => z)))
theorem rMl {x : Int64} {PW : Heap → Prop} (hr : va_Run p l e R s m args below meth c H locs cells slots mc ms (F0 m pc ls st0) rest (va_Ql (fun (r : Int64) (_ : Unit) => r = x) (fun _ t => PW t.heap) NoA a) NoA) (hS : va_S A1 H0 H locs)
    (kk : ∀ (H1 : Heap) (locs1 : List Loc), va_S A1 H0 H1 locs1 → (∀ q : Nat, q < H.size → H1[q]? = H[q]?) → W p l e R s m args below meth c H1 locs1 (cells + mc) (slots + ms) Q (F0 m (pc + 3) ls (.long x :: rest))) : W p l e R s m args below meth c H locs cells slots Q (F0 m pc ls st0) :=
  va_calll hr hS (fun q _ h => h.elim) (fun q h => h.elim) (fun r u t H1 locs1 ht _ hr9 hB hz hk hS1 => by rw [hr9]; exact kk H1 locs1 hS1 (fun q hq => hk q hq (fun z => z)))
/-- a place where roads meet, whatever they bring -/
theorem w_all {S : Type} {g : JFrame} (C : S → Prop) (g2 : S → JFrame) (h : ∀ v, C v → W p l e R s m args below meth c H locs cells slots Q (g2 v)) (k : (∀ v, C v → W p l e R s m args below meth c H locs cells slots Q (g2 v)) → W p l e R s m args below meth c H locs cells slots Q g) : W p l e R s m args below meth c H locs cells slots Q g := k h
theorem raW {q n k : Nat} {f : Nat → Int32} (hx : p.tables.exec = Jvm.exec) (hb : c.code = cc) (hK : va_K D vwCl (tyC cy) s) (hA : va_P D vwCl [aW cy q n f] H) (hk : k < n) (hn : n ≤ 100) {x : Int32} (hv : f k = x) (hdg : decode cc pc = .ok (.iaload, 1)) (kk : W p l e R s m args below meth c H locs cells slots Q (F0 m (pc + 1) ls (.int x :: rest))) : W p l e R s m args below meth c H locs cells slots Q (F0 m pc ls (.int (nI k) :: .ref q :: rest)) := by
  refine va_iald hx hb hK hA 0 0 rfl rfl (vp_in_nI hk (by omega)) hdg ?_
  rw [nI_clamp (by omega), hv]
  exact kk
end LW
