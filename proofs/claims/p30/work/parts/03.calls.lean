/-! CALLS over these worlds: a method that writes nothing (SR), one that writes its world (QV, QI), one that may throw -/
def SR {S : Type} (v : S → Option Value) (P : S → Prop) : Array Value → State → Outcome → State → Prop := fun _ st o t => ∃ u : S, o = .returned (v u) ∧ P u ∧ t.heap = st.heap
abbrev SI (x : Int32) : Array Value → State → Outcome → State → Prop := SR (fun _ : Unit => some (.int x)) (fun _ => True)
abbrev SQ (r : Option Nat) : Array Value → State → Outcome → State → Prop := SR (fun _ : Unit => some (va_rf r)) (fun _ => True)
abbrev QV (PW : Heap → Prop) (A : Nat → Prop) : Array Value → State → Outcome → State → Prop := va_Qv (fun _ : Unit => True) (fun _ t => PW t.heap) A
abbrev QI (x : Int32) (PW : Heap → Prop) (A : Nat → Prop) : Array Value → State → Outcome → State → Prop := va_Qi (fun (r : Int32) (_ : Unit) => r = x) (fun _ t => PW t.heap) A
abbrev XE (EX : String → Prop) : String → State → State → Prop := vx_X (fun _ : Unit => True) (fun E _ _ => EX E) NoA
section CC
variable {p : Program} {l : Launch} {e : Env} {R : Room} {s : State} {m : MethodId} {args : Array Value} {below : List Frame} {meth : Method} {c : Code} {H : Heap} {locs : List Loc} {cells slots : Nat} {Q : State → Prop}
variable {pc : Nat} {ls : Array Slot} {rest st0 : List Value} {a : Array Value} {A : Nat → Prop} {H0 : Heap} {mc ms : Nat} {EX : String → Prop}
theorem cS {S : Type} {v : S → Option Value} {P : S → Prop} (hr : CallRun p l e R s m args below meth c H locs cells slots 0 0 (F0 m pc ls st0) rest (SR v P a) NoA) (kk : ∀ u : S, P u → W p l e R s m args below meth c H locs cells slots Q (F0 m (pc + 3) ls ((v u).toList ++ rest))) : W p l e R s m args below meth c H locs cells slots Q (F0 m pc ls st0) := by
  intro T hT X
  obtain ⟨v9, st₀, t, T', L, h0, X', hL, e1, ⟨u, hv, hp, hh⟩, st⟩ := hr T hT X
  cases hv
  obtain ⟨t2, a1, b1⟩ := kk u hp T' (by rw [e1, hh, h0]) (Stand.forget X' (fun q h => (hL q h).elim))
  exact ⟨t2, st t2 a1, b1⟩
theorem cMv {PW : Heap → Prop} (hr : va_Run p l e R s m args below meth c H locs cells slots 0 0 (F0 m pc ls st0) rest (QV PW A a) A) (hS : va_S A H0 H locs) (kk : ∀ (H1 : Heap) (locs1 : List Loc), PW H1 → va_S A H0 H1 locs1 → W p l e R s m args below meth c H1 locs1 cells slots Q (F0 m (pc + 3) ls rest)) : W p l e R s m args below meth c H locs cells slots Q (F0 m pc ls st0) :=
  va_callv hr hS (fun _ _ h => h) (fun _ h => h) (fun u t H1 locs1 ht _ _ hB _ _ hS1 => kk H1 locs1 (by rw [← ht]; exact hB) hS1)
theorem cMi {x : Int32} {PW : Heap → Prop} (hr : va_Run p l e R s m args below meth c H locs cells slots 0 0 (F0 m pc ls st0) rest (QI x PW A a) A) (hS : va_S A H0 H locs) (kk : ∀ (H1 : Heap) (locs1 : List Loc), PW H1 → va_S A H0 H1 locs1 → W p l e R s m args below meth c H1 locs1 cells slots Q (F0 m (pc + 3) ls (.int x :: rest))) : W p l e R s m args below meth c H locs cells slots Q (F0 m pc ls st0) :=
  va_calli hr hS (fun _ _ h => h) (fun _ h => h) (fun r u t H1 locs1 ht _ hr9 hB _ _ hS1 => by rw [hr9]; exact kk H1 locs1 (by rw [← ht]; exact hB) hS1)
theorem xS {S : Type} {v : S → Option Value} {P : S → Prop} (hr : vx_Run p l e R s m args below meth c H locs cells slots mc ms (F0 m pc ls st0) rest (SR v P a) (XE EX) NoA)
    (kx : ∀ (E : String) (ce : Cell) (q9 : Addr) (H1 : Heap), EX E → H.size ≤ H1.size → (∀ q : Nat, q < H.size → H1[q]? = H[q]?) → H1[q9]? = some ce → ce.vm = .none → s.vm.findClass E = some ce.cls → vx_W p l e R s m args below meth c H1 locs (cells + mc) (slots + ms) Q (F0 m pc ls rest) q9)
    (kk : ∀ u : S, P u → W p l e R s m args below meth c H locs (cells + mc) (slots + ms) Q (F0 m (pc + 3) ls ((v u).toList ++ rest))) : W p l e R s m args below meth c H locs cells slots Q (F0 m pc ls st0) := by
  intro T hT X
  rcases hr T hT X with ⟨v9, st₀, t, T', L, h0, X', hL, e1, e2, ⟨u, hv, hp, hh⟩, st⟩ | ⟨q, st₀, t, T', L, E, ce, h0, X', hL, e1, e2, ⟨u, hp, hb, hF⟩, hce, hcv, hcl, st⟩
  · cases hv
    obtain ⟨t2, a1, b1⟩ := kk u hp T' (by rw [e1, hh, h0]) (Stand.forget X' (fun q h => (hL q h).elim))
    exact ⟨t2, st t2 a1, b1⟩
  · obtain ⟨hz, hk⟩ := hF
    rw [h0] at hz hk
    obtain ⟨t2, a1, b1⟩ := kx E ce q T'.heap hb (by rw [e1]; exact hz) (fun q h1 => by rw [e1]; exact hk q h1 (fun z => z)) (by rw [e1]; exact hce) hcv hcl T' rfl (Stand.forget X' (fun q h => (hL q h).elim))
    exact ⟨t2, st.trans a1, b1⟩
/-- an exception of a callee that wrote nothing goes on out of a method that has written nothing, and has no table -/
theorem xOut {Qc : Array Value → State → Outcome → State → Prop} {EX2 : String → Prop} {free : Addr → Prop} {mc2 ms2 : Nat} (ht : ∀ x ∈ c.exceptionTable.toList, False) (hlocks : meth.locks = false) {E : String} {ce : Cell} {q9 : Addr} {H1 : Heap} (h1 : s.heap.size ≤ H1.size) (h2 : ∀ q : Nat, q < s.heap.size → H1[q]? = s.heap[q]?) (h3 : H1[q9]? = some ce) (h4 : ce.vm = .none) (h5 : s.vm.findClass E = some ce.cls) (hE : EX2 E) (hc : cells ≤ mc2) (hs : slots ≤ ms2) :
    vx_W p l e R s m args below meth c H1 [] cells slots (vx_MQ below Qc (XE EX2) args s mc2 ms2 free) (F0 m pc ls rest) q9 :=
  vx_out (fun x hx => (ht x hx).elim) hlocks h3 h4 h5 (fun t hte _ => ⟨(), trivial, hE, by rw [hte]; exact h1, fun q hq _ => by rw [hte]; exact h2 q hq⟩) (fun z hz => nomatch hz) hc hs
theorem xMv {PW : Heap → Prop} (hr : vx_Run p l e R s m args below meth c H locs cells slots mc ms (F0 m pc ls st0) rest (QV PW A a) (XE EX) A) (hS : va_S A H0 H locs)
    (kx : ∀ (E : String) (ce : Cell) (q9 : Addr) (H1 : Heap) (locs1 : List Loc), EX E → va_S A H0 H1 locs1 → H.size ≤ H1.size → (∀ q : Nat, q < H.size → H1[q]? = H[q]?) → H1[q9]? = some ce → ce.vm = .none → s.vm.findClass E = some ce.cls → vx_W p l e R s m args below meth c H1 locs1 (cells + mc) (slots + ms) Q (F0 m pc ls rest) q9)
    (kk : ∀ (H1 : Heap) (locs1 : List Loc), PW H1 → va_S A H0 H1 locs1 → H.size ≤ H1.size → (∀ q : Nat, q < H.size → ¬ A q → H1[q]? = H[q]?) → W p l e R s m args below meth c H1 locs1 (cells + mc) (slots + ms) Q (F0 m (pc + 3) ls rest)) : W p l e R s m args below meth c H locs cells slots Q (F0 m pc ls st0) :=
  vx_callv hr hS (fun _ _ h => h) (fun _ h => h) (fun _ _ h => h.elim)
    (fun E ce q9 u t H1 locs1 ht _ _ hB hz hk hS1 h1 h2 h3 => kx E ce q9 H1 locs1 hB hS1 hz (fun q hq => hk q hq (fun z => z)) h1 h2 h3)
    (fun u t H1 locs1 ht _ _ hB hz hk hS1 => kk H1 locs1 (by rw [← ht]; exact hB) hS1 hz hk)
theorem xMi {x : Int32} {PW : Heap → Prop} (hr : vx_Run p l e R s m args below meth c H locs cells slots mc ms (F0 m pc ls st0) rest (QI x PW A a) (XE EX) A) (hS : va_S A H0 H locs)
    (kx : ∀ (E : String) (ce : Cell) (q9 : Addr) (H1 : Heap) (locs1 : List Loc), EX E → va_S A H0 H1 locs1 → H.size ≤ H1.size → (∀ q : Nat, q < H.size → H1[q]? = H[q]?) → H1[q9]? = some ce → ce.vm = .none → s.vm.findClass E = some ce.cls → vx_W p l e R s m args below meth c H1 locs1 (cells + mc) (slots + ms) Q (F0 m pc ls rest) q9)
    (kk : ∀ (H1 : Heap) (locs1 : List Loc), PW H1 → va_S A H0 H1 locs1 → H.size ≤ H1.size → (∀ q : Nat, q < H.size → ¬ A q → H1[q]? = H[q]?) → W p l e R s m args below meth c H1 locs1 (cells + mc) (slots + ms) Q (F0 m (pc + 3) ls (.int x :: rest))) : W p l e R s m args below meth c H locs cells slots Q (F0 m pc ls st0) :=
  vx_calli hr hS (fun _ _ h => h) (fun _ h => h) (fun _ _ h => h.elim)
    (fun E ce q9 u t H1 locs1 ht _ _ hB hz hk hS1 h1 h2 h3 => kx E ce q9 H1 locs1 hB hS1 hz (fun q hq => hk q hq (fun z => z)) h1 h2 h3)
    (fun r u t H1 locs1 ht _ hr9 hB hz hk hS1 => by rw [hr9]; exact kk H1 locs1 (by rw [← ht]; exact hB) hS1 hz hk)
/-- a place where two roads meet: proved once -/
theorem w_have {g g2 : JFrame} (h : W p l e R s m args below meth c H locs cells slots Q g2) (k : W p l e R s m args below meth c H locs cells slots Q g2 → W p l e R s m args below meth c H locs cells slots Q g) : W p l e R s m args below meth c H locs cells slots Q g := k h
/-- a loop upwards that writes nothing; what is known at its turns beside the locals is I -/
theorem w_loop {head nL : Nat} (N : Nat) (I : Nat → Prop) (L : Nat → List (Nat × Value)) (k0 : Nat) (hk : k0 ≤ N) (hI : I k0) (hl : lv_has ls nL (L k0))
    (exit : ∀ ls : Array Slot, I N → lv_has ls nL (L N) → W p l e R s m args below meth c H locs cells slots Q (F0 m head ls []))
    (step : ∀ k, k0 ≤ k → k < N → ∀ ls : Array Slot, I k → lv_has ls nL (L k) → (∀ ls : Array Slot, I (k + 1) → lv_has ls nL (L (k + 1)) → W p l e R s m args below meth c H locs cells slots Q (F0 m head ls [])) → W p l e R s m args below meth c H locs cells slots Q (F0 m head ls [])) :
    W p l e R s m args below meth c H locs cells slots Q (F0 m head ls []) := by
  have key : ∀ (d k : Nat), k0 ≤ k → k + d = N → ∀ ls : Array Slot, I k → lv_has ls nL (L k) → W p l e R s m args below meth c H locs cells slots Q (F0 m head ls []) := by
    intro d
    induction d with
    | zero => intro k _ h ls hI hl; exact exit ls (by rw [← h]; exact hI) (by rw [← h]; exact hl)
    | succ d ih => intro k h0 h ls hI hl; exact step k h0 (by omega) ls hI hl (fun ls hI hl => ih (k + 1) (by omega) (by omega) ls hI hl)
  exact key (N - k0) k0 (Nat.le_refl _) (by omega) ls hI hl
/-- a loop upwards that writes: the world at each turn is PW k -/
theorem w_loopM {head nL : Nat} (N : Nat) (L : Nat → List (Nat × Value)) (PW : Nat → Heap → Prop) (k0 : Nat) (hk : k0 ≤ N) (hl : lv_has ls nL (L k0)) (hP : PW k0 H) (hS : va_S A H0 H locs)
    (exit : ∀ (H : Heap) (locs : List Loc) (ls : Array Slot), lv_has ls nL (L N) → PW N H → va_S A H0 H locs → W p l e R s m args below meth c H locs cells slots Q (F0 m head ls []))
    (step : ∀ k, k0 ≤ k → k < N → ∀ (H : Heap) (locs : List Loc) (ls : Array Slot), lv_has ls nL (L k) → PW k H → va_S A H0 H locs → (∀ (H : Heap) (locs : List Loc) (ls : Array Slot), lv_has ls nL (L (k + 1)) → PW (k + 1) H → va_S A H0 H locs → W p l e R s m args below meth c H locs cells slots Q (F0 m head ls [])) → W p l e R s m args below meth c H locs cells slots Q (F0 m head ls [])) :
    W p l e R s m args below meth c H locs cells slots Q (F0 m head ls []) := by
  have key : ∀ (d k : Nat), k0 ≤ k → k + d = N → ∀ (H : Heap) (locs : List Loc) (ls : Array Slot), lv_has ls nL (L k) → PW k H → va_S A H0 H locs → W p l e R s m args below meth c H locs cells slots Q (F0 m head ls []) := by
    intro d
    induction d with
    | zero => intro k _ h H locs ls hl hP hS; exact exit H locs ls (by rw [← h]; exact hl) (by rw [← h]; exact hP) hS
    | succ d ih => intro k h0 h H locs ls hl hP hS; exact step k h0 (by omega) H locs ls hl hP hS (fun H locs ls hl hP hS => ih (k + 1) (by omega) (by omega) H locs ls hl hP hS)
  exact key (N - k0) k0 (Nat.le_refl _) (by omega) H locs ls hl hP hS
/-- a loop downwards that writes -/
theorem w_loopD {head nL : Nat} (L : Nat → List (Nat × Value)) (PW : Nat → Heap → Prop) (k0 : Nat) (hl : lv_has ls nL (L k0)) (hP : PW k0 H) (hS : va_S A H0 H locs)
    (exit : ∀ (H : Heap) (locs : List Loc) (ls : Array Slot), lv_has ls nL (L 0) → PW 0 H → va_S A H0 H locs → W p l e R s m args below meth c H locs cells slots Q (F0 m head ls []))
    (step : ∀ k, k < k0 → ∀ (H : Heap) (locs : List Loc) (ls : Array Slot), lv_has ls nL (L (k + 1)) → PW (k + 1) H → va_S A H0 H locs → (∀ (H : Heap) (locs : List Loc) (ls : Array Slot), lv_has ls nL (L k) → PW k H → va_S A H0 H locs → W p l e R s m args below meth c H locs cells slots Q (F0 m head ls [])) → W p l e R s m args below meth c H locs cells slots Q (F0 m head ls [])) :
    W p l e R s m args below meth c H locs cells slots Q (F0 m head ls []) := by
  have key : ∀ (k : Nat), k ≤ k0 → ∀ (H : Heap) (locs : List Loc) (ls : Array Slot), lv_has ls nL (L k) → PW k H → va_S A H0 H locs → W p l e R s m args below meth c H locs cells slots Q (F0 m head ls []) := by
    intro k
    induction k with
    | zero => intro _ H locs ls hl hP hS; exact exit H locs ls hl hP hS
    | succ k ih => intro h H locs ls hl hP hS; exact step k (by omega) H locs ls hl hP hS (fun H locs ls hl hP hS => ih (by omega) H locs ls hl hP hS)
  exact key k0 (Nat.le_refl _) H locs ls hl hP hS
/-- a loop with a measure n, that writes -/
theorem w_loopF {head nL : Nat} (I : Nat → Heap → List (Nat × Value) → Prop)
    (step : ∀ n (H : Heap) (locs : List Loc) (ls : Array Slot) (lv : List (Nat × Value)), I n H lv → va_S A H0 H locs → lv_has ls nL lv → (∀ n', n' < n → ∀ (H : Heap) (locs : List Loc) (ls : Array Slot) (lv : List (Nat × Value)), I n' H lv → va_S A H0 H locs → lv_has ls nL lv → W p l e R s m args below meth c H locs cells slots Q (F0 m head ls [])) → W p l e R s m args below meth c H locs cells slots Q (F0 m head ls []))
    (n : Nat) (lv : List (Nat × Value)) (hI : I n H lv) (hS : va_S A H0 H locs) (hl : lv_has ls nL lv) : W p l e R s m args below meth c H locs cells slots Q (F0 m head ls []) := by
  have key : ∀ (b n : Nat), n < b → ∀ (H : Heap) (locs : List Loc) (ls : Array Slot) (lv : List (Nat × Value)), I n H lv → va_S A H0 H locs → lv_has ls nL lv → W p l e R s m args below meth c H locs cells slots Q (F0 m head ls []) := by
    intro b
    induction b with
    | zero => intro n h; exact absurd h (Nat.not_lt_zero n)
    | succ b ih => intro n h H locs ls lv hI hS hl; exact step n H locs ls lv hI hS hl (fun n' h' H locs ls lv hI hS hl => ih n' (by omega) H locs ls lv hI hS hl)
  exact key (n + 1) n (by omega) H locs ls lv hI hS hl
end CC
/-! what a throw needs beside the world -/
def E1 : String := "java/lang/IndexOutOfBoundsException"
def E2 : String := "java/lang/IllegalArgumentException"
def E3 : String := "java/lang/IllegalStateException"
def xkW : List Cond := [.declares (Bundle.initS "java/lang/RuntimeException"), .declares (Bundle.initS "java/lang/Exception"), .declares (Bundle.initS "java/lang/Throwable"), .castable "java/lang/IndexOutOfBoundsException" "java/lang/IndexOutOfBoundsException", .castable "java/lang/IllegalArgumentException" "java/lang/IllegalArgumentException", .castable "java/lang/IllegalStateException" "java/lang/IllegalStateException"]
def xkN : List (String × String) := [("java/lang/IllegalArgumentException", "java/lang/IndexOutOfBoundsException"), ("java/lang/IllegalStateException", "java/lang/IndexOutOfBoundsException"), ("java/lang/IllegalStateException", "java/lang/IllegalArgumentException")]
def xkS : List (Nat × String) := [(94, "there is no such rack"), (212, "a number is out of range"), (185, "there is no such rack, or place is below 0"), (204, "there is no such machine"), (206, "there is no such image number"), (208, "it is not an image that is set"), (139, "the machine is not INSTALLING"), (155, "the machine is not DRAINING"), (157, "the machine is not QUARANTINED"), (196, "the journal keeps no such entry"), (147, "the machine is not IN_USE"), (126, "the machine is not IDLE, or has no match"), (133, "the machine is neither QUEUED nor WAITING")]
def xk (sz : Nat) (U : State) : Prop := vx_Zq Bundle.tN "UNASSIGNED_STACK" Bundle.steD (fun q => sz ≤ q) U U.heap ∧ vx_Zq Bundle.tN "SUPPRESSED_SENTINEL" Bundle.listD (fun q => sz ≤ q) U U.heap ∧ (∀ w ∈ xkW, va_Nw w U) ∧ (∀ q ∈ xkN, va_Nc q.1 q.2 U) ∧ (∀ q ∈ xkS, ∃ a, vk_R RX3 q.1 q.2 a U)
theorem xkW_warm {s U : State} (hW : s.WarmedH U.vm) (h : ∀ w ∈ xkW, va_Nw w s) : ∀ w ∈ xkW, va_Nw w U := by
  intro w hw
  have h1 := h w hw
  simp only [xkW, List.mem_cons, List.not_mem_nil, or_false] at hw
  rcases hw with rfl | rfl | rfl | rfl | rfl | rfl
  · exact va_Nw.warmD hW h1
  · exact va_Nw.warmD hW h1
  · exact va_Nw.warmD hW h1
  · exact va_Nw.warmC hW h1
  · exact va_Nw.warmC hW h1
  · exact va_Nw.warmC hW h1
theorem xk_warm {sz : Nat} {s U : State} {H : Heap} (h : xk sz s) (hH : U.heap = H) (hW : s.WarmedH U.vm) (hk : ∀ q : Nat, q < s.heap.size → ¬ sz ≤ q → H[q]? = s.heap[q]?) : xk sz U := by
  obtain ⟨h1, h2, h3, h4, h5⟩ := h
  refine ⟨?_, ?_, xkW_warm hW h3, fun q hq => va_Nc.moved hW.alike (h4 q hq), fun q hq => ?_⟩
  · rw [hH]; exact (vx_Zq.moved hW.alike h1).kept hk
  · rw [hH]; exact (vx_Zq.moved hW.alike h2).kept hk
  · obtain ⟨a, ha⟩ := h5 q hq
    exact ⟨a, vk_R.warm hW ha⟩
theorem xk_at {sz : Nat} {s U : State} (h : xk sz s) (hU : U.heap = s.heap) (hW : s.WarmedH U.vm) : xk sz U := xk_warm h hU hW (fun _ _ _ => rfl)
theorem xk_calling {sz : Nat} {U : State} {g : JFrame} {mk : MethodId} {a : Array Value} (h : xk sz U) : xk sz (U.calling g mk a) := xk_warm h rfl (State.WarmedH.refl U) (fun _ _ _ => rfl)
def cx (D : va_G) (cy : Nat → ClassId) (ad : Nat → Nat) (σ : Mem) (sz : Nat) (U : State) : Prop := cw D cy ad σ U ∧ xk sz U
theorem xk_bl {av : List Value} {sz : Nat} : FrameBlind (va_Pc av (xk sz)) := fun a U g mk h => ⟨h.1, xk_calling h.2⟩
theorem cx_bl {av : List Value} {D : va_G} {cy : Nat → ClassId} {ad : Nat → Nat} {σ : Mem} {sz : Nat} : FrameBlind (va_Pc av (cx D cy ad σ sz)) := fun a U g mk h => ⟨h.1, (cw_bl (av := av) a U g mk ⟨h.1, h.2.1⟩).2, xk_calling h.2.2⟩
theorem xk_pre {av : List Value} {sz : Nat} {s : State} (hx : xk sz s) : ∀ U : State, U.heap = s.heap → s.WarmedH U.vm → va_Pc av (xk sz) av.toArray U := fun U hU hW => ⟨rfl, xk_at hx hU hW⟩
theorem cx_at {av : List Value} {D : va_G} {cy : Nat → ClassId} {ad : Nat → Nat} {σ : Mem} {sz : Nat} {s : State} (hP : va_P D vwCl (wC cy ad σ) s.heap) (hK : va_K D vwCl (tyC cy) s) (hx : xk sz s) : ∀ U : State, U.heap = s.heap → s.WarmedH U.vm → va_Pc av (cx D cy ad σ sz) av.toArray U := fun U hU hW => ⟨rfl, (cw_at (av := av) hP hK U hU hW).2, xk_at hx hU hW⟩
/-- the codes of the exceptions, by their order in the throws clause -/
def ex1 (c : Int32) (E : String) : Prop := E = "java/lang/IndexOutOfBoundsException" ∧ c = 1
def ex12 (c : Int32) (E : String) : Prop := (E = "java/lang/IndexOutOfBoundsException" ∧ c = 1) ∨ (E = "java/lang/IllegalArgumentException" ∧ c = 2)
def ex13 (c : Int32) (E : String) : Prop := (E = "java/lang/IndexOutOfBoundsException" ∧ c = 1) ∨ (E = "java/lang/IllegalStateException" ∧ c = 2)
def ex123 (c : Int32) (E : String) : Prop := (E = "java/lang/IndexOutOfBoundsException" ∧ c = 1) ∨ (E = "java/lang/IllegalArgumentException" ∧ c = 2) ∨ (E = "java/lang/IllegalStateException" ∧ c = 3)
def ex2 (c : Int32) (E : String) : Prop := E = "java/lang/IllegalArgumentException" ∧ c = 1
