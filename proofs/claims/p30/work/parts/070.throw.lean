/-! 'throw new E("text")' in a method of the class that has written nothing -/
theorem xkW_use {args : Array Value} {s : State} (h : ∀ w ∈ xkW, va_Nw w s) : ∀ w ∈ xkW, w.before args s = true := by
  intro w hw
  have h1 := h w hw
  simp only [xkW, List.mem_cons, List.not_mem_nil, or_false] at hw
  rcases hw with rfl | rfl | rfl | rfl | rfl | rfl <;> exact va_Nw.use rfl h1
abbrev NM : List String := ["java/lang/RuntimeException", "java/lang/Exception"]
section XT
variable {p : Program} {l : Launch} {e : Env} {R : Room} {s : State} {m : MethodId} {args : Array Value} {below : List Frame} {meth : Method} {c : Code} {cells slots : Nat}
theorem xThrow {cc : ByteArray} {pc : Nat} {ls : Array Slot} {rest : List Value} {Qc : Array Value → State → Outcome → State → Prop} {EX : String → Prop} {free : Addr → Prop} {sz mc ms nL : Nat} (hx : p.tables.exec = Jvm.exec) (hb : c.code = cc) (hst : l.stackTraces = false) (hml : c.maxLocals = nL) (ht : ∀ x ∈ c.exceptionTable.toList, False) (hlocks : meth.locks = false) (hxk : xk sz s)
    (cls text : String) (ik is ic : Nat) (hown : s.vm.findClass RX3 = some m.cls) (hcls : Bundle.fit cls = true) (hk : (Cond.classLink RX3 ik cls).before args s = true) (hini : (Cond.initialized cls).before args s = true) (hs9 : (is, text) ∈ xkS)
    (hat : ∀ w ∈ (vx_atS RX3 ic cls NM).filter goodWord, w.before args s = true) (hnb : ∀ w ∈ (vx_atS RX3 ic cls NM).filter (fun w => !goodWord w), w ∈ xkW) (hgood : ∀ w ∈ Cond.classLink RX3 ik cls :: Cond.initialized cls :: vx_atS RX3 ic cls NM, vx_ot w = true) (hsize : ls.size = nL)
    (d0 : decode cc pc = .ok (.new ik, 3)) (d3 : decode cc (pc + 3) = .ok (.dup, 1)) (d4 : decode cc (pc + 4) = .ok (.ldc is, 2)) (d6 : decode cc (pc + 6) = .ok (.invokespecial ic, 3)) (d9 : decode cc (pc + 9) = .ok (.athrow, 1))
    (hRf : 5 < R.frames) (hRl : (rest.map fun v => v.category).sum + 82 ≤ R.locals) (hRc : cells + 1 ≤ R.cells) (hRs : slots + 6 ≤ R.slots) (hE : EX cls) (hc : cells + 1 ≤ mc) (hs : slots + 6 ≤ ms) :
    W p l e R s m args below meth c s.heap [] cells slots (vx_MQ below Qc (XE EX) args s mc ms free) (F0 m pc ls rest) := by
  obtain ⟨hU, hN, hw, -, hstr⟩ := hxk
  obtain ⟨sa, hsa⟩ := hstr _ hs9
  exact vx_throwS (A := fun q => sz ≤ q) hx hb hst hown hcls (by decide +kernel) hk hini hsa (vx_hat hat hnb (xkW_use hw)) hgood hU hN va_S.rf (hsize.trans hml.symm) d0 d3 d4 d6 d9 (fun x hx9 => (ht x hx9).elim) hRf hRl hRc hRs hlocks
    (fun t _ h1 h2 => ⟨(), trivial, hE, h1, fun q hq _ => h2 q hq⟩) (fun z hz => nomatch hz) hc hs
end XT
theorem xn1 : ∀ w ∈ (vx_atS RX3 96 "java/lang/IndexOutOfBoundsException" NM).filter (fun w => !goodWord w), w ∈ xkW := by decide +kernel
theorem xn2 : ∀ w ∈ (vx_atS RX3 214 "java/lang/IllegalArgumentException" NM).filter (fun w => !goodWord w), w ∈ xkW := by decide +kernel
theorem xn3 : ∀ w ∈ (vx_atS RX3 128 "java/lang/IllegalStateException" NM).filter (fun w => !goodWord w), w ∈ xkW := by decide +kernel
theorem xg1 : ∀ w ∈ Cond.classLink RX3 92 "java/lang/IndexOutOfBoundsException" :: Cond.initialized "java/lang/IndexOutOfBoundsException" :: vx_atS RX3 96 "java/lang/IndexOutOfBoundsException" NM, vx_ot w = true := by decide +kernel
theorem xg2 : ∀ w ∈ Cond.classLink RX3 210 "java/lang/IllegalArgumentException" :: Cond.initialized "java/lang/IllegalArgumentException" :: vx_atS RX3 214 "java/lang/IllegalArgumentException" NM, vx_ot w = true := by decide +kernel
theorem xg3 : ∀ w ∈ Cond.classLink RX3 124 "java/lang/IllegalStateException" :: Cond.initialized "java/lang/IllegalStateException" :: vx_atS RX3 128 "java/lang/IllegalStateException" NM, vx_ot w = true := by decide +kernel
theorem in_nB {v : Int32} (n : Nat) (hn : n < 2147483646) (h0 : ¬ v < 0) (h1 : v < nI (n + 1)) : inB v 0 (nI n) = true := by
  obtain ⟨i, hi, rfl⟩ := in_of (n + 1) (by omega) h0 h1
  exact inB_nI (by omega) hi
theorem oI_n : oI none = -1 := rfl
theorem oI_s (i : Nat) : oI (some i) = nI i := rfl
