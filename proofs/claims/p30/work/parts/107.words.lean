/-! WHAT IS DONE: words of the law's acts -/
theorem noT_D {A : Nat → Prop} {cy : Nat → ClassId} {ad ad2 : Nat → Nat} {σ τ : Mem} {T : va_W} (hD : va_D A (X2 cy ad ad2 σ τ ++ T)) : noT ad T ∧ noT ad2 T := by
  have len : (X2 cy ad ad2 σ τ).length = 62 := by unfold X2; rw [List.length_append, wC_len, wC_len]
  refine ⟨fun k q hq ⟨i, hi, e⟩ => ?_, fun k q hq ⟨i, hi, e⟩ => ?_⟩
  · have h1 : (X2 cy ad ad2 σ τ ++ T)[i]? = some (ad i, ec cy ad σ i) := by
      rw [List.getElem?_append_left (by rw [len]; omega)]
      unfold X2
      rw [List.getElem?_append_left (by rw [wC_len]; exact hi)]
      exact wC_at hi
    have h2 := (get_app T k (X2 cy ad ad2 σ τ)).trans hq
    have := hD.1 _ _ _ _ h1 h2 e.symm
    omega
  · have h1 : (X2 cy ad ad2 σ τ ++ T)[31 + i]? = some (ad2 i, ec cy ad2 τ i) := by
      rw [List.getElem?_append_left (by rw [len]; omega)]
      unfold X2
      rw [List.getElem?_append_right (by rw [wC_len]; omega), wC_len, Nat.add_sub_cancel_left]
      exact wC_at hi
    have h2 := (get_app T k (X2 cy ad ad2 σ τ)).trans hq
    have := hD.1 _ _ _ _ h1 h2 e.symm
    omega
theorem upd_s (f : Nat → Int32) (k : Nat) (v : Int32) : upd f k v k = v := by simp [upd]
theorem upd_o {f : Nat → Int32} {k j : Nat} {v : Int32} (h : j ≠ k) : upd f k v j = f j := by simp [upd, h]
theorem sh1 {j : Nat} (h : j < 4) : ∃ t, t < 16 ∧ (1 : Int32) <<< (nI j &&& 31) = nI t := by
  rcases (show j = 0 ∨ j = 1 ∨ j = 2 ∨ j = 3 by omega) with rfl | rfl | rfl | rfl
  · exact ⟨1, by omega, by decide⟩
  · exact ⟨2, by omega, by decide⟩
  · exact ⟨4, by omega, by decide⟩
  · exact ⟨8, by omega, by decide⟩
theorem an15 {j : Nat} (h : j < 6) : ∃ t, t < 16 ∧ (15 : Int32) &&& (((1 : Int32) <<< (nI j &&& 31)) ^^^ (-1)) = nI t := by
  rcases (show j = 0 ∨ j = 1 ∨ j = 2 ∨ j = 3 ∨ j = 4 ∨ j = 5 by omega) with rfl | rfl | rfl | rfl | rfl | rfl
  · exact ⟨14, by omega, by decide⟩
  · exact ⟨13, by omega, by decide⟩
  · exact ⟨11, by omega, by decide⟩
  · exact ⟨7, by omega, by decide⟩
  · exact ⟨15, by omega, by decide⟩
  · exact ⟨15, by omega, by decide⟩
theorem inB_lo {n lo hi : Nat} (h1 : lo ≤ n) (h2 : n ≤ hi) (h3 : hi < 1000) : inB (nI n) (nI lo) (nI hi) = true := by
  simp only [inB, Bool.and_eq_true, decide_eq_true_eq]
  exact ⟨(nI_leI (by omega) (by omega)).mpr h1, (nI_leI (by omega) (by omega)).mpr h2⟩
theorem kI_0 {i b c d e f : Nat} (hi : i < 8) (hb : b ≤ 9) (hc : c ≤ 99) (hd : d ≤ 15) (he : e ≤ 15) (hf : f ≤ 15) : kSetImage (nI i) (nI b) (nI c) (nI d) (nI e) (nI f) = 0 := by
  unfold kSetImage
  rw [if_pos (inB_7 hi), if_pos ⟨inB_lo (lo := 0) (hi := 9) (by omega) hb (by omega), inB_lo (lo := 0) (hi := 99) (by omega) hc (by omega), inB_lo (lo := 0) (hi := 15) (by omega) hd (by omega), inB_lo (lo := 0) (hi := 15) (by omega) he (by omega), inB_lo (lo := 0) (hi := 15) (by omega) hf (by omega)⟩]
theorem kT_0 {σ : Mem} {i t : Nat} (hi : i < 8) (hs : ¬ σ 11 i = 0) (h1 : 1 ≤ t) (h2 : t ≤ 24) : kSetTime σ (nI i) (nI t) = 0 := by
  unfold kSetTime
  rw [if_pos ⟨inB_7 hi, by rw [ixs (by omega)]; exact hs⟩, if_pos (show inB (nI t) 1 24 = true from inB_lo (lo := 1) (hi := 24) h1 h2 (by omega))]
theorem kT_1 {σ : Mem} {i : Nat} {z : Int32} (hi : i < 8) (hs : σ 11 i = 0) : kSetTime σ (nI i) z = 1 := by
  unfold kSetTime
  rw [if_neg (fun q => q.2 (by rw [ixs (by omega)]; exact hs))]
theorem kD_0 {σ : Mem} {i : Nat} (hi : i < 8) (hs : ¬ σ 11 i = 0) : kDropImage σ (nI i) = 0 := by
  unfold kDropImage
  rw [if_pos ⟨inB_7 hi, by rw [ixs (by omega)]; exact hs⟩]
theorem kD_1 {σ : Mem} {i : Nat} (hi : i < 8) (hs : σ 11 i = 0) : kDropImage σ (nI i) = 1 := by
  unfold kDropImage
  rw [if_neg (fun q => q.2 (by rw [ixs (by omega)]; exact hs))]
theorem kB_0 {r b : Nat} (hr : r < 4) (hb : b ≤ 4) : kSetBatch (nI r) (nI b) = 0 := by
  unfold kSetBatch
  rw [if_pos (inB_3 hr), if_pos (show inB (nI b) 0 4 = true from inB_lo (lo := 0) (hi := 4) (by omega) hb (by omega))]
theorem kS_0 {f q : Nat} (f1 : 1 ≤ f) (f2 : f ≤ 24) (q1 : 1 ≤ q) (q2 : q ≤ 9) : kSetRetries (nI f) (nI q) = 0 := by
  unfold kSetRetries
  rw [if_pos ⟨inB_lo (lo := 1) (hi := 24) f1 f2 (by omega), inB_lo (lo := 1) (hi := 9) q1 q2 (by omega)⟩]
theorem kP_0 {i r c d e : Nat} (hi : i < 16) (hr : r < 4) (hc : c ≤ 99) (hd : d ≤ 3) (he : e ≤ 15) : kReport (nI i) (nI r) (nI c) (nI d) (nI e) = 0 := by
  unfold kReport
  rw [if_pos ⟨inB_15 hi, inB_3 hr⟩, if_pos ⟨inB_lo (lo := 0) (hi := 99) (by omega) hc (by omega), inB_lo (lo := 0) (hi := 3) (by omega) hd (by omega), inB_lo (lo := 0) (hi := 15) (by omega) he (by omega)⟩]
theorem kO_0 {σ : Mem} {i : Nat} (hi : i < 16) (hs : σ 1 i = 1) (hm : (sBst σ i).isSome = true) : kOrder σ (nI i) = 0 := by
  unfold kOrder
  rw [if_pos (inB_15 hi), ixs hi, if_pos ⟨hs, hm⟩]
theorem kO_2 {σ : Mem} {i : Nat} (hi : i < 16) (h : ¬ (σ 1 i = 1 ∧ (sBst σ i).isSome = true)) : kOrder σ (nI i) = 2 := by
  unfold kOrder
  rw [if_pos (inB_15 hi), ixs hi, if_neg h]
theorem kC_0 {σ : Mem} {i : Nat} (hi : i < 16) (hs : σ 1 i = 2 ∨ σ 1 i = 4) : kCancel σ (nI i) = 0 := by
  unfold kCancel
  rw [if_pos (inB_15 hi), ixs hi, if_pos hs]
theorem kC_2 {σ : Mem} {i : Nat} (hi : i < 16) (hs : ¬ (σ 1 i = 2 ∨ σ 1 i = 4)) : kCancel σ (nI i) = 2 := by
  unfold kCancel
  rw [if_pos (inB_15 hi), ixs hi, if_neg hs]
theorem kF_0 {σ : Mem} {i : Nat} (hi : i < 16) (hs : σ 1 i = 3) : kFinish σ (nI i) = 0 := by
  unfold kFinish
  rw [if_pos (inB_15 hi), ixs hi, if_pos hs]
theorem kF_2 {σ : Mem} {i : Nat} (hi : i < 16) (hs : ¬ σ 1 i = 3) : kFinish σ (nI i) = 2 := by
  unfold kFinish
  rw [if_pos (inB_15 hi), ixs hi, if_neg hs]
theorem kW_0 {σ : Mem} {i d : Nat} (hi : i < 16) (hd : d ≤ 48) (hs : σ 1 i = 5) : kRetire σ (nI i) (nI d) = 0 := by
  unfold kRetire
  rw [if_pos (inB_15 hi), ixs hi, if_pos (show inB (nI d) 0 48 = true from inB_lo (lo := 0) (hi := 48) (by omega) hd (by omega)), if_pos hs]
theorem kW_3 {σ : Mem} {i d : Nat} (hi : i < 16) (hd : d ≤ 48) (hs : ¬ σ 1 i = 5) : kRetire σ (nI i) (nI d) = 3 := by
  unfold kRetire
  rw [if_pos (inB_15 hi), ixs hi, if_pos (show inB (nI d) 0 48 = true from inB_lo (lo := 0) (hi := 48) (by omega) hd (by omega)), if_neg hs]
theorem kK_0 {σ : Mem} {i : Nat} (hi : i < 16) (hs : σ 1 i = 6) : kKeep σ (nI i) = 0 := by
  unfold kKeep
  rw [if_pos (inB_15 hi), ixs hi, if_pos hs]
theorem kK_2 {σ : Mem} {i : Nat} (hi : i < 16) (hs : ¬ σ 1 i = 6) : kKeep σ (nI i) = 2 := by
  unfold kKeep
  rw [if_pos (inB_15 hi), ixs hi, if_neg hs]
theorem kL_0 {σ : Mem} {i : Nat} (hi : i < 16) (hs : σ 1 i = 7) : kRelease σ (nI i) = 0 := by
  unfold kRelease
  rw [if_pos (inB_15 hi), ixs hi, if_pos hs]
theorem kL_2 {σ : Mem} {i : Nat} (hi : i < 16) (hs : ¬ σ 1 i = 7) : kRelease σ (nI i) = 2 := by
  unfold kRelease
  rw [if_pos (inB_15 hi), ixs hi, if_neg hs]
theorem rP_1 {σ : Mem} {i : Nat} {zb zc zd ze : Int32} (hi : i < 16) : rReport σ (nI i) zb zc zd ze = gReport σ (nI i) zb zc zd ze 1 i := by unfold rReport; rw [ixs hi]
theorem rO_1 {σ : Mem} {i : Nat} (hi : i < 16) : rOrder σ (nI i) = gOrder σ (nI i) 1 i := by unfold rOrder; rw [ixs hi]
theorem rF_1 {σ : Mem} {i : Nat} {gd : Bool} (hi : i < 16) : rFinish σ (nI i) gd = gFinish σ (nI i) gd 1 i := by unfold rFinish; rw [ixs hi]
theorem rT_1 {σ : Mem} {i : Nat} (hi : i < 16) : rSetTime σ (nI i) = σ 17 i := by unfold rSetTime; rw [ixs hi]
theorem rB_1 {σ : Mem} {i : Nat} (hi : i < 16) : rSetBatch σ (nI i) = σ 21 i := by unfold rSetBatch; rw [ixs hi]
theorem lit_ne {σ : Mem} {i a b : Nat} (h : σ 1 i = nI a) (ha : a ≤ 7) (hb : b ≤ 7) (hne : a ≠ b) : ¬ σ 1 i = nI b := by
  rw [h]
  intro z
  exact hne ((nS ha hb).mp z)
theorem if7 {σ : Mem} {i n q : Nat} (h5 : σ 20 5 = nI q) (h6 : σ 6 i = nI n) (hq : q ≤ 9) (hn : n ≤ 9) (h : q ≤ n + 1) : (if σ 20 5 ≤ σ 6 i + 1 then (7 : Int32) else 4) = 7 := by
  rw [h5, h6, nI_1, if_pos ((nI_leI (by omega) (by omega)).mpr h)]
theorem if4 {σ : Mem} {i n q : Nat} (h5 : σ 20 5 = nI q) (h6 : σ 6 i = nI n) (hq : q ≤ 9) (hn : n ≤ 9) (h : ¬ q ≤ n + 1) : (if σ 20 5 ≤ σ 6 i + 1 then (7 : Int32) else 4) = 4 := by
  rw [h5, h6, nI_1, if_neg (fun z => h ((nI_leI (by omega) (by omega)).mp z))]
/-- the six numbers of an image, written one behind the other -/
def up6 (f : Nat → Int32) (i : Nat) (x z0 z1 z2 z3 z4 : Int32) : Nat → Int32 := upd (upd (upd (upd (upd (upd f (6 * i + 5) x) (6 * i) z0) (6 * i + 1) z1) (6 * i + 2) z2) (6 * i + 3) z3) (6 * i + 4) z4
theorem up6_at (f : Nat → Int32) (i : Nat) (x z0 z1 z2 z3 z4 : Int32) : up6 f i x z0 z1 z2 z3 z4 (6 * i) = z0 ∧ up6 f i x z0 z1 z2 z3 z4 (6 * i + 1) = z1 ∧ up6 f i x z0 z1 z2 z3 z4 (6 * i + 2) = z2 ∧ up6 f i x z0 z1 z2 z3 z4 (6 * i + 3) = z3 ∧ up6 f i x z0 z1 z2 z3 z4 (6 * i + 4) = z4 ∧ up6 f i x z0 z1 z2 z3 z4 (6 * i + 5) = x := by
  unfold up6
  refine ⟨?_, ?_, ?_, ?_, ?_, ?_⟩
  · rw [upd_o (by omega), upd_o (by omega), upd_o (by omega), upd_o (by omega), upd_s]
  · rw [upd_o (by omega), upd_o (by omega), upd_o (by omega), upd_s]
  · rw [upd_o (by omega), upd_o (by omega), upd_s]
  · rw [upd_o (by omega), upd_s]
  · rw [upd_s]
  · rw [upd_o (by omega), upd_o (by omega), upd_o (by omega), upd_o (by omega), upd_o (by omega), upd_s]
theorem up6_no (f : Nat → Int32) (i : Nat) (x z0 z1 z2 z3 z4 : Int32) : ∀ k j, k < 8 → j < 6 → k ≠ i → up6 f i x z0 z1 z2 z3 z4 (6 * k + j) = f (6 * k + j) := by
  intro k j _ _ _
  unfold up6
  rw [upd_o (by omega), upd_o (by omega), upd_o (by omega), upd_o (by omega), upd_o (by omega), upd_o (by omega)]
/-- the four of a machine -/
def up4 (f : Nat → Int32) (i : Nat) (z0 z1 z2 z3 : Int32) : Nat → Int32 := upd (upd (upd (upd f (4 * i) z0) (4 * i + 1) z1) (4 * i + 2) z2) (4 * i + 3) z3
theorem up4_at (f : Nat → Int32) (i : Nat) (z0 z1 z2 z3 : Int32) : up4 f i z0 z1 z2 z3 (4 * i) = z0 ∧ up4 f i z0 z1 z2 z3 (4 * i + 1) = z1 ∧ up4 f i z0 z1 z2 z3 (4 * i + 2) = z2 ∧ up4 f i z0 z1 z2 z3 (4 * i + 3) = z3 := by
  unfold up4
  refine ⟨?_, ?_, ?_, ?_⟩
  · rw [upd_o (by omega), upd_o (by omega), upd_o (by omega), upd_s]
  · rw [upd_o (by omega), upd_o (by omega), upd_s]
  · rw [upd_o (by omega), upd_s]
  · rw [upd_s]
theorem up4_no (f : Nat → Int32) (i : Nat) (z0 z1 z2 z3 : Int32) : ∀ k j, k < 16 → j < 4 → k ≠ i → up4 f i z0 z1 z2 z3 (4 * k + j) = f (4 * k + j) := by
  intro k j _ _ _
  unfold up4
  rw [upd_o (by omega), upd_o (by omega), upd_o (by omega), upd_o (by omega)]
/-- a walk of acts, at any place: the machine, the code, the tables' words -/
def ACtx (p : Program) (s : State) (m : MethodId) (args : Array Value) (meth : Method) (c : Code) (D : va_G) (cy : Nat → ClassId) (sz : Nat) : Prop := p.tables.exec = Jvm.exec ∧ c.code = cL_acts ∧ meth.sig.returnType = some .boolean ∧ (∀ w ∈ wsL_acts, w.before args s = true) ∧ s.vm.findClass RL = some m.cls ∧ meth.locks = false ∧ c.maxLocals = 17 ∧ va_K D vwCl (tyC cy) s ∧ xk sz s
theorem Tell.i0 {fa fm fb : Nat → Int32} {σ : Mem} {k : Nat} (h : Tell fa fm fb σ) (hk : k < 8) (hs : σ 11 k = 0) : fm (6 * k) = -1 := (h.2.1 k hk).1 hs
theorem Tell.i1 {fa fm fb : Nat → Int32} {σ : Mem} {k : Nat} (h : Tell fa fm fb σ) (hk : k < 8) (hs : ¬ σ 11 k = 0) : ¬ fm (6 * k) < 0 ∧ fm (6 * k + 5) = σ 17 k := ⟨((h.2.1 k hk).2 hs).1, ((h.2.1 k hk).2 hs).2.2.2.2.2.2⟩
