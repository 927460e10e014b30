/-! THE LAW'S LOOP -/
abbrev A0 (s : State) : Nat → Prop := fun q => s.heap.size ≤ q
theorem lg_self (x : Int64) : lg_cmp x x = 0 := by simp [lg_cmp]
def LCtx (p : Program) (l : Launch) (s : State) (m : MethodId) (c : Code) (args : Array Value) (b L : Nat) (xs : Nat → Int32) (D : va_G) (cy : Nat → ClassId) (ad bd : Nat → Nat) (ob : Nat) : Prop :=
  p.tables.exec = Jvm.exec ∧ c.code = cL_law ∧ c.maxLocals = 7 ∧ s.vm.findClass RL = some m.cls ∧ (∀ w ∈ wsL_law, w.before args s = true) ∧ va_X b L xs s s.heap ∧ b < s.heap.size ∧ L ≤ 3584 ∧ va_K D vwCl (tyC cy) s ∧ xk s.heap.size s ∧ l.stackTraces = false ∧ inj31 ad ∧ injM bd ∧ (∀ k, k < 31 → ad k ≠ ob) ∧ (∀ j, j ∈ lM → bd j ≠ ob) ∧ (∀ k j, k < 31 → j ∈ lM → ad k ≠ bd j) ∧ (∀ k, k < 31 → s.heap.size ≤ ad k) ∧ (∀ j, j ∈ lM → s.heap.size ≤ bd j) ∧ s.heap.size ≤ ob
def LSt (s : State) (D : va_G) (cy : Nat → ClassId) (ad bd : Nat → Nat) (ob n : Nat) (σ τ : Mem) (H : Heap) (locs : List Loc) : Prop := va_P D vwCl (wC cy ad σ) H ∧ va_P D vwCl (wM cy bd τ) H ∧ (∃ f, va_P D vwCl (oW cy ob f) H) ∧ va_S (A0 s) s.heap H locs ∧ LI n σ τ
abbrev lvL (b : Nat) (ad bd : Nat → Nat) (ob k : Nat) : List (Nat × Value) := [(4, .int (nI (7 * k))), (0, .ref b), (1, .ref (ad 0)), (2, .ref (bd 0)), (3, .ref ob)]
theorem xk_H {s : State} {H : Heap} {locs : List Loc} (h : xk s.heap.size s) (hS : va_S (A0 s) s.heap H locs) : ∀ U : State, U.heap = H → s.WarmedH U.vm → xk s.heap.size U := fun U hU hW => xk_warm h hU hW (fun q hq hn => hS.2.1 q hq hn)
theorem lx_at {av : List Value} {D : va_G} {cy : Nat → ClassId} {ad : Nat → Nat} {σ : Mem} {ob : Nat} {f : Nat → Int64} {s : State} {H : Heap} {locs : List Loc} (hP : va_P D vwCl (wC cy ad σ) H) (hK : va_K D vwCl (tyC cy) s) (h : xk s.heap.size s) (hS : va_S (A0 s) s.heap H locs) (hO : va_P D vwCl (oW cy ob f) H) : ∀ U : State, U.heap = H → s.WarmedH U.vm → va_Pc av (lx D cy ad σ s.heap.size ob f) av.toArray U := fun U hU hW => ⟨rfl, ⟨(cw_at (av := av) hP hK U hU hW).2, xk_H h hS U hU hW⟩, by rw [hU]; exact hO⟩
theorem cx_atH {av : List Value} {D : va_G} {cy : Nat → ClassId} {ad : Nat → Nat} {σ : Mem} {s : State} {H : Heap} {locs : List Loc} (hP : va_P D vwCl (wC cy ad σ) H) (hK : va_K D vwCl (tyC cy) s) (h : xk s.heap.size s) (hS : va_S (A0 s) s.heap H locs) : ∀ U : State, U.heap = H → s.WarmedH U.vm → va_Pc av (cx D cy ad σ s.heap.size) av.toArray U := fun U hU hW => ⟨rfl, (cw_at (av := av) hP hK U hU hW).2, xk_H h hS U hU hW⟩
theorem wM_no {cy : Nat → ClassId} {bd : Nat → Nat} {τ : Mem} {A : Nat → Prop} (h : ∀ j, j ∈ lM → ¬ A (bd j)) : ∀ (k : Nat) (q : Nat × va_E), (wM cy bd τ)[k]? = some q → ¬ A q.1 := by
  intro k q hq
  obtain ⟨i, h1, h2⟩ := wM_get hq
  rw [h2]
  exact h i (List.mem_of_getElem? h1)
theorem wC_no {cy : Nat → ClassId} {ad : Nat → Nat} {σ : Mem} {A : Nat → Prop} (h : ∀ k, k < 31 → ¬ A (ad k)) : ∀ (k : Nat) (q : Nat × va_E), (wC cy ad σ)[k]? = some q → ¬ A q.1 := by
  intro k q hq
  obtain ⟨h1, h2⟩ := wC_get hq
  rw [h2]
  exact h k h1
theorem oW_no2 {cy : Nat → ClassId} {ob : Nat} {f : Nat → Int64} {A : Nat → Prop} (h : ¬ A ob) : ∀ (k : Nat) (q : Nat × va_E), (oW cy ob f)[k]? = some q → ¬ A q.1 := by
  intro k q hq
  have h1 := (List.getElem?_eq_some_iff.mp hq).1
  simp at h1
  subst h1
  cases hq
  exact h
section LW
variable {p : Program} {l : Launch} {e : Env} {R : Room} {s : State} {m : MethodId} {args : Array Value} {below : List Frame} {meth : Method} {c : Code} {H : Heap} {locs : List Loc} {cells slots : Nat} {Q : State → Prop} {cc : ByteArray} {pc : Nat} {ls : Array Slot} {rest st0 : List Value} {D : va_G} {A A1 : Nat → Prop} {a : Array Value} {H0 : Heap} {cy : Nat → ClassId} {mc ms : Nat}
theorem lMv {PW : Heap → Prop} (hsub : ∀ q, A q → A1 q) (hr : va_Run p l e R s m args below meth c H locs cells slots mc ms (F0 m pc ls st0) rest (QV PW A a) A) (hS : va_S A1 H0 H locs)
    (kk : ∀ (H1 : Heap) (locs1 : List Loc), PW H1 → va_S A1 H0 H1 locs1 → (∀ q : Nat, q < H.size → ¬ A q → H1[q]? = H[q]?) → W p l e R s m args below meth c H1 locs1 (cells + mc) (slots + ms) Q (F0 m (pc + 3) ls rest)) : W p l e R s m args below meth c H locs cells slots Q (F0 m pc ls st0) :=
  va_callv hr hS (fun q _ h => hsub q h) (fun q h => hsub q h) (fun u t H1 locs1 ht _ _ hB hz hk hS1 => kk H1 locs1 (by rw [← ht]; exact hB) hS1 hk)
theorem lMi {x : Int32} {PW : Heap → Prop} (hsub : ∀ q, A q → A1 q) (hr : va_Run p l e R s m args below meth c H locs cells slots mc ms (F0 m pc ls st0) rest (QI x PW A a) A) (hS : va_S A1 H0 H locs)
    (kk : ∀ (H1 : Heap) (locs1 : List Loc), PW H1 → va_S A1 H0 H1 locs1 → (∀ q : Nat, q < H.size → ¬ A q → H1[q]? = H[q]?) → W p l e R s m args below meth c H1 locs1 (cells + mc) (slots + ms) Q (F0 m (pc + 3) ls (.int x :: rest))) : W p l e R s m args below meth c H locs cells slots Q (F0 m pc ls st0) :=
  va_calli hr hS (fun q _ h => hsub q h) (fun q h => hsub q h) (fun r u t H1 locs1 ht _ hr9 hB hz hk hS1 => by rw [hr9]; exact kk H1 locs1 (by rw [← ht]; exact hB) hS1 hk)
theorem sld {b L i : Nat} {xs : Nat → Int32} (hx : p.tables.exec = Jvm.exec) (hb : c.code = cc) (hX : va_X b L xs s s.heap) (hbl : b < s.heap.size) (hS : va_S (A0 s) s.heap H locs) (hi : i < L) (hL : L ≤ 3584) (hdg : decode cc pc = .ok (.iaload, 1)) (kk : W p l e R s m args below meth c H locs cells slots Q (F0 m (pc + 1) ls (.int (xs i) :: rest))) : W p l e R s m args below meth c H locs cells slots Q (F0 m pc ls (.int (nI i) :: .ref b :: rest)) := by
  refine va_sld hx hb hX hbl (Nat.not_le.mpr hbl) hS (vp_in_nI hi (by omega)) hdg ?_
  rw [nI_clamp (by omega)]
  exact kk
end LW
theorem sw27 {x : Int32} (h : ∀ n : Nat, n < 27 → ¬ x = nI n) : x.toInt < 0 ∨ 26 < x.toInt := by
  rcases Int.lt_or_le x.toInt 0 with q | q
  · exact Or.inl q
  · rcases Int.lt_or_le 26 x.toInt with r | r
    · exact Or.inr r
    · exfalso
      have hx : x = nI x.toInt.toNat := by
        apply Int32.toInt_inj.mp
        rw [nI_toInt (by omega)]
        omega
      exact h x.toInt.toNat (by omega) hx
section LC9
variable {p : Program} {l : Launch} {e : Env} {s : State} {m : MethodId} {args : Array Value} {below : List Frame} {meth : Method} {c : Code} {Q : State → Prop} {D : va_G} {cy : Nat → ClassId} {b L : Nat} {xs : Nat → Int32} {ad bd : Nat → Nat} {ob : Nat}
set_option maxHeartbeats 4000000 in
set_option maxRecDepth 100000 in
theorem law_c0 (C : LCtx p l s m c args b L xs D cy ad bd ob) {k n cells slots : Nat} {σ τ : Mem} {H : Heap} {locs : List Loc} {ls : Array Slot} (hk : 7 * k + 7 ≤ L) (h : LSt s D cy ad bd ob (n + 1) σ τ H locs) (hc9 : cells + 6 ≤ 644319) (hs9 : slots + 36 ≤ 7163146) (hl : lv_has ls 7 (lvL b ad bd ob k))
    (kk : ∀ (H : Heap) (locs : List Loc) (σ τ : Mem) (ls : Array Slot), LSt s D cy ad bd ob n σ τ H locs → lv_has ls 7 (lvL b ad bd ob k) → W p l e room_1 s m args below meth c H locs (cells + 6) (slots + 36) Q (F0 m 1574 ls [])) : W p l e room_1 s m args below meth c H locs cells slots Q (F0 m 164 ls []) := by
  obtain ⟨hx, hb, hml, hown, hts, hX, hbl, hL9, hK, hxk, hst, hj, hjm, hno, hnm, hdj, hgA, hgB, hgO⟩ := C
  obtain ⟨hC, hPM, ⟨f, hO⟩, hS, hLI⟩ := h
  refine lv_aload_n hx hb dL_law_164 rfl (lv_at hl 2 rfl) ?_
  refine lv_aload_n hx hb dL_law_165 rfl (lv_at hl 1 rfl) ?_
  refine lv_iload hx hb dL_law_166 (lv_at hl 0 rfl) ?_
  refine lv_iconst (v := 1) hx hb dL_law_168 (by decide) ?_
  refine lv_iadd hx hb dL_law_169 ?_
  refine W.eq (g2 := F0 m 170 ls [.int (nI (7 * k + 1)), .ref b, .ref (ad 0)]) (by rw [show (1 : Int32) = nI 1 from rfl, nI_add]) ?_
  refine sld hx hb hX hbl hS (show 7 * k + 1 < L by omega) hL9 dL_law_170 ?_
  refine lv_aload_n hx hb dL_law_171 rfl (lv_at hl 1 rfl) ?_
  refine lv_iload hx hb dL_law_172 (lv_at hl 0 rfl) ?_
  refine lv_iconst (v := 2) hx hb dL_law_174 (by decide) ?_
  refine lv_iadd hx hb dL_law_175 ?_
  refine W.eq (g2 := F0 m 176 ls [.int (nI (7 * k + 2)), .ref b, .int (xs (7 * k + 1)), .ref (ad 0)]) (by rw [show (2 : Int32) = nI 2 from rfl, nI_add]) ?_
  refine sld hx hb hX hbl hS (show 7 * k + 2 < L by omega) hL9 dL_law_176 ?_
  refine lv_aload_n hx hb dL_law_177 rfl (lv_at hl 1 rfl) ?_
  refine lv_iload hx hb dL_law_178 (lv_at hl 0 rfl) ?_
  refine lv_iconst (v := 3) hx hb dL_law_180 (by decide) ?_
  refine lv_iadd hx hb dL_law_181 ?_
  refine W.eq (g2 := F0 m 182 ls [.int (nI (7 * k + 3)), .ref b, .int (xs (7 * k + 2)), .int (xs (7 * k + 1)), .ref (ad 0)]) (by rw [show (3 : Int32) = nI 3 from rfl, nI_add]) ?_
  refine sld hx hb hX hbl hS (show 7 * k + 3 < L by omega) hL9 dL_law_182 ?_
  refine lv_aload_n hx hb dL_law_183 rfl (lv_at hl 1 rfl) ?_
  refine lv_iload hx hb dL_law_184 (lv_at hl 0 rfl) ?_
  refine lv_iconst (v := 4) hx hb dL_law_186 (by decide) ?_
  refine lv_iadd hx hb dL_law_187 ?_
  refine W.eq (g2 := F0 m 188 ls [.int (nI (7 * k + 4)), .ref b, .int (xs (7 * k + 3)), .int (xs (7 * k + 2)), .int (xs (7 * k + 1)), .ref (ad 0)]) (by rw [show (4 : Int32) = nI 4 from rfl, nI_add]) ?_
  refine sld hx hb hX hbl hS (show 7 * k + 4 < L by omega) hL9 dL_law_188 ?_
  refine lv_aload_n hx hb dL_law_189 rfl (lv_at hl 1 rfl) ?_
  refine lv_iload hx hb dL_law_190 (lv_at hl 0 rfl) ?_
  refine lv_iconst (v := 5) hx hb dL_law_192 (by decide) ?_
  refine lv_iadd hx hb dL_law_193 ?_
  refine W.eq (g2 := F0 m 194 ls [.int (nI (7 * k + 5)), .ref b, .int (xs (7 * k + 4)), .int (xs (7 * k + 3)), .int (xs (7 * k + 2)), .int (xs (7 * k + 1)), .ref (ad 0)]) (by rw [show (5 : Int32) = nI 5 from rfl, nI_add]) ?_
  refine sld hx hb hX hbl hS (show 7 * k + 5 < L by omega) hL9 dL_law_194 ?_
  refine lv_aload_n hx hb dL_law_195 rfl (lv_at hl 1 rfl) ?_
  refine lv_iload hx hb dL_law_196 (lv_at hl 0 rfl) ?_
  refine lv_bipush (v := 6) hx hb dL_law_198 (by decide) ?_
  refine lv_iadd hx hb dL_law_200 ?_
  refine W.eq (g2 := F0 m 201 ls [.int (nI (7 * k + 6)), .ref b, .int (xs (7 * k + 5)), .int (xs (7 * k + 4)), .int (xs (7 * k + 3)), .int (xs (7 * k + 2)), .int (xs (7 * k + 1)), .ref (ad 0)]) (by rw [show (6 : Int32) = nI 6 from rfl, nI_add]) ?_
  refine sld hx hb hX hbl hS (show 7 * k + 6 < L by omega) hL9 dL_law_201 ?_
  obtain ⟨e1, hL2⟩ := k_setImage hLI (xs (7 * k + 1)) (xs (7 * k + 2)) (xs (7 * k + 3)) (xs (7 * k + 4)) (xs (7 * k + 5)) (xs (7 * k + 6))
  refine lMi (fun q ⟨j, h1, h2⟩ => by rw [h2]; exact hgA j h1) (vx_runSW (As := [.ref (ad 0), .int (xs (7 * k + 1)), .int (xs (7 * k + 2)), .int (xs (7 * k + 3)), .int (xs (7 * k + 4)), .int (xs (7 * k + 5)), .int (xs (7 * k + 6))]) (rest := []) ⟨hx, hb, hml, hown, hts⟩ (c_L_setImage l hst D cy ad hj σ s.heap.size (xs (7 * k + 1)) (xs (7 * k + 2)) (xs (7 * k + 3)) (xs (7 * k + 4)) (xs (7 * k + 5)) (xs (7 * k + 6))) (vx_cwSW 7 hts gL_law_L_setImage rfl rfl rfl (by decide +kernel) ⟨Nat.le_of_ble_eq_true rfl, Nat.le_of_ble_eq_true rfl⟩) ⟨cx_bl, cx_atH hC hK hxk hS⟩ rfl rfl hl.1 rfl (lv_room (Nat.le_of_ble_eq_true rfl)) dL_law_202 ⟨by show _ ≤ 644319; omega, by show _ ≤ 7163146; omega⟩) hS (fun H locs hPW hS hk1 => ?_)
  have hC := hPW
  have hPM := hPM.apart hk1 (wM_no (fun j h => fun ⟨i, h1, h2⟩ => hdj i j h1 h h2.symm))
  have hO := hO.apart hk1 (oW_no2 (fun ⟨i, h1, h2⟩ => hno i h1 h2.symm))
  refine W.eq (g2 := F0 m 205 ls [.int (kSetImage (xs (7 * k + 1)) (xs (7 * k + 2)) (xs (7 * k + 3)) (xs (7 * k + 4)) (xs (7 * k + 5)) (xs (7 * k + 6)))]) rfl ?_
  refine lv_istore (lv' := [(5, .int (kSetImage (xs (7 * k + 1)) (xs (7 * k + 2)) (xs (7 * k + 3)) (xs (7 * k + 4)) (xs (7 * k + 5)) (xs (7 * k + 6)))), (4, .int (nI (7 * k))), (0, .ref b), (1, .ref (ad 0)), (2, .ref (bd 0)), (3, .ref ob)]) hx hb dL_law_205 hl (by decide) rfl (fun ls hl => ?_)
  refine lv_aload_n hx hb dL_law_207 rfl (lv_at hl 4 rfl) ?_
  refine lv_aload_n hx hb dL_law_208 rfl (lv_at hl 2 rfl) ?_
  refine lv_iload hx hb dL_law_209 (lv_at hl 1 rfl) ?_
  refine lv_iconst (v := 1) hx hb dL_law_211 (by decide) ?_
  refine lv_iadd hx hb dL_law_212 ?_
  refine W.eq (g2 := F0 m 213 ls [.int (nI (7 * k + 1)), .ref b, .ref (bd 0)]) (by rw [show (1 : Int32) = nI 1 from rfl, nI_add]) ?_
  refine sld hx hb hX hbl hS (show 7 * k + 1 < L by omega) hL9 dL_law_213 ?_
  refine lv_aload_n hx hb dL_law_214 rfl (lv_at hl 2 rfl) ?_
  refine lv_iload hx hb dL_law_215 (lv_at hl 1 rfl) ?_
  refine lv_iconst (v := 2) hx hb dL_law_217 (by decide) ?_
  refine lv_iadd hx hb dL_law_218 ?_
  refine W.eq (g2 := F0 m 219 ls [.int (nI (7 * k + 2)), .ref b, .int (xs (7 * k + 1)), .ref (bd 0)]) (by rw [show (2 : Int32) = nI 2 from rfl, nI_add]) ?_
  refine sld hx hb hX hbl hS (show 7 * k + 2 < L by omega) hL9 dL_law_219 ?_
  refine lv_aload_n hx hb dL_law_220 rfl (lv_at hl 2 rfl) ?_
  refine lv_iload hx hb dL_law_221 (lv_at hl 1 rfl) ?_
  refine lv_iconst (v := 3) hx hb dL_law_223 (by decide) ?_
  refine lv_iadd hx hb dL_law_224 ?_
  refine W.eq (g2 := F0 m 225 ls [.int (nI (7 * k + 3)), .ref b, .int (xs (7 * k + 2)), .int (xs (7 * k + 1)), .ref (bd 0)]) (by rw [show (3 : Int32) = nI 3 from rfl, nI_add]) ?_
  refine sld hx hb hX hbl hS (show 7 * k + 3 < L by omega) hL9 dL_law_225 ?_
  refine lv_aload_n hx hb dL_law_226 rfl (lv_at hl 2 rfl) ?_
  refine lv_iload hx hb dL_law_227 (lv_at hl 1 rfl) ?_
  refine lv_iconst (v := 4) hx hb dL_law_229 (by decide) ?_
  refine lv_iadd hx hb dL_law_230 ?_
  refine W.eq (g2 := F0 m 231 ls [.int (nI (7 * k + 4)), .ref b, .int (xs (7 * k + 3)), .int (xs (7 * k + 2)), .int (xs (7 * k + 1)), .ref (bd 0)]) (by rw [show (4 : Int32) = nI 4 from rfl, nI_add]) ?_
  refine sld hx hb hX hbl hS (show 7 * k + 4 < L by omega) hL9 dL_law_231 ?_
  refine lv_aload_n hx hb dL_law_232 rfl (lv_at hl 2 rfl) ?_
  refine lv_iload hx hb dL_law_233 (lv_at hl 1 rfl) ?_
  refine lv_iconst (v := 5) hx hb dL_law_235 (by decide) ?_
  refine lv_iadd hx hb dL_law_236 ?_
  refine W.eq (g2 := F0 m 237 ls [.int (nI (7 * k + 5)), .ref b, .int (xs (7 * k + 4)), .int (xs (7 * k + 3)), .int (xs (7 * k + 2)), .int (xs (7 * k + 1)), .ref (bd 0)]) (by rw [show (5 : Int32) = nI 5 from rfl, nI_add]) ?_
  refine sld hx hb hX hbl hS (show 7 * k + 5 < L by omega) hL9 dL_law_237 ?_
  refine lv_aload_n hx hb dL_law_238 rfl (lv_at hl 2 rfl) ?_
  refine lv_iload hx hb dL_law_239 (lv_at hl 1 rfl) ?_
  refine lv_bipush (v := 6) hx hb dL_law_241 (by decide) ?_
  refine lv_iadd hx hb dL_law_243 ?_
  refine W.eq (g2 := F0 m 244 ls [.int (nI (7 * k + 6)), .ref b, .int (xs (7 * k + 5)), .int (xs (7 * k + 4)), .int (xs (7 * k + 3)), .int (xs (7 * k + 2)), .int (xs (7 * k + 1)), .ref (bd 0)]) (by rw [show (6 : Int32) = nI 6 from rfl, nI_add]) ?_
  refine sld hx hb hX hbl hS (show 7 * k + 6 < L by omega) hL9 dL_law_244 ?_
  refine lMv (fun q ⟨j, h1, h2⟩ => by rw [h2]; exact hgB j h1) (va_runV (As := [.int (xs (7 * k + 1)), .int (xs (7 * k + 2)), .int (xs (7 * k + 3)), .int (xs (7 * k + 4)), .int (xs (7 * k + 5)), .int (xs (7 * k + 6))]) (rest := []) ⟨hx, hb, hml, hown, hts⟩ (c_X4_setImage l D cy bd hjm τ (xs (7 * k + 1)) (xs (7 * k + 2)) (xs (7 * k + 3)) (xs (7 * k + 4)) (xs (7 * k + 5)) (xs (7 * k + 6)) hLI.wb hLI.fi) (cwV 6 hts gL_law_X4_setImage rfl rfl rfl (by decide +kernel) ⟨Nat.le_of_ble_eq_true rfl, Nat.le_of_ble_eq_true rfl⟩) ⟨mw_bl, mw_O hPM hK, mw_at hPM hK⟩ rfl rfl hl.1 rfl (lv_room (Nat.le_of_ble_eq_true rfl)) dL_law_245 ⟨by show _ ≤ 644319; omega, by show _ ≤ 7163146; omega⟩) hS (fun H locs hPM hS hk1 => ?_)
  have hC := hC.apart hk1 (wC_no (fun i h => fun ⟨j, h1, h2⟩ => hdj i j h h1 h2))
  have hO := hO.apart hk1 (oW_no2 (fun ⟨j, h1, h2⟩ => hnm j h1 h2.symm))
  refine W.eq (g2 := F0 m 248 ls []) rfl ?_
  refine lv_aload_n hx hb dL_law_248 rfl (lv_at hl 4 rfl) ?_
  refine cS (W.runV (As := []) (rest := []) ⟨hx, hb, hml, hown, hts⟩ (c_X4_thrown l D cy bd (hSetImage τ (xs (7 * k + 1)) (xs (7 * k + 2)) (xs (7 * k + 3)) (xs (7 * k + 4)) (xs (7 * k + 5)) (xs (7 * k + 6)))) (cwV 0 hts gL_law_X4_thrown rfl rfl rfl (by decide +kernel) ⟨Nat.le_of_ble_eq_true rfl, Nat.le_of_ble_eq_true rfl⟩) ⟨mw_bl, mw_O hPM hK, mw_at hPM hK⟩ rfl rfl hl.1 rfl (lv_room (Nat.le_of_ble_eq_true rfl)) dL_law_249 ⟨by show _ ≤ 644319; omega, by show _ ≤ 7163146; omega⟩) (fun _ _ => ?_)
  refine W.eq (g2 := F0 m 252 ls [.int ((hSetImage τ (xs (7 * k + 1)) (xs (7 * k + 2)) (xs (7 * k + 3)) (xs (7 * k + 4)) (xs (7 * k + 5)) (xs (7 * k + 6))) 0 25)]) rfl ?_
  refine lv_iload hx hb dL_law_252 (lv_at hl 0 rfl) ?_
  refine lv_icmp_eq (tgt := 259) hx hb dL_law_254 (by decide) (fun c_1 => ?_) (fun c_1 => absurd (e1) c_1)
  refine lv_goto (tgt := 1574) hx hb dL_law_259 (by decide) ?_
  refine W.widen (k := cells + 6) (n := slots + 36) (by omega) (by omega) ?_
  exact kk H locs (if kSetImage (xs (7 * k + 1)) (xs (7 * k + 2)) (xs (7 * k + 3)) (xs (7 * k + 4)) (xs (7 * k + 5)) (xs (7 * k + 6)) = 0 then gSetImage σ (xs (7 * k + 1)) (xs (7 * k + 2)) (xs (7 * k + 3)) (xs (7 * k + 4)) (xs (7 * k + 5)) (xs (7 * k + 6)) else σ) (hSetImage τ (xs (7 * k + 1)) (xs (7 * k + 2)) (xs (7 * k + 3)) (xs (7 * k + 4)) (xs (7 * k + 5)) (xs (7 * k + 6))) ls ⟨hC, hPM, ⟨_, hO⟩, hS, hL2⟩ (lv_sub hl [1, 2, 3, 4, 5] rfl)
set_option maxHeartbeats 4000000 in
set_option maxRecDepth 100000 in
theorem law_c1 (C : LCtx p l s m c args b L xs D cy ad bd ob) {k n cells slots : Nat} {σ τ : Mem} {H : Heap} {locs : List Loc} {ls : Array Slot} (hk : 7 * k + 7 ≤ L) (h : LSt s D cy ad bd ob (n + 1) σ τ H locs) (hc9 : cells + 6 ≤ 644319) (hs9 : slots + 36 ≤ 7163146) (hl : lv_has ls 7 (lvL b ad bd ob k))
    (kk : ∀ (H : Heap) (locs : List Loc) (σ τ : Mem) (ls : Array Slot), LSt s D cy ad bd ob n σ τ H locs → lv_has ls 7 (lvL b ad bd ob k) → W p l e room_1 s m args below meth c H locs (cells + 6) (slots + 36) Q (F0 m 1574 ls [])) : W p l e room_1 s m args below meth c H locs cells slots Q (F0 m 262 ls []) := by
  obtain ⟨hx, hb, hml, hown, hts, hX, hbl, hL9, hK, hxk, hst, hj, hjm, hno, hnm, hdj, hgA, hgB, hgO⟩ := C
  obtain ⟨hC, hPM, ⟨f, hO⟩, hS, hLI⟩ := h
  refine lv_aload_n hx hb dL_law_262 rfl (lv_at hl 2 rfl) ?_
  refine lv_aload_n hx hb dL_law_263 rfl (lv_at hl 1 rfl) ?_
  refine lv_iload hx hb dL_law_264 (lv_at hl 0 rfl) ?_
  refine lv_iconst (v := 1) hx hb dL_law_266 (by decide) ?_
  refine lv_iadd hx hb dL_law_267 ?_
  refine W.eq (g2 := F0 m 268 ls [.int (nI (7 * k + 1)), .ref b, .ref (ad 0)]) (by rw [show (1 : Int32) = nI 1 from rfl, nI_add]) ?_
  refine sld hx hb hX hbl hS (show 7 * k + 1 < L by omega) hL9 dL_law_268 ?_
  refine lv_aload_n hx hb dL_law_269 rfl (lv_at hl 1 rfl) ?_
  refine lv_iload hx hb dL_law_270 (lv_at hl 0 rfl) ?_
  refine lv_iconst (v := 2) hx hb dL_law_272 (by decide) ?_
  refine lv_iadd hx hb dL_law_273 ?_
  refine W.eq (g2 := F0 m 274 ls [.int (nI (7 * k + 2)), .ref b, .int (xs (7 * k + 1)), .ref (ad 0)]) (by rw [show (2 : Int32) = nI 2 from rfl, nI_add]) ?_
  refine sld hx hb hX hbl hS (show 7 * k + 2 < L by omega) hL9 dL_law_274 ?_
  refine lv_aload_n hx hb dL_law_275 rfl (lv_at hl 4 rfl) ?_
  obtain ⟨e1, e2, hL2⟩ := k_setTime hLI (xs (7 * k + 1)) (xs (7 * k + 2))
  refine lMi (fun q h => h.elim (fun ⟨j, h1, h2⟩ => by rw [h2]; exact hgA j h1) (fun h2 => by rw [h2]; exact hgO)) (vx_runSW (As := [.ref (ad 0), .int (xs (7 * k + 1)), .int (xs (7 * k + 2)), .ref ob]) (rest := []) ⟨hx, hb, hml, hown, hts⟩ (c_L_setTime l hst D cy ad hj σ s.heap.size ob hno f (xs (7 * k + 1)) (xs (7 * k + 2))) (vx_cwSW 4 hts gL_law_L_setTime rfl rfl rfl (by decide +kernel) ⟨Nat.le_of_ble_eq_true rfl, Nat.le_of_ble_eq_true rfl⟩) ⟨lx_bl, lx_at hC hK hxk hS hO⟩ rfl rfl hl.1 rfl (lv_room (Nat.le_of_ble_eq_true rfl)) dL_law_276 ⟨by show _ ≤ 644319; omega, by show _ ≤ 7163146; omega⟩) hS (fun H locs hPW hS hk1 => ?_)
  obtain ⟨hC, f1, hO, hf⟩ := hPW
  have hPM := hPM.apart hk1 (wM_no (fun j h => fun z => z.elim (fun ⟨i, h1, h2⟩ => hdj i j h1 h h2.symm) (fun z => hnm j h z)))
  refine W.eq (g2 := F0 m 279 ls [.int (kSetTime σ (xs (7 * k + 1)) (xs (7 * k + 2)))]) rfl ?_
  refine lv_istore (lv' := [(5, .int (kSetTime σ (xs (7 * k + 1)) (xs (7 * k + 2)))), (4, .int (nI (7 * k))), (0, .ref b), (1, .ref (ad 0)), (2, .ref (bd 0)), (3, .ref ob)]) hx hb dL_law_279 hl (by decide) rfl (fun ls hl => ?_)
  refine lv_aload_n hx hb dL_law_281 rfl (lv_at hl 4 rfl) ?_
  refine lv_aload_n hx hb dL_law_282 rfl (lv_at hl 2 rfl) ?_
  refine lv_iload hx hb dL_law_283 (lv_at hl 1 rfl) ?_
  refine lv_iconst (v := 1) hx hb dL_law_285 (by decide) ?_
  refine lv_iadd hx hb dL_law_286 ?_
  refine W.eq (g2 := F0 m 287 ls [.int (nI (7 * k + 1)), .ref b, .ref (bd 0)]) (by rw [show (1 : Int32) = nI 1 from rfl, nI_add]) ?_
  refine sld hx hb hX hbl hS (show 7 * k + 1 < L by omega) hL9 dL_law_287 ?_
  refine lv_aload_n hx hb dL_law_288 rfl (lv_at hl 2 rfl) ?_
  refine lv_iload hx hb dL_law_289 (lv_at hl 1 rfl) ?_
  refine lv_iconst (v := 2) hx hb dL_law_291 (by decide) ?_
  refine lv_iadd hx hb dL_law_292 ?_
  refine W.eq (g2 := F0 m 293 ls [.int (nI (7 * k + 2)), .ref b, .int (xs (7 * k + 1)), .ref (bd 0)]) (by rw [show (2 : Int32) = nI 2 from rfl, nI_add]) ?_
  refine sld hx hb hX hbl hS (show 7 * k + 2 < L by omega) hL9 dL_law_293 ?_
  refine lMi (fun q ⟨j, h1, h2⟩ => by rw [h2]; exact hgB j h1) (va_runV (As := [.int (xs (7 * k + 1)), .int (xs (7 * k + 2))]) (rest := []) ⟨hx, hb, hml, hown, hts⟩ (c_X4_setTime l D cy bd hjm τ (xs (7 * k + 1)) (xs (7 * k + 2)) hLI.wb hLI.fi) (cwV 2 hts gL_law_X4_setTime rfl rfl rfl (by decide +kernel) ⟨Nat.le_of_ble_eq_true rfl, Nat.le_of_ble_eq_true rfl⟩) ⟨mw_bl, mw_O hPM hK, mw_at hPM hK⟩ rfl rfl hl.1 rfl (lv_room (Nat.le_of_ble_eq_true rfl)) dL_law_294 ⟨by show _ ≤ 644319; omega, by show _ ≤ 7163146; omega⟩) hS (fun H locs hPM hS hk1 => ?_)
  have hC := hC.apart hk1 (wC_no (fun i h => fun ⟨j, h1, h2⟩ => hdj i j h h1 h2))
  have hO := hO.apart hk1 (oW_no2 (fun ⟨j, h1, h2⟩ => hnm j h1 h2.symm))
  refine W.eq (g2 := F0 m 297 ls [.int (qSetTime τ (xs (7 * k + 1)) (xs (7 * k + 2)))]) rfl ?_
  refine lv_istore (lv' := [(6, .int (qSetTime τ (xs (7 * k + 1)) (xs (7 * k + 2)))), (5, .int (kSetTime σ (xs (7 * k + 1)) (xs (7 * k + 2)))), (4, .int (nI (7 * k))), (0, .ref b), (1, .ref (ad 0)), (2, .ref (bd 0)), (3, .ref ob)]) hx hb dL_law_297 hl (by decide) rfl (fun ls hl => ?_)
  refine lv_aload_n hx hb dL_law_299 rfl (lv_at hl 5 rfl) ?_
  refine cS (W.runV (As := []) (rest := []) ⟨hx, hb, hml, hown, hts⟩ (c_X4_thrown l D cy bd (hSetTime τ (xs (7 * k + 1)) (xs (7 * k + 2)))) (cwV 0 hts gL_law_X4_thrown rfl rfl rfl (by decide +kernel) ⟨Nat.le_of_ble_eq_true rfl, Nat.le_of_ble_eq_true rfl⟩) ⟨mw_bl, mw_O hPM hK, mw_at hPM hK⟩ rfl rfl hl.1 rfl (lv_room (Nat.le_of_ble_eq_true rfl)) dL_law_300 ⟨by show _ ≤ 644319; omega, by show _ ≤ 7163146; omega⟩) (fun _ _ => ?_)
  refine W.eq (g2 := F0 m 303 ls [.int ((hSetTime τ (xs (7 * k + 1)) (xs (7 * k + 2))) 0 25)]) rfl ?_
  refine lv_iload hx hb dL_law_303 (lv_at hl 1 rfl) ?_
  refine lv_icmp_eq (tgt := 310) hx hb dL_law_305 (by decide) (fun c_1 => ?_) (fun c_1 => absurd (e1) c_1)
  refine lv_iload hx hb dL_law_310 (lv_at hl 1 rfl) ?_
  refine lv_if_ne (tgt := 327) hx hb dL_law_312 (by decide) (fun c_2 => ?_) (fun c_2 => ?_)
  · refine lv_goto (tgt := 1574) hx hb dL_law_327 (by decide) ?_
    refine W.widen (k := cells + 6) (n := slots + 36) (by omega) (by omega) ?_
    exact kk H locs (if kSetTime σ (xs (7 * k + 1)) (xs (7 * k + 2)) = 0 then gSetTime σ (xs (7 * k + 1)) (xs (7 * k + 2)) else σ) (hSetTime τ (xs (7 * k + 1)) (xs (7 * k + 2))) ls ⟨hC, hPM, ⟨_, hO⟩, hS, hL2⟩ (lv_sub hl [2, 3, 4, 5, 6] rfl)
  · refine lv_aload_n hx hb dL_law_315 rfl (lv_at hl 6 rfl) ?_
    refine lv_iconst (v := 0) hx hb dL_law_316 (by decide) ?_
    refine va_lald hx hb hK hO 0 4 rfl rfl (vp_in_nI (show 0 < 1 by decide) (by decide)) dL_law_317 ?_
    refine W.eq (g2 := F0 m 318 ls [.long (f1 0)]) rfl ?_
    refine lv_iload hx hb dL_law_318 (lv_at hl 0 rfl) ?_
    refine lv_i2l hx hb dL_law_320 rfl ?_
    refine W.lcmp hx hb dL_law_321 ?_
    refine W.eq (g2 := F0 m 322 ls [.int 0]) (by rw [hf c_2, e2 c_2, lg_self]) ?_
    refine lv_if_eq (tgt := 327) hx hb dL_law_322 (by decide) (fun c_3 => ?_) (fun c_3 => absurd ((by decide : (0 : Int32) = 0)) c_3)
    refine lv_goto (tgt := 1574) hx hb dL_law_327 (by decide) ?_
    refine W.widen (k := cells + 6) (n := slots + 36) (by omega) (by omega) ?_
    exact kk H locs (if kSetTime σ (xs (7 * k + 1)) (xs (7 * k + 2)) = 0 then gSetTime σ (xs (7 * k + 1)) (xs (7 * k + 2)) else σ) (hSetTime τ (xs (7 * k + 1)) (xs (7 * k + 2))) ls ⟨hC, hPM, ⟨_, hO⟩, hS, hL2⟩ (lv_sub hl [2, 3, 4, 5, 6] rfl)
set_option maxHeartbeats 4000000 in
set_option maxRecDepth 100000 in
theorem law_c2 (C : LCtx p l s m c args b L xs D cy ad bd ob) {k n cells slots : Nat} {σ τ : Mem} {H : Heap} {locs : List Loc} {ls : Array Slot} (hk : 7 * k + 7 ≤ L) (h : LSt s D cy ad bd ob (n + 1) σ τ H locs) (hc9 : cells + 6 ≤ 644319) (hs9 : slots + 36 ≤ 7163146) (hl : lv_has ls 7 (lvL b ad bd ob k))
    (kk : ∀ (H : Heap) (locs : List Loc) (σ τ : Mem) (ls : Array Slot), LSt s D cy ad bd ob n σ τ H locs → lv_has ls 7 (lvL b ad bd ob k) → W p l e room_1 s m args below meth c H locs (cells + 6) (slots + 36) Q (F0 m 1574 ls [])) : W p l e room_1 s m args below meth c H locs cells slots Q (F0 m 330 ls []) := by
  obtain ⟨hx, hb, hml, hown, hts, hX, hbl, hL9, hK, hxk, hst, hj, hjm, hno, hnm, hdj, hgA, hgB, hgO⟩ := C
  obtain ⟨hC, hPM, ⟨f, hO⟩, hS, hLI⟩ := h
  refine lv_aload_n hx hb dL_law_330 rfl (lv_at hl 2 rfl) ?_
  refine lv_aload_n hx hb dL_law_331 rfl (lv_at hl 1 rfl) ?_
  refine lv_iload hx hb dL_law_332 (lv_at hl 0 rfl) ?_
  refine lv_iconst (v := 1) hx hb dL_law_334 (by decide) ?_
  refine lv_iadd hx hb dL_law_335 ?_
  refine W.eq (g2 := F0 m 336 ls [.int (nI (7 * k + 1)), .ref b, .ref (ad 0)]) (by rw [show (1 : Int32) = nI 1 from rfl, nI_add]) ?_
  refine sld hx hb hX hbl hS (show 7 * k + 1 < L by omega) hL9 dL_law_336 ?_
  obtain ⟨e1, hL2⟩ := k_dropImage hLI (xs (7 * k + 1))
  refine lMi (fun q ⟨j, h1, h2⟩ => by rw [h2]; exact hgA j h1) (vx_runSW (As := [.ref (ad 0), .int (xs (7 * k + 1))]) (rest := []) ⟨hx, hb, hml, hown, hts⟩ (c_L_dropImage l hst D cy ad hj σ s.heap.size (xs (7 * k + 1))) (vx_cwSW 2 hts gL_law_L_dropImage rfl rfl rfl (by decide +kernel) ⟨Nat.le_of_ble_eq_true rfl, Nat.le_of_ble_eq_true rfl⟩) ⟨cx_bl, cx_atH hC hK hxk hS⟩ rfl rfl hl.1 rfl (lv_room (Nat.le_of_ble_eq_true rfl)) dL_law_337 ⟨by show _ ≤ 644319; omega, by show _ ≤ 7163146; omega⟩) hS (fun H locs hPW hS hk1 => ?_)
  have hC := hPW
  have hPM := hPM.apart hk1 (wM_no (fun j h => fun ⟨i, h1, h2⟩ => hdj i j h1 h h2.symm))
  have hO := hO.apart hk1 (oW_no2 (fun ⟨i, h1, h2⟩ => hno i h1 h2.symm))
  refine W.eq (g2 := F0 m 340 ls [.int (kDropImage σ (xs (7 * k + 1)))]) rfl ?_
  refine lv_istore (lv' := [(5, .int (kDropImage σ (xs (7 * k + 1)))), (4, .int (nI (7 * k))), (0, .ref b), (1, .ref (ad 0)), (2, .ref (bd 0)), (3, .ref ob)]) hx hb dL_law_340 hl (by decide) rfl (fun ls hl => ?_)
  refine lv_aload_n hx hb dL_law_342 rfl (lv_at hl 4 rfl) ?_
  refine lv_aload_n hx hb dL_law_343 rfl (lv_at hl 2 rfl) ?_
  refine lv_iload hx hb dL_law_344 (lv_at hl 1 rfl) ?_
  refine lv_iconst (v := 1) hx hb dL_law_346 (by decide) ?_
  refine lv_iadd hx hb dL_law_347 ?_
  refine W.eq (g2 := F0 m 348 ls [.int (nI (7 * k + 1)), .ref b, .ref (bd 0)]) (by rw [show (1 : Int32) = nI 1 from rfl, nI_add]) ?_
  refine sld hx hb hX hbl hS (show 7 * k + 1 < L by omega) hL9 dL_law_348 ?_
  refine lMv (fun q ⟨j, h1, h2⟩ => by rw [h2]; exact hgB j h1) (va_runV (As := [.int (xs (7 * k + 1))]) (rest := []) ⟨hx, hb, hml, hown, hts⟩ (c_X4_dropImage l D cy bd hjm τ (xs (7 * k + 1)) hLI.wb hLI.fi) (cwV 1 hts gL_law_X4_dropImage rfl rfl rfl (by decide +kernel) ⟨Nat.le_of_ble_eq_true rfl, Nat.le_of_ble_eq_true rfl⟩) ⟨mw_bl, mw_O hPM hK, mw_at hPM hK⟩ rfl rfl hl.1 rfl (lv_room (Nat.le_of_ble_eq_true rfl)) dL_law_349 ⟨by show _ ≤ 644319; omega, by show _ ≤ 7163146; omega⟩) hS (fun H locs hPM hS hk1 => ?_)
  have hC := hC.apart hk1 (wC_no (fun i h => fun ⟨j, h1, h2⟩ => hdj i j h h1 h2))
  have hO := hO.apart hk1 (oW_no2 (fun ⟨j, h1, h2⟩ => hnm j h1 h2.symm))
  refine W.eq (g2 := F0 m 352 ls []) rfl ?_
  refine lv_aload_n hx hb dL_law_352 rfl (lv_at hl 4 rfl) ?_
  refine cS (W.runV (As := []) (rest := []) ⟨hx, hb, hml, hown, hts⟩ (c_X4_thrown l D cy bd (hDropImage τ (xs (7 * k + 1)))) (cwV 0 hts gL_law_X4_thrown rfl rfl rfl (by decide +kernel) ⟨Nat.le_of_ble_eq_true rfl, Nat.le_of_ble_eq_true rfl⟩) ⟨mw_bl, mw_O hPM hK, mw_at hPM hK⟩ rfl rfl hl.1 rfl (lv_room (Nat.le_of_ble_eq_true rfl)) dL_law_353 ⟨by show _ ≤ 644319; omega, by show _ ≤ 7163146; omega⟩) (fun _ _ => ?_)
  refine W.eq (g2 := F0 m 356 ls [.int ((hDropImage τ (xs (7 * k + 1))) 0 25)]) rfl ?_
  refine lv_iload hx hb dL_law_356 (lv_at hl 0 rfl) ?_
  refine lv_icmp_eq (tgt := 363) hx hb dL_law_358 (by decide) (fun c_1 => ?_) (fun c_1 => absurd (e1) c_1)
  refine lv_goto (tgt := 1574) hx hb dL_law_363 (by decide) ?_
  refine W.widen (k := cells + 6) (n := slots + 36) (by omega) (by omega) ?_
  exact kk H locs (if kDropImage σ (xs (7 * k + 1)) = 0 then gDropImage σ (xs (7 * k + 1)) else σ) (hDropImage τ (xs (7 * k + 1))) ls ⟨hC, hPM, ⟨_, hO⟩, hS, hL2⟩ (lv_sub hl [1, 2, 3, 4, 5] rfl)
set_option maxHeartbeats 4000000 in
set_option maxRecDepth 100000 in
theorem law_c3 (C : LCtx p l s m c args b L xs D cy ad bd ob) {k n cells slots : Nat} {σ τ : Mem} {H : Heap} {locs : List Loc} {ls : Array Slot} (hk : 7 * k + 7 ≤ L) (h : LSt s D cy ad bd ob (n + 1) σ τ H locs) (hc9 : cells + 6 ≤ 644319) (hs9 : slots + 36 ≤ 7163146) (hl : lv_has ls 7 (lvL b ad bd ob k))
    (kk : ∀ (H : Heap) (locs : List Loc) (σ τ : Mem) (ls : Array Slot), LSt s D cy ad bd ob n σ τ H locs → lv_has ls 7 (lvL b ad bd ob k) → W p l e room_1 s m args below meth c H locs (cells + 6) (slots + 36) Q (F0 m 1574 ls [])) : W p l e room_1 s m args below meth c H locs cells slots Q (F0 m 366 ls []) := by
  obtain ⟨hx, hb, hml, hown, hts, hX, hbl, hL9, hK, hxk, hst, hj, hjm, hno, hnm, hdj, hgA, hgB, hgO⟩ := C
  obtain ⟨hC, hPM, ⟨f, hO⟩, hS, hLI⟩ := h
  refine lv_aload_n hx hb dL_law_366 rfl (lv_at hl 2 rfl) ?_
  refine lv_aload_n hx hb dL_law_367 rfl (lv_at hl 1 rfl) ?_
  refine lv_iload hx hb dL_law_368 (lv_at hl 0 rfl) ?_
  refine lv_iconst (v := 1) hx hb dL_law_370 (by decide) ?_
  refine lv_iadd hx hb dL_law_371 ?_
  refine W.eq (g2 := F0 m 372 ls [.int (nI (7 * k + 1)), .ref b, .ref (ad 0)]) (by rw [show (1 : Int32) = nI 1 from rfl, nI_add]) ?_
  refine sld hx hb hX hbl hS (show 7 * k + 1 < L by omega) hL9 dL_law_372 ?_
  refine lv_aload_n hx hb dL_law_373 rfl (lv_at hl 1 rfl) ?_
  refine lv_iload hx hb dL_law_374 (lv_at hl 0 rfl) ?_
  refine lv_iconst (v := 2) hx hb dL_law_376 (by decide) ?_
  refine lv_iadd hx hb dL_law_377 ?_
  refine W.eq (g2 := F0 m 378 ls [.int (nI (7 * k + 2)), .ref b, .int (xs (7 * k + 1)), .ref (ad 0)]) (by rw [show (2 : Int32) = nI 2 from rfl, nI_add]) ?_
  refine sld hx hb hX hbl hS (show 7 * k + 2 < L by omega) hL9 dL_law_378 ?_
  refine lv_aload_n hx hb dL_law_379 rfl (lv_at hl 4 rfl) ?_
  obtain ⟨e1, e2, hL2⟩ := k_setBatch hLI (xs (7 * k + 1)) (xs (7 * k + 2))
  refine lMi (fun q h => h.elim (fun ⟨j, h1, h2⟩ => by rw [h2]; exact hgA j h1) (fun h2 => by rw [h2]; exact hgO)) (vx_runSW (As := [.ref (ad 0), .int (xs (7 * k + 1)), .int (xs (7 * k + 2)), .ref ob]) (rest := []) ⟨hx, hb, hml, hown, hts⟩ (c_L_setBatch l hst D cy ad hj σ s.heap.size ob hno f (xs (7 * k + 1)) (xs (7 * k + 2))) (vx_cwSW 4 hts gL_law_L_setBatch rfl rfl rfl (by decide +kernel) ⟨Nat.le_of_ble_eq_true rfl, Nat.le_of_ble_eq_true rfl⟩) ⟨lx_bl, lx_at hC hK hxk hS hO⟩ rfl rfl hl.1 rfl (lv_room (Nat.le_of_ble_eq_true rfl)) dL_law_380 ⟨by show _ ≤ 644319; omega, by show _ ≤ 7163146; omega⟩) hS (fun H locs hPW hS hk1 => ?_)
  obtain ⟨hC, f1, hO, hf⟩ := hPW
  have hPM := hPM.apart hk1 (wM_no (fun j h => fun z => z.elim (fun ⟨i, h1, h2⟩ => hdj i j h1 h h2.symm) (fun z => hnm j h z)))
  refine W.eq (g2 := F0 m 383 ls [.int (kSetBatch (xs (7 * k + 1)) (xs (7 * k + 2)))]) rfl ?_
  refine lv_istore (lv' := [(5, .int (kSetBatch (xs (7 * k + 1)) (xs (7 * k + 2)))), (4, .int (nI (7 * k))), (0, .ref b), (1, .ref (ad 0)), (2, .ref (bd 0)), (3, .ref ob)]) hx hb dL_law_383 hl (by decide) rfl (fun ls hl => ?_)
  refine lv_aload_n hx hb dL_law_385 rfl (lv_at hl 4 rfl) ?_
  refine lv_aload_n hx hb dL_law_386 rfl (lv_at hl 2 rfl) ?_
  refine lv_iload hx hb dL_law_387 (lv_at hl 1 rfl) ?_
  refine lv_iconst (v := 1) hx hb dL_law_389 (by decide) ?_
  refine lv_iadd hx hb dL_law_390 ?_
  refine W.eq (g2 := F0 m 391 ls [.int (nI (7 * k + 1)), .ref b, .ref (bd 0)]) (by rw [show (1 : Int32) = nI 1 from rfl, nI_add]) ?_
  refine sld hx hb hX hbl hS (show 7 * k + 1 < L by omega) hL9 dL_law_391 ?_
  refine lv_aload_n hx hb dL_law_392 rfl (lv_at hl 2 rfl) ?_
  refine lv_iload hx hb dL_law_393 (lv_at hl 1 rfl) ?_
  refine lv_iconst (v := 2) hx hb dL_law_395 (by decide) ?_
  refine lv_iadd hx hb dL_law_396 ?_
  refine W.eq (g2 := F0 m 397 ls [.int (nI (7 * k + 2)), .ref b, .int (xs (7 * k + 1)), .ref (bd 0)]) (by rw [show (2 : Int32) = nI 2 from rfl, nI_add]) ?_
  refine sld hx hb hX hbl hS (show 7 * k + 2 < L by omega) hL9 dL_law_397 ?_
  refine lMi (fun q ⟨j, h1, h2⟩ => by rw [h2]; exact hgB j h1) (va_runV (As := [.int (xs (7 * k + 1)), .int (xs (7 * k + 2))]) (rest := []) ⟨hx, hb, hml, hown, hts⟩ (c_X4_setBatch l D cy bd hjm τ (xs (7 * k + 1)) (xs (7 * k + 2)) hLI.wb hLI.fi) (cwV 2 hts gL_law_X4_setBatch rfl rfl rfl (by decide +kernel) ⟨Nat.le_of_ble_eq_true rfl, Nat.le_of_ble_eq_true rfl⟩) ⟨mw_bl, mw_O hPM hK, mw_at hPM hK⟩ rfl rfl hl.1 rfl (lv_room (Nat.le_of_ble_eq_true rfl)) dL_law_398 ⟨by show _ ≤ 644319; omega, by show _ ≤ 7163146; omega⟩) hS (fun H locs hPM hS hk1 => ?_)
  have hC := hC.apart hk1 (wC_no (fun i h => fun ⟨j, h1, h2⟩ => hdj i j h h1 h2))
  have hO := hO.apart hk1 (oW_no2 (fun ⟨j, h1, h2⟩ => hnm j h1 h2.symm))
  refine W.eq (g2 := F0 m 401 ls [.int (qSetBatch τ (xs (7 * k + 1)) (xs (7 * k + 2)))]) rfl ?_
  refine lv_istore (lv' := [(6, .int (qSetBatch τ (xs (7 * k + 1)) (xs (7 * k + 2)))), (5, .int (kSetBatch (xs (7 * k + 1)) (xs (7 * k + 2)))), (4, .int (nI (7 * k))), (0, .ref b), (1, .ref (ad 0)), (2, .ref (bd 0)), (3, .ref ob)]) hx hb dL_law_401 hl (by decide) rfl (fun ls hl => ?_)
  refine lv_aload_n hx hb dL_law_403 rfl (lv_at hl 5 rfl) ?_
  refine cS (W.runV (As := []) (rest := []) ⟨hx, hb, hml, hown, hts⟩ (c_X4_thrown l D cy bd (hSetBatch τ (xs (7 * k + 1)) (xs (7 * k + 2)))) (cwV 0 hts gL_law_X4_thrown rfl rfl rfl (by decide +kernel) ⟨Nat.le_of_ble_eq_true rfl, Nat.le_of_ble_eq_true rfl⟩) ⟨mw_bl, mw_O hPM hK, mw_at hPM hK⟩ rfl rfl hl.1 rfl (lv_room (Nat.le_of_ble_eq_true rfl)) dL_law_404 ⟨by show _ ≤ 644319; omega, by show _ ≤ 7163146; omega⟩) (fun _ _ => ?_)
  refine W.eq (g2 := F0 m 407 ls [.int ((hSetBatch τ (xs (7 * k + 1)) (xs (7 * k + 2))) 0 25)]) rfl ?_
  refine lv_iload hx hb dL_law_407 (lv_at hl 1 rfl) ?_
  refine lv_icmp_eq (tgt := 414) hx hb dL_law_409 (by decide) (fun c_1 => ?_) (fun c_1 => absurd (e1) c_1)
  refine lv_iload hx hb dL_law_414 (lv_at hl 1 rfl) ?_
  refine lv_if_ne (tgt := 431) hx hb dL_law_416 (by decide) (fun c_2 => ?_) (fun c_2 => ?_)
  · refine lv_goto (tgt := 1574) hx hb dL_law_431 (by decide) ?_
    refine W.widen (k := cells + 6) (n := slots + 36) (by omega) (by omega) ?_
    exact kk H locs (if kSetBatch (xs (7 * k + 1)) (xs (7 * k + 2)) = 0 then gSetBatch σ (xs (7 * k + 1)) (xs (7 * k + 2)) else σ) (hSetBatch τ (xs (7 * k + 1)) (xs (7 * k + 2))) ls ⟨hC, hPM, ⟨_, hO⟩, hS, hL2⟩ (lv_sub hl [2, 3, 4, 5, 6] rfl)
  · refine lv_aload_n hx hb dL_law_419 rfl (lv_at hl 6 rfl) ?_
    refine lv_iconst (v := 0) hx hb dL_law_420 (by decide) ?_
    refine va_lald hx hb hK hO 0 4 rfl rfl (vp_in_nI (show 0 < 1 by decide) (by decide)) dL_law_421 ?_
    refine W.eq (g2 := F0 m 422 ls [.long (f1 0)]) rfl ?_
    refine lv_iload hx hb dL_law_422 (lv_at hl 0 rfl) ?_
    refine lv_i2l hx hb dL_law_424 rfl ?_
    refine W.lcmp hx hb dL_law_425 ?_
    refine W.eq (g2 := F0 m 426 ls [.int 0]) (by rw [hf c_2, e2 c_2, lg_self]) ?_
    refine lv_if_eq (tgt := 431) hx hb dL_law_426 (by decide) (fun c_3 => ?_) (fun c_3 => absurd ((by decide : (0 : Int32) = 0)) c_3)
    refine lv_goto (tgt := 1574) hx hb dL_law_431 (by decide) ?_
    refine W.widen (k := cells + 6) (n := slots + 36) (by omega) (by omega) ?_
    exact kk H locs (if kSetBatch (xs (7 * k + 1)) (xs (7 * k + 2)) = 0 then gSetBatch σ (xs (7 * k + 1)) (xs (7 * k + 2)) else σ) (hSetBatch τ (xs (7 * k + 1)) (xs (7 * k + 2))) ls ⟨hC, hPM, ⟨_, hO⟩, hS, hL2⟩ (lv_sub hl [2, 3, 4, 5, 6] rfl)
set_option maxHeartbeats 4000000 in
set_option maxRecDepth 100000 in
theorem law_c4 (C : LCtx p l s m c args b L xs D cy ad bd ob) {k n cells slots : Nat} {σ τ : Mem} {H : Heap} {locs : List Loc} {ls : Array Slot} (hk : 7 * k + 7 ≤ L) (h : LSt s D cy ad bd ob (n + 1) σ τ H locs) (hc9 : cells + 6 ≤ 644319) (hs9 : slots + 36 ≤ 7163146) (hl : lv_has ls 7 (lvL b ad bd ob k))
    (kk : ∀ (H : Heap) (locs : List Loc) (σ τ : Mem) (ls : Array Slot), LSt s D cy ad bd ob n σ τ H locs → lv_has ls 7 (lvL b ad bd ob k) → W p l e room_1 s m args below meth c H locs (cells + 6) (slots + 36) Q (F0 m 1574 ls [])) : W p l e room_1 s m args below meth c H locs cells slots Q (F0 m 434 ls []) := by
  obtain ⟨hx, hb, hml, hown, hts, hX, hbl, hL9, hK, hxk, hst, hj, hjm, hno, hnm, hdj, hgA, hgB, hgO⟩ := C
  obtain ⟨hC, hPM, ⟨f, hO⟩, hS, hLI⟩ := h
  refine lv_aload_n hx hb dL_law_434 rfl (lv_at hl 2 rfl) ?_
  refine lv_aload_n hx hb dL_law_435 rfl (lv_at hl 1 rfl) ?_
  refine lv_iload hx hb dL_law_436 (lv_at hl 0 rfl) ?_
  refine lv_iconst (v := 1) hx hb dL_law_438 (by decide) ?_
  refine lv_iadd hx hb dL_law_439 ?_
  refine W.eq (g2 := F0 m 440 ls [.int (nI (7 * k + 1)), .ref b, .ref (ad 0)]) (by rw [show (1 : Int32) = nI 1 from rfl, nI_add]) ?_
  refine sld hx hb hX hbl hS (show 7 * k + 1 < L by omega) hL9 dL_law_440 ?_
  refine lv_aload_n hx hb dL_law_441 rfl (lv_at hl 1 rfl) ?_
  refine lv_iload hx hb dL_law_442 (lv_at hl 0 rfl) ?_
  refine lv_iconst (v := 2) hx hb dL_law_444 (by decide) ?_
  refine lv_iadd hx hb dL_law_445 ?_
  refine W.eq (g2 := F0 m 446 ls [.int (nI (7 * k + 2)), .ref b, .int (xs (7 * k + 1)), .ref (ad 0)]) (by rw [show (2 : Int32) = nI 2 from rfl, nI_add]) ?_
  refine sld hx hb hX hbl hS (show 7 * k + 2 < L by omega) hL9 dL_law_446 ?_
  obtain ⟨e1, hL2⟩ := k_setRetries hLI (xs (7 * k + 1)) (xs (7 * k + 2))
  refine lMi (fun q ⟨j, h1, h2⟩ => by rw [h2]; exact hgA j h1) (vx_runSW (As := [.ref (ad 0), .int (xs (7 * k + 1)), .int (xs (7 * k + 2))]) (rest := []) ⟨hx, hb, hml, hown, hts⟩ (c_L_setRetries l hst D cy ad hj σ s.heap.size (xs (7 * k + 1)) (xs (7 * k + 2))) (vx_cwSW 3 hts gL_law_L_setRetries rfl rfl rfl (by decide +kernel) ⟨Nat.le_of_ble_eq_true rfl, Nat.le_of_ble_eq_true rfl⟩) ⟨cx_bl, cx_atH hC hK hxk hS⟩ rfl rfl hl.1 rfl (lv_room (Nat.le_of_ble_eq_true rfl)) dL_law_447 ⟨by show _ ≤ 644319; omega, by show _ ≤ 7163146; omega⟩) hS (fun H locs hPW hS hk1 => ?_)
  have hC := hPW
  have hPM := hPM.apart hk1 (wM_no (fun j h => fun ⟨i, h1, h2⟩ => hdj i j h1 h h2.symm))
  have hO := hO.apart hk1 (oW_no2 (fun ⟨i, h1, h2⟩ => hno i h1 h2.symm))
  refine W.eq (g2 := F0 m 450 ls [.int (kSetRetries (xs (7 * k + 1)) (xs (7 * k + 2)))]) rfl ?_
  refine lv_istore (lv' := [(5, .int (kSetRetries (xs (7 * k + 1)) (xs (7 * k + 2)))), (4, .int (nI (7 * k))), (0, .ref b), (1, .ref (ad 0)), (2, .ref (bd 0)), (3, .ref ob)]) hx hb dL_law_450 hl (by decide) rfl (fun ls hl => ?_)
  refine lv_aload_n hx hb dL_law_452 rfl (lv_at hl 4 rfl) ?_
  refine lv_aload_n hx hb dL_law_453 rfl (lv_at hl 2 rfl) ?_
  refine lv_iload hx hb dL_law_454 (lv_at hl 1 rfl) ?_
  refine lv_iconst (v := 1) hx hb dL_law_456 (by decide) ?_
  refine lv_iadd hx hb dL_law_457 ?_
  refine W.eq (g2 := F0 m 458 ls [.int (nI (7 * k + 1)), .ref b, .ref (bd 0)]) (by rw [show (1 : Int32) = nI 1 from rfl, nI_add]) ?_
  refine sld hx hb hX hbl hS (show 7 * k + 1 < L by omega) hL9 dL_law_458 ?_
  refine lv_aload_n hx hb dL_law_459 rfl (lv_at hl 2 rfl) ?_
  refine lv_iload hx hb dL_law_460 (lv_at hl 1 rfl) ?_
  refine lv_iconst (v := 2) hx hb dL_law_462 (by decide) ?_
  refine lv_iadd hx hb dL_law_463 ?_
  refine W.eq (g2 := F0 m 464 ls [.int (nI (7 * k + 2)), .ref b, .int (xs (7 * k + 1)), .ref (bd 0)]) (by rw [show (2 : Int32) = nI 2 from rfl, nI_add]) ?_
  refine sld hx hb hX hbl hS (show 7 * k + 2 < L by omega) hL9 dL_law_464 ?_
  refine lMv (fun q ⟨j, h1, h2⟩ => by rw [h2]; exact hgB j h1) (va_runV (As := [.int (xs (7 * k + 1)), .int (xs (7 * k + 2))]) (rest := []) ⟨hx, hb, hml, hown, hts⟩ (c_X4_setRetries l D cy bd hjm τ (xs (7 * k + 1)) (xs (7 * k + 2)) hLI.wb hLI.fi) (cwV 2 hts gL_law_X4_setRetries rfl rfl rfl (by decide +kernel) ⟨Nat.le_of_ble_eq_true rfl, Nat.le_of_ble_eq_true rfl⟩) ⟨mw_bl, mw_O hPM hK, mw_at hPM hK⟩ rfl rfl hl.1 rfl (lv_room (Nat.le_of_ble_eq_true rfl)) dL_law_465 ⟨by show _ ≤ 644319; omega, by show _ ≤ 7163146; omega⟩) hS (fun H locs hPM hS hk1 => ?_)
  have hC := hC.apart hk1 (wC_no (fun i h => fun ⟨j, h1, h2⟩ => hdj i j h h1 h2))
  have hO := hO.apart hk1 (oW_no2 (fun ⟨j, h1, h2⟩ => hnm j h1 h2.symm))
  refine W.eq (g2 := F0 m 468 ls []) rfl ?_
  refine lv_aload_n hx hb dL_law_468 rfl (lv_at hl 4 rfl) ?_
  refine cS (W.runV (As := []) (rest := []) ⟨hx, hb, hml, hown, hts⟩ (c_X4_thrown l D cy bd (hSetRetries τ (xs (7 * k + 1)) (xs (7 * k + 2)))) (cwV 0 hts gL_law_X4_thrown rfl rfl rfl (by decide +kernel) ⟨Nat.le_of_ble_eq_true rfl, Nat.le_of_ble_eq_true rfl⟩) ⟨mw_bl, mw_O hPM hK, mw_at hPM hK⟩ rfl rfl hl.1 rfl (lv_room (Nat.le_of_ble_eq_true rfl)) dL_law_469 ⟨by show _ ≤ 644319; omega, by show _ ≤ 7163146; omega⟩) (fun _ _ => ?_)
  refine W.eq (g2 := F0 m 472 ls [.int ((hSetRetries τ (xs (7 * k + 1)) (xs (7 * k + 2))) 0 25)]) rfl ?_
  refine lv_iload hx hb dL_law_472 (lv_at hl 0 rfl) ?_
  refine lv_icmp_eq (tgt := 479) hx hb dL_law_474 (by decide) (fun c_1 => ?_) (fun c_1 => absurd (e1) c_1)
  refine lv_goto (tgt := 1574) hx hb dL_law_479 (by decide) ?_
  refine W.widen (k := cells + 6) (n := slots + 36) (by omega) (by omega) ?_
  exact kk H locs (if kSetRetries (xs (7 * k + 1)) (xs (7 * k + 2)) = 0 then gSetRetries σ (xs (7 * k + 1)) (xs (7 * k + 2)) else σ) (hSetRetries τ (xs (7 * k + 1)) (xs (7 * k + 2))) ls ⟨hC, hPM, ⟨_, hO⟩, hS, hL2⟩ (lv_sub hl [1, 2, 3, 4, 5] rfl)
set_option maxHeartbeats 4000000 in
set_option maxRecDepth 100000 in
theorem law_c5 (C : LCtx p l s m c args b L xs D cy ad bd ob) {k n cells slots : Nat} {σ τ : Mem} {H : Heap} {locs : List Loc} {ls : Array Slot} (hk : 7 * k + 7 ≤ L) (h : LSt s D cy ad bd ob (n + 1) σ τ H locs) (hc9 : cells + 6 ≤ 644319) (hs9 : slots + 36 ≤ 7163146) (hl : lv_has ls 7 (lvL b ad bd ob k))
    (kk : ∀ (H : Heap) (locs : List Loc) (σ τ : Mem) (ls : Array Slot), LSt s D cy ad bd ob n σ τ H locs → lv_has ls 7 (lvL b ad bd ob k) → W p l e room_1 s m args below meth c H locs (cells + 6) (slots + 36) Q (F0 m 1574 ls [])) : W p l e room_1 s m args below meth c H locs cells slots Q (F0 m 482 ls []) := by
  obtain ⟨hx, hb, hml, hown, hts, hX, hbl, hL9, hK, hxk, hst, hj, hjm, hno, hnm, hdj, hgA, hgB, hgO⟩ := C
  obtain ⟨hC, hPM, ⟨f, hO⟩, hS, hLI⟩ := h
  refine lv_aload_n hx hb dL_law_482 rfl (lv_at hl 2 rfl) ?_
  refine lv_aload_n hx hb dL_law_483 rfl (lv_at hl 1 rfl) ?_
  refine lv_iload hx hb dL_law_484 (lv_at hl 0 rfl) ?_
  refine lv_iconst (v := 1) hx hb dL_law_486 (by decide) ?_
  refine lv_iadd hx hb dL_law_487 ?_
  refine W.eq (g2 := F0 m 488 ls [.int (nI (7 * k + 1)), .ref b, .ref (ad 0)]) (by rw [show (1 : Int32) = nI 1 from rfl, nI_add]) ?_
  refine sld hx hb hX hbl hS (show 7 * k + 1 < L by omega) hL9 dL_law_488 ?_
  refine lv_aload_n hx hb dL_law_489 rfl (lv_at hl 1 rfl) ?_
  refine lv_iload hx hb dL_law_490 (lv_at hl 0 rfl) ?_
  refine lv_iconst (v := 2) hx hb dL_law_492 (by decide) ?_
  refine lv_iadd hx hb dL_law_493 ?_
  refine W.eq (g2 := F0 m 494 ls [.int (nI (7 * k + 2)), .ref b, .int (xs (7 * k + 1)), .ref (ad 0)]) (by rw [show (2 : Int32) = nI 2 from rfl, nI_add]) ?_
  refine sld hx hb hX hbl hS (show 7 * k + 2 < L by omega) hL9 dL_law_494 ?_
  refine lv_aload_n hx hb dL_law_495 rfl (lv_at hl 1 rfl) ?_
  refine lv_iload hx hb dL_law_496 (lv_at hl 0 rfl) ?_
  refine lv_iconst (v := 3) hx hb dL_law_498 (by decide) ?_
  refine lv_iadd hx hb dL_law_499 ?_
  refine W.eq (g2 := F0 m 500 ls [.int (nI (7 * k + 3)), .ref b, .int (xs (7 * k + 2)), .int (xs (7 * k + 1)), .ref (ad 0)]) (by rw [show (3 : Int32) = nI 3 from rfl, nI_add]) ?_
  refine sld hx hb hX hbl hS (show 7 * k + 3 < L by omega) hL9 dL_law_500 ?_
  refine lv_aload_n hx hb dL_law_501 rfl (lv_at hl 1 rfl) ?_
  refine lv_iload hx hb dL_law_502 (lv_at hl 0 rfl) ?_
  refine lv_iconst (v := 4) hx hb dL_law_504 (by decide) ?_
  refine lv_iadd hx hb dL_law_505 ?_
  refine W.eq (g2 := F0 m 506 ls [.int (nI (7 * k + 4)), .ref b, .int (xs (7 * k + 3)), .int (xs (7 * k + 2)), .int (xs (7 * k + 1)), .ref (ad 0)]) (by rw [show (4 : Int32) = nI 4 from rfl, nI_add]) ?_
  refine sld hx hb hX hbl hS (show 7 * k + 4 < L by omega) hL9 dL_law_506 ?_
  refine lv_aload_n hx hb dL_law_507 rfl (lv_at hl 1 rfl) ?_
  refine lv_iload hx hb dL_law_508 (lv_at hl 0 rfl) ?_
  refine lv_iconst (v := 5) hx hb dL_law_510 (by decide) ?_
  refine lv_iadd hx hb dL_law_511 ?_
  refine W.eq (g2 := F0 m 512 ls [.int (nI (7 * k + 5)), .ref b, .int (xs (7 * k + 4)), .int (xs (7 * k + 3)), .int (xs (7 * k + 2)), .int (xs (7 * k + 1)), .ref (ad 0)]) (by rw [show (5 : Int32) = nI 5 from rfl, nI_add]) ?_
  refine sld hx hb hX hbl hS (show 7 * k + 5 < L by omega) hL9 dL_law_512 ?_
  refine lv_aload_n hx hb dL_law_513 rfl (lv_at hl 4 rfl) ?_
  obtain ⟨e1, e2, hL2⟩ := k_report hLI (xs (7 * k + 1)) (xs (7 * k + 2)) (xs (7 * k + 3)) (xs (7 * k + 4)) (xs (7 * k + 5))
  refine lMi (fun q h => h.elim (fun ⟨j, h1, h2⟩ => by rw [h2]; exact hgA j h1) (fun h2 => by rw [h2]; exact hgO)) (vx_runSW (As := [.ref (ad 0), .int (xs (7 * k + 1)), .int (xs (7 * k + 2)), .int (xs (7 * k + 3)), .int (xs (7 * k + 4)), .int (xs (7 * k + 5)), .ref ob]) (rest := []) ⟨hx, hb, hml, hown, hts⟩ (c_L_report l hst D cy ad hj σ s.heap.size ob hno f (xs (7 * k + 1)) (xs (7 * k + 2)) (xs (7 * k + 3)) (xs (7 * k + 4)) (xs (7 * k + 5))) (vx_cwSW 7 hts gL_law_L_report rfl rfl rfl (by decide +kernel) ⟨Nat.le_of_ble_eq_true rfl, Nat.le_of_ble_eq_true rfl⟩) ⟨lx_bl, lx_at hC hK hxk hS hO⟩ rfl rfl hl.1 rfl (lv_room (Nat.le_of_ble_eq_true rfl)) dL_law_514 ⟨by show _ ≤ 644319; omega, by show _ ≤ 7163146; omega⟩) hS (fun H locs hPW hS hk1 => ?_)
  obtain ⟨hC, f1, hO, hf⟩ := hPW
  have hPM := hPM.apart hk1 (wM_no (fun j h => fun z => z.elim (fun ⟨i, h1, h2⟩ => hdj i j h1 h h2.symm) (fun z => hnm j h z)))
  refine W.eq (g2 := F0 m 517 ls [.int (kReport (xs (7 * k + 1)) (xs (7 * k + 2)) (xs (7 * k + 3)) (xs (7 * k + 4)) (xs (7 * k + 5)))]) rfl ?_
  refine lv_istore (lv' := [(5, .int (kReport (xs (7 * k + 1)) (xs (7 * k + 2)) (xs (7 * k + 3)) (xs (7 * k + 4)) (xs (7 * k + 5)))), (4, .int (nI (7 * k))), (0, .ref b), (1, .ref (ad 0)), (2, .ref (bd 0)), (3, .ref ob)]) hx hb dL_law_517 hl (by decide) rfl (fun ls hl => ?_)
  refine lv_aload_n hx hb dL_law_519 rfl (lv_at hl 4 rfl) ?_
  refine lv_aload_n hx hb dL_law_520 rfl (lv_at hl 2 rfl) ?_
  refine lv_iload hx hb dL_law_521 (lv_at hl 1 rfl) ?_
  refine lv_iconst (v := 1) hx hb dL_law_523 (by decide) ?_
  refine lv_iadd hx hb dL_law_524 ?_
  refine W.eq (g2 := F0 m 525 ls [.int (nI (7 * k + 1)), .ref b, .ref (bd 0)]) (by rw [show (1 : Int32) = nI 1 from rfl, nI_add]) ?_
  refine sld hx hb hX hbl hS (show 7 * k + 1 < L by omega) hL9 dL_law_525 ?_
  refine lv_aload_n hx hb dL_law_526 rfl (lv_at hl 2 rfl) ?_
  refine lv_iload hx hb dL_law_527 (lv_at hl 1 rfl) ?_
  refine lv_iconst (v := 2) hx hb dL_law_529 (by decide) ?_
  refine lv_iadd hx hb dL_law_530 ?_
  refine W.eq (g2 := F0 m 531 ls [.int (nI (7 * k + 2)), .ref b, .int (xs (7 * k + 1)), .ref (bd 0)]) (by rw [show (2 : Int32) = nI 2 from rfl, nI_add]) ?_
  refine sld hx hb hX hbl hS (show 7 * k + 2 < L by omega) hL9 dL_law_531 ?_
  refine lv_aload_n hx hb dL_law_532 rfl (lv_at hl 2 rfl) ?_
  refine lv_iload hx hb dL_law_533 (lv_at hl 1 rfl) ?_
  refine lv_iconst (v := 3) hx hb dL_law_535 (by decide) ?_
  refine lv_iadd hx hb dL_law_536 ?_
  refine W.eq (g2 := F0 m 537 ls [.int (nI (7 * k + 3)), .ref b, .int (xs (7 * k + 2)), .int (xs (7 * k + 1)), .ref (bd 0)]) (by rw [show (3 : Int32) = nI 3 from rfl, nI_add]) ?_
  refine sld hx hb hX hbl hS (show 7 * k + 3 < L by omega) hL9 dL_law_537 ?_
  refine lv_aload_n hx hb dL_law_538 rfl (lv_at hl 2 rfl) ?_
  refine lv_iload hx hb dL_law_539 (lv_at hl 1 rfl) ?_
  refine lv_iconst (v := 4) hx hb dL_law_541 (by decide) ?_
  refine lv_iadd hx hb dL_law_542 ?_
  refine W.eq (g2 := F0 m 543 ls [.int (nI (7 * k + 4)), .ref b, .int (xs (7 * k + 3)), .int (xs (7 * k + 2)), .int (xs (7 * k + 1)), .ref (bd 0)]) (by rw [show (4 : Int32) = nI 4 from rfl, nI_add]) ?_
  refine sld hx hb hX hbl hS (show 7 * k + 4 < L by omega) hL9 dL_law_543 ?_
  refine lv_aload_n hx hb dL_law_544 rfl (lv_at hl 2 rfl) ?_
  refine lv_iload hx hb dL_law_545 (lv_at hl 1 rfl) ?_
  refine lv_iconst (v := 5) hx hb dL_law_547 (by decide) ?_
  refine lv_iadd hx hb dL_law_548 ?_
  refine W.eq (g2 := F0 m 549 ls [.int (nI (7 * k + 5)), .ref b, .int (xs (7 * k + 4)), .int (xs (7 * k + 3)), .int (xs (7 * k + 2)), .int (xs (7 * k + 1)), .ref (bd 0)]) (by rw [show (5 : Int32) = nI 5 from rfl, nI_add]) ?_
  refine sld hx hb hX hbl hS (show 7 * k + 5 < L by omega) hL9 dL_law_549 ?_
  refine lMi (fun q ⟨j, h1, h2⟩ => by rw [h2]; exact hgB j h1) (va_runV (As := [.int (xs (7 * k + 1)), .int (xs (7 * k + 2)), .int (xs (7 * k + 3)), .int (xs (7 * k + 4)), .int (xs (7 * k + 5))]) (rest := []) ⟨hx, hb, hml, hown, hts⟩ (c_X4_report l D cy bd hjm τ (xs (7 * k + 1)) (xs (7 * k + 2)) (xs (7 * k + 3)) (xs (7 * k + 4)) (xs (7 * k + 5)) hLI.wb hLI.fi) (cwV 5 hts gL_law_X4_report rfl rfl rfl (by decide +kernel) ⟨Nat.le_of_ble_eq_true rfl, Nat.le_of_ble_eq_true rfl⟩) ⟨mw_bl, mw_O hPM hK, mw_at hPM hK⟩ rfl rfl hl.1 rfl (lv_room (Nat.le_of_ble_eq_true rfl)) dL_law_550 ⟨by show _ ≤ 644319; omega, by show _ ≤ 7163146; omega⟩) hS (fun H locs hPM hS hk1 => ?_)
  have hC := hC.apart hk1 (wC_no (fun i h => fun ⟨j, h1, h2⟩ => hdj i j h h1 h2))
  have hO := hO.apart hk1 (oW_no2 (fun ⟨j, h1, h2⟩ => hnm j h1 h2.symm))
  refine W.eq (g2 := F0 m 553 ls [.int (qReport τ (xs (7 * k + 1)) (xs (7 * k + 2)) (xs (7 * k + 3)) (xs (7 * k + 4)) (xs (7 * k + 5)))]) rfl ?_
  refine lv_istore (lv' := [(6, .int (qReport τ (xs (7 * k + 1)) (xs (7 * k + 2)) (xs (7 * k + 3)) (xs (7 * k + 4)) (xs (7 * k + 5)))), (5, .int (kReport (xs (7 * k + 1)) (xs (7 * k + 2)) (xs (7 * k + 3)) (xs (7 * k + 4)) (xs (7 * k + 5)))), (4, .int (nI (7 * k))), (0, .ref b), (1, .ref (ad 0)), (2, .ref (bd 0)), (3, .ref ob)]) hx hb dL_law_553 hl (by decide) rfl (fun ls hl => ?_)
  refine lv_aload_n hx hb dL_law_555 rfl (lv_at hl 5 rfl) ?_
  refine cS (W.runV (As := []) (rest := []) ⟨hx, hb, hml, hown, hts⟩ (c_X4_thrown l D cy bd (hReport τ (xs (7 * k + 1)) (xs (7 * k + 2)) (xs (7 * k + 3)) (xs (7 * k + 4)) (xs (7 * k + 5)))) (cwV 0 hts gL_law_X4_thrown rfl rfl rfl (by decide +kernel) ⟨Nat.le_of_ble_eq_true rfl, Nat.le_of_ble_eq_true rfl⟩) ⟨mw_bl, mw_O hPM hK, mw_at hPM hK⟩ rfl rfl hl.1 rfl (lv_room (Nat.le_of_ble_eq_true rfl)) dL_law_556 ⟨by show _ ≤ 644319; omega, by show _ ≤ 7163146; omega⟩) (fun _ _ => ?_)
  refine W.eq (g2 := F0 m 559 ls [.int ((hReport τ (xs (7 * k + 1)) (xs (7 * k + 2)) (xs (7 * k + 3)) (xs (7 * k + 4)) (xs (7 * k + 5))) 0 25)]) rfl ?_
  refine lv_iload hx hb dL_law_559 (lv_at hl 1 rfl) ?_
  refine lv_icmp_eq (tgt := 566) hx hb dL_law_561 (by decide) (fun c_1 => ?_) (fun c_1 => absurd (e1) c_1)
  refine lv_iload hx hb dL_law_566 (lv_at hl 1 rfl) ?_
  refine lv_if_ne (tgt := 583) hx hb dL_law_568 (by decide) (fun c_2 => ?_) (fun c_2 => ?_)
  · refine lv_goto (tgt := 1574) hx hb dL_law_583 (by decide) ?_
    refine W.widen (k := cells + 6) (n := slots + 36) (by omega) (by omega) ?_
    exact kk H locs (if kReport (xs (7 * k + 1)) (xs (7 * k + 2)) (xs (7 * k + 3)) (xs (7 * k + 4)) (xs (7 * k + 5)) = 0 then gReport σ (xs (7 * k + 1)) (xs (7 * k + 2)) (xs (7 * k + 3)) (xs (7 * k + 4)) (xs (7 * k + 5)) else σ) (hReport τ (xs (7 * k + 1)) (xs (7 * k + 2)) (xs (7 * k + 3)) (xs (7 * k + 4)) (xs (7 * k + 5))) ls ⟨hC, hPM, ⟨_, hO⟩, hS, hL2⟩ (lv_sub hl [2, 3, 4, 5, 6] rfl)
  · refine lv_aload_n hx hb dL_law_571 rfl (lv_at hl 6 rfl) ?_
    refine lv_iconst (v := 0) hx hb dL_law_572 (by decide) ?_
    refine va_lald hx hb hK hO 0 4 rfl rfl (vp_in_nI (show 0 < 1 by decide) (by decide)) dL_law_573 ?_
    refine W.eq (g2 := F0 m 574 ls [.long (f1 0)]) rfl ?_
    refine lv_iload hx hb dL_law_574 (lv_at hl 0 rfl) ?_
    refine lv_i2l hx hb dL_law_576 rfl ?_
    refine W.lcmp hx hb dL_law_577 ?_
    refine W.eq (g2 := F0 m 578 ls [.int 0]) (by rw [hf c_2, e2 c_2, lg_self]) ?_
    refine lv_if_eq (tgt := 583) hx hb dL_law_578 (by decide) (fun c_3 => ?_) (fun c_3 => absurd ((by decide : (0 : Int32) = 0)) c_3)
    refine lv_goto (tgt := 1574) hx hb dL_law_583 (by decide) ?_
    refine W.widen (k := cells + 6) (n := slots + 36) (by omega) (by omega) ?_
    exact kk H locs (if kReport (xs (7 * k + 1)) (xs (7 * k + 2)) (xs (7 * k + 3)) (xs (7 * k + 4)) (xs (7 * k + 5)) = 0 then gReport σ (xs (7 * k + 1)) (xs (7 * k + 2)) (xs (7 * k + 3)) (xs (7 * k + 4)) (xs (7 * k + 5)) else σ) (hReport τ (xs (7 * k + 1)) (xs (7 * k + 2)) (xs (7 * k + 3)) (xs (7 * k + 4)) (xs (7 * k + 5))) ls ⟨hC, hPM, ⟨_, hO⟩, hS, hL2⟩ (lv_sub hl [2, 3, 4, 5, 6] rfl)
set_option maxHeartbeats 4000000 in
set_option maxRecDepth 100000 in
theorem law_c6 (C : LCtx p l s m c args b L xs D cy ad bd ob) {k n cells slots : Nat} {σ τ : Mem} {H : Heap} {locs : List Loc} {ls : Array Slot} (hk : 7 * k + 7 ≤ L) (h : LSt s D cy ad bd ob (n + 1) σ τ H locs) (hc9 : cells + 6 ≤ 644319) (hs9 : slots + 36 ≤ 7163146) (hl : lv_has ls 7 (lvL b ad bd ob k))
    (kk : ∀ (H : Heap) (locs : List Loc) (σ τ : Mem) (ls : Array Slot), LSt s D cy ad bd ob n σ τ H locs → lv_has ls 7 (lvL b ad bd ob k) → W p l e room_1 s m args below meth c H locs (cells + 6) (slots + 36) Q (F0 m 1574 ls [])) : W p l e room_1 s m args below meth c H locs cells slots Q (F0 m 586 ls []) := by
  obtain ⟨hx, hb, hml, hown, hts, hX, hbl, hL9, hK, hxk, hst, hj, hjm, hno, hnm, hdj, hgA, hgB, hgO⟩ := C
  obtain ⟨hC, hPM, ⟨f, hO⟩, hS, hLI⟩ := h
  refine lv_aload_n hx hb dL_law_586 rfl (lv_at hl 2 rfl) ?_
  refine lv_aload_n hx hb dL_law_587 rfl (lv_at hl 1 rfl) ?_
  refine lv_iload hx hb dL_law_588 (lv_at hl 0 rfl) ?_
  refine lv_iconst (v := 1) hx hb dL_law_590 (by decide) ?_
  refine lv_iadd hx hb dL_law_591 ?_
  refine W.eq (g2 := F0 m 592 ls [.int (nI (7 * k + 1)), .ref b, .ref (ad 0)]) (by rw [show (1 : Int32) = nI 1 from rfl, nI_add]) ?_
  refine sld hx hb hX hbl hS (show 7 * k + 1 < L by omega) hL9 dL_law_592 ?_
  refine lv_aload_n hx hb dL_law_593 rfl (lv_at hl 4 rfl) ?_
  obtain ⟨e1, e2, hL2⟩ := k_order hLI (xs (7 * k + 1))
  refine lMi (fun q h => h.elim (fun ⟨j, h1, h2⟩ => by rw [h2]; exact hgA j h1) (fun h2 => by rw [h2]; exact hgO)) (vx_runSW (As := [.ref (ad 0), .int (xs (7 * k + 1)), .ref ob]) (rest := []) ⟨hx, hb, hml, hown, hts⟩ (c_L_order l hst D cy ad hj σ s.heap.size ob hno f (xs (7 * k + 1))) (vx_cwSW 3 hts gL_law_L_order rfl rfl rfl (by decide +kernel) ⟨Nat.le_of_ble_eq_true rfl, Nat.le_of_ble_eq_true rfl⟩) ⟨lx_bl, lx_at hC hK hxk hS hO⟩ rfl rfl hl.1 rfl (lv_room (Nat.le_of_ble_eq_true rfl)) dL_law_594 ⟨by show _ ≤ 644319; omega, by show _ ≤ 7163146; omega⟩) hS (fun H locs hPW hS hk1 => ?_)
  obtain ⟨hC, f1, hO, hf⟩ := hPW
  have hPM := hPM.apart hk1 (wM_no (fun j h => fun z => z.elim (fun ⟨i, h1, h2⟩ => hdj i j h1 h h2.symm) (fun z => hnm j h z)))
  refine W.eq (g2 := F0 m 597 ls [.int (kOrder σ (xs (7 * k + 1)))]) rfl ?_
  refine lv_istore (lv' := [(5, .int (kOrder σ (xs (7 * k + 1)))), (4, .int (nI (7 * k))), (0, .ref b), (1, .ref (ad 0)), (2, .ref (bd 0)), (3, .ref ob)]) hx hb dL_law_597 hl (by decide) rfl (fun ls hl => ?_)
  refine lv_aload_n hx hb dL_law_599 rfl (lv_at hl 4 rfl) ?_
  refine lv_aload_n hx hb dL_law_600 rfl (lv_at hl 2 rfl) ?_
  refine lv_iload hx hb dL_law_601 (lv_at hl 1 rfl) ?_
  refine lv_iconst (v := 1) hx hb dL_law_603 (by decide) ?_
  refine lv_iadd hx hb dL_law_604 ?_
  refine W.eq (g2 := F0 m 605 ls [.int (nI (7 * k + 1)), .ref b, .ref (bd 0)]) (by rw [show (1 : Int32) = nI 1 from rfl, nI_add]) ?_
  refine sld hx hb hX hbl hS (show 7 * k + 1 < L by omega) hL9 dL_law_605 ?_
  refine lMi (fun q ⟨j, h1, h2⟩ => by rw [h2]; exact hgB j h1) (va_runV (As := [.int (xs (7 * k + 1))]) (rest := []) ⟨hx, hb, hml, hown, hts⟩ (c_X4_order l D cy bd hjm τ (xs (7 * k + 1)) hLI.wb hLI.fi) (cwV 1 hts gL_law_X4_order rfl rfl rfl (by decide +kernel) ⟨Nat.le_of_ble_eq_true rfl, Nat.le_of_ble_eq_true rfl⟩) ⟨mw_bl, mw_O hPM hK, mw_at hPM hK⟩ rfl rfl hl.1 rfl (lv_room (Nat.le_of_ble_eq_true rfl)) dL_law_606 ⟨by show _ ≤ 644319; omega, by show _ ≤ 7163146; omega⟩) hS (fun H locs hPM hS hk1 => ?_)
  have hC := hC.apart hk1 (wC_no (fun i h => fun ⟨j, h1, h2⟩ => hdj i j h h1 h2))
  have hO := hO.apart hk1 (oW_no2 (fun ⟨j, h1, h2⟩ => hnm j h1 h2.symm))
  refine W.eq (g2 := F0 m 609 ls [.int (qOrder τ (xs (7 * k + 1)))]) rfl ?_
  refine lv_istore (lv' := [(6, .int (qOrder τ (xs (7 * k + 1)))), (5, .int (kOrder σ (xs (7 * k + 1)))), (4, .int (nI (7 * k))), (0, .ref b), (1, .ref (ad 0)), (2, .ref (bd 0)), (3, .ref ob)]) hx hb dL_law_609 hl (by decide) rfl (fun ls hl => ?_)
  refine lv_aload_n hx hb dL_law_611 rfl (lv_at hl 5 rfl) ?_
  refine cS (W.runV (As := []) (rest := []) ⟨hx, hb, hml, hown, hts⟩ (c_X4_thrown l D cy bd (hOrder τ (xs (7 * k + 1)))) (cwV 0 hts gL_law_X4_thrown rfl rfl rfl (by decide +kernel) ⟨Nat.le_of_ble_eq_true rfl, Nat.le_of_ble_eq_true rfl⟩) ⟨mw_bl, mw_O hPM hK, mw_at hPM hK⟩ rfl rfl hl.1 rfl (lv_room (Nat.le_of_ble_eq_true rfl)) dL_law_612 ⟨by show _ ≤ 644319; omega, by show _ ≤ 7163146; omega⟩) (fun _ _ => ?_)
  refine W.eq (g2 := F0 m 615 ls [.int ((hOrder τ (xs (7 * k + 1))) 0 25)]) rfl ?_
  refine lv_iload hx hb dL_law_615 (lv_at hl 1 rfl) ?_
  refine lv_icmp_eq (tgt := 622) hx hb dL_law_617 (by decide) (fun c_1 => ?_) (fun c_1 => absurd (e1) c_1)
  refine lv_iload hx hb dL_law_622 (lv_at hl 1 rfl) ?_
  refine lv_if_ne (tgt := 639) hx hb dL_law_624 (by decide) (fun c_2 => ?_) (fun c_2 => ?_)
  · refine lv_goto (tgt := 1574) hx hb dL_law_639 (by decide) ?_
    refine W.widen (k := cells + 6) (n := slots + 36) (by omega) (by omega) ?_
    exact kk H locs (if kOrder σ (xs (7 * k + 1)) = 0 then gOrder σ (xs (7 * k + 1)) else σ) (hOrder τ (xs (7 * k + 1))) ls ⟨hC, hPM, ⟨_, hO⟩, hS, hL2⟩ (lv_sub hl [2, 3, 4, 5, 6] rfl)
  · refine lv_aload_n hx hb dL_law_627 rfl (lv_at hl 6 rfl) ?_
    refine lv_iconst (v := 0) hx hb dL_law_628 (by decide) ?_
    refine va_lald hx hb hK hO 0 4 rfl rfl (vp_in_nI (show 0 < 1 by decide) (by decide)) dL_law_629 ?_
    refine W.eq (g2 := F0 m 630 ls [.long (f1 0)]) rfl ?_
    refine lv_iload hx hb dL_law_630 (lv_at hl 0 rfl) ?_
    refine lv_i2l hx hb dL_law_632 rfl ?_
    refine W.lcmp hx hb dL_law_633 ?_
    refine W.eq (g2 := F0 m 634 ls [.int 0]) (by rw [hf c_2, e2 c_2, lg_self]) ?_
    refine lv_if_eq (tgt := 639) hx hb dL_law_634 (by decide) (fun c_3 => ?_) (fun c_3 => absurd ((by decide : (0 : Int32) = 0)) c_3)
    refine lv_goto (tgt := 1574) hx hb dL_law_639 (by decide) ?_
    refine W.widen (k := cells + 6) (n := slots + 36) (by omega) (by omega) ?_
    exact kk H locs (if kOrder σ (xs (7 * k + 1)) = 0 then gOrder σ (xs (7 * k + 1)) else σ) (hOrder τ (xs (7 * k + 1))) ls ⟨hC, hPM, ⟨_, hO⟩, hS, hL2⟩ (lv_sub hl [2, 3, 4, 5, 6] rfl)
set_option maxHeartbeats 4000000 in
set_option maxRecDepth 100000 in
theorem law_c7 (C : LCtx p l s m c args b L xs D cy ad bd ob) {k n cells slots : Nat} {σ τ : Mem} {H : Heap} {locs : List Loc} {ls : Array Slot} (hk : 7 * k + 7 ≤ L) (h : LSt s D cy ad bd ob (n + 1) σ τ H locs) (hc9 : cells + 6 ≤ 644319) (hs9 : slots + 36 ≤ 7163146) (hl : lv_has ls 7 (lvL b ad bd ob k))
    (kk : ∀ (H : Heap) (locs : List Loc) (σ τ : Mem) (ls : Array Slot), LSt s D cy ad bd ob n σ τ H locs → lv_has ls 7 (lvL b ad bd ob k) → W p l e room_1 s m args below meth c H locs (cells + 6) (slots + 36) Q (F0 m 1574 ls [])) : W p l e room_1 s m args below meth c H locs cells slots Q (F0 m 642 ls []) := by
  obtain ⟨hx, hb, hml, hown, hts, hX, hbl, hL9, hK, hxk, hst, hj, hjm, hno, hnm, hdj, hgA, hgB, hgO⟩ := C
  obtain ⟨hC, hPM, ⟨f, hO⟩, hS, hLI⟩ := h
  refine lv_aload_n hx hb dL_law_642 rfl (lv_at hl 2 rfl) ?_
  refine lv_aload_n hx hb dL_law_643 rfl (lv_at hl 1 rfl) ?_
  refine lv_iload hx hb dL_law_644 (lv_at hl 0 rfl) ?_
  refine lv_iconst (v := 1) hx hb dL_law_646 (by decide) ?_
  refine lv_iadd hx hb dL_law_647 ?_
  refine W.eq (g2 := F0 m 648 ls [.int (nI (7 * k + 1)), .ref b, .ref (ad 0)]) (by rw [show (1 : Int32) = nI 1 from rfl, nI_add]) ?_
  refine sld hx hb hX hbl hS (show 7 * k + 1 < L by omega) hL9 dL_law_648 ?_
  obtain ⟨e1, hL2⟩ := k_cancel hLI (xs (7 * k + 1))
  refine lMi (fun q ⟨j, h1, h2⟩ => by rw [h2]; exact hgA j h1) (vx_runSW (As := [.ref (ad 0), .int (xs (7 * k + 1))]) (rest := []) ⟨hx, hb, hml, hown, hts⟩ (c_L_cancel l hst D cy ad hj σ s.heap.size (xs (7 * k + 1))) (vx_cwSW 2 hts gL_law_L_cancel rfl rfl rfl (by decide +kernel) ⟨Nat.le_of_ble_eq_true rfl, Nat.le_of_ble_eq_true rfl⟩) ⟨cx_bl, cx_atH hC hK hxk hS⟩ rfl rfl hl.1 rfl (lv_room (Nat.le_of_ble_eq_true rfl)) dL_law_649 ⟨by show _ ≤ 644319; omega, by show _ ≤ 7163146; omega⟩) hS (fun H locs hPW hS hk1 => ?_)
  have hC := hPW
  have hPM := hPM.apart hk1 (wM_no (fun j h => fun ⟨i, h1, h2⟩ => hdj i j h1 h h2.symm))
  have hO := hO.apart hk1 (oW_no2 (fun ⟨i, h1, h2⟩ => hno i h1 h2.symm))
  refine W.eq (g2 := F0 m 652 ls [.int (kCancel σ (xs (7 * k + 1)))]) rfl ?_
  refine lv_istore (lv' := [(5, .int (kCancel σ (xs (7 * k + 1)))), (4, .int (nI (7 * k))), (0, .ref b), (1, .ref (ad 0)), (2, .ref (bd 0)), (3, .ref ob)]) hx hb dL_law_652 hl (by decide) rfl (fun ls hl => ?_)
  refine lv_aload_n hx hb dL_law_654 rfl (lv_at hl 4 rfl) ?_
  refine lv_aload_n hx hb dL_law_655 rfl (lv_at hl 2 rfl) ?_
  refine lv_iload hx hb dL_law_656 (lv_at hl 1 rfl) ?_
  refine lv_iconst (v := 1) hx hb dL_law_658 (by decide) ?_
  refine lv_iadd hx hb dL_law_659 ?_
  refine W.eq (g2 := F0 m 660 ls [.int (nI (7 * k + 1)), .ref b, .ref (bd 0)]) (by rw [show (1 : Int32) = nI 1 from rfl, nI_add]) ?_
  refine sld hx hb hX hbl hS (show 7 * k + 1 < L by omega) hL9 dL_law_660 ?_
  refine lMv (fun q ⟨j, h1, h2⟩ => by rw [h2]; exact hgB j h1) (va_runV (As := [.int (xs (7 * k + 1))]) (rest := []) ⟨hx, hb, hml, hown, hts⟩ (c_X4_cancel l D cy bd hjm τ (xs (7 * k + 1)) hLI.wb hLI.fi) (cwV 1 hts gL_law_X4_cancel rfl rfl rfl (by decide +kernel) ⟨Nat.le_of_ble_eq_true rfl, Nat.le_of_ble_eq_true rfl⟩) ⟨mw_bl, mw_O hPM hK, mw_at hPM hK⟩ rfl rfl hl.1 rfl (lv_room (Nat.le_of_ble_eq_true rfl)) dL_law_661 ⟨by show _ ≤ 644319; omega, by show _ ≤ 7163146; omega⟩) hS (fun H locs hPM hS hk1 => ?_)
  have hC := hC.apart hk1 (wC_no (fun i h => fun ⟨j, h1, h2⟩ => hdj i j h h1 h2))
  have hO := hO.apart hk1 (oW_no2 (fun ⟨j, h1, h2⟩ => hnm j h1 h2.symm))
  refine W.eq (g2 := F0 m 664 ls []) rfl ?_
  refine lv_aload_n hx hb dL_law_664 rfl (lv_at hl 4 rfl) ?_
  refine cS (W.runV (As := []) (rest := []) ⟨hx, hb, hml, hown, hts⟩ (c_X4_thrown l D cy bd (hCancel τ (xs (7 * k + 1)))) (cwV 0 hts gL_law_X4_thrown rfl rfl rfl (by decide +kernel) ⟨Nat.le_of_ble_eq_true rfl, Nat.le_of_ble_eq_true rfl⟩) ⟨mw_bl, mw_O hPM hK, mw_at hPM hK⟩ rfl rfl hl.1 rfl (lv_room (Nat.le_of_ble_eq_true rfl)) dL_law_665 ⟨by show _ ≤ 644319; omega, by show _ ≤ 7163146; omega⟩) (fun _ _ => ?_)
  refine W.eq (g2 := F0 m 668 ls [.int ((hCancel τ (xs (7 * k + 1))) 0 25)]) rfl ?_
  refine lv_iload hx hb dL_law_668 (lv_at hl 0 rfl) ?_
  refine lv_icmp_eq (tgt := 675) hx hb dL_law_670 (by decide) (fun c_1 => ?_) (fun c_1 => absurd (e1) c_1)
  refine lv_goto (tgt := 1574) hx hb dL_law_675 (by decide) ?_
  refine W.widen (k := cells + 6) (n := slots + 36) (by omega) (by omega) ?_
  exact kk H locs (if kCancel σ (xs (7 * k + 1)) = 0 then gCancel σ (xs (7 * k + 1)) else σ) (hCancel τ (xs (7 * k + 1))) ls ⟨hC, hPM, ⟨_, hO⟩, hS, hL2⟩ (lv_sub hl [1, 2, 3, 4, 5] rfl)
set_option maxHeartbeats 4000000 in
set_option maxRecDepth 100000 in
theorem law_c8 (C : LCtx p l s m c args b L xs D cy ad bd ob) {k n cells slots : Nat} {σ τ : Mem} {H : Heap} {locs : List Loc} {ls : Array Slot} (hk : 7 * k + 7 ≤ L) (h : LSt s D cy ad bd ob (n + 1) σ τ H locs) (hc9 : cells + 6 ≤ 644319) (hs9 : slots + 36 ≤ 7163146) (hl : lv_has ls 7 (lvL b ad bd ob k))
    (kk : ∀ (H : Heap) (locs : List Loc) (σ τ : Mem) (ls : Array Slot), LSt s D cy ad bd ob n σ τ H locs → lv_has ls 7 (lvL b ad bd ob k) → W p l e room_1 s m args below meth c H locs (cells + 6) (slots + 36) Q (F0 m 1574 ls [])) : W p l e room_1 s m args below meth c H locs cells slots Q (F0 m 678 ls []) := by
  obtain ⟨hx, hb, hml, hown, hts, hX, hbl, hL9, hK, hxk, hst, hj, hjm, hno, hnm, hdj, hgA, hgB, hgO⟩ := C
  obtain ⟨hC, hPM, ⟨f, hO⟩, hS, hLI⟩ := h
  refine lv_aload_n hx hb dL_law_678 rfl (lv_at hl 2 rfl) ?_
  refine lv_aload_n hx hb dL_law_679 rfl (lv_at hl 1 rfl) ?_
  refine lv_iload hx hb dL_law_680 (lv_at hl 0 rfl) ?_
  refine lv_iconst (v := 1) hx hb dL_law_682 (by decide) ?_
  refine lv_iadd hx hb dL_law_683 ?_
  refine W.eq (g2 := F0 m 684 ls [.int (nI (7 * k + 1)), .ref b, .ref (ad 0)]) (by rw [show (1 : Int32) = nI 1 from rfl, nI_add]) ?_
  refine sld hx hb hX hbl hS (show 7 * k + 1 < L by omega) hL9 dL_law_684 ?_
  refine lv_aload_n hx hb dL_law_685 rfl (lv_at hl 1 rfl) ?_
  refine lv_iload hx hb dL_law_686 (lv_at hl 0 rfl) ?_
  refine lv_iconst (v := 2) hx hb dL_law_688 (by decide) ?_
  refine lv_iadd hx hb dL_law_689 ?_
  refine W.eq (g2 := F0 m 690 ls [.int (nI (7 * k + 2)), .ref b, .int (xs (7 * k + 1)), .ref (ad 0)]) (by rw [show (2 : Int32) = nI 2 from rfl, nI_add]) ?_
  refine sld hx hb hX hbl hS (show 7 * k + 2 < L by omega) hL9 dL_law_690 ?_
  refine lv_if_eq (tgt := 698) hx hb dL_law_691 (by decide) (fun c_1 => ?_) (fun c_1 => ?_)
  · refine lv_iconst (v := 0) hx hb dL_law_698 (by decide) ?_
    refine lv_aload_n hx hb dL_law_699 rfl (lv_at hl 4 rfl) ?_
    obtain ⟨e1, e2, hL2⟩ := k_finish hLI (xs (7 * k + 1)) false
    refine lMi (fun q h => h.elim (fun ⟨j, h1, h2⟩ => by rw [h2]; exact hgA j h1) (fun h2 => by rw [h2]; exact hgO)) (vx_runSW (As := [.ref (ad 0), .int (xs (7 * k + 1)), .int 0, .ref ob]) (rest := []) ⟨hx, hb, hml, hown, hts⟩ (c_L_finish l hst D cy ad hj σ s.heap.size ob hno f (xs (7 * k + 1)) false) (vx_cwSW 4 hts gL_law_L_finish rfl rfl rfl (by decide +kernel) ⟨Nat.le_of_ble_eq_true rfl, Nat.le_of_ble_eq_true rfl⟩) ⟨lx_bl, lx_at hC hK hxk hS hO⟩ rfl rfl hl.1 rfl (lv_room (Nat.le_of_ble_eq_true rfl)) dL_law_700 ⟨by show _ ≤ 644319; omega, by show _ ≤ 7163146; omega⟩) hS (fun H locs hPW hS hk1 => ?_)
    obtain ⟨hC, f1, hO, hf⟩ := hPW
    have hPM := hPM.apart hk1 (wM_no (fun j h => fun z => z.elim (fun ⟨i, h1, h2⟩ => hdj i j h1 h h2.symm) (fun z => hnm j h z)))
    refine W.eq (g2 := F0 m 703 ls [.int (kFinish σ (xs (7 * k + 1)))]) rfl ?_
    refine lv_istore (lv' := [(5, .int (kFinish σ (xs (7 * k + 1)))), (4, .int (nI (7 * k))), (0, .ref b), (1, .ref (ad 0)), (2, .ref (bd 0)), (3, .ref ob)]) hx hb dL_law_703 hl (by decide) rfl (fun ls hl => ?_)
    refine lv_aload_n hx hb dL_law_705 rfl (lv_at hl 4 rfl) ?_
    refine lv_aload_n hx hb dL_law_706 rfl (lv_at hl 2 rfl) ?_
    refine lv_iload hx hb dL_law_707 (lv_at hl 1 rfl) ?_
    refine lv_iconst (v := 1) hx hb dL_law_709 (by decide) ?_
    refine lv_iadd hx hb dL_law_710 ?_
    refine W.eq (g2 := F0 m 711 ls [.int (nI (7 * k + 1)), .ref b, .ref (bd 0)]) (by rw [show (1 : Int32) = nI 1 from rfl, nI_add]) ?_
    refine sld hx hb hX hbl hS (show 7 * k + 1 < L by omega) hL9 dL_law_711 ?_
    refine lv_aload_n hx hb dL_law_712 rfl (lv_at hl 2 rfl) ?_
    refine lv_iload hx hb dL_law_713 (lv_at hl 1 rfl) ?_
    refine lv_iconst (v := 2) hx hb dL_law_715 (by decide) ?_
    refine lv_iadd hx hb dL_law_716 ?_
    refine W.eq (g2 := F0 m 717 ls [.int (nI (7 * k + 2)), .ref b, .int (xs (7 * k + 1)), .ref (bd 0)]) (by rw [show (2 : Int32) = nI 2 from rfl, nI_add]) ?_
    refine sld hx hb hX hbl hS (show 7 * k + 2 < L by omega) hL9 dL_law_717 ?_
    refine lv_if_eq (tgt := 725) hx hb dL_law_718 (by decide) (fun c_2 => ?_) (fun c_2 => absurd (c_1) c_2)
    refine lv_iconst (v := 0) hx hb dL_law_725 (by decide) ?_
    refine lMi (fun q ⟨j, h1, h2⟩ => by rw [h2]; exact hgB j h1) (va_runV (As := [.int (xs (7 * k + 1)), .int 0]) (rest := []) ⟨hx, hb, hml, hown, hts⟩ (c_X4_finish l D cy bd hjm τ (xs (7 * k + 1)) false hLI.wb hLI.fi) (cwV 2 hts gL_law_X4_finish rfl rfl rfl (by decide +kernel) ⟨Nat.le_of_ble_eq_true rfl, Nat.le_of_ble_eq_true rfl⟩) ⟨mw_bl, mw_O hPM hK, mw_at hPM hK⟩ rfl rfl hl.1 rfl (lv_room (Nat.le_of_ble_eq_true rfl)) dL_law_726 ⟨by show _ ≤ 644319; omega, by show _ ≤ 7163146; omega⟩) hS (fun H locs hPM hS hk1 => ?_)
    have hC := hC.apart hk1 (wC_no (fun i h => fun ⟨j, h1, h2⟩ => hdj i j h h1 h2))
    have hO := hO.apart hk1 (oW_no2 (fun ⟨j, h1, h2⟩ => hnm j h1 h2.symm))
    refine W.eq (g2 := F0 m 729 ls [.int (qFinish τ (xs (7 * k + 1)) false)]) rfl ?_
    refine lv_istore (lv' := [(6, .int (qFinish τ (xs (7 * k + 1)) false)), (5, .int (kFinish σ (xs (7 * k + 1)))), (4, .int (nI (7 * k))), (0, .ref b), (1, .ref (ad 0)), (2, .ref (bd 0)), (3, .ref ob)]) hx hb dL_law_729 hl (by decide) rfl (fun ls hl => ?_)
    refine lv_aload_n hx hb dL_law_731 rfl (lv_at hl 5 rfl) ?_
    refine cS (W.runV (As := []) (rest := []) ⟨hx, hb, hml, hown, hts⟩ (c_X4_thrown l D cy bd (hFinish τ (xs (7 * k + 1)) false)) (cwV 0 hts gL_law_X4_thrown rfl rfl rfl (by decide +kernel) ⟨Nat.le_of_ble_eq_true rfl, Nat.le_of_ble_eq_true rfl⟩) ⟨mw_bl, mw_O hPM hK, mw_at hPM hK⟩ rfl rfl hl.1 rfl (lv_room (Nat.le_of_ble_eq_true rfl)) dL_law_732 ⟨by show _ ≤ 644319; omega, by show _ ≤ 7163146; omega⟩) (fun _ _ => ?_)
    refine W.eq (g2 := F0 m 735 ls [.int ((hFinish τ (xs (7 * k + 1)) false) 0 25)]) rfl ?_
    refine lv_iload hx hb dL_law_735 (lv_at hl 1 rfl) ?_
    refine lv_icmp_eq (tgt := 742) hx hb dL_law_737 (by decide) (fun c_3 => ?_) (fun c_3 => absurd (e1) c_3)
    refine lv_iload hx hb dL_law_742 (lv_at hl 1 rfl) ?_
    refine lv_if_ne (tgt := 759) hx hb dL_law_744 (by decide) (fun c_4 => ?_) (fun c_4 => ?_)
    · refine lv_goto (tgt := 1574) hx hb dL_law_759 (by decide) ?_
      refine W.widen (k := cells + 6) (n := slots + 36) (by omega) (by omega) ?_
      exact kk H locs (if kFinish σ (xs (7 * k + 1)) = 0 then gFinish σ (xs (7 * k + 1)) false else σ) (hFinish τ (xs (7 * k + 1)) false) ls ⟨hC, hPM, ⟨_, hO⟩, hS, hL2⟩ (lv_sub hl [2, 3, 4, 5, 6] rfl)
    · refine lv_aload_n hx hb dL_law_747 rfl (lv_at hl 6 rfl) ?_
      refine lv_iconst (v := 0) hx hb dL_law_748 (by decide) ?_
      refine va_lald hx hb hK hO 0 4 rfl rfl (vp_in_nI (show 0 < 1 by decide) (by decide)) dL_law_749 ?_
      refine W.eq (g2 := F0 m 750 ls [.long (f1 0)]) rfl ?_
      refine lv_iload hx hb dL_law_750 (lv_at hl 0 rfl) ?_
      refine lv_i2l hx hb dL_law_752 rfl ?_
      refine W.lcmp hx hb dL_law_753 ?_
      refine W.eq (g2 := F0 m 754 ls [.int 0]) (by rw [hf c_4, e2 c_4, lg_self]) ?_
      refine lv_if_eq (tgt := 759) hx hb dL_law_754 (by decide) (fun c_5 => ?_) (fun c_5 => absurd ((by decide : (0 : Int32) = 0)) c_5)
      refine lv_goto (tgt := 1574) hx hb dL_law_759 (by decide) ?_
      refine W.widen (k := cells + 6) (n := slots + 36) (by omega) (by omega) ?_
      exact kk H locs (if kFinish σ (xs (7 * k + 1)) = 0 then gFinish σ (xs (7 * k + 1)) false else σ) (hFinish τ (xs (7 * k + 1)) false) ls ⟨hC, hPM, ⟨_, hO⟩, hS, hL2⟩ (lv_sub hl [2, 3, 4, 5, 6] rfl)
  · refine lv_iconst (v := 1) hx hb dL_law_694 (by decide) ?_
    refine lv_goto (tgt := 699) hx hb dL_law_695 (by decide) ?_
    refine lv_aload_n hx hb dL_law_699 rfl (lv_at hl 4 rfl) ?_
    obtain ⟨e1, e2, hL2⟩ := k_finish hLI (xs (7 * k + 1)) true
    refine lMi (fun q h => h.elim (fun ⟨j, h1, h2⟩ => by rw [h2]; exact hgA j h1) (fun h2 => by rw [h2]; exact hgO)) (vx_runSW (As := [.ref (ad 0), .int (xs (7 * k + 1)), .int 1, .ref ob]) (rest := []) ⟨hx, hb, hml, hown, hts⟩ (c_L_finish l hst D cy ad hj σ s.heap.size ob hno f (xs (7 * k + 1)) true) (vx_cwSW 4 hts gL_law_L_finish rfl rfl rfl (by decide +kernel) ⟨Nat.le_of_ble_eq_true rfl, Nat.le_of_ble_eq_true rfl⟩) ⟨lx_bl, lx_at hC hK hxk hS hO⟩ rfl rfl hl.1 rfl (lv_room (Nat.le_of_ble_eq_true rfl)) dL_law_700 ⟨by show _ ≤ 644319; omega, by show _ ≤ 7163146; omega⟩) hS (fun H locs hPW hS hk1 => ?_)
    obtain ⟨hC, f1, hO, hf⟩ := hPW
    have hPM := hPM.apart hk1 (wM_no (fun j h => fun z => z.elim (fun ⟨i, h1, h2⟩ => hdj i j h1 h h2.symm) (fun z => hnm j h z)))
    refine W.eq (g2 := F0 m 703 ls [.int (kFinish σ (xs (7 * k + 1)))]) rfl ?_
    refine lv_istore (lv' := [(5, .int (kFinish σ (xs (7 * k + 1)))), (4, .int (nI (7 * k))), (0, .ref b), (1, .ref (ad 0)), (2, .ref (bd 0)), (3, .ref ob)]) hx hb dL_law_703 hl (by decide) rfl (fun ls hl => ?_)
    refine lv_aload_n hx hb dL_law_705 rfl (lv_at hl 4 rfl) ?_
    refine lv_aload_n hx hb dL_law_706 rfl (lv_at hl 2 rfl) ?_
    refine lv_iload hx hb dL_law_707 (lv_at hl 1 rfl) ?_
    refine lv_iconst (v := 1) hx hb dL_law_709 (by decide) ?_
    refine lv_iadd hx hb dL_law_710 ?_
    refine W.eq (g2 := F0 m 711 ls [.int (nI (7 * k + 1)), .ref b, .ref (bd 0)]) (by rw [show (1 : Int32) = nI 1 from rfl, nI_add]) ?_
    refine sld hx hb hX hbl hS (show 7 * k + 1 < L by omega) hL9 dL_law_711 ?_
    refine lv_aload_n hx hb dL_law_712 rfl (lv_at hl 2 rfl) ?_
    refine lv_iload hx hb dL_law_713 (lv_at hl 1 rfl) ?_
    refine lv_iconst (v := 2) hx hb dL_law_715 (by decide) ?_
    refine lv_iadd hx hb dL_law_716 ?_
    refine W.eq (g2 := F0 m 717 ls [.int (nI (7 * k + 2)), .ref b, .int (xs (7 * k + 1)), .ref (bd 0)]) (by rw [show (2 : Int32) = nI 2 from rfl, nI_add]) ?_
    refine sld hx hb hX hbl hS (show 7 * k + 2 < L by omega) hL9 dL_law_717 ?_
    refine lv_if_eq (tgt := 725) hx hb dL_law_718 (by decide) (fun c_6 => absurd c_6 (c_1)) (fun c_6 => ?_)
    refine lv_iconst (v := 1) hx hb dL_law_721 (by decide) ?_
    refine lv_goto (tgt := 726) hx hb dL_law_722 (by decide) ?_
    refine lMi (fun q ⟨j, h1, h2⟩ => by rw [h2]; exact hgB j h1) (va_runV (As := [.int (xs (7 * k + 1)), .int 1]) (rest := []) ⟨hx, hb, hml, hown, hts⟩ (c_X4_finish l D cy bd hjm τ (xs (7 * k + 1)) true hLI.wb hLI.fi) (cwV 2 hts gL_law_X4_finish rfl rfl rfl (by decide +kernel) ⟨Nat.le_of_ble_eq_true rfl, Nat.le_of_ble_eq_true rfl⟩) ⟨mw_bl, mw_O hPM hK, mw_at hPM hK⟩ rfl rfl hl.1 rfl (lv_room (Nat.le_of_ble_eq_true rfl)) dL_law_726 ⟨by show _ ≤ 644319; omega, by show _ ≤ 7163146; omega⟩) hS (fun H locs hPM hS hk1 => ?_)
    have hC := hC.apart hk1 (wC_no (fun i h => fun ⟨j, h1, h2⟩ => hdj i j h h1 h2))
    have hO := hO.apart hk1 (oW_no2 (fun ⟨j, h1, h2⟩ => hnm j h1 h2.symm))
    refine W.eq (g2 := F0 m 729 ls [.int (qFinish τ (xs (7 * k + 1)) true)]) rfl ?_
    refine lv_istore (lv' := [(6, .int (qFinish τ (xs (7 * k + 1)) true)), (5, .int (kFinish σ (xs (7 * k + 1)))), (4, .int (nI (7 * k))), (0, .ref b), (1, .ref (ad 0)), (2, .ref (bd 0)), (3, .ref ob)]) hx hb dL_law_729 hl (by decide) rfl (fun ls hl => ?_)
    refine lv_aload_n hx hb dL_law_731 rfl (lv_at hl 5 rfl) ?_
    refine cS (W.runV (As := []) (rest := []) ⟨hx, hb, hml, hown, hts⟩ (c_X4_thrown l D cy bd (hFinish τ (xs (7 * k + 1)) true)) (cwV 0 hts gL_law_X4_thrown rfl rfl rfl (by decide +kernel) ⟨Nat.le_of_ble_eq_true rfl, Nat.le_of_ble_eq_true rfl⟩) ⟨mw_bl, mw_O hPM hK, mw_at hPM hK⟩ rfl rfl hl.1 rfl (lv_room (Nat.le_of_ble_eq_true rfl)) dL_law_732 ⟨by show _ ≤ 644319; omega, by show _ ≤ 7163146; omega⟩) (fun _ _ => ?_)
    refine W.eq (g2 := F0 m 735 ls [.int ((hFinish τ (xs (7 * k + 1)) true) 0 25)]) rfl ?_
    refine lv_iload hx hb dL_law_735 (lv_at hl 1 rfl) ?_
    refine lv_icmp_eq (tgt := 742) hx hb dL_law_737 (by decide) (fun c_7 => ?_) (fun c_7 => absurd (e1) c_7)
    refine lv_iload hx hb dL_law_742 (lv_at hl 1 rfl) ?_
    refine lv_if_ne (tgt := 759) hx hb dL_law_744 (by decide) (fun c_8 => ?_) (fun c_8 => ?_)
    · refine lv_goto (tgt := 1574) hx hb dL_law_759 (by decide) ?_
      refine W.widen (k := cells + 6) (n := slots + 36) (by omega) (by omega) ?_
      exact kk H locs (if kFinish σ (xs (7 * k + 1)) = 0 then gFinish σ (xs (7 * k + 1)) true else σ) (hFinish τ (xs (7 * k + 1)) true) ls ⟨hC, hPM, ⟨_, hO⟩, hS, hL2⟩ (lv_sub hl [2, 3, 4, 5, 6] rfl)
    · refine lv_aload_n hx hb dL_law_747 rfl (lv_at hl 6 rfl) ?_
      refine lv_iconst (v := 0) hx hb dL_law_748 (by decide) ?_
      refine va_lald hx hb hK hO 0 4 rfl rfl (vp_in_nI (show 0 < 1 by decide) (by decide)) dL_law_749 ?_
      refine W.eq (g2 := F0 m 750 ls [.long (f1 0)]) rfl ?_
      refine lv_iload hx hb dL_law_750 (lv_at hl 0 rfl) ?_
      refine lv_i2l hx hb dL_law_752 rfl ?_
      refine W.lcmp hx hb dL_law_753 ?_
      refine W.eq (g2 := F0 m 754 ls [.int 0]) (by rw [hf c_8, e2 c_8, lg_self]) ?_
      refine lv_if_eq (tgt := 759) hx hb dL_law_754 (by decide) (fun c_9 => ?_) (fun c_9 => absurd ((by decide : (0 : Int32) = 0)) c_9)
      refine lv_goto (tgt := 1574) hx hb dL_law_759 (by decide) ?_
      refine W.widen (k := cells + 6) (n := slots + 36) (by omega) (by omega) ?_
      exact kk H locs (if kFinish σ (xs (7 * k + 1)) = 0 then gFinish σ (xs (7 * k + 1)) true else σ) (hFinish τ (xs (7 * k + 1)) true) ls ⟨hC, hPM, ⟨_, hO⟩, hS, hL2⟩ (lv_sub hl [2, 3, 4, 5, 6] rfl)
set_option maxHeartbeats 4000000 in
set_option maxRecDepth 100000 in
theorem law_c9 (C : LCtx p l s m c args b L xs D cy ad bd ob) {k n cells slots : Nat} {σ τ : Mem} {H : Heap} {locs : List Loc} {ls : Array Slot} (hk : 7 * k + 7 ≤ L) (h : LSt s D cy ad bd ob (n + 1) σ τ H locs) (hc9 : cells + 6 ≤ 644319) (hs9 : slots + 36 ≤ 7163146) (hl : lv_has ls 7 (lvL b ad bd ob k))
    (kk : ∀ (H : Heap) (locs : List Loc) (σ τ : Mem) (ls : Array Slot), LSt s D cy ad bd ob n σ τ H locs → lv_has ls 7 (lvL b ad bd ob k) → W p l e room_1 s m args below meth c H locs (cells + 6) (slots + 36) Q (F0 m 1574 ls [])) : W p l e room_1 s m args below meth c H locs cells slots Q (F0 m 762 ls []) := by
  obtain ⟨hx, hb, hml, hown, hts, hX, hbl, hL9, hK, hxk, hst, hj, hjm, hno, hnm, hdj, hgA, hgB, hgO⟩ := C
  obtain ⟨hC, hPM, ⟨f, hO⟩, hS, hLI⟩ := h
  refine lv_aload_n hx hb dL_law_762 rfl (lv_at hl 2 rfl) ?_
  refine lv_aload_n hx hb dL_law_763 rfl (lv_at hl 1 rfl) ?_
  refine lv_iload hx hb dL_law_764 (lv_at hl 0 rfl) ?_
  refine lv_iconst (v := 1) hx hb dL_law_766 (by decide) ?_
  refine lv_iadd hx hb dL_law_767 ?_
  refine W.eq (g2 := F0 m 768 ls [.int (nI (7 * k + 1)), .ref b, .ref (ad 0)]) (by rw [show (1 : Int32) = nI 1 from rfl, nI_add]) ?_
  refine sld hx hb hX hbl hS (show 7 * k + 1 < L by omega) hL9 dL_law_768 ?_
  refine lv_aload_n hx hb dL_law_769 rfl (lv_at hl 1 rfl) ?_
  refine lv_iload hx hb dL_law_770 (lv_at hl 0 rfl) ?_
  refine lv_iconst (v := 2) hx hb dL_law_772 (by decide) ?_
  refine lv_iadd hx hb dL_law_773 ?_
  refine W.eq (g2 := F0 m 774 ls [.int (nI (7 * k + 2)), .ref b, .int (xs (7 * k + 1)), .ref (ad 0)]) (by rw [show (2 : Int32) = nI 2 from rfl, nI_add]) ?_
  refine sld hx hb hX hbl hS (show 7 * k + 2 < L by omega) hL9 dL_law_774 ?_
  obtain ⟨e1, hL2⟩ := k_retire hLI (xs (7 * k + 1)) (xs (7 * k + 2))
  refine lMi (fun q ⟨j, h1, h2⟩ => by rw [h2]; exact hgA j h1) (vx_runSW (As := [.ref (ad 0), .int (xs (7 * k + 1)), .int (xs (7 * k + 2))]) (rest := []) ⟨hx, hb, hml, hown, hts⟩ (c_L_retire l hst D cy ad hj σ s.heap.size (xs (7 * k + 1)) (xs (7 * k + 2))) (vx_cwSW 3 hts gL_law_L_retire rfl rfl rfl (by decide +kernel) ⟨Nat.le_of_ble_eq_true rfl, Nat.le_of_ble_eq_true rfl⟩) ⟨cx_bl, cx_atH hC hK hxk hS⟩ rfl rfl hl.1 rfl (lv_room (Nat.le_of_ble_eq_true rfl)) dL_law_775 ⟨by show _ ≤ 644319; omega, by show _ ≤ 7163146; omega⟩) hS (fun H locs hPW hS hk1 => ?_)
  have hC := hPW
  have hPM := hPM.apart hk1 (wM_no (fun j h => fun ⟨i, h1, h2⟩ => hdj i j h1 h h2.symm))
  have hO := hO.apart hk1 (oW_no2 (fun ⟨i, h1, h2⟩ => hno i h1 h2.symm))
  refine W.eq (g2 := F0 m 778 ls [.int (kRetire σ (xs (7 * k + 1)) (xs (7 * k + 2)))]) rfl ?_
  refine lv_istore (lv' := [(5, .int (kRetire σ (xs (7 * k + 1)) (xs (7 * k + 2)))), (4, .int (nI (7 * k))), (0, .ref b), (1, .ref (ad 0)), (2, .ref (bd 0)), (3, .ref ob)]) hx hb dL_law_778 hl (by decide) rfl (fun ls hl => ?_)
  refine lv_aload_n hx hb dL_law_780 rfl (lv_at hl 4 rfl) ?_
  refine lv_aload_n hx hb dL_law_781 rfl (lv_at hl 2 rfl) ?_
  refine lv_iload hx hb dL_law_782 (lv_at hl 1 rfl) ?_
  refine lv_iconst (v := 1) hx hb dL_law_784 (by decide) ?_
  refine lv_iadd hx hb dL_law_785 ?_
  refine W.eq (g2 := F0 m 786 ls [.int (nI (7 * k + 1)), .ref b, .ref (bd 0)]) (by rw [show (1 : Int32) = nI 1 from rfl, nI_add]) ?_
  refine sld hx hb hX hbl hS (show 7 * k + 1 < L by omega) hL9 dL_law_786 ?_
  refine lv_aload_n hx hb dL_law_787 rfl (lv_at hl 2 rfl) ?_
  refine lv_iload hx hb dL_law_788 (lv_at hl 1 rfl) ?_
  refine lv_iconst (v := 2) hx hb dL_law_790 (by decide) ?_
  refine lv_iadd hx hb dL_law_791 ?_
  refine W.eq (g2 := F0 m 792 ls [.int (nI (7 * k + 2)), .ref b, .int (xs (7 * k + 1)), .ref (bd 0)]) (by rw [show (2 : Int32) = nI 2 from rfl, nI_add]) ?_
  refine sld hx hb hX hbl hS (show 7 * k + 2 < L by omega) hL9 dL_law_792 ?_
  refine lMv (fun q ⟨j, h1, h2⟩ => by rw [h2]; exact hgB j h1) (va_runV (As := [.int (xs (7 * k + 1)), .int (xs (7 * k + 2))]) (rest := []) ⟨hx, hb, hml, hown, hts⟩ (c_X4_retire l D cy bd hjm τ (xs (7 * k + 1)) (xs (7 * k + 2)) hLI.wb hLI.fi) (cwV 2 hts gL_law_X4_retire rfl rfl rfl (by decide +kernel) ⟨Nat.le_of_ble_eq_true rfl, Nat.le_of_ble_eq_true rfl⟩) ⟨mw_bl, mw_O hPM hK, mw_at hPM hK⟩ rfl rfl hl.1 rfl (lv_room (Nat.le_of_ble_eq_true rfl)) dL_law_793 ⟨by show _ ≤ 644319; omega, by show _ ≤ 7163146; omega⟩) hS (fun H locs hPM hS hk1 => ?_)
  have hC := hC.apart hk1 (wC_no (fun i h => fun ⟨j, h1, h2⟩ => hdj i j h h1 h2))
  have hO := hO.apart hk1 (oW_no2 (fun ⟨j, h1, h2⟩ => hnm j h1 h2.symm))
  refine W.eq (g2 := F0 m 796 ls []) rfl ?_
  refine lv_aload_n hx hb dL_law_796 rfl (lv_at hl 4 rfl) ?_
  refine cS (W.runV (As := []) (rest := []) ⟨hx, hb, hml, hown, hts⟩ (c_X4_thrown l D cy bd (hRetire τ (xs (7 * k + 1)) (xs (7 * k + 2)))) (cwV 0 hts gL_law_X4_thrown rfl rfl rfl (by decide +kernel) ⟨Nat.le_of_ble_eq_true rfl, Nat.le_of_ble_eq_true rfl⟩) ⟨mw_bl, mw_O hPM hK, mw_at hPM hK⟩ rfl rfl hl.1 rfl (lv_room (Nat.le_of_ble_eq_true rfl)) dL_law_797 ⟨by show _ ≤ 644319; omega, by show _ ≤ 7163146; omega⟩) (fun _ _ => ?_)
  refine W.eq (g2 := F0 m 800 ls [.int ((hRetire τ (xs (7 * k + 1)) (xs (7 * k + 2))) 0 25)]) rfl ?_
  refine lv_iload hx hb dL_law_800 (lv_at hl 0 rfl) ?_
  refine lv_icmp_eq (tgt := 807) hx hb dL_law_802 (by decide) (fun c_1 => ?_) (fun c_1 => absurd (e1) c_1)
  refine lv_goto (tgt := 1574) hx hb dL_law_807 (by decide) ?_
  refine W.widen (k := cells + 6) (n := slots + 36) (by omega) (by omega) ?_
  exact kk H locs (if kRetire σ (xs (7 * k + 1)) (xs (7 * k + 2)) = 0 then gRetire σ (xs (7 * k + 1)) (xs (7 * k + 2)) else σ) (hRetire τ (xs (7 * k + 1)) (xs (7 * k + 2))) ls ⟨hC, hPM, ⟨_, hO⟩, hS, hL2⟩ (lv_sub hl [1, 2, 3, 4, 5] rfl)
set_option maxHeartbeats 4000000 in
set_option maxRecDepth 100000 in
theorem law_c10 (C : LCtx p l s m c args b L xs D cy ad bd ob) {k n cells slots : Nat} {σ τ : Mem} {H : Heap} {locs : List Loc} {ls : Array Slot} (hk : 7 * k + 7 ≤ L) (h : LSt s D cy ad bd ob (n + 1) σ τ H locs) (hc9 : cells + 6 ≤ 644319) (hs9 : slots + 36 ≤ 7163146) (hl : lv_has ls 7 (lvL b ad bd ob k))
    (kk : ∀ (H : Heap) (locs : List Loc) (σ τ : Mem) (ls : Array Slot), LSt s D cy ad bd ob n σ τ H locs → lv_has ls 7 (lvL b ad bd ob k) → W p l e room_1 s m args below meth c H locs (cells + 6) (slots + 36) Q (F0 m 1574 ls [])) : W p l e room_1 s m args below meth c H locs cells slots Q (F0 m 810 ls []) := by
  obtain ⟨hx, hb, hml, hown, hts, hX, hbl, hL9, hK, hxk, hst, hj, hjm, hno, hnm, hdj, hgA, hgB, hgO⟩ := C
  obtain ⟨hC, hPM, ⟨f, hO⟩, hS, hLI⟩ := h
  refine lv_aload_n hx hb dL_law_810 rfl (lv_at hl 2 rfl) ?_
  refine lv_aload_n hx hb dL_law_811 rfl (lv_at hl 1 rfl) ?_
  refine lv_iload hx hb dL_law_812 (lv_at hl 0 rfl) ?_
  refine lv_iconst (v := 1) hx hb dL_law_814 (by decide) ?_
  refine lv_iadd hx hb dL_law_815 ?_
  refine W.eq (g2 := F0 m 816 ls [.int (nI (7 * k + 1)), .ref b, .ref (ad 0)]) (by rw [show (1 : Int32) = nI 1 from rfl, nI_add]) ?_
  refine sld hx hb hX hbl hS (show 7 * k + 1 < L by omega) hL9 dL_law_816 ?_
  obtain ⟨e1, hL2⟩ := k_keep hLI (xs (7 * k + 1))
  refine lMi (fun q ⟨j, h1, h2⟩ => by rw [h2]; exact hgA j h1) (vx_runSW (As := [.ref (ad 0), .int (xs (7 * k + 1))]) (rest := []) ⟨hx, hb, hml, hown, hts⟩ (c_L_keep l hst D cy ad hj σ s.heap.size (xs (7 * k + 1))) (vx_cwSW 2 hts gL_law_L_keep rfl rfl rfl (by decide +kernel) ⟨Nat.le_of_ble_eq_true rfl, Nat.le_of_ble_eq_true rfl⟩) ⟨cx_bl, cx_atH hC hK hxk hS⟩ rfl rfl hl.1 rfl (lv_room (Nat.le_of_ble_eq_true rfl)) dL_law_817 ⟨by show _ ≤ 644319; omega, by show _ ≤ 7163146; omega⟩) hS (fun H locs hPW hS hk1 => ?_)
  have hC := hPW
  have hPM := hPM.apart hk1 (wM_no (fun j h => fun ⟨i, h1, h2⟩ => hdj i j h1 h h2.symm))
  have hO := hO.apart hk1 (oW_no2 (fun ⟨i, h1, h2⟩ => hno i h1 h2.symm))
  refine W.eq (g2 := F0 m 820 ls [.int (kKeep σ (xs (7 * k + 1)))]) rfl ?_
  refine lv_istore (lv' := [(5, .int (kKeep σ (xs (7 * k + 1)))), (4, .int (nI (7 * k))), (0, .ref b), (1, .ref (ad 0)), (2, .ref (bd 0)), (3, .ref ob)]) hx hb dL_law_820 hl (by decide) rfl (fun ls hl => ?_)
  refine lv_aload_n hx hb dL_law_822 rfl (lv_at hl 4 rfl) ?_
  refine lv_aload_n hx hb dL_law_823 rfl (lv_at hl 2 rfl) ?_
  refine lv_iload hx hb dL_law_824 (lv_at hl 1 rfl) ?_
  refine lv_iconst (v := 1) hx hb dL_law_826 (by decide) ?_
  refine lv_iadd hx hb dL_law_827 ?_
  refine W.eq (g2 := F0 m 828 ls [.int (nI (7 * k + 1)), .ref b, .ref (bd 0)]) (by rw [show (1 : Int32) = nI 1 from rfl, nI_add]) ?_
  refine sld hx hb hX hbl hS (show 7 * k + 1 < L by omega) hL9 dL_law_828 ?_
  refine lMv (fun q ⟨j, h1, h2⟩ => by rw [h2]; exact hgB j h1) (va_runV (As := [.int (xs (7 * k + 1))]) (rest := []) ⟨hx, hb, hml, hown, hts⟩ (c_X4_keep l D cy bd hjm τ (xs (7 * k + 1)) hLI.wb hLI.fi) (cwV 1 hts gL_law_X4_keep rfl rfl rfl (by decide +kernel) ⟨Nat.le_of_ble_eq_true rfl, Nat.le_of_ble_eq_true rfl⟩) ⟨mw_bl, mw_O hPM hK, mw_at hPM hK⟩ rfl rfl hl.1 rfl (lv_room (Nat.le_of_ble_eq_true rfl)) dL_law_829 ⟨by show _ ≤ 644319; omega, by show _ ≤ 7163146; omega⟩) hS (fun H locs hPM hS hk1 => ?_)
  have hC := hC.apart hk1 (wC_no (fun i h => fun ⟨j, h1, h2⟩ => hdj i j h h1 h2))
  have hO := hO.apart hk1 (oW_no2 (fun ⟨j, h1, h2⟩ => hnm j h1 h2.symm))
  refine W.eq (g2 := F0 m 832 ls []) rfl ?_
  refine lv_aload_n hx hb dL_law_832 rfl (lv_at hl 4 rfl) ?_
  refine cS (W.runV (As := []) (rest := []) ⟨hx, hb, hml, hown, hts⟩ (c_X4_thrown l D cy bd (hKeep τ (xs (7 * k + 1)))) (cwV 0 hts gL_law_X4_thrown rfl rfl rfl (by decide +kernel) ⟨Nat.le_of_ble_eq_true rfl, Nat.le_of_ble_eq_true rfl⟩) ⟨mw_bl, mw_O hPM hK, mw_at hPM hK⟩ rfl rfl hl.1 rfl (lv_room (Nat.le_of_ble_eq_true rfl)) dL_law_833 ⟨by show _ ≤ 644319; omega, by show _ ≤ 7163146; omega⟩) (fun _ _ => ?_)
  refine W.eq (g2 := F0 m 836 ls [.int ((hKeep τ (xs (7 * k + 1))) 0 25)]) rfl ?_
  refine lv_iload hx hb dL_law_836 (lv_at hl 0 rfl) ?_
  refine lv_icmp_eq (tgt := 843) hx hb dL_law_838 (by decide) (fun c_1 => ?_) (fun c_1 => absurd (e1) c_1)
  refine lv_goto (tgt := 1574) hx hb dL_law_843 (by decide) ?_
  refine W.widen (k := cells + 6) (n := slots + 36) (by omega) (by omega) ?_
  exact kk H locs (if kKeep σ (xs (7 * k + 1)) = 0 then gKeep σ (xs (7 * k + 1)) else σ) (hKeep τ (xs (7 * k + 1))) ls ⟨hC, hPM, ⟨_, hO⟩, hS, hL2⟩ (lv_sub hl [1, 2, 3, 4, 5] rfl)
set_option maxHeartbeats 4000000 in
set_option maxRecDepth 100000 in
theorem law_c11 (C : LCtx p l s m c args b L xs D cy ad bd ob) {k n cells slots : Nat} {σ τ : Mem} {H : Heap} {locs : List Loc} {ls : Array Slot} (hk : 7 * k + 7 ≤ L) (h : LSt s D cy ad bd ob (n + 1) σ τ H locs) (hc9 : cells + 6 ≤ 644319) (hs9 : slots + 36 ≤ 7163146) (hl : lv_has ls 7 (lvL b ad bd ob k))
    (kk : ∀ (H : Heap) (locs : List Loc) (σ τ : Mem) (ls : Array Slot), LSt s D cy ad bd ob n σ τ H locs → lv_has ls 7 (lvL b ad bd ob k) → W p l e room_1 s m args below meth c H locs (cells + 6) (slots + 36) Q (F0 m 1574 ls [])) : W p l e room_1 s m args below meth c H locs cells slots Q (F0 m 846 ls []) := by
  obtain ⟨hx, hb, hml, hown, hts, hX, hbl, hL9, hK, hxk, hst, hj, hjm, hno, hnm, hdj, hgA, hgB, hgO⟩ := C
  obtain ⟨hC, hPM, ⟨f, hO⟩, hS, hLI⟩ := h
  refine lv_aload_n hx hb dL_law_846 rfl (lv_at hl 2 rfl) ?_
  refine lv_aload_n hx hb dL_law_847 rfl (lv_at hl 1 rfl) ?_
  refine lv_iload hx hb dL_law_848 (lv_at hl 0 rfl) ?_
  refine lv_iconst (v := 1) hx hb dL_law_850 (by decide) ?_
  refine lv_iadd hx hb dL_law_851 ?_
  refine W.eq (g2 := F0 m 852 ls [.int (nI (7 * k + 1)), .ref b, .ref (ad 0)]) (by rw [show (1 : Int32) = nI 1 from rfl, nI_add]) ?_
  refine sld hx hb hX hbl hS (show 7 * k + 1 < L by omega) hL9 dL_law_852 ?_
  obtain ⟨e1, hL2⟩ := k_release hLI (xs (7 * k + 1))
  refine lMi (fun q ⟨j, h1, h2⟩ => by rw [h2]; exact hgA j h1) (vx_runSW (As := [.ref (ad 0), .int (xs (7 * k + 1))]) (rest := []) ⟨hx, hb, hml, hown, hts⟩ (c_L_release l hst D cy ad hj σ s.heap.size (xs (7 * k + 1))) (vx_cwSW 2 hts gL_law_L_release rfl rfl rfl (by decide +kernel) ⟨Nat.le_of_ble_eq_true rfl, Nat.le_of_ble_eq_true rfl⟩) ⟨cx_bl, cx_atH hC hK hxk hS⟩ rfl rfl hl.1 rfl (lv_room (Nat.le_of_ble_eq_true rfl)) dL_law_853 ⟨by show _ ≤ 644319; omega, by show _ ≤ 7163146; omega⟩) hS (fun H locs hPW hS hk1 => ?_)
  have hC := hPW
  have hPM := hPM.apart hk1 (wM_no (fun j h => fun ⟨i, h1, h2⟩ => hdj i j h1 h h2.symm))
  have hO := hO.apart hk1 (oW_no2 (fun ⟨i, h1, h2⟩ => hno i h1 h2.symm))
  refine W.eq (g2 := F0 m 856 ls [.int (kRelease σ (xs (7 * k + 1)))]) rfl ?_
  refine lv_istore (lv' := [(5, .int (kRelease σ (xs (7 * k + 1)))), (4, .int (nI (7 * k))), (0, .ref b), (1, .ref (ad 0)), (2, .ref (bd 0)), (3, .ref ob)]) hx hb dL_law_856 hl (by decide) rfl (fun ls hl => ?_)
  refine lv_aload_n hx hb dL_law_858 rfl (lv_at hl 4 rfl) ?_
  refine lv_aload_n hx hb dL_law_859 rfl (lv_at hl 2 rfl) ?_
  refine lv_iload hx hb dL_law_860 (lv_at hl 1 rfl) ?_
  refine lv_iconst (v := 1) hx hb dL_law_862 (by decide) ?_
  refine lv_iadd hx hb dL_law_863 ?_
  refine W.eq (g2 := F0 m 864 ls [.int (nI (7 * k + 1)), .ref b, .ref (bd 0)]) (by rw [show (1 : Int32) = nI 1 from rfl, nI_add]) ?_
  refine sld hx hb hX hbl hS (show 7 * k + 1 < L by omega) hL9 dL_law_864 ?_
  refine lMv (fun q ⟨j, h1, h2⟩ => by rw [h2]; exact hgB j h1) (va_runV (As := [.int (xs (7 * k + 1))]) (rest := []) ⟨hx, hb, hml, hown, hts⟩ (c_X4_release l D cy bd hjm τ (xs (7 * k + 1)) hLI.wb hLI.fi) (cwV 1 hts gL_law_X4_release rfl rfl rfl (by decide +kernel) ⟨Nat.le_of_ble_eq_true rfl, Nat.le_of_ble_eq_true rfl⟩) ⟨mw_bl, mw_O hPM hK, mw_at hPM hK⟩ rfl rfl hl.1 rfl (lv_room (Nat.le_of_ble_eq_true rfl)) dL_law_865 ⟨by show _ ≤ 644319; omega, by show _ ≤ 7163146; omega⟩) hS (fun H locs hPM hS hk1 => ?_)
  have hC := hC.apart hk1 (wC_no (fun i h => fun ⟨j, h1, h2⟩ => hdj i j h h1 h2))
  have hO := hO.apart hk1 (oW_no2 (fun ⟨j, h1, h2⟩ => hnm j h1 h2.symm))
  refine W.eq (g2 := F0 m 868 ls []) rfl ?_
  refine lv_aload_n hx hb dL_law_868 rfl (lv_at hl 4 rfl) ?_
  refine cS (W.runV (As := []) (rest := []) ⟨hx, hb, hml, hown, hts⟩ (c_X4_thrown l D cy bd (hRelease τ (xs (7 * k + 1)))) (cwV 0 hts gL_law_X4_thrown rfl rfl rfl (by decide +kernel) ⟨Nat.le_of_ble_eq_true rfl, Nat.le_of_ble_eq_true rfl⟩) ⟨mw_bl, mw_O hPM hK, mw_at hPM hK⟩ rfl rfl hl.1 rfl (lv_room (Nat.le_of_ble_eq_true rfl)) dL_law_869 ⟨by show _ ≤ 644319; omega, by show _ ≤ 7163146; omega⟩) (fun _ _ => ?_)
  refine W.eq (g2 := F0 m 872 ls [.int ((hRelease τ (xs (7 * k + 1))) 0 25)]) rfl ?_
  refine lv_iload hx hb dL_law_872 (lv_at hl 0 rfl) ?_
  refine lv_icmp_eq (tgt := 879) hx hb dL_law_874 (by decide) (fun c_1 => ?_) (fun c_1 => absurd (e1) c_1)
  refine lv_goto (tgt := 1574) hx hb dL_law_879 (by decide) ?_
  refine W.widen (k := cells + 6) (n := slots + 36) (by omega) (by omega) ?_
  exact kk H locs (if kRelease σ (xs (7 * k + 1)) = 0 then gRelease σ (xs (7 * k + 1)) else σ) (hRelease τ (xs (7 * k + 1))) ls ⟨hC, hPM, ⟨_, hO⟩, hS, hL2⟩ (lv_sub hl [1, 2, 3, 4, 5] rfl)
set_option maxHeartbeats 4000000 in
set_option maxRecDepth 100000 in
theorem law_c12 (C : LCtx p l s m c args b L xs D cy ad bd ob) {k n cells slots : Nat} {σ τ : Mem} {H : Heap} {locs : List Loc} {ls : Array Slot} (hk : 7 * k + 7 ≤ L) (h : LSt s D cy ad bd ob (n + 1) σ τ H locs) (hc9 : cells + 6 ≤ 644319) (hs9 : slots + 36 ≤ 7163146) (hl : lv_has ls 7 (lvL b ad bd ob k))
    (kk : ∀ (H : Heap) (locs : List Loc) (σ τ : Mem) (ls : Array Slot), LSt s D cy ad bd ob n σ τ H locs → lv_has ls 7 (lvL b ad bd ob k) → W p l e room_1 s m args below meth c H locs (cells + 6) (slots + 36) Q (F0 m 1574 ls [])) : W p l e room_1 s m args below meth c H locs cells slots Q (F0 m 882 ls []) := by
  obtain ⟨hx, hb, hml, hown, hts, hX, hbl, hL9, hK, hxk, hst, hj, hjm, hno, hnm, hdj, hgA, hgB, hgO⟩ := C
  obtain ⟨hC, hPM, ⟨f, hO⟩, hS, hLI⟩ := h
  refine lv_aload_n hx hb dL_law_882 rfl (lv_at hl 2 rfl) ?_
  refine lv_aload_n hx hb dL_law_883 rfl (lv_at hl 1 rfl) ?_
  refine lv_iload hx hb dL_law_884 (lv_at hl 0 rfl) ?_
  refine lv_iconst (v := 1) hx hb dL_law_886 (by decide) ?_
  refine lv_iadd hx hb dL_law_887 ?_
  refine W.eq (g2 := F0 m 888 ls [.int (nI (7 * k + 1)), .ref b, .ref (ad 0)]) (by rw [show (1 : Int32) = nI 1 from rfl, nI_add]) ?_
  refine sld hx hb hX hbl hS (show 7 * k + 1 < L by omega) hL9 dL_law_888 ?_
  refine lv_aload_n hx hb dL_law_889 rfl (lv_at hl 4 rfl) ?_
  obtain ⟨e1, e2, hL2⟩ := k_advance hLI (xs (7 * k + 1))
  refine lMi (fun q h => h.elim (fun ⟨j, h1, h2⟩ => by rw [h2]; exact hgA j h1) (fun h2 => by rw [h2]; exact hgO)) (vx_runSW (As := [.ref (ad 0), .int (xs (7 * k + 1)), .ref ob]) (rest := []) ⟨hx, hb, hml, hown, hts⟩ (c_L_advance l hst D cy ad hj σ s.heap.size ob hno f (xs (7 * k + 1))) (vx_cwSW 3 hts gL_law_L_advance rfl rfl rfl (by decide +kernel) ⟨Nat.le_of_ble_eq_true rfl, Nat.le_of_ble_eq_true rfl⟩) ⟨lx_bl, lx_at hC hK hxk hS hO⟩ rfl rfl hl.1 rfl (lv_room (Nat.le_of_ble_eq_true rfl)) dL_law_890 ⟨by show _ ≤ 644319; omega, by show _ ≤ 7163146; omega⟩) hS (fun H locs hPW hS hk1 => ?_)
  obtain ⟨hC, f1, hO, hf⟩ := hPW
  have hPM := hPM.apart hk1 (wM_no (fun j h => fun z => z.elim (fun ⟨i, h1, h2⟩ => hdj i j h1 h h2.symm) (fun z => hnm j h z)))
  refine W.eq (g2 := F0 m 893 ls [.int (kAdvance (xs (7 * k + 1)))]) rfl ?_
  refine lv_istore (lv' := [(5, .int (kAdvance (xs (7 * k + 1)))), (4, .int (nI (7 * k))), (0, .ref b), (1, .ref (ad 0)), (2, .ref (bd 0)), (3, .ref ob)]) hx hb dL_law_893 hl (by decide) rfl (fun ls hl => ?_)
  refine lv_aload_n hx hb dL_law_895 rfl (lv_at hl 4 rfl) ?_
  refine lv_aload_n hx hb dL_law_896 rfl (lv_at hl 2 rfl) ?_
  refine lv_iload hx hb dL_law_897 (lv_at hl 1 rfl) ?_
  refine lv_iconst (v := 1) hx hb dL_law_899 (by decide) ?_
  refine lv_iadd hx hb dL_law_900 ?_
  refine W.eq (g2 := F0 m 901 ls [.int (nI (7 * k + 1)), .ref b, .ref (bd 0)]) (by rw [show (1 : Int32) = nI 1 from rfl, nI_add]) ?_
  refine sld hx hb hX hbl hS (show 7 * k + 1 < L by omega) hL9 dL_law_901 ?_
  refine lMi (fun q ⟨j, h1, h2⟩ => by rw [h2]; exact hgB j h1) (va_runV (As := [.int (xs (7 * k + 1))]) (rest := []) ⟨hx, hb, hml, hown, hts⟩ (c_X4_advance l D cy bd hjm τ (xs (7 * k + 1)) hLI.wb hLI.fi) (cwV 1 hts gL_law_X4_advance rfl rfl rfl (by decide +kernel) ⟨Nat.le_of_ble_eq_true rfl, Nat.le_of_ble_eq_true rfl⟩) ⟨mw_bl, mw_O hPM hK, mw_at hPM hK⟩ rfl rfl hl.1 rfl (lv_room (Nat.le_of_ble_eq_true rfl)) dL_law_902 ⟨by show _ ≤ 644319; omega, by show _ ≤ 7163146; omega⟩) hS (fun H locs hPM hS hk1 => ?_)
  have hC := hC.apart hk1 (wC_no (fun i h => fun ⟨j, h1, h2⟩ => hdj i j h h1 h2))
  have hO := hO.apart hk1 (oW_no2 (fun ⟨j, h1, h2⟩ => hnm j h1 h2.symm))
  refine W.eq (g2 := F0 m 905 ls [.int (qAdvance τ (xs (7 * k + 1)))]) rfl ?_
  refine lv_istore (lv' := [(6, .int (qAdvance τ (xs (7 * k + 1)))), (5, .int (kAdvance (xs (7 * k + 1)))), (4, .int (nI (7 * k))), (0, .ref b), (1, .ref (ad 0)), (2, .ref (bd 0)), (3, .ref ob)]) hx hb dL_law_905 hl (by decide) rfl (fun ls hl => ?_)
  refine lv_aload_n hx hb dL_law_907 rfl (lv_at hl 5 rfl) ?_
  refine cS (W.runV (As := []) (rest := []) ⟨hx, hb, hml, hown, hts⟩ (c_X4_thrown l D cy bd (hAdvance τ (xs (7 * k + 1)))) (cwV 0 hts gL_law_X4_thrown rfl rfl rfl (by decide +kernel) ⟨Nat.le_of_ble_eq_true rfl, Nat.le_of_ble_eq_true rfl⟩) ⟨mw_bl, mw_O hPM hK, mw_at hPM hK⟩ rfl rfl hl.1 rfl (lv_room (Nat.le_of_ble_eq_true rfl)) dL_law_908 ⟨by show _ ≤ 644319; omega, by show _ ≤ 7163146; omega⟩) (fun _ _ => ?_)
  refine W.eq (g2 := F0 m 911 ls [.int ((hAdvance τ (xs (7 * k + 1))) 0 25)]) rfl ?_
  refine lv_iload hx hb dL_law_911 (lv_at hl 1 rfl) ?_
  refine lv_icmp_eq (tgt := 918) hx hb dL_law_913 (by decide) (fun c_1 => ?_) (fun c_1 => absurd (e1) c_1)
  refine lv_iload hx hb dL_law_918 (lv_at hl 1 rfl) ?_
  refine lv_if_ne (tgt := 935) hx hb dL_law_920 (by decide) (fun c_2 => ?_) (fun c_2 => ?_)
  · refine lv_goto (tgt := 1574) hx hb dL_law_935 (by decide) ?_
    refine W.widen (k := cells + 6) (n := slots + 36) (by omega) (by omega) ?_
    exact kk H locs (if kAdvance (xs (7 * k + 1)) = 0 then gAdvance σ (xs (7 * k + 1)) else σ) (hAdvance τ (xs (7 * k + 1))) ls ⟨hC, hPM, ⟨_, hO⟩, hS, hL2⟩ (lv_sub hl [2, 3, 4, 5, 6] rfl)
  · refine lv_aload_n hx hb dL_law_923 rfl (lv_at hl 6 rfl) ?_
    refine lv_iconst (v := 0) hx hb dL_law_924 (by decide) ?_
    refine va_lald hx hb hK hO 0 4 rfl rfl (vp_in_nI (show 0 < 1 by decide) (by decide)) dL_law_925 ?_
    refine W.eq (g2 := F0 m 926 ls [.long (f1 0)]) rfl ?_
    refine lv_iload hx hb dL_law_926 (lv_at hl 0 rfl) ?_
    refine lv_i2l hx hb dL_law_928 rfl ?_
    refine W.lcmp hx hb dL_law_929 ?_
    refine W.eq (g2 := F0 m 930 ls [.int 0]) (by rw [hf c_2, e2 c_2, lg_self]) ?_
    refine lv_if_eq (tgt := 935) hx hb dL_law_930 (by decide) (fun c_3 => ?_) (fun c_3 => absurd ((by decide : (0 : Int32) = 0)) c_3)
    refine lv_goto (tgt := 1574) hx hb dL_law_935 (by decide) ?_
    refine W.widen (k := cells + 6) (n := slots + 36) (by omega) (by omega) ?_
    exact kk H locs (if kAdvance (xs (7 * k + 1)) = 0 then gAdvance σ (xs (7 * k + 1)) else σ) (hAdvance τ (xs (7 * k + 1))) ls ⟨hC, hPM, ⟨_, hO⟩, hS, hL2⟩ (lv_sub hl [2, 3, 4, 5, 6] rfl)
set_option maxHeartbeats 4000000 in
set_option maxRecDepth 100000 in
theorem law_c13 (C : LCtx p l s m c args b L xs D cy ad bd ob) {k n cells slots : Nat} {σ τ : Mem} {H : Heap} {locs : List Loc} {ls : Array Slot} (hk : 7 * k + 7 ≤ L) (h : LSt s D cy ad bd ob (n + 1) σ τ H locs) (hc9 : cells + 6 ≤ 644319) (hs9 : slots + 36 ≤ 7163146) (hl : lv_has ls 7 (lvL b ad bd ob k))
    (kk : ∀ (H : Heap) (locs : List Loc) (σ τ : Mem) (ls : Array Slot), LSt s D cy ad bd ob n σ τ H locs → lv_has ls 7 (lvL b ad bd ob k) → W p l e room_1 s m args below meth c H locs (cells + 6) (slots + 36) Q (F0 m 1574 ls [])) : W p l e room_1 s m args below meth c H locs cells slots Q (F0 m 938 ls []) := by
  obtain ⟨hx, hb, hml, hown, hts, hX, hbl, hL9, hK, hxk, hst, hj, hjm, hno, hnm, hdj, hgA, hgB, hgO⟩ := C
  obtain ⟨hC, hPM, ⟨f, hO⟩, hS, hLI⟩ := h
  refine lv_aload_n hx hb dL_law_938 rfl (lv_at hl 2 rfl) ?_
  obtain ⟨e1, hL2⟩ := k_now hLI
  refine cS (W.runV (As := []) (rest := []) ⟨hx, hb, hml, hown, hts⟩ (c_X3_now l D cy ad σ) (cwV 0 hts gL_law_X3_now rfl rfl rfl (by decide +kernel) ⟨Nat.le_of_ble_eq_true rfl, Nat.le_of_ble_eq_true rfl⟩) ⟨cw_bl, cw_F hC hK, cw_at hC hK⟩ rfl rfl hl.1 rfl (lv_room (Nat.le_of_ble_eq_true rfl)) dL_law_939 ⟨by show _ ≤ 644319; omega, by show _ ≤ 7163146; omega⟩) (fun _ _ => ?_)
  refine W.eq (g2 := F0 m 942 ls [.int (σ 20 6)]) rfl ?_
  refine lv_aload_n hx hb dL_law_942 rfl (lv_at hl 3 rfl) ?_
  refine lMi (fun q ⟨j, h1, h2⟩ => by rw [h2]; exact hgB j h1) (va_runV (As := []) (rest := [.int (σ 20 6)]) ⟨hx, hb, hml, hown, hts⟩ (c_X4_now l D cy bd hjm τ ) (cwV 0 hts gL_law_X4_now rfl rfl rfl (by decide +kernel) ⟨Nat.le_of_ble_eq_true rfl, Nat.le_of_ble_eq_true rfl⟩) ⟨mw_bl, mw_O hPM hK, mw_at hPM hK⟩ rfl rfl hl.1 rfl (lv_room (Nat.le_of_ble_eq_true rfl)) dL_law_943 ⟨by show _ ≤ 644319; omega, by show _ ≤ 7163146; omega⟩) hS (fun H locs hPM hS hk1 => ?_)
  have hC := hC.apart hk1 (wC_no (fun i h => fun ⟨j, h1, h2⟩ => hdj i j h h1 h2))
  have hO := hO.apart hk1 (oW_no2 (fun ⟨j, h1, h2⟩ => hnm j h1 h2.symm))
  refine W.eq (g2 := F0 m 946 ls [.int (τ 0 0), .int (σ 20 6)]) rfl ?_
  refine lv_icmp_eq (tgt := 1574) hx hb dL_law_946 (by decide) (fun c_1 => ?_) (fun c_1 => absurd (e1) c_1)
  refine W.widen (k := cells + 6) (n := slots + 36) (by omega) (by omega) ?_
  exact kk H locs σ (tTold τ) ls ⟨hC, hPM, ⟨_, hO⟩, hS, hL2⟩ (lv_sub hl [0, 1, 2, 3, 4] rfl)
set_option maxHeartbeats 4000000 in
set_option maxRecDepth 100000 in
theorem law_c14 (C : LCtx p l s m c args b L xs D cy ad bd ob) {k n cells slots : Nat} {σ τ : Mem} {H : Heap} {locs : List Loc} {ls : Array Slot} (hk : 7 * k + 7 ≤ L) (h : LSt s D cy ad bd ob (n + 1) σ τ H locs) (hc9 : cells + 6 ≤ 644319) (hs9 : slots + 36 ≤ 7163146) (hl : lv_has ls 7 (lvL b ad bd ob k))
    (kk : ∀ (H : Heap) (locs : List Loc) (σ τ : Mem) (ls : Array Slot), LSt s D cy ad bd ob n σ τ H locs → lv_has ls 7 (lvL b ad bd ob k) → W p l e room_1 s m args below meth c H locs (cells + 6) (slots + 36) Q (F0 m 1574 ls [])) : W p l e room_1 s m args below meth c H locs cells slots Q (F0 m 951 ls []) := by
  obtain ⟨hx, hb, hml, hown, hts, hX, hbl, hL9, hK, hxk, hst, hj, hjm, hno, hnm, hdj, hgA, hgB, hgO⟩ := C
  obtain ⟨hC, hPM, ⟨f, hO⟩, hS, hLI⟩ := h
  refine lv_aload_n hx hb dL_law_951 rfl (lv_at hl 2 rfl) ?_
  refine lv_aload_n hx hb dL_law_952 rfl (lv_at hl 1 rfl) ?_
  refine lv_iload hx hb dL_law_953 (lv_at hl 0 rfl) ?_
  refine lv_iconst (v := 1) hx hb dL_law_955 (by decide) ?_
  refine lv_iadd hx hb dL_law_956 ?_
  refine W.eq (g2 := F0 m 957 ls [.int (nI (7 * k + 1)), .ref b, .ref (ad 0)]) (by rw [show (1 : Int32) = nI 1 from rfl, nI_add]) ?_
  refine sld hx hb hX hbl hS (show 7 * k + 1 < L by omega) hL9 dL_law_957 ?_
  refine lv_aload_n hx hb dL_law_958 rfl (lv_at hl 4 rfl) ?_
  obtain ⟨e1, e2, hL2⟩ := k_stateOf hLI (xs (7 * k + 1))
  refine lMi (fun q h => h.elim (fun ⟨j, h1, h2⟩ => by rw [h2]; exact hgA j h1) (fun h2 => by rw [h2]; exact hgO)) (vx_runSW (As := [.ref (ad 0), .int (xs (7 * k + 1)), .ref ob]) (rest := []) ⟨hx, hb, hml, hown, hts⟩ (c_L_stateOf l hst D cy ad hj σ s.heap.size ob hno f (xs (7 * k + 1))) (vx_cwSW 3 hts gL_law_L_stateOf rfl rfl rfl (by decide +kernel) ⟨Nat.le_of_ble_eq_true rfl, Nat.le_of_ble_eq_true rfl⟩) ⟨lx_bl, lx_at hC hK hxk hS hO⟩ rfl rfl hl.1 rfl (lv_room (Nat.le_of_ble_eq_true rfl)) dL_law_959 ⟨by show _ ≤ 644319; omega, by show _ ≤ 7163146; omega⟩) hS (fun H locs hPW hS hk1 => ?_)
  obtain ⟨hC, f1, hO, hf⟩ := hPW
  have hPM := hPM.apart hk1 (wM_no (fun j h => fun z => z.elim (fun ⟨i, h1, h2⟩ => hdj i j h1 h h2.symm) (fun z => hnm j h z)))
  refine W.eq (g2 := F0 m 962 ls [.int (kM (xs (7 * k + 1)))]) rfl ?_
  refine lv_istore (lv' := [(5, .int (kM (xs (7 * k + 1)))), (4, .int (nI (7 * k))), (0, .ref b), (1, .ref (ad 0)), (2, .ref (bd 0)), (3, .ref ob)]) hx hb dL_law_962 hl (by decide) rfl (fun ls hl => ?_)
  refine lv_aload_n hx hb dL_law_964 rfl (lv_at hl 4 rfl) ?_
  refine lv_aload_n hx hb dL_law_965 rfl (lv_at hl 2 rfl) ?_
  refine lv_iload hx hb dL_law_966 (lv_at hl 1 rfl) ?_
  refine lv_iconst (v := 1) hx hb dL_law_968 (by decide) ?_
  refine lv_iadd hx hb dL_law_969 ?_
  refine W.eq (g2 := F0 m 970 ls [.int (nI (7 * k + 1)), .ref b, .ref (bd 0)]) (by rw [show (1 : Int32) = nI 1 from rfl, nI_add]) ?_
  refine sld hx hb hX hbl hS (show 7 * k + 1 < L by omega) hL9 dL_law_970 ?_
  refine lMi (fun q ⟨j, h1, h2⟩ => by rw [h2]; exact hgB j h1) (va_runV (As := [.int (xs (7 * k + 1))]) (rest := []) ⟨hx, hb, hml, hown, hts⟩ (c_X4_stateOf l D cy bd hjm τ (xs (7 * k + 1))) (cwV 1 hts gL_law_X4_stateOf rfl rfl rfl (by decide +kernel) ⟨Nat.le_of_ble_eq_true rfl, Nat.le_of_ble_eq_true rfl⟩) ⟨mw_bl, mw_O hPM hK, mw_at hPM hK⟩ rfl rfl hl.1 rfl (lv_room (Nat.le_of_ble_eq_true rfl)) dL_law_971 ⟨by show _ ≤ 644319; omega, by show _ ≤ 7163146; omega⟩) hS (fun H locs hPM hS hk1 => ?_)
  have hC := hC.apart hk1 (wC_no (fun i h => fun ⟨j, h1, h2⟩ => hdj i j h h1 h2))
  have hO := hO.apart hk1 (oW_no2 (fun ⟨j, h1, h2⟩ => hnm j h1 h2.symm))
  refine W.eq (g2 := F0 m 974 ls [.int (qM τ (xs (7 * k + 1)) (τ 5 (ix (xs (7 * k + 1)))))]) rfl ?_
  refine lv_istore (lv' := [(6, .int (qM τ (xs (7 * k + 1)) (τ 5 (ix (xs (7 * k + 1)))))), (5, .int (kM (xs (7 * k + 1)))), (4, .int (nI (7 * k))), (0, .ref b), (1, .ref (ad 0)), (2, .ref (bd 0)), (3, .ref ob)]) hx hb dL_law_974 hl (by decide) rfl (fun ls hl => ?_)
  refine lv_aload_n hx hb dL_law_976 rfl (lv_at hl 5 rfl) ?_
  refine cS (W.runV (As := []) (rest := []) ⟨hx, hb, hml, hown, hts⟩ (c_X4_thrown l D cy bd (hM τ (xs (7 * k + 1)))) (cwV 0 hts gL_law_X4_thrown rfl rfl rfl (by decide +kernel) ⟨Nat.le_of_ble_eq_true rfl, Nat.le_of_ble_eq_true rfl⟩) ⟨mw_bl, mw_O hPM hK, mw_at hPM hK⟩ rfl rfl hl.1 rfl (lv_room (Nat.le_of_ble_eq_true rfl)) dL_law_977 ⟨by show _ ≤ 644319; omega, by show _ ≤ 7163146; omega⟩) (fun _ _ => ?_)
  refine W.eq (g2 := F0 m 980 ls [.int ((hM τ (xs (7 * k + 1))) 0 25)]) rfl ?_
  refine lv_iload hx hb dL_law_980 (lv_at hl 1 rfl) ?_
  refine lv_icmp_eq (tgt := 987) hx hb dL_law_982 (by decide) (fun c_1 => ?_) (fun c_1 => absurd (e1) c_1)
  refine lv_iload hx hb dL_law_987 (lv_at hl 1 rfl) ?_
  refine lv_if_ne (tgt := 1004) hx hb dL_law_989 (by decide) (fun c_2 => ?_) (fun c_2 => ?_)
  · refine lv_goto (tgt := 1574) hx hb dL_law_1004 (by decide) ?_
    refine W.widen (k := cells + 6) (n := slots + 36) (by omega) (by omega) ?_
    exact kk H locs σ (hM τ (xs (7 * k + 1))) ls ⟨hC, hPM, ⟨_, hO⟩, hS, hL2⟩ (lv_sub hl [2, 3, 4, 5, 6] rfl)
  · refine lv_aload_n hx hb dL_law_992 rfl (lv_at hl 6 rfl) ?_
    refine lv_iconst (v := 0) hx hb dL_law_993 (by decide) ?_
    refine va_lald hx hb hK hO 0 4 rfl rfl (vp_in_nI (show 0 < 1 by decide) (by decide)) dL_law_994 ?_
    refine W.eq (g2 := F0 m 995 ls [.long (f1 0)]) rfl ?_
    refine lv_iload hx hb dL_law_995 (lv_at hl 0 rfl) ?_
    refine lv_i2l hx hb dL_law_997 rfl ?_
    refine W.lcmp hx hb dL_law_998 ?_
    refine W.eq (g2 := F0 m 999 ls [.int 0]) (by rw [hf c_2, e2 c_2, lg_self]) ?_
    refine lv_if_eq (tgt := 1004) hx hb dL_law_999 (by decide) (fun c_3 => ?_) (fun c_3 => absurd ((by decide : (0 : Int32) = 0)) c_3)
    refine lv_goto (tgt := 1574) hx hb dL_law_1004 (by decide) ?_
    refine W.widen (k := cells + 6) (n := slots + 36) (by omega) (by omega) ?_
    exact kk H locs σ (hM τ (xs (7 * k + 1))) ls ⟨hC, hPM, ⟨_, hO⟩, hS, hL2⟩ (lv_sub hl [2, 3, 4, 5, 6] rfl)
set_option maxHeartbeats 4000000 in
set_option maxRecDepth 100000 in
theorem law_c15 (C : LCtx p l s m c args b L xs D cy ad bd ob) {k n cells slots : Nat} {σ τ : Mem} {H : Heap} {locs : List Loc} {ls : Array Slot} (hk : 7 * k + 7 ≤ L) (h : LSt s D cy ad bd ob (n + 1) σ τ H locs) (hc9 : cells + 6 ≤ 644319) (hs9 : slots + 36 ≤ 7163146) (hl : lv_has ls 7 (lvL b ad bd ob k))
    (kk : ∀ (H : Heap) (locs : List Loc) (σ τ : Mem) (ls : Array Slot), LSt s D cy ad bd ob n σ τ H locs → lv_has ls 7 (lvL b ad bd ob k) → W p l e room_1 s m args below meth c H locs (cells + 6) (slots + 36) Q (F0 m 1574 ls [])) : W p l e room_1 s m args below meth c H locs cells slots Q (F0 m 1007 ls []) := by
  obtain ⟨hx, hb, hml, hown, hts, hX, hbl, hL9, hK, hxk, hst, hj, hjm, hno, hnm, hdj, hgA, hgB, hgO⟩ := C
  obtain ⟨hC, hPM, ⟨f, hO⟩, hS, hLI⟩ := h
  refine lv_aload_n hx hb dL_law_1007 rfl (lv_at hl 2 rfl) ?_
  refine lv_aload_n hx hb dL_law_1008 rfl (lv_at hl 1 rfl) ?_
  refine lv_iload hx hb dL_law_1009 (lv_at hl 0 rfl) ?_
  refine lv_iconst (v := 1) hx hb dL_law_1011 (by decide) ?_
  refine lv_iadd hx hb dL_law_1012 ?_
  refine W.eq (g2 := F0 m 1013 ls [.int (nI (7 * k + 1)), .ref b, .ref (ad 0)]) (by rw [show (1 : Int32) = nI 1 from rfl, nI_add]) ?_
  refine sld hx hb hX hbl hS (show 7 * k + 1 < L by omega) hL9 dL_law_1013 ?_
  refine lv_aload_n hx hb dL_law_1014 rfl (lv_at hl 4 rfl) ?_
  obtain ⟨e1, e2, hL2⟩ := k_reason hLI (xs (7 * k + 1))
  refine lMi (fun q h => h.elim (fun ⟨j, h1, h2⟩ => by rw [h2]; exact hgA j h1) (fun h2 => by rw [h2]; exact hgO)) (vx_runSW (As := [.ref (ad 0), .int (xs (7 * k + 1)), .ref ob]) (rest := []) ⟨hx, hb, hml, hown, hts⟩ (c_L_reason l hst D cy ad hj σ s.heap.size ob hno f (xs (7 * k + 1))) (vx_cwSW 3 hts gL_law_L_reason rfl rfl rfl (by decide +kernel) ⟨Nat.le_of_ble_eq_true rfl, Nat.le_of_ble_eq_true rfl⟩) ⟨lx_bl, lx_at hC hK hxk hS hO⟩ rfl rfl hl.1 rfl (lv_room (Nat.le_of_ble_eq_true rfl)) dL_law_1015 ⟨by show _ ≤ 644319; omega, by show _ ≤ 7163146; omega⟩) hS (fun H locs hPW hS hk1 => ?_)
  obtain ⟨hC, f1, hO, hf⟩ := hPW
  have hPM := hPM.apart hk1 (wM_no (fun j h => fun z => z.elim (fun ⟨i, h1, h2⟩ => hdj i j h1 h h2.symm) (fun z => hnm j h z)))
  refine W.eq (g2 := F0 m 1018 ls [.int (kM (xs (7 * k + 1)))]) rfl ?_
  refine lv_istore (lv' := [(5, .int (kM (xs (7 * k + 1)))), (4, .int (nI (7 * k))), (0, .ref b), (1, .ref (ad 0)), (2, .ref (bd 0)), (3, .ref ob)]) hx hb dL_law_1018 hl (by decide) rfl (fun ls hl => ?_)
  refine lv_aload_n hx hb dL_law_1020 rfl (lv_at hl 4 rfl) ?_
  refine lv_aload_n hx hb dL_law_1021 rfl (lv_at hl 2 rfl) ?_
  refine lv_iload hx hb dL_law_1022 (lv_at hl 1 rfl) ?_
  refine lv_iconst (v := 1) hx hb dL_law_1024 (by decide) ?_
  refine lv_iadd hx hb dL_law_1025 ?_
  refine W.eq (g2 := F0 m 1026 ls [.int (nI (7 * k + 1)), .ref b, .ref (bd 0)]) (by rw [show (1 : Int32) = nI 1 from rfl, nI_add]) ?_
  refine sld hx hb hX hbl hS (show 7 * k + 1 < L by omega) hL9 dL_law_1026 ?_
  refine lMi (fun q ⟨j, h1, h2⟩ => by rw [h2]; exact hgB j h1) (va_runV (As := [.int (xs (7 * k + 1))]) (rest := []) ⟨hx, hb, hml, hown, hts⟩ (c_X4_reason l D cy bd hjm τ (xs (7 * k + 1))) (cwV 1 hts gL_law_X4_reason rfl rfl rfl (by decide +kernel) ⟨Nat.le_of_ble_eq_true rfl, Nat.le_of_ble_eq_true rfl⟩) ⟨mw_bl, mw_O hPM hK, mw_at hPM hK⟩ rfl rfl hl.1 rfl (lv_room (Nat.le_of_ble_eq_true rfl)) dL_law_1027 ⟨by show _ ≤ 644319; omega, by show _ ≤ 7163146; omega⟩) hS (fun H locs hPM hS hk1 => ?_)
  have hC := hC.apart hk1 (wC_no (fun i h => fun ⟨j, h1, h2⟩ => hdj i j h h1 h2))
  have hO := hO.apart hk1 (oW_no2 (fun ⟨j, h1, h2⟩ => hnm j h1 h2.symm))
  refine W.eq (g2 := F0 m 1030 ls [.int (qM τ (xs (7 * k + 1)) (tWhy τ (ix (xs (7 * k + 1)))))]) rfl ?_
  refine lv_istore (lv' := [(6, .int (qM τ (xs (7 * k + 1)) (tWhy τ (ix (xs (7 * k + 1)))))), (5, .int (kM (xs (7 * k + 1)))), (4, .int (nI (7 * k))), (0, .ref b), (1, .ref (ad 0)), (2, .ref (bd 0)), (3, .ref ob)]) hx hb dL_law_1030 hl (by decide) rfl (fun ls hl => ?_)
  refine lv_aload_n hx hb dL_law_1032 rfl (lv_at hl 5 rfl) ?_
  refine cS (W.runV (As := []) (rest := []) ⟨hx, hb, hml, hown, hts⟩ (c_X4_thrown l D cy bd (hM τ (xs (7 * k + 1)))) (cwV 0 hts gL_law_X4_thrown rfl rfl rfl (by decide +kernel) ⟨Nat.le_of_ble_eq_true rfl, Nat.le_of_ble_eq_true rfl⟩) ⟨mw_bl, mw_O hPM hK, mw_at hPM hK⟩ rfl rfl hl.1 rfl (lv_room (Nat.le_of_ble_eq_true rfl)) dL_law_1033 ⟨by show _ ≤ 644319; omega, by show _ ≤ 7163146; omega⟩) (fun _ _ => ?_)
  refine W.eq (g2 := F0 m 1036 ls [.int ((hM τ (xs (7 * k + 1))) 0 25)]) rfl ?_
  refine lv_iload hx hb dL_law_1036 (lv_at hl 1 rfl) ?_
  refine lv_icmp_eq (tgt := 1043) hx hb dL_law_1038 (by decide) (fun c_1 => ?_) (fun c_1 => absurd (e1) c_1)
  refine lv_iload hx hb dL_law_1043 (lv_at hl 1 rfl) ?_
  refine lv_if_ne (tgt := 1060) hx hb dL_law_1045 (by decide) (fun c_2 => ?_) (fun c_2 => ?_)
  · refine lv_goto (tgt := 1574) hx hb dL_law_1060 (by decide) ?_
    refine W.widen (k := cells + 6) (n := slots + 36) (by omega) (by omega) ?_
    exact kk H locs σ (hM τ (xs (7 * k + 1))) ls ⟨hC, hPM, ⟨_, hO⟩, hS, hL2⟩ (lv_sub hl [2, 3, 4, 5, 6] rfl)
  · refine lv_aload_n hx hb dL_law_1048 rfl (lv_at hl 6 rfl) ?_
    refine lv_iconst (v := 0) hx hb dL_law_1049 (by decide) ?_
    refine va_lald hx hb hK hO 0 4 rfl rfl (vp_in_nI (show 0 < 1 by decide) (by decide)) dL_law_1050 ?_
    refine W.eq (g2 := F0 m 1051 ls [.long (f1 0)]) rfl ?_
    refine lv_iload hx hb dL_law_1051 (lv_at hl 0 rfl) ?_
    refine lv_i2l hx hb dL_law_1053 rfl ?_
    refine W.lcmp hx hb dL_law_1054 ?_
    refine W.eq (g2 := F0 m 1055 ls [.int 0]) (by rw [hf c_2, e2 c_2, lg_self]) ?_
    refine lv_if_eq (tgt := 1060) hx hb dL_law_1055 (by decide) (fun c_3 => ?_) (fun c_3 => absurd ((by decide : (0 : Int32) = 0)) c_3)
    refine lv_goto (tgt := 1574) hx hb dL_law_1060 (by decide) ?_
    refine W.widen (k := cells + 6) (n := slots + 36) (by omega) (by omega) ?_
    exact kk H locs σ (hM τ (xs (7 * k + 1))) ls ⟨hC, hPM, ⟨_, hO⟩, hS, hL2⟩ (lv_sub hl [2, 3, 4, 5, 6] rfl)
set_option maxHeartbeats 4000000 in
set_option maxRecDepth 100000 in
theorem law_c16 (C : LCtx p l s m c args b L xs D cy ad bd ob) {k n cells slots : Nat} {σ τ : Mem} {H : Heap} {locs : List Loc} {ls : Array Slot} (hk : 7 * k + 7 ≤ L) (h : LSt s D cy ad bd ob (n + 1) σ τ H locs) (hc9 : cells + 6 ≤ 644319) (hs9 : slots + 36 ≤ 7163146) (hl : lv_has ls 7 (lvL b ad bd ob k))
    (kk : ∀ (H : Heap) (locs : List Loc) (σ τ : Mem) (ls : Array Slot), LSt s D cy ad bd ob n σ τ H locs → lv_has ls 7 (lvL b ad bd ob k) → W p l e room_1 s m args below meth c H locs (cells + 6) (slots + 36) Q (F0 m 1574 ls [])) : W p l e room_1 s m args below meth c H locs cells slots Q (F0 m 1063 ls []) := by
  obtain ⟨hx, hb, hml, hown, hts, hX, hbl, hL9, hK, hxk, hst, hj, hjm, hno, hnm, hdj, hgA, hgB, hgO⟩ := C
  obtain ⟨hC, hPM, ⟨f, hO⟩, hS, hLI⟩ := h
  refine lv_aload_n hx hb dL_law_1063 rfl (lv_at hl 2 rfl) ?_
  refine lv_aload_n hx hb dL_law_1064 rfl (lv_at hl 1 rfl) ?_
  refine lv_iload hx hb dL_law_1065 (lv_at hl 0 rfl) ?_
  refine lv_iconst (v := 1) hx hb dL_law_1067 (by decide) ?_
  refine lv_iadd hx hb dL_law_1068 ?_
  refine W.eq (g2 := F0 m 1069 ls [.int (nI (7 * k + 1)), .ref b, .ref (ad 0)]) (by rw [show (1 : Int32) = nI 1 from rfl, nI_add]) ?_
  refine sld hx hb hX hbl hS (show 7 * k + 1 < L by omega) hL9 dL_law_1069 ?_
  refine lv_aload_n hx hb dL_law_1070 rfl (lv_at hl 4 rfl) ?_
  obtain ⟨e1, e2, hL2⟩ := k_matchOf hLI (xs (7 * k + 1))
  refine lMi (fun q h => h.elim (fun ⟨j, h1, h2⟩ => by rw [h2]; exact hgA j h1) (fun h2 => by rw [h2]; exact hgO)) (vx_runSW (As := [.ref (ad 0), .int (xs (7 * k + 1)), .ref ob]) (rest := []) ⟨hx, hb, hml, hown, hts⟩ (c_L_matchOf l hst D cy ad hj σ s.heap.size ob hno f (xs (7 * k + 1))) (vx_cwSW 3 hts gL_law_L_matchOf rfl rfl rfl (by decide +kernel) ⟨Nat.le_of_ble_eq_true rfl, Nat.le_of_ble_eq_true rfl⟩) ⟨lx_bl, lx_at hC hK hxk hS hO⟩ rfl rfl hl.1 rfl (lv_room (Nat.le_of_ble_eq_true rfl)) dL_law_1071 ⟨by show _ ≤ 644319; omega, by show _ ≤ 7163146; omega⟩) hS (fun H locs hPW hS hk1 => ?_)
  obtain ⟨hC, f1, hO, hf⟩ := hPW
  have hPM := hPM.apart hk1 (wM_no (fun j h => fun z => z.elim (fun ⟨i, h1, h2⟩ => hdj i j h1 h h2.symm) (fun z => hnm j h z)))
  refine W.eq (g2 := F0 m 1074 ls [.int (kM (xs (7 * k + 1)))]) rfl ?_
  refine lv_istore (lv' := [(5, .int (kM (xs (7 * k + 1)))), (4, .int (nI (7 * k))), (0, .ref b), (1, .ref (ad 0)), (2, .ref (bd 0)), (3, .ref ob)]) hx hb dL_law_1074 hl (by decide) rfl (fun ls hl => ?_)
  refine lv_aload_n hx hb dL_law_1076 rfl (lv_at hl 4 rfl) ?_
  refine lv_aload_n hx hb dL_law_1077 rfl (lv_at hl 2 rfl) ?_
  refine lv_iload hx hb dL_law_1078 (lv_at hl 1 rfl) ?_
  refine lv_iconst (v := 1) hx hb dL_law_1080 (by decide) ?_
  refine lv_iadd hx hb dL_law_1081 ?_
  refine W.eq (g2 := F0 m 1082 ls [.int (nI (7 * k + 1)), .ref b, .ref (bd 0)]) (by rw [show (1 : Int32) = nI 1 from rfl, nI_add]) ?_
  refine sld hx hb hX hbl hS (show 7 * k + 1 < L by omega) hL9 dL_law_1082 ?_
  refine lMi (fun q ⟨j, h1, h2⟩ => by rw [h2]; exact hgB j h1) (va_runV (As := [.int (xs (7 * k + 1))]) (rest := []) ⟨hx, hb, hml, hown, hts⟩ (c_X4_matchOf l D cy bd hjm τ (xs (7 * k + 1))) (cwV 1 hts gL_law_X4_matchOf rfl rfl rfl (by decide +kernel) ⟨Nat.le_of_ble_eq_true rfl, Nat.le_of_ble_eq_true rfl⟩) ⟨mw_bl, mw_O hPM hK, mw_at hPM hK⟩ rfl rfl hl.1 rfl (lv_room (Nat.le_of_ble_eq_true rfl)) dL_law_1083 ⟨by show _ ≤ 644319; omega, by show _ ≤ 7163146; omega⟩) hS (fun H locs hPM hS hk1 => ?_)
  have hC := hC.apart hk1 (wC_no (fun i h => fun ⟨j, h1, h2⟩ => hdj i j h h1 h2))
  have hO := hO.apart hk1 (oW_no2 (fun ⟨j, h1, h2⟩ => hnm j h1 h2.symm))
  refine W.eq (g2 := F0 m 1086 ls [.int (qM τ (xs (7 * k + 1)) (oI (tBst τ (ix (xs (7 * k + 1))))))]) rfl ?_
  refine lv_istore (lv' := [(6, .int (qM τ (xs (7 * k + 1)) (oI (tBst τ (ix (xs (7 * k + 1))))))), (5, .int (kM (xs (7 * k + 1)))), (4, .int (nI (7 * k))), (0, .ref b), (1, .ref (ad 0)), (2, .ref (bd 0)), (3, .ref ob)]) hx hb dL_law_1086 hl (by decide) rfl (fun ls hl => ?_)
  refine lv_aload_n hx hb dL_law_1088 rfl (lv_at hl 5 rfl) ?_
  refine cS (W.runV (As := []) (rest := []) ⟨hx, hb, hml, hown, hts⟩ (c_X4_thrown l D cy bd (hM τ (xs (7 * k + 1)))) (cwV 0 hts gL_law_X4_thrown rfl rfl rfl (by decide +kernel) ⟨Nat.le_of_ble_eq_true rfl, Nat.le_of_ble_eq_true rfl⟩) ⟨mw_bl, mw_O hPM hK, mw_at hPM hK⟩ rfl rfl hl.1 rfl (lv_room (Nat.le_of_ble_eq_true rfl)) dL_law_1089 ⟨by show _ ≤ 644319; omega, by show _ ≤ 7163146; omega⟩) (fun _ _ => ?_)
  refine W.eq (g2 := F0 m 1092 ls [.int ((hM τ (xs (7 * k + 1))) 0 25)]) rfl ?_
  refine lv_iload hx hb dL_law_1092 (lv_at hl 1 rfl) ?_
  refine lv_icmp_eq (tgt := 1099) hx hb dL_law_1094 (by decide) (fun c_1 => ?_) (fun c_1 => absurd (e1) c_1)
  refine lv_iload hx hb dL_law_1099 (lv_at hl 1 rfl) ?_
  refine lv_if_ne (tgt := 1116) hx hb dL_law_1101 (by decide) (fun c_2 => ?_) (fun c_2 => ?_)
  · refine lv_goto (tgt := 1574) hx hb dL_law_1116 (by decide) ?_
    refine W.widen (k := cells + 6) (n := slots + 36) (by omega) (by omega) ?_
    exact kk H locs σ (hM τ (xs (7 * k + 1))) ls ⟨hC, hPM, ⟨_, hO⟩, hS, hL2⟩ (lv_sub hl [2, 3, 4, 5, 6] rfl)
  · refine lv_aload_n hx hb dL_law_1104 rfl (lv_at hl 6 rfl) ?_
    refine lv_iconst (v := 0) hx hb dL_law_1105 (by decide) ?_
    refine va_lald hx hb hK hO 0 4 rfl rfl (vp_in_nI (show 0 < 1 by decide) (by decide)) dL_law_1106 ?_
    refine W.eq (g2 := F0 m 1107 ls [.long (f1 0)]) rfl ?_
    refine lv_iload hx hb dL_law_1107 (lv_at hl 0 rfl) ?_
    refine lv_i2l hx hb dL_law_1109 rfl ?_
    refine W.lcmp hx hb dL_law_1110 ?_
    refine W.eq (g2 := F0 m 1111 ls [.int 0]) (by rw [hf c_2, e2 c_2, lg_self]) ?_
    refine lv_if_eq (tgt := 1116) hx hb dL_law_1111 (by decide) (fun c_3 => ?_) (fun c_3 => absurd ((by decide : (0 : Int32) = 0)) c_3)
    refine lv_goto (tgt := 1574) hx hb dL_law_1116 (by decide) ?_
    refine W.widen (k := cells + 6) (n := slots + 36) (by omega) (by omega) ?_
    exact kk H locs σ (hM τ (xs (7 * k + 1))) ls ⟨hC, hPM, ⟨_, hO⟩, hS, hL2⟩ (lv_sub hl [2, 3, 4, 5, 6] rfl)
set_option maxHeartbeats 4000000 in
set_option maxRecDepth 100000 in
theorem law_c17 (C : LCtx p l s m c args b L xs D cy ad bd ob) {k n cells slots : Nat} {σ τ : Mem} {H : Heap} {locs : List Loc} {ls : Array Slot} (hk : 7 * k + 7 ≤ L) (h : LSt s D cy ad bd ob (n + 1) σ τ H locs) (hc9 : cells + 6 ≤ 644319) (hs9 : slots + 36 ≤ 7163146) (hl : lv_has ls 7 (lvL b ad bd ob k))
    (kk : ∀ (H : Heap) (locs : List Loc) (σ τ : Mem) (ls : Array Slot), LSt s D cy ad bd ob n σ τ H locs → lv_has ls 7 (lvL b ad bd ob k) → W p l e room_1 s m args below meth c H locs (cells + 6) (slots + 36) Q (F0 m 1574 ls [])) : W p l e room_1 s m args below meth c H locs cells slots Q (F0 m 1119 ls []) := by
  obtain ⟨hx, hb, hml, hown, hts, hX, hbl, hL9, hK, hxk, hst, hj, hjm, hno, hnm, hdj, hgA, hgB, hgO⟩ := C
  obtain ⟨hC, hPM, ⟨f, hO⟩, hS, hLI⟩ := h
  refine lv_aload_n hx hb dL_law_1119 rfl (lv_at hl 2 rfl) ?_
  refine lv_aload_n hx hb dL_law_1120 rfl (lv_at hl 1 rfl) ?_
  refine lv_iload hx hb dL_law_1121 (lv_at hl 0 rfl) ?_
  refine lv_iconst (v := 1) hx hb dL_law_1123 (by decide) ?_
  refine lv_iadd hx hb dL_law_1124 ?_
  refine W.eq (g2 := F0 m 1125 ls [.int (nI (7 * k + 1)), .ref b, .ref (ad 0)]) (by rw [show (1 : Int32) = nI 1 from rfl, nI_add]) ?_
  refine sld hx hb hX hbl hS (show 7 * k + 1 < L by omega) hL9 dL_law_1125 ?_
  refine lv_aload_n hx hb dL_law_1126 rfl (lv_at hl 4 rfl) ?_
  obtain ⟨e1, e2, hL2⟩ := k_imageOf hLI (xs (7 * k + 1))
  refine lMi (fun q h => h.elim (fun ⟨j, h1, h2⟩ => by rw [h2]; exact hgA j h1) (fun h2 => by rw [h2]; exact hgO)) (vx_runSW (As := [.ref (ad 0), .int (xs (7 * k + 1)), .ref ob]) (rest := []) ⟨hx, hb, hml, hown, hts⟩ (c_L_imageOf l hst D cy ad hj σ s.heap.size ob hno f (xs (7 * k + 1))) (vx_cwSW 3 hts gL_law_L_imageOf rfl rfl rfl (by decide +kernel) ⟨Nat.le_of_ble_eq_true rfl, Nat.le_of_ble_eq_true rfl⟩) ⟨lx_bl, lx_at hC hK hxk hS hO⟩ rfl rfl hl.1 rfl (lv_room (Nat.le_of_ble_eq_true rfl)) dL_law_1127 ⟨by show _ ≤ 644319; omega, by show _ ≤ 7163146; omega⟩) hS (fun H locs hPW hS hk1 => ?_)
  obtain ⟨hC, f1, hO, hf⟩ := hPW
  have hPM := hPM.apart hk1 (wM_no (fun j h => fun z => z.elim (fun ⟨i, h1, h2⟩ => hdj i j h1 h h2.symm) (fun z => hnm j h z)))
  refine W.eq (g2 := F0 m 1130 ls [.int (kM (xs (7 * k + 1)))]) rfl ?_
  refine lv_istore (lv' := [(5, .int (kM (xs (7 * k + 1)))), (4, .int (nI (7 * k))), (0, .ref b), (1, .ref (ad 0)), (2, .ref (bd 0)), (3, .ref ob)]) hx hb dL_law_1130 hl (by decide) rfl (fun ls hl => ?_)
  refine lv_aload_n hx hb dL_law_1132 rfl (lv_at hl 4 rfl) ?_
  refine lv_aload_n hx hb dL_law_1133 rfl (lv_at hl 2 rfl) ?_
  refine lv_iload hx hb dL_law_1134 (lv_at hl 1 rfl) ?_
  refine lv_iconst (v := 1) hx hb dL_law_1136 (by decide) ?_
  refine lv_iadd hx hb dL_law_1137 ?_
  refine W.eq (g2 := F0 m 1138 ls [.int (nI (7 * k + 1)), .ref b, .ref (bd 0)]) (by rw [show (1 : Int32) = nI 1 from rfl, nI_add]) ?_
  refine sld hx hb hX hbl hS (show 7 * k + 1 < L by omega) hL9 dL_law_1138 ?_
  refine lMi (fun q ⟨j, h1, h2⟩ => by rw [h2]; exact hgB j h1) (va_runV (As := [.int (xs (7 * k + 1))]) (rest := []) ⟨hx, hb, hml, hown, hts⟩ (c_X4_imageOf l D cy bd hjm τ (xs (7 * k + 1))) (cwV 1 hts gL_law_X4_imageOf rfl rfl rfl (by decide +kernel) ⟨Nat.le_of_ble_eq_true rfl, Nat.le_of_ble_eq_true rfl⟩) ⟨mw_bl, mw_O hPM hK, mw_at hPM hK⟩ rfl rfl hl.1 rfl (lv_room (Nat.le_of_ble_eq_true rfl)) dL_law_1139 ⟨by show _ ≤ 644319; omega, by show _ ≤ 7163146; omega⟩) hS (fun H locs hPM hS hk1 => ?_)
  have hC := hC.apart hk1 (wC_no (fun i h => fun ⟨j, h1, h2⟩ => hdj i j h h1 h2))
  have hO := hO.apart hk1 (oW_no2 (fun ⟨j, h1, h2⟩ => hnm j h1 h2.symm))
  refine W.eq (g2 := F0 m 1142 ls [.int (qImageOf τ (xs (7 * k + 1)))]) rfl ?_
  refine lv_istore (lv' := [(6, .int (qImageOf τ (xs (7 * k + 1)))), (5, .int (kM (xs (7 * k + 1)))), (4, .int (nI (7 * k))), (0, .ref b), (1, .ref (ad 0)), (2, .ref (bd 0)), (3, .ref ob)]) hx hb dL_law_1142 hl (by decide) rfl (fun ls hl => ?_)
  refine lv_aload_n hx hb dL_law_1144 rfl (lv_at hl 5 rfl) ?_
  refine cS (W.runV (As := []) (rest := []) ⟨hx, hb, hml, hown, hts⟩ (c_X4_thrown l D cy bd (hM τ (xs (7 * k + 1)))) (cwV 0 hts gL_law_X4_thrown rfl rfl rfl (by decide +kernel) ⟨Nat.le_of_ble_eq_true rfl, Nat.le_of_ble_eq_true rfl⟩) ⟨mw_bl, mw_O hPM hK, mw_at hPM hK⟩ rfl rfl hl.1 rfl (lv_room (Nat.le_of_ble_eq_true rfl)) dL_law_1145 ⟨by show _ ≤ 644319; omega, by show _ ≤ 7163146; omega⟩) (fun _ _ => ?_)
  refine W.eq (g2 := F0 m 1148 ls [.int ((hM τ (xs (7 * k + 1))) 0 25)]) rfl ?_
  refine lv_iload hx hb dL_law_1148 (lv_at hl 1 rfl) ?_
  refine lv_icmp_eq (tgt := 1155) hx hb dL_law_1150 (by decide) (fun c_1 => ?_) (fun c_1 => absurd (e1) c_1)
  refine lv_iload hx hb dL_law_1155 (lv_at hl 1 rfl) ?_
  refine lv_if_ne (tgt := 1172) hx hb dL_law_1157 (by decide) (fun c_2 => ?_) (fun c_2 => ?_)
  · refine lv_goto (tgt := 1574) hx hb dL_law_1172 (by decide) ?_
    refine W.widen (k := cells + 6) (n := slots + 36) (by omega) (by omega) ?_
    exact kk H locs σ (hM τ (xs (7 * k + 1))) ls ⟨hC, hPM, ⟨_, hO⟩, hS, hL2⟩ (lv_sub hl [2, 3, 4, 5, 6] rfl)
  · refine lv_aload_n hx hb dL_law_1160 rfl (lv_at hl 6 rfl) ?_
    refine lv_iconst (v := 0) hx hb dL_law_1161 (by decide) ?_
    refine va_lald hx hb hK hO 0 4 rfl rfl (vp_in_nI (show 0 < 1 by decide) (by decide)) dL_law_1162 ?_
    refine W.eq (g2 := F0 m 1163 ls [.long (f1 0)]) rfl ?_
    refine lv_iload hx hb dL_law_1163 (lv_at hl 0 rfl) ?_
    refine lv_i2l hx hb dL_law_1165 rfl ?_
    refine W.lcmp hx hb dL_law_1166 ?_
    refine W.eq (g2 := F0 m 1167 ls [.int 0]) (by rw [hf c_2, e2 c_2, lg_self]) ?_
    refine lv_if_eq (tgt := 1172) hx hb dL_law_1167 (by decide) (fun c_3 => ?_) (fun c_3 => absurd ((by decide : (0 : Int32) = 0)) c_3)
    refine lv_goto (tgt := 1574) hx hb dL_law_1172 (by decide) ?_
    refine W.widen (k := cells + 6) (n := slots + 36) (by omega) (by omega) ?_
    exact kk H locs σ (hM τ (xs (7 * k + 1))) ls ⟨hC, hPM, ⟨_, hO⟩, hS, hL2⟩ (lv_sub hl [2, 3, 4, 5, 6] rfl)
set_option maxHeartbeats 4000000 in
set_option maxRecDepth 100000 in
theorem law_c18 (C : LCtx p l s m c args b L xs D cy ad bd ob) {k n cells slots : Nat} {σ τ : Mem} {H : Heap} {locs : List Loc} {ls : Array Slot} (hk : 7 * k + 7 ≤ L) (h : LSt s D cy ad bd ob (n + 1) σ τ H locs) (hc9 : cells + 6 ≤ 644319) (hs9 : slots + 36 ≤ 7163146) (hl : lv_has ls 7 (lvL b ad bd ob k))
    (kk : ∀ (H : Heap) (locs : List Loc) (σ τ : Mem) (ls : Array Slot), LSt s D cy ad bd ob n σ τ H locs → lv_has ls 7 (lvL b ad bd ob k) → W p l e room_1 s m args below meth c H locs (cells + 6) (slots + 36) Q (F0 m 1574 ls [])) : W p l e room_1 s m args below meth c H locs cells slots Q (F0 m 1175 ls []) := by
  obtain ⟨hx, hb, hml, hown, hts, hX, hbl, hL9, hK, hxk, hst, hj, hjm, hno, hnm, hdj, hgA, hgB, hgO⟩ := C
  obtain ⟨hC, hPM, ⟨f, hO⟩, hS, hLI⟩ := h
  refine lv_aload_n hx hb dL_law_1175 rfl (lv_at hl 2 rfl) ?_
  refine lv_aload_n hx hb dL_law_1176 rfl (lv_at hl 1 rfl) ?_
  refine lv_iload hx hb dL_law_1177 (lv_at hl 0 rfl) ?_
  refine lv_iconst (v := 1) hx hb dL_law_1179 (by decide) ?_
  refine lv_iadd hx hb dL_law_1180 ?_
  refine W.eq (g2 := F0 m 1181 ls [.int (nI (7 * k + 1)), .ref b, .ref (ad 0)]) (by rw [show (1 : Int32) = nI 1 from rfl, nI_add]) ?_
  refine sld hx hb hX hbl hS (show 7 * k + 1 < L by omega) hL9 dL_law_1181 ?_
  refine lv_aload_n hx hb dL_law_1182 rfl (lv_at hl 4 rfl) ?_
  obtain ⟨e1, e2, hL2⟩ := k_endOf hLI (xs (7 * k + 1))
  refine lMi (fun q h => h.elim (fun ⟨j, h1, h2⟩ => by rw [h2]; exact hgA j h1) (fun h2 => by rw [h2]; exact hgO)) (vx_runSW (As := [.ref (ad 0), .int (xs (7 * k + 1)), .ref ob]) (rest := []) ⟨hx, hb, hml, hown, hts⟩ (c_L_endOf l hst D cy ad hj σ s.heap.size ob hno f (xs (7 * k + 1))) (vx_cwSW 3 hts gL_law_L_endOf rfl rfl rfl (by decide +kernel) ⟨Nat.le_of_ble_eq_true rfl, Nat.le_of_ble_eq_true rfl⟩) ⟨lx_bl, lx_at hC hK hxk hS hO⟩ rfl rfl hl.1 rfl (lv_room (Nat.le_of_ble_eq_true rfl)) dL_law_1183 ⟨by show _ ≤ 644319; omega, by show _ ≤ 7163146; omega⟩) hS (fun H locs hPW hS hk1 => ?_)
  obtain ⟨hC, f1, hO, hf⟩ := hPW
  have hPM := hPM.apart hk1 (wM_no (fun j h => fun z => z.elim (fun ⟨i, h1, h2⟩ => hdj i j h1 h h2.symm) (fun z => hnm j h z)))
  refine W.eq (g2 := F0 m 1186 ls [.int (kM (xs (7 * k + 1)))]) rfl ?_
  refine lv_istore (lv' := [(5, .int (kM (xs (7 * k + 1)))), (4, .int (nI (7 * k))), (0, .ref b), (1, .ref (ad 0)), (2, .ref (bd 0)), (3, .ref ob)]) hx hb dL_law_1186 hl (by decide) rfl (fun ls hl => ?_)
  refine lv_aload_n hx hb dL_law_1188 rfl (lv_at hl 4 rfl) ?_
  refine lv_aload_n hx hb dL_law_1189 rfl (lv_at hl 2 rfl) ?_
  refine lv_iload hx hb dL_law_1190 (lv_at hl 1 rfl) ?_
  refine lv_iconst (v := 1) hx hb dL_law_1192 (by decide) ?_
  refine lv_iadd hx hb dL_law_1193 ?_
  refine W.eq (g2 := F0 m 1194 ls [.int (nI (7 * k + 1)), .ref b, .ref (bd 0)]) (by rw [show (1 : Int32) = nI 1 from rfl, nI_add]) ?_
  refine sld hx hb hX hbl hS (show 7 * k + 1 < L by omega) hL9 dL_law_1194 ?_
  refine lMi (fun q ⟨j, h1, h2⟩ => by rw [h2]; exact hgB j h1) (va_runV (As := [.int (xs (7 * k + 1))]) (rest := []) ⟨hx, hb, hml, hown, hts⟩ (c_X4_endOf l D cy bd hjm τ (xs (7 * k + 1))) (cwV 1 hts gL_law_X4_endOf rfl rfl rfl (by decide +kernel) ⟨Nat.le_of_ble_eq_true rfl, Nat.le_of_ble_eq_true rfl⟩) ⟨mw_bl, mw_O hPM hK, mw_at hPM hK⟩ rfl rfl hl.1 rfl (lv_room (Nat.le_of_ble_eq_true rfl)) dL_law_1195 ⟨by show _ ≤ 644319; omega, by show _ ≤ 7163146; omega⟩) hS (fun H locs hPM hS hk1 => ?_)
  have hC := hC.apart hk1 (wC_no (fun i h => fun ⟨j, h1, h2⟩ => hdj i j h h1 h2))
  have hO := hO.apart hk1 (oW_no2 (fun ⟨j, h1, h2⟩ => hnm j h1 h2.symm))
  refine W.eq (g2 := F0 m 1198 ls [.int (qEndOf τ (xs (7 * k + 1)))]) rfl ?_
  refine lv_istore (lv' := [(6, .int (qEndOf τ (xs (7 * k + 1)))), (5, .int (kM (xs (7 * k + 1)))), (4, .int (nI (7 * k))), (0, .ref b), (1, .ref (ad 0)), (2, .ref (bd 0)), (3, .ref ob)]) hx hb dL_law_1198 hl (by decide) rfl (fun ls hl => ?_)
  refine lv_aload_n hx hb dL_law_1200 rfl (lv_at hl 5 rfl) ?_
  refine cS (W.runV (As := []) (rest := []) ⟨hx, hb, hml, hown, hts⟩ (c_X4_thrown l D cy bd (hM τ (xs (7 * k + 1)))) (cwV 0 hts gL_law_X4_thrown rfl rfl rfl (by decide +kernel) ⟨Nat.le_of_ble_eq_true rfl, Nat.le_of_ble_eq_true rfl⟩) ⟨mw_bl, mw_O hPM hK, mw_at hPM hK⟩ rfl rfl hl.1 rfl (lv_room (Nat.le_of_ble_eq_true rfl)) dL_law_1201 ⟨by show _ ≤ 644319; omega, by show _ ≤ 7163146; omega⟩) (fun _ _ => ?_)
  refine W.eq (g2 := F0 m 1204 ls [.int ((hM τ (xs (7 * k + 1))) 0 25)]) rfl ?_
  refine lv_iload hx hb dL_law_1204 (lv_at hl 1 rfl) ?_
  refine lv_icmp_eq (tgt := 1211) hx hb dL_law_1206 (by decide) (fun c_1 => ?_) (fun c_1 => absurd (e1) c_1)
  refine lv_iload hx hb dL_law_1211 (lv_at hl 1 rfl) ?_
  refine lv_if_ne (tgt := 1228) hx hb dL_law_1213 (by decide) (fun c_2 => ?_) (fun c_2 => ?_)
  · refine lv_goto (tgt := 1574) hx hb dL_law_1228 (by decide) ?_
    refine W.widen (k := cells + 6) (n := slots + 36) (by omega) (by omega) ?_
    exact kk H locs σ (hM τ (xs (7 * k + 1))) ls ⟨hC, hPM, ⟨_, hO⟩, hS, hL2⟩ (lv_sub hl [2, 3, 4, 5, 6] rfl)
  · refine lv_aload_n hx hb dL_law_1216 rfl (lv_at hl 6 rfl) ?_
    refine lv_iconst (v := 0) hx hb dL_law_1217 (by decide) ?_
    refine va_lald hx hb hK hO 0 4 rfl rfl (vp_in_nI (show 0 < 1 by decide) (by decide)) dL_law_1218 ?_
    refine W.eq (g2 := F0 m 1219 ls [.long (f1 0)]) rfl ?_
    refine lv_iload hx hb dL_law_1219 (lv_at hl 0 rfl) ?_
    refine lv_i2l hx hb dL_law_1221 rfl ?_
    refine W.lcmp hx hb dL_law_1222 ?_
    refine W.eq (g2 := F0 m 1223 ls [.int 0]) (by rw [hf c_2, e2 c_2, lg_self]) ?_
    refine lv_if_eq (tgt := 1228) hx hb dL_law_1223 (by decide) (fun c_3 => ?_) (fun c_3 => absurd ((by decide : (0 : Int32) = 0)) c_3)
    refine lv_goto (tgt := 1574) hx hb dL_law_1228 (by decide) ?_
    refine W.widen (k := cells + 6) (n := slots + 36) (by omega) (by omega) ?_
    exact kk H locs σ (hM τ (xs (7 * k + 1))) ls ⟨hC, hPM, ⟨_, hO⟩, hS, hL2⟩ (lv_sub hl [2, 3, 4, 5, 6] rfl)
set_option maxHeartbeats 4000000 in
set_option maxRecDepth 100000 in
theorem law_c19 (C : LCtx p l s m c args b L xs D cy ad bd ob) {k n cells slots : Nat} {σ τ : Mem} {H : Heap} {locs : List Loc} {ls : Array Slot} (hk : 7 * k + 7 ≤ L) (h : LSt s D cy ad bd ob (n + 1) σ τ H locs) (hc9 : cells + 6 ≤ 644319) (hs9 : slots + 36 ≤ 7163146) (hl : lv_has ls 7 (lvL b ad bd ob k))
    (kk : ∀ (H : Heap) (locs : List Loc) (σ τ : Mem) (ls : Array Slot), LSt s D cy ad bd ob n σ τ H locs → lv_has ls 7 (lvL b ad bd ob k) → W p l e room_1 s m args below meth c H locs (cells + 6) (slots + 36) Q (F0 m 1574 ls [])) : W p l e room_1 s m args below meth c H locs cells slots Q (F0 m 1231 ls []) := by
  obtain ⟨hx, hb, hml, hown, hts, hX, hbl, hL9, hK, hxk, hst, hj, hjm, hno, hnm, hdj, hgA, hgB, hgO⟩ := C
  obtain ⟨hC, hPM, ⟨f, hO⟩, hS, hLI⟩ := h
  refine lv_aload_n hx hb dL_law_1231 rfl (lv_at hl 2 rfl) ?_
  refine lv_aload_n hx hb dL_law_1232 rfl (lv_at hl 1 rfl) ?_
  refine lv_iload hx hb dL_law_1233 (lv_at hl 0 rfl) ?_
  refine lv_iconst (v := 1) hx hb dL_law_1235 (by decide) ?_
  refine lv_iadd hx hb dL_law_1236 ?_
  refine W.eq (g2 := F0 m 1237 ls [.int (nI (7 * k + 1)), .ref b, .ref (ad 0)]) (by rw [show (1 : Int32) = nI 1 from rfl, nI_add]) ?_
  refine sld hx hb hX hbl hS (show 7 * k + 1 < L by omega) hL9 dL_law_1237 ?_
  refine lv_aload_n hx hb dL_law_1238 rfl (lv_at hl 4 rfl) ?_
  obtain ⟨e1, e2, hL2⟩ := k_failuresOf hLI (xs (7 * k + 1))
  refine lMi (fun q h => h.elim (fun ⟨j, h1, h2⟩ => by rw [h2]; exact hgA j h1) (fun h2 => by rw [h2]; exact hgO)) (vx_runSW (As := [.ref (ad 0), .int (xs (7 * k + 1)), .ref ob]) (rest := []) ⟨hx, hb, hml, hown, hts⟩ (c_L_failuresOf l hst D cy ad hj σ s.heap.size ob hno f (xs (7 * k + 1))) (vx_cwSW 3 hts gL_law_L_failuresOf rfl rfl rfl (by decide +kernel) ⟨Nat.le_of_ble_eq_true rfl, Nat.le_of_ble_eq_true rfl⟩) ⟨lx_bl, lx_at hC hK hxk hS hO⟩ rfl rfl hl.1 rfl (lv_room (Nat.le_of_ble_eq_true rfl)) dL_law_1239 ⟨by show _ ≤ 644319; omega, by show _ ≤ 7163146; omega⟩) hS (fun H locs hPW hS hk1 => ?_)
  obtain ⟨hC, f1, hO, hf⟩ := hPW
  have hPM := hPM.apart hk1 (wM_no (fun j h => fun z => z.elim (fun ⟨i, h1, h2⟩ => hdj i j h1 h h2.symm) (fun z => hnm j h z)))
  refine W.eq (g2 := F0 m 1242 ls [.int (kM (xs (7 * k + 1)))]) rfl ?_
  refine lv_istore (lv' := [(5, .int (kM (xs (7 * k + 1)))), (4, .int (nI (7 * k))), (0, .ref b), (1, .ref (ad 0)), (2, .ref (bd 0)), (3, .ref ob)]) hx hb dL_law_1242 hl (by decide) rfl (fun ls hl => ?_)
  refine lv_aload_n hx hb dL_law_1244 rfl (lv_at hl 4 rfl) ?_
  refine lv_aload_n hx hb dL_law_1245 rfl (lv_at hl 2 rfl) ?_
  refine lv_iload hx hb dL_law_1246 (lv_at hl 1 rfl) ?_
  refine lv_iconst (v := 1) hx hb dL_law_1248 (by decide) ?_
  refine lv_iadd hx hb dL_law_1249 ?_
  refine W.eq (g2 := F0 m 1250 ls [.int (nI (7 * k + 1)), .ref b, .ref (bd 0)]) (by rw [show (1 : Int32) = nI 1 from rfl, nI_add]) ?_
  refine sld hx hb hX hbl hS (show 7 * k + 1 < L by omega) hL9 dL_law_1250 ?_
  refine lMi (fun q ⟨j, h1, h2⟩ => by rw [h2]; exact hgB j h1) (va_runV (As := [.int (xs (7 * k + 1))]) (rest := []) ⟨hx, hb, hml, hown, hts⟩ (c_X4_failuresOf l D cy bd hjm τ (xs (7 * k + 1))) (cwV 1 hts gL_law_X4_failuresOf rfl rfl rfl (by decide +kernel) ⟨Nat.le_of_ble_eq_true rfl, Nat.le_of_ble_eq_true rfl⟩) ⟨mw_bl, mw_O hPM hK, mw_at hPM hK⟩ rfl rfl hl.1 rfl (lv_room (Nat.le_of_ble_eq_true rfl)) dL_law_1251 ⟨by show _ ≤ 644319; omega, by show _ ≤ 7163146; omega⟩) hS (fun H locs hPM hS hk1 => ?_)
  have hC := hC.apart hk1 (wC_no (fun i h => fun ⟨j, h1, h2⟩ => hdj i j h h1 h2))
  have hO := hO.apart hk1 (oW_no2 (fun ⟨j, h1, h2⟩ => hnm j h1 h2.symm))
  refine W.eq (g2 := F0 m 1254 ls [.int (qM τ (xs (7 * k + 1)) (τ 13 (ix (xs (7 * k + 1)))))]) rfl ?_
  refine lv_istore (lv' := [(6, .int (qM τ (xs (7 * k + 1)) (τ 13 (ix (xs (7 * k + 1)))))), (5, .int (kM (xs (7 * k + 1)))), (4, .int (nI (7 * k))), (0, .ref b), (1, .ref (ad 0)), (2, .ref (bd 0)), (3, .ref ob)]) hx hb dL_law_1254 hl (by decide) rfl (fun ls hl => ?_)
  refine lv_aload_n hx hb dL_law_1256 rfl (lv_at hl 5 rfl) ?_
  refine cS (W.runV (As := []) (rest := []) ⟨hx, hb, hml, hown, hts⟩ (c_X4_thrown l D cy bd (hM τ (xs (7 * k + 1)))) (cwV 0 hts gL_law_X4_thrown rfl rfl rfl (by decide +kernel) ⟨Nat.le_of_ble_eq_true rfl, Nat.le_of_ble_eq_true rfl⟩) ⟨mw_bl, mw_O hPM hK, mw_at hPM hK⟩ rfl rfl hl.1 rfl (lv_room (Nat.le_of_ble_eq_true rfl)) dL_law_1257 ⟨by show _ ≤ 644319; omega, by show _ ≤ 7163146; omega⟩) (fun _ _ => ?_)
  refine W.eq (g2 := F0 m 1260 ls [.int ((hM τ (xs (7 * k + 1))) 0 25)]) rfl ?_
  refine lv_iload hx hb dL_law_1260 (lv_at hl 1 rfl) ?_
  refine lv_icmp_eq (tgt := 1267) hx hb dL_law_1262 (by decide) (fun c_1 => ?_) (fun c_1 => absurd (e1) c_1)
  refine lv_iload hx hb dL_law_1267 (lv_at hl 1 rfl) ?_
  refine lv_if_ne (tgt := 1284) hx hb dL_law_1269 (by decide) (fun c_2 => ?_) (fun c_2 => ?_)
  · refine lv_goto (tgt := 1574) hx hb dL_law_1284 (by decide) ?_
    refine W.widen (k := cells + 6) (n := slots + 36) (by omega) (by omega) ?_
    exact kk H locs σ (hM τ (xs (7 * k + 1))) ls ⟨hC, hPM, ⟨_, hO⟩, hS, hL2⟩ (lv_sub hl [2, 3, 4, 5, 6] rfl)
  · refine lv_aload_n hx hb dL_law_1272 rfl (lv_at hl 6 rfl) ?_
    refine lv_iconst (v := 0) hx hb dL_law_1273 (by decide) ?_
    refine va_lald hx hb hK hO 0 4 rfl rfl (vp_in_nI (show 0 < 1 by decide) (by decide)) dL_law_1274 ?_
    refine W.eq (g2 := F0 m 1275 ls [.long (f1 0)]) rfl ?_
    refine lv_iload hx hb dL_law_1275 (lv_at hl 0 rfl) ?_
    refine lv_i2l hx hb dL_law_1277 rfl ?_
    refine W.lcmp hx hb dL_law_1278 ?_
    refine W.eq (g2 := F0 m 1279 ls [.int 0]) (by rw [hf c_2, e2 c_2, lg_self]) ?_
    refine lv_if_eq (tgt := 1284) hx hb dL_law_1279 (by decide) (fun c_3 => ?_) (fun c_3 => absurd ((by decide : (0 : Int32) = 0)) c_3)
    refine lv_goto (tgt := 1574) hx hb dL_law_1284 (by decide) ?_
    refine W.widen (k := cells + 6) (n := slots + 36) (by omega) (by omega) ?_
    exact kk H locs σ (hM τ (xs (7 * k + 1))) ls ⟨hC, hPM, ⟨_, hO⟩, hS, hL2⟩ (lv_sub hl [2, 3, 4, 5, 6] rfl)
set_option maxHeartbeats 4000000 in
set_option maxRecDepth 100000 in
theorem law_c20 (C : LCtx p l s m c args b L xs D cy ad bd ob) {k n cells slots : Nat} {σ τ : Mem} {H : Heap} {locs : List Loc} {ls : Array Slot} (hk : 7 * k + 7 ≤ L) (h : LSt s D cy ad bd ob (n + 1) σ τ H locs) (hc9 : cells + 6 ≤ 644319) (hs9 : slots + 36 ≤ 7163146) (hl : lv_has ls 7 (lvL b ad bd ob k))
    (kk : ∀ (H : Heap) (locs : List Loc) (σ τ : Mem) (ls : Array Slot), LSt s D cy ad bd ob n σ τ H locs → lv_has ls 7 (lvL b ad bd ob k) → W p l e room_1 s m args below meth c H locs (cells + 6) (slots + 36) Q (F0 m 1574 ls [])) : W p l e room_1 s m args below meth c H locs cells slots Q (F0 m 1287 ls []) := by
  obtain ⟨hx, hb, hml, hown, hts, hX, hbl, hL9, hK, hxk, hst, hj, hjm, hno, hnm, hdj, hgA, hgB, hgO⟩ := C
  obtain ⟨hC, hPM, ⟨f, hO⟩, hS, hLI⟩ := h
  refine lv_aload_n hx hb dL_law_1287 rfl (lv_at hl 2 rfl) ?_
  refine lv_aload_n hx hb dL_law_1288 rfl (lv_at hl 1 rfl) ?_
  refine lv_iload hx hb dL_law_1289 (lv_at hl 0 rfl) ?_
  refine lv_iconst (v := 1) hx hb dL_law_1291 (by decide) ?_
  refine lv_iadd hx hb dL_law_1292 ?_
  refine W.eq (g2 := F0 m 1293 ls [.int (nI (7 * k + 1)), .ref b, .ref (ad 0)]) (by rw [show (1 : Int32) = nI 1 from rfl, nI_add]) ?_
  refine sld hx hb hX hbl hS (show 7 * k + 1 < L by omega) hL9 dL_law_1293 ?_
  refine lv_aload_n hx hb dL_law_1294 rfl (lv_at hl 4 rfl) ?_
  obtain ⟨e1, e2, hL2⟩ := k_installing hLI (xs (7 * k + 1))
  refine lMi (fun q h => h.elim (fun ⟨j, h1, h2⟩ => by rw [h2]; exact hgA j h1) (fun h2 => by rw [h2]; exact hgO)) (vx_runSW (As := [.ref (ad 0), .int (xs (7 * k + 1)), .ref ob]) (rest := []) ⟨hx, hb, hml, hown, hts⟩ (c_L_installing l hst D cy ad hj σ s.heap.size ob hno f (xs (7 * k + 1))) (vx_cwSW 3 hts gL_law_L_installing rfl rfl rfl (by decide +kernel) ⟨Nat.le_of_ble_eq_true rfl, Nat.le_of_ble_eq_true rfl⟩) ⟨lx_bl, lx_at hC hK hxk hS hO⟩ rfl rfl hl.1 rfl (lv_room (Nat.le_of_ble_eq_true rfl)) dL_law_1295 ⟨by show _ ≤ 644319; omega, by show _ ≤ 7163146; omega⟩) hS (fun H locs hPW hS hk1 => ?_)
  obtain ⟨hC, f1, hO, hf⟩ := hPW
  have hPM := hPM.apart hk1 (wM_no (fun j h => fun z => z.elim (fun ⟨i, h1, h2⟩ => hdj i j h1 h h2.symm) (fun z => hnm j h z)))
  refine W.eq (g2 := F0 m 1298 ls [.int (kR (xs (7 * k + 1)))]) rfl ?_
  refine lv_istore (lv' := [(5, .int (kR (xs (7 * k + 1)))), (4, .int (nI (7 * k))), (0, .ref b), (1, .ref (ad 0)), (2, .ref (bd 0)), (3, .ref ob)]) hx hb dL_law_1298 hl (by decide) rfl (fun ls hl => ?_)
  refine lv_aload_n hx hb dL_law_1300 rfl (lv_at hl 4 rfl) ?_
  refine lv_aload_n hx hb dL_law_1301 rfl (lv_at hl 2 rfl) ?_
  refine lv_iload hx hb dL_law_1302 (lv_at hl 1 rfl) ?_
  refine lv_iconst (v := 1) hx hb dL_law_1304 (by decide) ?_
  refine lv_iadd hx hb dL_law_1305 ?_
  refine W.eq (g2 := F0 m 1306 ls [.int (nI (7 * k + 1)), .ref b, .ref (bd 0)]) (by rw [show (1 : Int32) = nI 1 from rfl, nI_add]) ?_
  refine sld hx hb hX hbl hS (show 7 * k + 1 < L by omega) hL9 dL_law_1306 ?_
  refine lMi (fun q ⟨j, h1, h2⟩ => by rw [h2]; exact hgB j h1) (va_runV (As := [.int (xs (7 * k + 1))]) (rest := []) ⟨hx, hb, hml, hown, hts⟩ (c_X4_installing l D cy bd hjm τ (xs (7 * k + 1))) (cwV 1 hts gL_law_X4_installing rfl rfl rfl (by decide +kernel) ⟨Nat.le_of_ble_eq_true rfl, Nat.le_of_ble_eq_true rfl⟩) ⟨mw_bl, mw_O hPM hK, mw_at hPM hK⟩ rfl rfl hl.1 rfl (lv_room (Nat.le_of_ble_eq_true rfl)) dL_law_1307 ⟨by show _ ≤ 644319; omega, by show _ ≤ 7163146; omega⟩) hS (fun H locs hPM hS hk1 => ?_)
  have hC := hC.apart hk1 (wC_no (fun i h => fun ⟨j, h1, h2⟩ => hdj i j h h1 h2))
  have hO := hO.apart hk1 (oW_no2 (fun ⟨j, h1, h2⟩ => hnm j h1 h2.symm))
  refine W.eq (g2 := F0 m 1310 ls [.int (qInstalling τ (xs (7 * k + 1)))]) rfl ?_
  refine lv_istore (lv' := [(6, .int (qInstalling τ (xs (7 * k + 1)))), (5, .int (kR (xs (7 * k + 1)))), (4, .int (nI (7 * k))), (0, .ref b), (1, .ref (ad 0)), (2, .ref (bd 0)), (3, .ref ob)]) hx hb dL_law_1310 hl (by decide) rfl (fun ls hl => ?_)
  refine lv_aload_n hx hb dL_law_1312 rfl (lv_at hl 5 rfl) ?_
  refine cS (W.runV (As := []) (rest := []) ⟨hx, hb, hml, hown, hts⟩ (c_X4_thrown l D cy bd (hR τ (xs (7 * k + 1)))) (cwV 0 hts gL_law_X4_thrown rfl rfl rfl (by decide +kernel) ⟨Nat.le_of_ble_eq_true rfl, Nat.le_of_ble_eq_true rfl⟩) ⟨mw_bl, mw_O hPM hK, mw_at hPM hK⟩ rfl rfl hl.1 rfl (lv_room (Nat.le_of_ble_eq_true rfl)) dL_law_1313 ⟨by show _ ≤ 644319; omega, by show _ ≤ 7163146; omega⟩) (fun _ _ => ?_)
  refine W.eq (g2 := F0 m 1316 ls [.int ((hR τ (xs (7 * k + 1))) 0 25)]) rfl ?_
  refine lv_iload hx hb dL_law_1316 (lv_at hl 1 rfl) ?_
  refine lv_icmp_eq (tgt := 1323) hx hb dL_law_1318 (by decide) (fun c_1 => ?_) (fun c_1 => absurd (e1) c_1)
  refine lv_iload hx hb dL_law_1323 (lv_at hl 1 rfl) ?_
  refine lv_if_ne (tgt := 1340) hx hb dL_law_1325 (by decide) (fun c_2 => ?_) (fun c_2 => ?_)
  · refine lv_goto (tgt := 1574) hx hb dL_law_1340 (by decide) ?_
    refine W.widen (k := cells + 6) (n := slots + 36) (by omega) (by omega) ?_
    exact kk H locs σ (hR τ (xs (7 * k + 1))) ls ⟨hC, hPM, ⟨_, hO⟩, hS, hL2⟩ (lv_sub hl [2, 3, 4, 5, 6] rfl)
  · refine lv_aload_n hx hb dL_law_1328 rfl (lv_at hl 6 rfl) ?_
    refine lv_iconst (v := 0) hx hb dL_law_1329 (by decide) ?_
    refine va_lald hx hb hK hO 0 4 rfl rfl (vp_in_nI (show 0 < 1 by decide) (by decide)) dL_law_1330 ?_
    refine W.eq (g2 := F0 m 1331 ls [.long (f1 0)]) rfl ?_
    refine lv_iload hx hb dL_law_1331 (lv_at hl 0 rfl) ?_
    refine lv_i2l hx hb dL_law_1333 rfl ?_
    refine W.lcmp hx hb dL_law_1334 ?_
    refine W.eq (g2 := F0 m 1335 ls [.int 0]) (by rw [hf c_2, e2 c_2, lg_self]) ?_
    refine lv_if_eq (tgt := 1340) hx hb dL_law_1335 (by decide) (fun c_3 => ?_) (fun c_3 => absurd ((by decide : (0 : Int32) = 0)) c_3)
    refine lv_goto (tgt := 1574) hx hb dL_law_1340 (by decide) ?_
    refine W.widen (k := cells + 6) (n := slots + 36) (by omega) (by omega) ?_
    exact kk H locs σ (hR τ (xs (7 * k + 1))) ls ⟨hC, hPM, ⟨_, hO⟩, hS, hL2⟩ (lv_sub hl [2, 3, 4, 5, 6] rfl)
set_option maxHeartbeats 4000000 in
set_option maxRecDepth 100000 in
theorem law_c21 (C : LCtx p l s m c args b L xs D cy ad bd ob) {k n cells slots : Nat} {σ τ : Mem} {H : Heap} {locs : List Loc} {ls : Array Slot} (hk : 7 * k + 7 ≤ L) (h : LSt s D cy ad bd ob (n + 1) σ τ H locs) (hc9 : cells + 6 ≤ 644319) (hs9 : slots + 36 ≤ 7163146) (hl : lv_has ls 7 (lvL b ad bd ob k))
    (kk : ∀ (H : Heap) (locs : List Loc) (σ τ : Mem) (ls : Array Slot), LSt s D cy ad bd ob n σ τ H locs → lv_has ls 7 (lvL b ad bd ob k) → W p l e room_1 s m args below meth c H locs (cells + 6) (slots + 36) Q (F0 m 1574 ls [])) : W p l e room_1 s m args below meth c H locs cells slots Q (F0 m 1343 ls []) := by
  obtain ⟨hx, hb, hml, hown, hts, hX, hbl, hL9, hK, hxk, hst, hj, hjm, hno, hnm, hdj, hgA, hgB, hgO⟩ := C
  obtain ⟨hC, hPM, ⟨f, hO⟩, hS, hLI⟩ := h
  refine lv_aload_n hx hb dL_law_1343 rfl (lv_at hl 2 rfl) ?_
  refine lv_aload_n hx hb dL_law_1344 rfl (lv_at hl 1 rfl) ?_
  refine lv_iload hx hb dL_law_1345 (lv_at hl 0 rfl) ?_
  refine lv_iconst (v := 1) hx hb dL_law_1347 (by decide) ?_
  refine lv_iadd hx hb dL_law_1348 ?_
  refine W.eq (g2 := F0 m 1349 ls [.int (nI (7 * k + 1)), .ref b, .ref (ad 0)]) (by rw [show (1 : Int32) = nI 1 from rfl, nI_add]) ?_
  refine sld hx hb hX hbl hS (show 7 * k + 1 < L by omega) hL9 dL_law_1349 ?_
  refine lv_aload_n hx hb dL_law_1350 rfl (lv_at hl 1 rfl) ?_
  refine lv_iload hx hb dL_law_1351 (lv_at hl 0 rfl) ?_
  refine lv_iconst (v := 2) hx hb dL_law_1353 (by decide) ?_
  refine lv_iadd hx hb dL_law_1354 ?_
  refine W.eq (g2 := F0 m 1355 ls [.int (nI (7 * k + 2)), .ref b, .int (xs (7 * k + 1)), .ref (ad 0)]) (by rw [show (2 : Int32) = nI 2 from rfl, nI_add]) ?_
  refine sld hx hb hX hbl hS (show 7 * k + 2 < L by omega) hL9 dL_law_1355 ?_
  refine lv_aload_n hx hb dL_law_1356 rfl (lv_at hl 4 rfl) ?_
  obtain ⟨e1, e2, hL2⟩ := k_queueAt hLI (xs (7 * k + 1)) (xs (7 * k + 2))
  refine lMi (fun q h => h.elim (fun ⟨j, h1, h2⟩ => by rw [h2]; exact hgA j h1) (fun h2 => by rw [h2]; exact hgO)) (vx_runSW (As := [.ref (ad 0), .int (xs (7 * k + 1)), .int (xs (7 * k + 2)), .ref ob]) (rest := []) ⟨hx, hb, hml, hown, hts⟩ (c_L_queueAt l hst D cy ad hj σ s.heap.size ob hno f (xs (7 * k + 1)) (xs (7 * k + 2))) (vx_cwSW 4 hts gL_law_L_queueAt rfl rfl rfl (by decide +kernel) ⟨Nat.le_of_ble_eq_true rfl, Nat.le_of_ble_eq_true rfl⟩) ⟨lx_bl, lx_at hC hK hxk hS hO⟩ rfl rfl hl.1 rfl (lv_room (Nat.le_of_ble_eq_true rfl)) dL_law_1357 ⟨by show _ ≤ 644319; omega, by show _ ≤ 7163146; omega⟩) hS (fun H locs hPW hS hk1 => ?_)
  obtain ⟨hC, f1, hO, hf⟩ := hPW
  have hPM := hPM.apart hk1 (wM_no (fun j h => fun z => z.elim (fun ⟨i, h1, h2⟩ => hdj i j h1 h h2.symm) (fun z => hnm j h z)))
  refine W.eq (g2 := F0 m 1360 ls [.int (kQueueAt (xs (7 * k + 1)) (xs (7 * k + 2)))]) rfl ?_
  refine lv_istore (lv' := [(5, .int (kQueueAt (xs (7 * k + 1)) (xs (7 * k + 2)))), (4, .int (nI (7 * k))), (0, .ref b), (1, .ref (ad 0)), (2, .ref (bd 0)), (3, .ref ob)]) hx hb dL_law_1360 hl (by decide) rfl (fun ls hl => ?_)
  refine lv_aload_n hx hb dL_law_1362 rfl (lv_at hl 4 rfl) ?_
  refine lv_aload_n hx hb dL_law_1363 rfl (lv_at hl 2 rfl) ?_
  refine lv_iload hx hb dL_law_1364 (lv_at hl 1 rfl) ?_
  refine lv_iconst (v := 1) hx hb dL_law_1366 (by decide) ?_
  refine lv_iadd hx hb dL_law_1367 ?_
  refine W.eq (g2 := F0 m 1368 ls [.int (nI (7 * k + 1)), .ref b, .ref (bd 0)]) (by rw [show (1 : Int32) = nI 1 from rfl, nI_add]) ?_
  refine sld hx hb hX hbl hS (show 7 * k + 1 < L by omega) hL9 dL_law_1368 ?_
  refine lv_aload_n hx hb dL_law_1369 rfl (lv_at hl 2 rfl) ?_
  refine lv_iload hx hb dL_law_1370 (lv_at hl 1 rfl) ?_
  refine lv_iconst (v := 2) hx hb dL_law_1372 (by decide) ?_
  refine lv_iadd hx hb dL_law_1373 ?_
  refine W.eq (g2 := F0 m 1374 ls [.int (nI (7 * k + 2)), .ref b, .int (xs (7 * k + 1)), .ref (bd 0)]) (by rw [show (2 : Int32) = nI 2 from rfl, nI_add]) ?_
  refine sld hx hb hX hbl hS (show 7 * k + 2 < L by omega) hL9 dL_law_1374 ?_
  refine lMi (fun q ⟨j, h1, h2⟩ => by rw [h2]; exact hgB j h1) (va_runV (As := [.int (xs (7 * k + 1)), .int (xs (7 * k + 2))]) (rest := []) ⟨hx, hb, hml, hown, hts⟩ (c_X4_queueAt l D cy bd hjm τ (xs (7 * k + 1)) (xs (7 * k + 2))) (cwV 2 hts gL_law_X4_queueAt rfl rfl rfl (by decide +kernel) ⟨Nat.le_of_ble_eq_true rfl, Nat.le_of_ble_eq_true rfl⟩) ⟨mw_bl, mw_O hPM hK, mw_at hPM hK⟩ rfl rfl hl.1 rfl (lv_room (Nat.le_of_ble_eq_true rfl)) dL_law_1375 ⟨by show _ ≤ 644319; omega, by show _ ≤ 7163146; omega⟩) hS (fun H locs hPM hS hk1 => ?_)
  have hC := hC.apart hk1 (wC_no (fun i h => fun ⟨j, h1, h2⟩ => hdj i j h h1 h2))
  have hO := hO.apart hk1 (oW_no2 (fun ⟨j, h1, h2⟩ => hnm j h1 h2.symm))
  refine W.eq (g2 := F0 m 1378 ls [.int (qQueueAt τ (xs (7 * k + 1)) (xs (7 * k + 2)))]) rfl ?_
  refine lv_istore (lv' := [(6, .int (qQueueAt τ (xs (7 * k + 1)) (xs (7 * k + 2)))), (5, .int (kQueueAt (xs (7 * k + 1)) (xs (7 * k + 2)))), (4, .int (nI (7 * k))), (0, .ref b), (1, .ref (ad 0)), (2, .ref (bd 0)), (3, .ref ob)]) hx hb dL_law_1378 hl (by decide) rfl (fun ls hl => ?_)
  refine lv_aload_n hx hb dL_law_1380 rfl (lv_at hl 5 rfl) ?_
  refine cS (W.runV (As := []) (rest := []) ⟨hx, hb, hml, hown, hts⟩ (c_X4_thrown l D cy bd (hQueueAt τ (xs (7 * k + 1)) (xs (7 * k + 2)))) (cwV 0 hts gL_law_X4_thrown rfl rfl rfl (by decide +kernel) ⟨Nat.le_of_ble_eq_true rfl, Nat.le_of_ble_eq_true rfl⟩) ⟨mw_bl, mw_O hPM hK, mw_at hPM hK⟩ rfl rfl hl.1 rfl (lv_room (Nat.le_of_ble_eq_true rfl)) dL_law_1381 ⟨by show _ ≤ 644319; omega, by show _ ≤ 7163146; omega⟩) (fun _ _ => ?_)
  refine W.eq (g2 := F0 m 1384 ls [.int ((hQueueAt τ (xs (7 * k + 1)) (xs (7 * k + 2))) 0 25)]) rfl ?_
  refine lv_iload hx hb dL_law_1384 (lv_at hl 1 rfl) ?_
  refine lv_icmp_eq (tgt := 1391) hx hb dL_law_1386 (by decide) (fun c_1 => ?_) (fun c_1 => absurd (e1) c_1)
  refine lv_iload hx hb dL_law_1391 (lv_at hl 1 rfl) ?_
  refine lv_if_ne (tgt := 1408) hx hb dL_law_1393 (by decide) (fun c_2 => ?_) (fun c_2 => ?_)
  · refine lv_goto (tgt := 1574) hx hb dL_law_1408 (by decide) ?_
    refine W.widen (k := cells + 6) (n := slots + 36) (by omega) (by omega) ?_
    exact kk H locs σ (hQueueAt τ (xs (7 * k + 1)) (xs (7 * k + 2))) ls ⟨hC, hPM, ⟨_, hO⟩, hS, hL2⟩ (lv_sub hl [2, 3, 4, 5, 6] rfl)
  · refine lv_aload_n hx hb dL_law_1396 rfl (lv_at hl 6 rfl) ?_
    refine lv_iconst (v := 0) hx hb dL_law_1397 (by decide) ?_
    refine va_lald hx hb hK hO 0 4 rfl rfl (vp_in_nI (show 0 < 1 by decide) (by decide)) dL_law_1398 ?_
    refine W.eq (g2 := F0 m 1399 ls [.long (f1 0)]) rfl ?_
    refine lv_iload hx hb dL_law_1399 (lv_at hl 0 rfl) ?_
    refine lv_i2l hx hb dL_law_1401 rfl ?_
    refine W.lcmp hx hb dL_law_1402 ?_
    refine W.eq (g2 := F0 m 1403 ls [.int 0]) (by rw [hf c_2, e2 c_2, lg_self]) ?_
    refine lv_if_eq (tgt := 1408) hx hb dL_law_1403 (by decide) (fun c_3 => ?_) (fun c_3 => absurd ((by decide : (0 : Int32) = 0)) c_3)
    refine lv_goto (tgt := 1574) hx hb dL_law_1408 (by decide) ?_
    refine W.widen (k := cells + 6) (n := slots + 36) (by omega) (by omega) ?_
    exact kk H locs σ (hQueueAt τ (xs (7 * k + 1)) (xs (7 * k + 2))) ls ⟨hC, hPM, ⟨_, hO⟩, hS, hL2⟩ (lv_sub hl [2, 3, 4, 5, 6] rfl)
set_option maxHeartbeats 4000000 in
set_option maxRecDepth 100000 in
theorem law_c22 (C : LCtx p l s m c args b L xs D cy ad bd ob) {k n cells slots : Nat} {σ τ : Mem} {H : Heap} {locs : List Loc} {ls : Array Slot} (hk : 7 * k + 7 ≤ L) (h : LSt s D cy ad bd ob (n + 1) σ τ H locs) (hc9 : cells + 6 ≤ 644319) (hs9 : slots + 36 ≤ 7163146) (hl : lv_has ls 7 (lvL b ad bd ob k))
    (kk : ∀ (H : Heap) (locs : List Loc) (σ τ : Mem) (ls : Array Slot), LSt s D cy ad bd ob n σ τ H locs → lv_has ls 7 (lvL b ad bd ob k) → W p l e room_1 s m args below meth c H locs (cells + 6) (slots + 36) Q (F0 m 1574 ls [])) : W p l e room_1 s m args below meth c H locs cells slots Q (F0 m 1411 ls []) := by
  obtain ⟨hx, hb, hml, hown, hts, hX, hbl, hL9, hK, hxk, hst, hj, hjm, hno, hnm, hdj, hgA, hgB, hgO⟩ := C
  obtain ⟨hC, hPM, ⟨f, hO⟩, hS, hLI⟩ := h
  refine lv_aload_n hx hb dL_law_1411 rfl (lv_at hl 2 rfl) ?_
  obtain ⟨e1, hL2⟩ := k_nextChange hLI
  refine cS (W.runV (As := []) (rest := []) ⟨hx, hb, hml, hown, hts⟩ (c_X3_nextChange l D cy ad σ) (cwV 0 hts gL_law_X3_nextChange rfl rfl rfl (by decide +kernel) ⟨Nat.le_of_ble_eq_true rfl, Nat.le_of_ble_eq_true rfl⟩) ⟨cw_bl, cw_F hC hK, cw_at hC hK⟩ rfl rfl hl.1 rfl (lv_room (Nat.le_of_ble_eq_true rfl)) dL_law_1412 ⟨by show _ ≤ 644319; omega, by show _ ≤ 7163146; omega⟩) (fun _ _ => ?_)
  refine W.eq (g2 := F0 m 1415 ls [.int (rNextChange σ)]) rfl ?_
  refine lv_aload_n hx hb dL_law_1415 rfl (lv_at hl 3 rfl) ?_
  refine lMi (fun q ⟨j, h1, h2⟩ => by rw [h2]; exact hgB j h1) (va_runV (As := []) (rest := [.int (rNextChange σ)]) ⟨hx, hb, hml, hown, hts⟩ (c_X4_nextChange l D cy bd hjm τ ) (cwV 0 hts gL_law_X4_nextChange rfl rfl rfl (by decide +kernel) ⟨Nat.le_of_ble_eq_true rfl, Nat.le_of_ble_eq_true rfl⟩) ⟨mw_bl, mw_O hPM hK, mw_at hPM hK⟩ rfl rfl hl.1 rfl (lv_room (Nat.le_of_ble_eq_true rfl)) dL_law_1416 ⟨by show _ ≤ 644319; omega, by show _ ≤ 7163146; omega⟩) hS (fun H locs hPM hS hk1 => ?_)
  have hC := hC.apart hk1 (wC_no (fun i h => fun ⟨j, h1, h2⟩ => hdj i j h h1 h2))
  have hO := hO.apart hk1 (oW_no2 (fun ⟨j, h1, h2⟩ => hnm j h1 h2.symm))
  refine W.eq (g2 := F0 m 1419 ls [.int (tNx (tTold τ) 16), .int (rNextChange σ)]) rfl ?_
  refine lv_icmp_eq (tgt := 1574) hx hb dL_law_1419 (by decide) (fun c_1 => ?_) (fun c_1 => absurd (e1) c_1)
  refine W.widen (k := cells + 6) (n := slots + 36) (by omega) (by omega) ?_
  exact kk H locs σ (tTold τ) ls ⟨hC, hPM, ⟨_, hO⟩, hS, hL2⟩ (lv_sub hl [0, 1, 2, 3, 4] rfl)
set_option maxHeartbeats 4000000 in
set_option maxRecDepth 100000 in
theorem law_c23 (C : LCtx p l s m c args b L xs D cy ad bd ob) {k n cells slots : Nat} {σ τ : Mem} {H : Heap} {locs : List Loc} {ls : Array Slot} (hk : 7 * k + 7 ≤ L) (h : LSt s D cy ad bd ob (n + 1) σ τ H locs) (hc9 : cells + 6 ≤ 644319) (hs9 : slots + 36 ≤ 7163146) (hl : lv_has ls 7 (lvL b ad bd ob k))
    (kk : ∀ (H : Heap) (locs : List Loc) (σ τ : Mem) (ls : Array Slot), LSt s D cy ad bd ob n σ τ H locs → lv_has ls 7 (lvL b ad bd ob k) → W p l e room_1 s m args below meth c H locs (cells + 6) (slots + 36) Q (F0 m 1574 ls [])) : W p l e room_1 s m args below meth c H locs cells slots Q (F0 m 1424 ls []) := by
  obtain ⟨hx, hb, hml, hown, hts, hX, hbl, hL9, hK, hxk, hst, hj, hjm, hno, hnm, hdj, hgA, hgB, hgO⟩ := C
  obtain ⟨hC, hPM, ⟨f, hO⟩, hS, hLI⟩ := h
  refine lv_aload_n hx hb dL_law_1424 rfl (lv_at hl 2 rfl) ?_
  obtain ⟨e1, hL2⟩ := k_wipes hLI
  refine cS (W.runV (As := []) (rest := []) ⟨hx, hb, hml, hown, hts⟩ (c_X3_wipes l D cy ad σ) (cwV 0 hts gL_law_X3_wipes rfl rfl rfl (by decide +kernel) ⟨Nat.le_of_ble_eq_true rfl, Nat.le_of_ble_eq_true rfl⟩) ⟨cw_bl, cw_F hC hK, cw_at hC hK⟩ rfl rfl hl.1 rfl (lv_room (Nat.le_of_ble_eq_true rfl)) dL_law_1425 ⟨by show _ ≤ 644319; omega, by show _ ≤ 7163146; omega⟩) (fun _ _ => ?_)
  refine W.eq (g2 := F0 m 1428 ls [.int (σ 20 7)]) rfl ?_
  refine lv_aload_n hx hb dL_law_1428 rfl (lv_at hl 3 rfl) ?_
  refine lMi (fun q ⟨j, h1, h2⟩ => by rw [h2]; exact hgB j h1) (va_runV (As := []) (rest := [.int (σ 20 7)]) ⟨hx, hb, hml, hown, hts⟩ (c_X4_wipes l D cy bd hjm τ ) (cwV 0 hts gL_law_X4_wipes rfl rfl rfl (by decide +kernel) ⟨Nat.le_of_ble_eq_true rfl, Nat.le_of_ble_eq_true rfl⟩) ⟨mw_bl, mw_O hPM hK, mw_at hPM hK⟩ rfl rfl hl.1 rfl (lv_room (Nat.le_of_ble_eq_true rfl)) dL_law_1429 ⟨by show _ ≤ 644319; omega, by show _ ≤ 7163146; omega⟩) hS (fun H locs hPM hS hk1 => ?_)
  have hC := hC.apart hk1 (wC_no (fun i h => fun ⟨j, h1, h2⟩ => hdj i j h h1 h2))
  have hO := hO.apart hk1 (oW_no2 (fun ⟨j, h1, h2⟩ => hnm j h1 h2.symm))
  refine W.eq (g2 := F0 m 1432 ls [.int (τ 0 4), .int (σ 20 7)]) rfl ?_
  refine lv_icmp_eq (tgt := 1574) hx hb dL_law_1432 (by decide) (fun c_1 => ?_) (fun c_1 => absurd (e1) c_1)
  refine W.widen (k := cells + 6) (n := slots + 36) (by omega) (by omega) ?_
  exact kk H locs σ (tTold τ) ls ⟨hC, hPM, ⟨_, hO⟩, hS, hL2⟩ (lv_sub hl [0, 1, 2, 3, 4] rfl)
set_option maxHeartbeats 4000000 in
set_option maxRecDepth 100000 in
theorem law_c24 (C : LCtx p l s m c args b L xs D cy ad bd ob) {k n cells slots : Nat} {σ τ : Mem} {H : Heap} {locs : List Loc} {ls : Array Slot} (hk : 7 * k + 7 ≤ L) (h : LSt s D cy ad bd ob (n + 1) σ τ H locs) (hc9 : cells + 6 ≤ 644319) (hs9 : slots + 36 ≤ 7163146) (hl : lv_has ls 7 (lvL b ad bd ob k))
    (kk : ∀ (H : Heap) (locs : List Loc) (σ τ : Mem) (ls : Array Slot), LSt s D cy ad bd ob n σ τ H locs → lv_has ls 7 (lvL b ad bd ob k) → W p l e room_1 s m args below meth c H locs (cells + 6) (slots + 36) Q (F0 m 1574 ls [])) : W p l e room_1 s m args below meth c H locs cells slots Q (F0 m 1437 ls []) := by
  obtain ⟨hx, hb, hml, hown, hts, hX, hbl, hL9, hK, hxk, hst, hj, hjm, hno, hnm, hdj, hgA, hgB, hgO⟩ := C
  obtain ⟨hC, hPM, ⟨f, hO⟩, hS, hLI⟩ := h
  refine lv_aload_n hx hb dL_law_1437 rfl (lv_at hl 2 rfl) ?_
  obtain ⟨e1, hL2⟩ := k_entries hLI
  refine cS (W.runV (As := []) (rest := []) ⟨hx, hb, hml, hown, hts⟩ (c_X3_entries l D cy ad σ) (cwV 0 hts gL_law_X3_entries rfl rfl rfl (by decide +kernel) ⟨Nat.le_of_ble_eq_true rfl, Nat.le_of_ble_eq_true rfl⟩) ⟨cw_bl, cw_F hC hK, cw_at hC hK⟩ rfl rfl hl.1 rfl (lv_room (Nat.le_of_ble_eq_true rfl)) dL_law_1438 ⟨by show _ ≤ 644319; omega, by show _ ≤ 7163146; omega⟩) (fun _ _ => ?_)
  refine W.eq (g2 := F0 m 1441 ls [.int (sKept σ)]) rfl ?_
  refine lv_aload_n hx hb dL_law_1441 rfl (lv_at hl 3 rfl) ?_
  refine lMi (fun q ⟨j, h1, h2⟩ => by rw [h2]; exact hgB j h1) (va_runV (As := []) (rest := [.int (sKept σ)]) ⟨hx, hb, hml, hown, hts⟩ (c_X4_entries l D cy bd hjm τ ) (cwV 0 hts gL_law_X4_entries rfl rfl rfl (by decide +kernel) ⟨Nat.le_of_ble_eq_true rfl, Nat.le_of_ble_eq_true rfl⟩) ⟨mw_bl, mw_O hPM hK, mw_at hPM hK⟩ rfl rfl hl.1 rfl (lv_room (Nat.le_of_ble_eq_true rfl)) dL_law_1442 ⟨by show _ ≤ 644319; omega, by show _ ≤ 7163146; omega⟩) hS (fun H locs hPM hS hk1 => ?_)
  have hC := hC.apart hk1 (wC_no (fun i h => fun ⟨j, h1, h2⟩ => hdj i j h h1 h2))
  have hO := hO.apart hk1 (oW_no2 (fun ⟨j, h1, h2⟩ => hnm j h1 h2.symm))
  refine W.eq (g2 := F0 m 1445 ls [.int (tKept τ), .int (sKept σ)]) rfl ?_
  refine lv_icmp_eq (tgt := 1574) hx hb dL_law_1445 (by decide) (fun c_1 => ?_) (fun c_1 => absurd (e1) c_1)
  refine W.widen (k := cells + 6) (n := slots + 36) (by omega) (by omega) ?_
  exact kk H locs σ (tTold τ) ls ⟨hC, hPM, ⟨_, hO⟩, hS, hL2⟩ (lv_sub hl [0, 1, 2, 3, 4] rfl)
set_option maxHeartbeats 4000000 in
set_option maxRecDepth 100000 in
theorem law_c25 (C : LCtx p l s m c args b L xs D cy ad bd ob) {k n cells slots : Nat} {σ τ : Mem} {H : Heap} {locs : List Loc} {ls : Array Slot} (hk : 7 * k + 7 ≤ L) (h : LSt s D cy ad bd ob (n + 1) σ τ H locs) (hc9 : cells + 6 ≤ 644319) (hs9 : slots + 36 ≤ 7163146) (hl : lv_has ls 7 (lvL b ad bd ob k))
    (kk : ∀ (H : Heap) (locs : List Loc) (σ τ : Mem) (ls : Array Slot), LSt s D cy ad bd ob n σ τ H locs → lv_has ls 7 (lvL b ad bd ob k) → W p l e room_1 s m args below meth c H locs (cells + 6) (slots + 36) Q (F0 m 1574 ls [])) : W p l e room_1 s m args below meth c H locs cells slots Q (F0 m 1450 ls []) := by
  obtain ⟨hx, hb, hml, hown, hts, hX, hbl, hL9, hK, hxk, hst, hj, hjm, hno, hnm, hdj, hgA, hgB, hgO⟩ := C
  obtain ⟨hC, hPM, ⟨f, hO⟩, hS, hLI⟩ := h
  refine lv_aload_n hx hb dL_law_1450 rfl (lv_at hl 2 rfl) ?_
  refine lv_aload_n hx hb dL_law_1451 rfl (lv_at hl 1 rfl) ?_
  refine lv_iload hx hb dL_law_1452 (lv_at hl 0 rfl) ?_
  refine lv_iconst (v := 1) hx hb dL_law_1454 (by decide) ?_
  refine lv_iadd hx hb dL_law_1455 ?_
  refine W.eq (g2 := F0 m 1456 ls [.int (nI (7 * k + 1)), .ref b, .ref (ad 0)]) (by rw [show (1 : Int32) = nI 1 from rfl, nI_add]) ?_
  refine sld hx hb hX hbl hS (show 7 * k + 1 < L by omega) hL9 dL_law_1456 ?_
  refine lv_aload_n hx hb dL_law_1457 rfl (lv_at hl 4 rfl) ?_
  obtain ⟨e1, e2, hL2⟩ := k_machineAt hLI (xs (7 * k + 1))
  refine lMi (fun q h => h.elim (fun ⟨j, h1, h2⟩ => by rw [h2]; exact hgA j h1) (fun h2 => by rw [h2]; exact hgO)) (vx_runSW (As := [.ref (ad 0), .int (xs (7 * k + 1)), .ref ob]) (rest := []) ⟨hx, hb, hml, hown, hts⟩ (c_L_machineAt l hst D cy ad hj σ s.heap.size ob hno f (xs (7 * k + 1))) (vx_cwSW 3 hts gL_law_L_machineAt rfl rfl rfl (by decide +kernel) ⟨Nat.le_of_ble_eq_true rfl, Nat.le_of_ble_eq_true rfl⟩) ⟨lx_bl, lx_at hC hK hxk hS hO⟩ rfl rfl hl.1 rfl (lv_room (Nat.le_of_ble_eq_true rfl)) dL_law_1458 ⟨by show _ ≤ 644319; omega, by show _ ≤ 7163146; omega⟩) hS (fun H locs hPW hS hk1 => ?_)
  obtain ⟨hC, f1, hO, hf⟩ := hPW
  have hPM := hPM.apart hk1 (wM_no (fun j h => fun z => z.elim (fun ⟨i, h1, h2⟩ => hdj i j h1 h h2.symm) (fun z => hnm j h z)))
  refine W.eq (g2 := F0 m 1461 ls [.int (kMachineAt σ (xs (7 * k + 1)))]) rfl ?_
  refine lv_istore (lv' := [(5, .int (kMachineAt σ (xs (7 * k + 1)))), (4, .int (nI (7 * k))), (0, .ref b), (1, .ref (ad 0)), (2, .ref (bd 0)), (3, .ref ob)]) hx hb dL_law_1461 hl (by decide) rfl (fun ls hl => ?_)
  refine lv_aload_n hx hb dL_law_1463 rfl (lv_at hl 4 rfl) ?_
  refine lv_aload_n hx hb dL_law_1464 rfl (lv_at hl 2 rfl) ?_
  refine lv_iload hx hb dL_law_1465 (lv_at hl 1 rfl) ?_
  refine lv_iconst (v := 1) hx hb dL_law_1467 (by decide) ?_
  refine lv_iadd hx hb dL_law_1468 ?_
  refine W.eq (g2 := F0 m 1469 ls [.int (nI (7 * k + 1)), .ref b, .ref (bd 0)]) (by rw [show (1 : Int32) = nI 1 from rfl, nI_add]) ?_
  refine sld hx hb hX hbl hS (show 7 * k + 1 < L by omega) hL9 dL_law_1469 ?_
  obtain ⟨w9, hw9, hwb9⟩ := hLI.wb
  refine lMi (fun q ⟨j, h1, h2⟩ => by rw [h2]; exact hgB j h1) (va_runV (As := [.int (xs (7 * k + 1))]) (rest := []) ⟨hx, hb, hml, hown, hts⟩ (c_X4_machineAt l D cy bd hjm τ (xs (7 * k + 1)) w9 hw9 (by omega)) (cwV 1 hts gL_law_X4_machineAt rfl rfl rfl (by decide +kernel) ⟨Nat.le_of_ble_eq_true rfl, Nat.le_of_ble_eq_true rfl⟩) ⟨mw_bl, mw_O hPM hK, mw_at hPM hK⟩ rfl rfl hl.1 rfl (lv_room (Nat.le_of_ble_eq_true rfl)) dL_law_1470 ⟨by show _ ≤ 644319; omega, by show _ ≤ 7163146; omega⟩) hS (fun H locs hPM hS hk1 => ?_)
  have hC := hC.apart hk1 (wC_no (fun i h => fun ⟨j, h1, h2⟩ => hdj i j h h1 h2))
  have hO := hO.apart hk1 (oW_no2 (fun ⟨j, h1, h2⟩ => hnm j h1 h2.symm))
  refine W.eq (g2 := F0 m 1473 ls [.int (qMachineAt τ (xs (7 * k + 1)))]) rfl ?_
  refine lv_istore (lv' := [(6, .int (qMachineAt τ (xs (7 * k + 1)))), (5, .int (kMachineAt σ (xs (7 * k + 1)))), (4, .int (nI (7 * k))), (0, .ref b), (1, .ref (ad 0)), (2, .ref (bd 0)), (3, .ref ob)]) hx hb dL_law_1473 hl (by decide) rfl (fun ls hl => ?_)
  refine lv_aload_n hx hb dL_law_1475 rfl (lv_at hl 5 rfl) ?_
  refine cS (W.runV (As := []) (rest := []) ⟨hx, hb, hml, hown, hts⟩ (c_X4_thrown l D cy bd (hMachineAt τ (xs (7 * k + 1)))) (cwV 0 hts gL_law_X4_thrown rfl rfl rfl (by decide +kernel) ⟨Nat.le_of_ble_eq_true rfl, Nat.le_of_ble_eq_true rfl⟩) ⟨mw_bl, mw_O hPM hK, mw_at hPM hK⟩ rfl rfl hl.1 rfl (lv_room (Nat.le_of_ble_eq_true rfl)) dL_law_1476 ⟨by show _ ≤ 644319; omega, by show _ ≤ 7163146; omega⟩) (fun _ _ => ?_)
  refine W.eq (g2 := F0 m 1479 ls [.int ((hMachineAt τ (xs (7 * k + 1))) 0 25)]) rfl ?_
  refine lv_iload hx hb dL_law_1479 (lv_at hl 1 rfl) ?_
  refine lv_icmp_eq (tgt := 1486) hx hb dL_law_1481 (by decide) (fun c_1 => ?_) (fun c_1 => absurd (e1) c_1)
  refine lv_iload hx hb dL_law_1486 (lv_at hl 1 rfl) ?_
  refine lv_if_ne (tgt := 1503) hx hb dL_law_1488 (by decide) (fun c_2 => ?_) (fun c_2 => ?_)
  · refine lv_goto (tgt := 1574) hx hb dL_law_1503 (by decide) ?_
    refine W.widen (k := cells + 6) (n := slots + 36) (by omega) (by omega) ?_
    exact kk H locs σ (hMachineAt τ (xs (7 * k + 1))) ls ⟨hC, hPM, ⟨_, hO⟩, hS, hL2⟩ (lv_sub hl [2, 3, 4, 5, 6] rfl)
  · refine lv_aload_n hx hb dL_law_1491 rfl (lv_at hl 6 rfl) ?_
    refine lv_iconst (v := 0) hx hb dL_law_1492 (by decide) ?_
    refine va_lald hx hb hK hO 0 4 rfl rfl (vp_in_nI (show 0 < 1 by decide) (by decide)) dL_law_1493 ?_
    refine W.eq (g2 := F0 m 1494 ls [.long (f1 0)]) rfl ?_
    refine lv_iload hx hb dL_law_1494 (lv_at hl 0 rfl) ?_
    refine lv_i2l hx hb dL_law_1496 rfl ?_
    refine W.lcmp hx hb dL_law_1497 ?_
    refine W.eq (g2 := F0 m 1498 ls [.int 0]) (by rw [hf c_2, e2 c_2, lg_self]) ?_
    refine lv_if_eq (tgt := 1503) hx hb dL_law_1498 (by decide) (fun c_3 => ?_) (fun c_3 => absurd ((by decide : (0 : Int32) = 0)) c_3)
    refine lv_goto (tgt := 1574) hx hb dL_law_1503 (by decide) ?_
    refine W.widen (k := cells + 6) (n := slots + 36) (by omega) (by omega) ?_
    exact kk H locs σ (hMachineAt τ (xs (7 * k + 1))) ls ⟨hC, hPM, ⟨_, hO⟩, hS, hL2⟩ (lv_sub hl [2, 3, 4, 5, 6] rfl)
set_option maxHeartbeats 4000000 in
set_option maxRecDepth 100000 in
theorem law_c26 (C : LCtx p l s m c args b L xs D cy ad bd ob) {k n cells slots : Nat} {σ τ : Mem} {H : Heap} {locs : List Loc} {ls : Array Slot} (hk : 7 * k + 7 ≤ L) (h : LSt s D cy ad bd ob (n + 1) σ τ H locs) (hc9 : cells + 6 ≤ 644319) (hs9 : slots + 36 ≤ 7163146) (hl : lv_has ls 7 (lvL b ad bd ob k))
    (kk : ∀ (H : Heap) (locs : List Loc) (σ τ : Mem) (ls : Array Slot), LSt s D cy ad bd ob n σ τ H locs → lv_has ls 7 (lvL b ad bd ob k) → W p l e room_1 s m args below meth c H locs (cells + 6) (slots + 36) Q (F0 m 1574 ls [])) : W p l e room_1 s m args below meth c H locs cells slots Q (F0 m 1506 ls []) := by
  obtain ⟨hx, hb, hml, hown, hts, hX, hbl, hL9, hK, hxk, hst, hj, hjm, hno, hnm, hdj, hgA, hgB, hgO⟩ := C
  obtain ⟨hC, hPM, ⟨f, hO⟩, hS, hLI⟩ := h
  refine lv_aload_n hx hb dL_law_1506 rfl (lv_at hl 2 rfl) ?_
  refine lv_aload_n hx hb dL_law_1507 rfl (lv_at hl 1 rfl) ?_
  refine lv_iload hx hb dL_law_1508 (lv_at hl 0 rfl) ?_
  refine lv_iconst (v := 1) hx hb dL_law_1510 (by decide) ?_
  refine lv_iadd hx hb dL_law_1511 ?_
  refine W.eq (g2 := F0 m 1512 ls [.int (nI (7 * k + 1)), .ref b, .ref (ad 0)]) (by rw [show (1 : Int32) = nI 1 from rfl, nI_add]) ?_
  refine sld hx hb hX hbl hS (show 7 * k + 1 < L by omega) hL9 dL_law_1512 ?_
  refine lv_aload_n hx hb dL_law_1513 rfl (lv_at hl 1 rfl) ?_
  refine lv_iload hx hb dL_law_1514 (lv_at hl 0 rfl) ?_
  refine lv_iconst (v := 2) hx hb dL_law_1516 (by decide) ?_
  refine lv_iadd hx hb dL_law_1517 ?_
  refine W.eq (g2 := F0 m 1518 ls [.int (nI (7 * k + 2)), .ref b, .int (xs (7 * k + 1)), .ref (ad 0)]) (by rw [show (2 : Int32) = nI 2 from rfl, nI_add]) ?_
  refine sld hx hb hX hbl hS (show 7 * k + 2 < L by omega) hL9 dL_law_1518 ?_
  refine lv_aload_n hx hb dL_law_1519 rfl (lv_at hl 4 rfl) ?_
  obtain ⟨e1, e2, hL2⟩ := k_stateBefore hLI (xs (7 * k + 1)) (xs (7 * k + 2))
  refine lMi (fun q h => h.elim (fun ⟨j, h1, h2⟩ => by rw [h2]; exact hgA j h1) (fun h2 => by rw [h2]; exact hgO)) (vx_runSW (As := [.ref (ad 0), .int (xs (7 * k + 1)), .int (xs (7 * k + 2)), .ref ob]) (rest := []) ⟨hx, hb, hml, hown, hts⟩ (c_L_stateBefore l hst D cy ad hj σ s.heap.size ob hno f (xs (7 * k + 1)) (xs (7 * k + 2))) (vx_cwSW 4 hts gL_law_L_stateBefore rfl rfl rfl (by decide +kernel) ⟨Nat.le_of_ble_eq_true rfl, Nat.le_of_ble_eq_true rfl⟩) ⟨lx_bl, lx_at hC hK hxk hS hO⟩ rfl rfl hl.1 rfl (lv_room (Nat.le_of_ble_eq_true rfl)) dL_law_1520 ⟨by show _ ≤ 644319; omega, by show _ ≤ 7163146; omega⟩) hS (fun H locs hPW hS hk1 => ?_)
  obtain ⟨hC, f1, hO, hf⟩ := hPW
  have hPM := hPM.apart hk1 (wM_no (fun j h => fun z => z.elim (fun ⟨i, h1, h2⟩ => hdj i j h1 h h2.symm) (fun z => hnm j h z)))
  refine W.eq (g2 := F0 m 1523 ls [.int (kStateBefore σ (xs (7 * k + 1)) (xs (7 * k + 2)))]) rfl ?_
  refine lv_istore (lv' := [(5, .int (kStateBefore σ (xs (7 * k + 1)) (xs (7 * k + 2)))), (4, .int (nI (7 * k))), (0, .ref b), (1, .ref (ad 0)), (2, .ref (bd 0)), (3, .ref ob)]) hx hb dL_law_1523 hl (by decide) rfl (fun ls hl => ?_)
  refine lv_aload_n hx hb dL_law_1525 rfl (lv_at hl 4 rfl) ?_
  refine lv_aload_n hx hb dL_law_1526 rfl (lv_at hl 2 rfl) ?_
  refine lv_iload hx hb dL_law_1527 (lv_at hl 1 rfl) ?_
  refine lv_iconst (v := 1) hx hb dL_law_1529 (by decide) ?_
  refine lv_iadd hx hb dL_law_1530 ?_
  refine W.eq (g2 := F0 m 1531 ls [.int (nI (7 * k + 1)), .ref b, .ref (bd 0)]) (by rw [show (1 : Int32) = nI 1 from rfl, nI_add]) ?_
  refine sld hx hb hX hbl hS (show 7 * k + 1 < L by omega) hL9 dL_law_1531 ?_
  refine lv_aload_n hx hb dL_law_1532 rfl (lv_at hl 2 rfl) ?_
  refine lv_iload hx hb dL_law_1533 (lv_at hl 1 rfl) ?_
  refine lv_iconst (v := 2) hx hb dL_law_1535 (by decide) ?_
  refine lv_iadd hx hb dL_law_1536 ?_
  refine W.eq (g2 := F0 m 1537 ls [.int (nI (7 * k + 2)), .ref b, .int (xs (7 * k + 1)), .ref (bd 0)]) (by rw [show (2 : Int32) = nI 2 from rfl, nI_add]) ?_
  refine sld hx hb hX hbl hS (show 7 * k + 2 < L by omega) hL9 dL_law_1537 ?_
  obtain ⟨w9, hw9, hwb9⟩ := hLI.wb
  refine lMi (fun q ⟨j, h1, h2⟩ => by rw [h2]; exact hgB j h1) (va_runV (As := [.int (xs (7 * k + 1)), .int (xs (7 * k + 2))]) (rest := []) ⟨hx, hb, hml, hown, hts⟩ (c_X4_stateBefore l D cy bd hjm τ (xs (7 * k + 1)) (xs (7 * k + 2)) w9 hw9 (by omega)) (cwV 2 hts gL_law_X4_stateBefore rfl rfl rfl (by decide +kernel) ⟨Nat.le_of_ble_eq_true rfl, Nat.le_of_ble_eq_true rfl⟩) ⟨mw_bl, mw_O hPM hK, mw_at hPM hK⟩ rfl rfl hl.1 rfl (lv_room (Nat.le_of_ble_eq_true rfl)) dL_law_1538 ⟨by show _ ≤ 644319; omega, by show _ ≤ 7163146; omega⟩) hS (fun H locs hPM hS hk1 => ?_)
  have hC := hC.apart hk1 (wC_no (fun i h => fun ⟨j, h1, h2⟩ => hdj i j h h1 h2))
  have hO := hO.apart hk1 (oW_no2 (fun ⟨j, h1, h2⟩ => hnm j h1 h2.symm))
  refine W.eq (g2 := F0 m 1541 ls [.int (qStateBefore τ (xs (7 * k + 1)) (xs (7 * k + 2)))]) rfl ?_
  refine lv_istore (lv' := [(6, .int (qStateBefore τ (xs (7 * k + 1)) (xs (7 * k + 2)))), (5, .int (kStateBefore σ (xs (7 * k + 1)) (xs (7 * k + 2)))), (4, .int (nI (7 * k))), (0, .ref b), (1, .ref (ad 0)), (2, .ref (bd 0)), (3, .ref ob)]) hx hb dL_law_1541 hl (by decide) rfl (fun ls hl => ?_)
  refine lv_aload_n hx hb dL_law_1543 rfl (lv_at hl 5 rfl) ?_
  refine cS (W.runV (As := []) (rest := []) ⟨hx, hb, hml, hown, hts⟩ (c_X4_thrown l D cy bd (hStateBefore τ (xs (7 * k + 1)) (xs (7 * k + 2)))) (cwV 0 hts gL_law_X4_thrown rfl rfl rfl (by decide +kernel) ⟨Nat.le_of_ble_eq_true rfl, Nat.le_of_ble_eq_true rfl⟩) ⟨mw_bl, mw_O hPM hK, mw_at hPM hK⟩ rfl rfl hl.1 rfl (lv_room (Nat.le_of_ble_eq_true rfl)) dL_law_1544 ⟨by show _ ≤ 644319; omega, by show _ ≤ 7163146; omega⟩) (fun _ _ => ?_)
  refine W.eq (g2 := F0 m 1547 ls [.int ((hStateBefore τ (xs (7 * k + 1)) (xs (7 * k + 2))) 0 25)]) rfl ?_
  refine lv_iload hx hb dL_law_1547 (lv_at hl 1 rfl) ?_
  refine lv_icmp_eq (tgt := 1554) hx hb dL_law_1549 (by decide) (fun c_1 => ?_) (fun c_1 => absurd (e1) c_1)
  refine lv_iload hx hb dL_law_1554 (lv_at hl 1 rfl) ?_
  refine lv_if_ne (tgt := 1571) hx hb dL_law_1556 (by decide) (fun c_2 => ?_) (fun c_2 => ?_)
  · refine lv_goto (tgt := 1574) hx hb dL_law_1571 (by decide) ?_
    refine W.widen (k := cells + 6) (n := slots + 36) (by omega) (by omega) ?_
    exact kk H locs σ (hStateBefore τ (xs (7 * k + 1)) (xs (7 * k + 2))) ls ⟨hC, hPM, ⟨_, hO⟩, hS, hL2⟩ (lv_sub hl [2, 3, 4, 5, 6] rfl)
  · refine lv_aload_n hx hb dL_law_1559 rfl (lv_at hl 6 rfl) ?_
    refine lv_iconst (v := 0) hx hb dL_law_1560 (by decide) ?_
    refine va_lald hx hb hK hO 0 4 rfl rfl (vp_in_nI (show 0 < 1 by decide) (by decide)) dL_law_1561 ?_
    refine W.eq (g2 := F0 m 1562 ls [.long (f1 0)]) rfl ?_
    refine lv_iload hx hb dL_law_1562 (lv_at hl 0 rfl) ?_
    refine lv_i2l hx hb dL_law_1564 rfl ?_
    refine W.lcmp hx hb dL_law_1565 ?_
    refine W.eq (g2 := F0 m 1566 ls [.int 0]) (by rw [hf c_2, e2 c_2, lg_self]) ?_
    refine lv_if_eq (tgt := 1571) hx hb dL_law_1566 (by decide) (fun c_3 => ?_) (fun c_3 => absurd ((by decide : (0 : Int32) = 0)) c_3)
    refine lv_goto (tgt := 1574) hx hb dL_law_1571 (by decide) ?_
    refine W.widen (k := cells + 6) (n := slots + 36) (by omega) (by omega) ?_
    exact kk H locs σ (hStateBefore τ (xs (7 * k + 1)) (xs (7 * k + 2))) ls ⟨hC, hPM, ⟨_, hO⟩, hS, hL2⟩ (lv_sub hl [2, 3, 4, 5, 6] rfl)
end LC9
