/-- a walk of the law, behind its start -/
def LCtx (p : Program) (l : Launch) (s : State) (m : MethodId) (args : Array Value) (c : Code) (D : va_G) (cy : Nat → ClassId) (ad ad2 : Nat → Nat) (qa qm qb b L : Nat) (xs : Nat → Int32) : Prop := p.tables.exec = Jvm.exec ∧ c.code = cL_law ∧ c.maxLocals = 13 ∧ s.vm.findClass RL = some m.cls ∧ (∀ w ∈ wsL_law, w.before args s = true) ∧ va_X b L xs s s.heap ∧ b < s.heap.size ∧ L ≤ 260 ∧ va_K D vwCl (tyC cy) s ∧ xk s.heap.size s ∧ l.stackTraces = false ∧ inj31 ad ∧ inj31 ad2 ∧ apart ad ad2 ∧ (∀ i, i < 31 → s.heap.size ≤ ad i) ∧ (∀ i, i < 31 → s.heap.size ≤ ad2 i) ∧ ∀ (σ τ : Mem) (fa fm fb : Nat → Int32), va_D (Az s.heap.size) (X2 cy ad ad2 σ τ ++ [aW cy qa 64 fa, aW cy qm 48 fm, aW cy qb 6 fb])
section RQ
variable {p : Program} {l : Launch} {e : Env} {R : Room} {s : State} {m : MethodId} {args : Array Value} {below : List Frame} {meth : Method} {c : Code} {H : Heap} {locs : List Loc} {cells slots : Nat} {Q : State → Prop} {pc : Nat} {ls : Array Slot} {rest st0 : List Value} {A1 : Nat → Prop} {a : Array Value} {H0 : Heap} {mc ms : Nat}
theorem rMq {x : Int64} (hr : va_Run p l e R s m args below meth c H locs cells slots mc ms (F0 m pc ls st0) rest (QL x a) NoA) (hS : va_S A1 H0 H locs)
    (kk : ∀ (H1 : Heap) (locs1 : List Loc), va_S A1 H0 H1 locs1 → (∀ q : Nat, q < H.size → H1[q]? = H[q]?) → W p l e R s m args below meth c H1 locs1 (cells + mc) (slots + ms) Q (F0 m (pc + 3) ls (.long x :: rest))) : W p l e R s m args below meth c H locs cells slots Q (F0 m pc ls st0) :=
  va_calll hr hS (fun q _ h => h.elim) (fun q h => h.elim) (fun r u t H1 locs1 ht _ hr9 hB hz hk hS1 => by rw [hr9]; exact kk H1 locs1 hS1 (fun q hq => hk q hq (fun z => z)))
end RQ
theorem kO_16 {σ : Mem} : kOrder σ 16 = 1 := by unfold kOrder; rw [if_neg (by decide)]
set_option maxHeartbeats 2000000 in
set_option maxRecDepth 100000 in
/-- behind an act: what the law asks each time -/
theorem law_tail {p : Program} {l : Launch} {e : Env} {s : State} {m : MethodId} {args : Array Value} {below : List Frame} {meth : Method} {c : Code} {Q : State → Prop} {D : va_G} {cy : Nat → ClassId} {ad ad2 : Nat → Nat} {qa qm qb b L : Nat} {xs : Nat → Int32} {k c0 s0 : Nat} (hk : k < 64) (hc0 : c0 ≤ 1000) (hs0 : s0 ≤ 10000) (C : LCtx p l s m args c D cy ad ad2 qa qm qb b L xs) (kk : ∀ (σ : Mem) (fa fm fb : Nat → Int32) (h N : Nat), h ≤ 200 * (k + 1) → N ≤ 25000 * (k + 1) → ∀ (H : Heap) (locs : List Loc) (ls : Array Slot) (cells slots : Nat), cells ≤ c0 + 2500 * (k + 1) → slots ≤ s0 + 15000 * (k + 1) → va_P D vwCl (X2 cy ad ad2 σ σ ++ [aW cy qa 64 fa, aW cy qm 48 fm, aW cy qb 6 fb]) H → va_S (Az s.heap.size) s.heap H locs → OKs h N fa fm fb σ → lv_has ls 13 [(6, .int 1), (7, .int (nI (k + 1))), (0, .ref b), (1, .ref (ad 0)), (2, .ref (ad2 0)), (3, .ref qa), (4, .ref qm), (5, .ref qb)] → W p l e room_1 s m args below meth c H locs cells slots Q (F0 m 115 ls []))
    (σ : Mem) (fa fm fb : Nat → Int32) (h N : Nat) (hh : h ≤ 200 * (k + 1)) (hN : N ≤ 25000 * (k + 1)) (H : Heap) (locs : List Loc) (ls : Array Slot) (cells slots : Nat) (hc9 : cells ≤ c0 + 2500 * k + 220) (hs9 : slots ≤ s0 + 15000 * k + 1320) (hP : va_P D vwCl (X2 cy ad ad2 σ σ ++ [aW cy qa 64 fa, aW cy qm 48 fm, aW cy qb 6 fb]) H) (hS : va_S (Az s.heap.size) s.heap H locs) (hO : OKs h N fa fm fb σ) (hl : lv_has ls 13 [(7, .int (nI k)), (0, .ref b), (1, .ref (ad 0)), (2, .ref (ad2 0)), (3, .ref qa), (4, .ref qm), (5, .ref qb)]) : W p l e room_1 s m args below meth c H locs cells slots Q (F0 m 218 ls [.int 1]) := by
  obtain ⟨hx, hb, hml, hown, hts, hX, hbl, hL9, hK, hxk, hst, hj, hj2, hne, hz, hz2, hDD⟩ := C
  obtain ⟨hTo, hTt⟩ := noT_D (hDD σ σ fa fm fb)
  obtain ⟨w, hw, hkp, hJ⟩ := kept_w hO.1.2.2.2.2 (by omega)
  refine W.widen (k := c0 + 2500 * k + 220) (n := s0 + 15000 * k + 1320) hc9 hs9 ?_
  refine lv_istore (lv' := [(6, .int 1), (7, .int (nI k)), (0, .ref b), (1, .ref (ad 0)), (2, .ref (ad2 0)), (3, .ref qa), (4, .ref qm), (5, .ref qb)]) hx hb dL_law_218 hl (by decide) rfl (fun ls hl => ?_)
  refine lv_aload_n hx hb dL_law_220 rfl (lv_at hl 3 rfl) ?_
  refine rMq (va_runS (As := [.ref (ad 0)]) (rest := []) ⟨hx, hb, hml, hown, hts⟩ (c_L_print l hst D cy ad σ s.heap.size w hw hkp) (va_cwS 1 hts gL_law_L_print rfl rfl rfl (by decide +kernel) ⟨Nat.le_of_ble_eq_true rfl, Nat.le_of_ble_eq_true rfl⟩) ⟨cx_bl, cx_S hP.left.left hK Az_z hxk hS⟩ rfl rfl hl.1 rfl (lv_room (Nat.le_of_ble_eq_true rfl)) dL_law_221 ⟨by show _ ≤ 659596; omega, by show _ ≤ 7122983; omega⟩) hS (fun H locs hS hg => ?_)
  have hP := hP.grown hg
  refine W.eq (g2 := F0 m 224 ls [.long (pB σ w)]) rfl ?_
  refine lv_lstore (lv' := [(10, .long (pB σ w)), (6, .int 1), (7, .int (nI k)), (0, .ref b), (1, .ref (ad 0)), (2, .ref (ad2 0)), (3, .ref qa), (4, .ref qm), (5, .ref qb)]) hx hb dL_law_224 hl (by decide) rfl (fun ls hl => ?_)
  refine lv_iload hx hb dL_law_226 (lv_at hl 1 rfl) ?_
  refine lv_if_eq (tgt := 328) hx hb dL_law_228 (by decide) (fun c_1 => absurd c_1 ((by decide : ¬ (1 : Int32) = 0))) (fun c_1 => ?_)
  refine lv_lload hx hb dL_law_231 (lv_at hl 0 rfl) ?_
  refine lv_aload_n hx hb dL_law_233 rfl (lv_at hl 5 rfl) ?_
  refine rMq (va_runS (As := [.ref (ad2 0)]) (rest := [.long (pB σ w)]) ⟨hx, hb, hml, hown, hts⟩ (c_L_print l hst D cy ad2 σ s.heap.size w hw hkp) (va_cwS 1 hts gL_law_L_print rfl rfl rfl (by decide +kernel) ⟨Nat.le_of_ble_eq_true rfl, Nat.le_of_ble_eq_true rfl⟩) ⟨cx_bl, cx_S hP.left.right hK Az_z hxk hS⟩ rfl rfl hl.1 rfl (lv_room (Nat.le_of_ble_eq_true rfl)) dL_law_234 ⟨by show _ ≤ 659596; omega, by show _ ≤ 7122983; omega⟩) hS (fun H locs hS hg => ?_)
  have hP := hP.grown hg
  refine W.eq (g2 := F0 m 237 ls [.long (pB σ w), .long (pB σ w)]) rfl ?_
  refine W.lcmp hx hb dL_law_237 ?_
  refine W.eq (g2 := F0 m 238 ls [.int 0]) (by rw [lg_self]) ?_
  refine lv_if_ne (tgt := 328) hx hb dL_law_238 (by decide) (fun c_2 => absurd ((by decide : (0 : Int32) = 0)) c_2) (fun c_2 => ?_)
  refine lv_aload_n hx hb dL_law_241 rfl (lv_at hl 4 rfl) ?_
  refine lv_iconst (v := 4) hx hb dL_law_242 (by decide) ?_
  refine lv_iconst (v := 0) hx hb dL_law_243 (by decide) ?_
  refine lMi (fun q ⟨j9, h1, h2⟩ => by rw [h2]; exact hz j9 h1) (vx_runSW (As := [.ref (ad 0), .int 4, .int 0]) (rest := []) ⟨hx, hb, hml, hown, hts⟩ (c_L_setBatch l hst D cy ad hj σ s.heap.size 4 0 ((-1000001)) (by rw [show kSetBatch 4 0 = 1 from by decide]; exact w12_1 _) σ (if_neg (by rw [show kSetBatch 4 0 = 1 from by decide]; decide))) (vx_cwSW 3 hts gL_law_L_setBatch rfl rfl rfl (by decide +kernel) ⟨Nat.le_of_ble_eq_true rfl, Nat.le_of_ble_eq_true rfl⟩) ⟨cx_bl, cx_S hP.left.left hK Az_z hxk hS⟩ rfl rfl hl.1 rfl (lv_room (Nat.le_of_ble_eq_true rfl)) dL_law_244 ⟨by show _ ≤ 659596; omega, by show _ ≤ 7122983; omega⟩) hS (fun H locs hPW hS hk1 => ?_)
  have hP := setO hne hTo hP hPW hk1
  refine W.eq (g2 := F0 m 247 ls [.int (-1000001)]) rfl ?_
  refine lv_ldc (v := (-1000001)) hx hb hown (hts (.constant RL 18 (-1000001)) (by decide +kernel)) dL_law_247 ?_
  refine lv_icmp_ne (tgt := 328) hx hb dL_law_249 (by decide) (fun c_3 => absurd ((by decide : (-1000001 : Int32) = -1000001)) c_3) (fun c_3 => ?_)
  refine lv_aload_n hx hb dL_law_252 rfl (lv_at hl 4 rfl) ?_
  refine lv_bipush (v := 25) hx hb dL_law_253 (by decide) ?_
  refine lv_iconst (v := 1) hx hb dL_law_255 (by decide) ?_
  refine lMi (fun q ⟨j9, h1, h2⟩ => by rw [h2]; exact hz j9 h1) (vx_runSW (As := [.ref (ad 0), .int 25, .int 1]) (rest := []) ⟨hx, hb, hml, hown, hts⟩ (c_L_setRetries l hst D cy ad hj σ s.heap.size 25 1 ((-1000002)) (by rw [show kSetRetries 25 1 = 1 from by decide]; exact w2_1 _) σ (if_neg (by rw [show kSetRetries 25 1 = 1 from by decide]; decide))) (vx_cwSW 3 hts gL_law_L_setRetries rfl rfl rfl (by decide +kernel) ⟨Nat.le_of_ble_eq_true rfl, Nat.le_of_ble_eq_true rfl⟩) ⟨cx_bl, cx_S hP.left.left hK Az_z hxk hS⟩ rfl rfl hl.1 rfl (lv_room (Nat.le_of_ble_eq_true rfl)) dL_law_256 ⟨by show _ ≤ 659596; omega, by show _ ≤ 7122983; omega⟩) hS (fun H locs hPW hS hk1 => ?_)
  have hP := setO hne hTo hP hPW hk1
  refine W.eq (g2 := F0 m 259 ls [.int (-1000002)]) rfl ?_
  refine lv_ldc (v := (-1000002)) hx hb hown (hts (.constant RL 21 (-1000002)) (by decide +kernel)) dL_law_259 ?_
  refine lv_icmp_ne (tgt := 328) hx hb dL_law_261 (by decide) (fun c_4 => absurd ((by decide : (-1000002 : Int32) = -1000002)) c_4) (fun c_4 => ?_)
  refine lv_aload_n hx hb dL_law_264 rfl (lv_at hl 4 rfl) ?_
  refine lv_bipush (v := 16) hx hb dL_law_265 (by decide) ?_
  refine lMi (fun q ⟨j9, h1, h2⟩ => by rw [h2]; exact hz j9 h1) (vx_runSW (As := [.ref (ad 0), .int 16]) (rest := []) ⟨hx, hb, hml, hown, hts⟩ (c_L_order l hst D cy ad hj σ s.heap.size 16 ((-1000001)) (by rw [kO_16]; exact w13_1 _) σ (if_neg (by rw [kO_16]; decide))) (vx_cwSW 2 hts gL_law_L_order rfl rfl rfl (by decide +kernel) ⟨Nat.le_of_ble_eq_true rfl, Nat.le_of_ble_eq_true rfl⟩) ⟨cx_bl, cx_S hP.left.left hK Az_z hxk hS⟩ rfl rfl hl.1 rfl (lv_room (Nat.le_of_ble_eq_true rfl)) dL_law_267 ⟨by show _ ≤ 659596; omega, by show _ ≤ 7122983; omega⟩) hS (fun H locs hPW hS hk1 => ?_)
  have hP := setO hne hTo hP hPW hk1
  refine W.eq (g2 := F0 m 270 ls [.int (-1000001)]) rfl ?_
  refine lv_ldc (v := (-1000001)) hx hb hown (hts (.constant RL 18 (-1000001)) (by decide +kernel)) dL_law_270 ?_
  refine lv_icmp_ne (tgt := 328) hx hb dL_law_272 (by decide) (fun c_5 => absurd ((by decide : (-1000001 : Int32) = -1000001)) c_5) (fun c_5 => ?_)
  refine lv_aload_n hx hb dL_law_275 rfl (lv_at hl 4 rfl) ?_
  refine lv_sipush (v := 201) hx hb dL_law_276 (by decide) ?_
  refine lMi (fun q ⟨j9, h1, h2⟩ => by rw [h2]; exact hz j9 h1) (vx_runSW (As := [.ref (ad 0), .int 201]) (rest := []) ⟨hx, hb, hml, hown, hts⟩ (c_L_advance l hst D cy ad hj σ s.heap.size 201 ((-1000002)) (by rw [show kAdvance 201 = 1 from by decide]; exact w2_1 _) σ (if_neg (by rw [show kAdvance 201 = 1 from by decide]; decide))) (vx_cwSW 2 hts gL_law_L_advance rfl rfl rfl (by decide +kernel) ⟨Nat.le_of_ble_eq_true rfl, Nat.le_of_ble_eq_true rfl⟩) ⟨cx_bl, cx_S hP.left.left hK Az_z hxk hS⟩ rfl rfl hl.1 rfl (lv_room (Nat.le_of_ble_eq_true rfl)) dL_law_279 ⟨by show _ ≤ 659596; omega, by show _ ≤ 7122983; omega⟩) hS (fun H locs hPW hS hk1 => ?_)
  have hP := setO hne hTo hP hPW hk1
  refine W.eq (g2 := F0 m 282 ls [.int (-1000002)]) rfl ?_
  refine lv_ldc (v := (-1000002)) hx hb hown (hts (.constant RL 21 (-1000002)) (by decide +kernel)) dL_law_282 ?_
  refine lv_icmp_ne (tgt := 328) hx hb dL_law_284 (by decide) (fun c_6 => absurd ((by decide : (-1000002 : Int32) = -1000002)) c_6) (fun c_6 => ?_)
  refine lv_aload_n hx hb dL_law_287 rfl (lv_at hl 4 rfl) ?_
  refine lv_iconst (v := 0) hx hb dL_law_288 (by decide) ?_
  refine lMi (fun q ⟨j9, h1, h2⟩ => by rw [h2]; exact hz j9 h1) (vx_runSW (As := [.ref (ad 0), .int 0]) (rest := []) ⟨hx, hb, hml, hown, hts⟩ (c_L_advance l hst D cy ad hj σ s.heap.size 0 ((-1000002)) (by rw [show kAdvance 0 = 1 from by decide]; exact w2_1 _) σ (if_neg (by rw [show kAdvance 0 = 1 from by decide]; decide))) (vx_cwSW 2 hts gL_law_L_advance rfl rfl rfl (by decide +kernel) ⟨Nat.le_of_ble_eq_true rfl, Nat.le_of_ble_eq_true rfl⟩) ⟨cx_bl, cx_S hP.left.left hK Az_z hxk hS⟩ rfl rfl hl.1 rfl (lv_room (Nat.le_of_ble_eq_true rfl)) dL_law_289 ⟨by show _ ≤ 659596; omega, by show _ ≤ 7122983; omega⟩) hS (fun H locs hPW hS hk1 => ?_)
  have hP := setO hne hTo hP hPW hk1
  refine W.eq (g2 := F0 m 292 ls [.int (-1000002)]) rfl ?_
  refine lv_ldc (v := (-1000002)) hx hb hown (hts (.constant RL 21 (-1000002)) (by decide +kernel)) dL_law_292 ?_
  refine lv_icmp_ne (tgt := 328) hx hb dL_law_294 (by decide) (fun c_7 => absurd ((by decide : (-1000002 : Int32) = -1000002)) c_7) (fun c_7 => ?_)
  refine lv_aload_n hx hb dL_law_297 rfl (lv_at hl 4 rfl) ?_
  refine rMq (va_runS (As := [.ref (ad 0)]) (rest := []) ⟨hx, hb, hml, hown, hts⟩ (c_L_print l hst D cy ad σ s.heap.size w hw hkp) (va_cwS 1 hts gL_law_L_print rfl rfl rfl (by decide +kernel) ⟨Nat.le_of_ble_eq_true rfl, Nat.le_of_ble_eq_true rfl⟩) ⟨cx_bl, cx_S hP.left.left hK Az_z hxk hS⟩ rfl rfl hl.1 rfl (lv_room (Nat.le_of_ble_eq_true rfl)) dL_law_298 ⟨by show _ ≤ 659596; omega, by show _ ≤ 7122983; omega⟩) hS (fun H locs hS hg => ?_)
  have hP := hP.grown hg
  refine W.eq (g2 := F0 m 301 ls [.long (pB σ w)]) rfl ?_
  refine lv_lload hx hb dL_law_301 (lv_at hl 0 rfl) ?_
  refine W.lcmp hx hb dL_law_303 ?_
  refine W.eq (g2 := F0 m 304 ls [.int 0]) (by rw [lg_self]) ?_
  refine lv_if_ne (tgt := 328) hx hb dL_law_304 (by decide) (fun c_8 => absurd ((by decide : (0 : Int32) = 0)) c_8) (fun c_8 => ?_)
  refine lv_aload_n hx hb dL_law_307 rfl (lv_at hl 4 rfl) ?_
  refine lv_aload_n hx hb dL_law_308 rfl (lv_at hl 6 rfl) ?_
  refine lv_aload hx hb dL_law_309 (lv_at hl 8 rfl) ?_
  refine rMi (va_runS (As := [.ref (ad 0), .ref qa, .ref qb]) (rest := []) ⟨hx, hb, hml, hown, hts⟩ (c_L_queues l hst D cy ad σ s.heap.size qa qb fa fm fb h N (by omega) hO.1 hO.2.1 hO.2.2) (va_cwS 3 hts gL_law_L_queues rfl rfl rfl (by decide +kernel) ⟨Nat.le_of_ble_eq_true rfl, Nat.le_of_ble_eq_true rfl⟩) ⟨aX_bl, aX_S hP.left.left hK Az_z hxk hS (hP.right.one (k := 0) rfl) (hP.right.one (k := 2) rfl)⟩ rfl rfl hl.1 rfl (lv_room (Nat.le_of_ble_eq_true rfl)) dL_law_311 ⟨by show _ ≤ 659596; omega, by show _ ≤ 7122983; omega⟩) hS (fun H locs hS hg => ?_)
  have hP := hP.grown hg
  refine W.eq (g2 := F0 m 314 ls [.int 1]) rfl ?_
  refine lv_if_eq (tgt := 328) hx hb dL_law_314 (by decide) (fun c_9 => absurd c_9 ((by decide : ¬ (1 : Int32) = 0))) (fun c_9 => ?_)
  refine lv_aload_n hx hb dL_law_317 rfl (lv_at hl 4 rfl) ?_
  refine rMi (va_runS (As := [.ref (ad 0)]) (rest := []) ⟨hx, hb, hml, hown, hts⟩ (c_L_journal l hst D cy ad σ s.heap.size w hw hkp hJ) (va_cwS 1 hts gL_law_L_journal rfl rfl rfl (by decide +kernel) ⟨Nat.le_of_ble_eq_true rfl, Nat.le_of_ble_eq_true rfl⟩) ⟨cx_bl, cx_S hP.left.left hK Az_z hxk hS⟩ rfl rfl hl.1 rfl (lv_room (Nat.le_of_ble_eq_true rfl)) dL_law_318 ⟨by show _ ≤ 659596; omega, by show _ ≤ 7122983; omega⟩) hS (fun H locs hS hg => ?_)
  have hP := hP.grown hg
  refine W.eq (g2 := F0 m 321 ls [.int 1]) rfl ?_
  refine lv_if_eq (tgt := 328) hx hb dL_law_321 (by decide) (fun c_10 => absurd c_10 ((by decide : ¬ (1 : Int32) = 0))) (fun c_10 => ?_)
  refine lv_iconst (v := 1) hx hb dL_law_324 (by decide) ?_
  refine lv_goto (tgt := 329) hx hb dL_law_325 (by decide) ?_
  refine lv_istore (lv' := [(6, .int 1), (10, .long (pB σ w)), (7, .int (nI k)), (0, .ref b), (1, .ref (ad 0)), (2, .ref (ad2 0)), (3, .ref qa), (4, .ref qm), (5, .ref qb)]) hx hb dL_law_329 hl (by decide) rfl (fun ls hl => ?_)
  refine lv_iconst (v := 0) hx hb dL_law_331 (by decide) ?_
  refine lv_istore (lv' := [(12, .int 0), (6, .int 1), (10, .long (pB σ w)), (7, .int (nI k)), (0, .ref b), (1, .ref (ad 0)), (2, .ref (ad2 0)), (3, .ref qa), (4, .ref qm), (5, .ref qb)]) hx hb dL_law_332 hl (by decide) rfl (fun ls hl => ?_)
  have hl0 : lv_has ls 13 [(12, .int (nI 0)), (6, .int 1), (7, .int (nI k)), (0, .ref b), (1, .ref (ad 0)), (2, .ref (ad2 0)), (3, .ref qa), (4, .ref qm), (5, .ref qb)] := lv_sub hl [0, 1, 3, 4, 5, 6, 7, 8, 9] rfl
  refine w_loopG 16 (c0 + 2500 * k + 220 + 280 + 280 + 1 + 2 + 2 + 1 + 1 + 280 + 500 + 500) 20 (s0 + 15000 * k + 1320 + 1680 + 1680 + 6 + 12 + 12 + 6 + 6 + 1680 + 3000 + 3000) 120 (fun g9 H => va_P D vwCl (X2 cy ad ad2 σ σ ++ [aW cy qa 64 fa, aW cy qm 48 fm, aW cy qb 6 fb]) H) (fun g9 => [(12, .int (nI g9)), (6, .int 1), (7, .int (nI k)), (0, .ref b), (1, .ref (ad 0)), (2, .ref (ad2 0)), (3, .ref qa), (4, .ref qm), (5, .ref qb)]) hl0 hP hS (Nat.le_refl _) (Nat.le_refl _) (fun H locs ls hl hG hS => ?_) (fun g9 hg9 H locs ls hl hG hS ih => ?_)
  · have hl : lv_has ls 13 [(12, .int (nI 16)), (6, .int 1), (7, .int (nI k)), (0, .ref b), (1, .ref (ad 0)), (2, .ref (ad2 0)), (3, .ref qa), (4, .ref qm), (5, .ref qb)] := hl
    have hP : va_P D vwCl (X2 cy ad ad2 σ σ ++ [aW cy qa 64 fa, aW cy qm 48 fm, aW cy qb 6 fb]) H := hG
    refine lv_iload hx hb dL_law_334 (lv_at hl 0 rfl) ?_
    refine lv_bipush (v := 16) hx hb dL_law_336 (by decide) ?_
    refine lv_icmp_ge (tgt := 365) hx hb dL_law_338 (by decide) (fun c_11 => ?_) (fun c_11 => absurd (((nI_leI (a := 16) (b := 16) (by omega) (by omega)).mpr (by omega))) c_11)
    refine lv_iinc (v := nI (k + 1)) (lv' := [(7, .int (nI (k + 1))), (12, .int (nI 16)), (6, .int 1), (0, .ref b), (1, .ref (ad 0)), (2, .ref (ad2 0)), (3, .ref qa), (4, .ref qm), (5, .ref qb)]) hx hb dL_law_365 hl (k := 2) rfl (nI_1 k) (by decide) rfl (fun ls hl => ?_)
    refine lv_goto (tgt := 115) hx hb dL_law_368 (by decide) ?_
    exact kk σ fa fm fb h N hh hN H locs ls _ _ (by omega) (by omega) hP hS hO (lv_sub hl [2, 0, 3, 4, 5, 6, 7, 8] rfl)
  · have hl : lv_has ls 13 [(12, .int (nI g9)), (6, .int 1), (7, .int (nI k)), (0, .ref b), (1, .ref (ad 0)), (2, .ref (ad2 0)), (3, .ref qa), (4, .ref qm), (5, .ref qb)] := hl
    have hP : va_P D vwCl (X2 cy ad ad2 σ σ ++ [aW cy qa 64 fa, aW cy qm 48 fm, aW cy qb 6 fb]) H := hG
    have ih334 := ih
    refine lv_iload hx hb dL_law_334 (lv_at hl 0 rfl) ?_
    refine lv_bipush (v := 16) hx hb dL_law_336 (by decide) ?_
    refine lv_icmp_ge (tgt := 365) hx hb dL_law_338 (by decide) (fun c_12 => absurd c_12 ((fun z9 => absurd ((nI_leI (a := 16) (b := g9) (by omega) (by omega)).mp z9) (by omega)))) (fun c_12 => ?_)
    refine lv_iload hx hb dL_law_341 (lv_at hl 1 rfl) ?_
    refine lv_if_eq (tgt := 365) hx hb dL_law_343 (by decide) (fun c_13 => absurd c_13 ((by decide : ¬ (1 : Int32) = 0))) (fun c_13 => ?_)
    refine lv_aload_n hx hb dL_law_346 rfl (lv_at hl 4 rfl) ?_
    refine lv_aload_n hx hb dL_law_347 rfl (lv_at hl 6 rfl) ?_
    refine lv_aload hx hb dL_law_348 (lv_at hl 7 rfl) ?_
    refine lv_aload hx hb dL_law_350 (lv_at hl 8 rfl) ?_
    refine lv_iload hx hb dL_law_352 (lv_at hl 0 rfl) ?_
    refine rMi (va_runS (As := [.ref (ad 0), .ref qa, .ref qm, .ref qb, .int (nI g9)]) (rest := []) ⟨hx, hb, hml, hown, hts⟩ (c_L_goes l hst D cy ad σ s.heap.size qa qm qb fa fm fb h N g9 hg9 (by omega) hO.1 hO.2.2) (va_cwS 5 hts gL_law_L_goes rfl rfl rfl (by decide +kernel) ⟨Nat.le_of_ble_eq_true rfl, Nat.le_of_ble_eq_true rfl⟩) ⟨aX_bl, aX_S hP.left.left hK Az_z hxk hS (hP.right.one (k := 0) rfl) (hP.right.one (k := 1) rfl)⟩ rfl rfl hl.1 rfl (lv_room (Nat.le_of_ble_eq_true rfl)) dL_law_354 ⟨by show _ ≤ 659596; omega, by show _ ≤ 7122983; omega⟩) hS (fun H locs hS hg => ?_)
    have hP := hP.grown hg
    refine W.eq (g2 := F0 m 357 ls [.int 1]) rfl ?_
    refine lv_istore (lv' := [(6, .int 1), (12, .int (nI g9)), (7, .int (nI k)), (0, .ref b), (1, .ref (ad 0)), (2, .ref (ad2 0)), (3, .ref qa), (4, .ref qm), (5, .ref qb)]) hx hb dL_law_357 hl (by decide) rfl (fun ls hl => ?_)
    refine lv_iinc (v := nI (g9 + 1)) (lv' := [(12, .int (nI (g9 + 1))), (6, .int 1), (7, .int (nI k)), (0, .ref b), (1, .ref (ad 0)), (2, .ref (ad2 0)), (3, .ref qa), (4, .ref qm), (5, .ref qb)]) hx hb dL_law_359 hl (k := 1) rfl (nI_1 g9) (by decide) rfl (fun ls hl => ?_)
    refine lv_goto (tgt := 334) hx hb dL_law_362 (by decide) ?_
    exact ih334 H locs ls _ _ (by omega) (by omega) (lv_sub hl [0, 1, 2, 3, 4, 5, 6, 7, 8] rfl) hP hS
set_option maxHeartbeats 2000000 in
set_option maxRecDepth 100000 in
/-- a turn of the law -/
theorem law_turn {p : Program} {l : Launch} {e : Env} {s : State} {m : MethodId} {args : Array Value} {below : List Frame} {meth : Method} {c : Code} {Q : State → Prop} {D : va_G} {cy : Nat → ClassId} {ad ad2 : Nat → Nat} {qa qm qb b L : Nat} {xs : Nat → Int32} {k c0 s0 : Nat} (hk : k < 64) (hc0 : c0 ≤ 1000) (hs0 : s0 ≤ 10000) (C : LCtx p l s m args c D cy ad ad2 qa qm qb b L xs) (kk : ∀ (σ : Mem) (fa fm fb : Nat → Int32) (h N : Nat), h ≤ 200 * (k + 1) → N ≤ 25000 * (k + 1) → ∀ (H : Heap) (locs : List Loc) (ls : Array Slot) (cells slots : Nat), cells ≤ c0 + 2500 * (k + 1) → slots ≤ s0 + 15000 * (k + 1) → va_P D vwCl (X2 cy ad ad2 σ σ ++ [aW cy qa 64 fa, aW cy qm 48 fm, aW cy qb 6 fb]) H → va_S (Az s.heap.size) s.heap H locs → OKs h N fa fm fb σ → lv_has ls 13 [(6, .int 1), (7, .int (nI (k + 1))), (0, .ref b), (1, .ref (ad 0)), (2, .ref (ad2 0)), (3, .ref qa), (4, .ref qm), (5, .ref qb)] → W p l e room_1 s m args below meth c H locs cells slots Q (F0 m 115 ls []))
    (σ : Mem) (fa fm fb : Nat → Int32) (h N : Nat) (hh : h ≤ 200 * k) (hN : N ≤ 25000 * k) (H : Heap) (locs : List Loc) (ls : Array Slot) (cells slots : Nat) (hc9 : cells ≤ c0 + 2500 * k) (hs9 : slots ≤ s0 + 15000 * k) (hP : va_P D vwCl (X2 cy ad ad2 σ σ ++ [aW cy qa 64 fa, aW cy qm 48 fm, aW cy qb 6 fb]) H) (hS : va_S (Az s.heap.size) s.heap H locs) (hO : OKs h N fa fm fb σ) (hl : lv_has ls 13 [(6, .int 1), (7, .int (nI k)), (0, .ref b), (1, .ref (ad 0)), (2, .ref (ad2 0)), (3, .ref qa), (4, .ref qm), (5, .ref qb)]) : W p l e room_1 s m args below meth c H locs cells slots Q (F0 m 115 ls []) := by
  have tail := law_tail hk hc0 hs0 C kk
  obtain ⟨hx, hb, hml, hown, hts, hX, hbl, hL9, hK, hxk, hst, hj, hj2, hne, hz, hz2, hDD⟩ := C
  obtain ⟨hTo, hTt⟩ := noT_D (hDD σ σ fa fm fb)
  have hbA : ¬ Az s.heap.size b := Nat.not_le.mpr hbl
  refine W.widen (k := c0 + 2500 * k) (n := s0 + 15000 * k) hc9 hs9 ?_
  refine lv_iload hx hb dL_law_115 (lv_at hl 1 rfl) ?_
  refine lv_bipush (v := 64) hx hb dL_law_117 (by decide) ?_
  refine lv_icmp_ge (tgt := 371) hx hb dL_law_119 (by decide) (fun c_1 => absurd c_1 ((fun z9 => absurd ((nI_leI (a := 64) (b := k) (by omega) (by omega)).mp z9) (by omega)))) (fun c_1 => ?_)
  refine lv_iload hx hb dL_law_122 (lv_at hl 0 rfl) ?_
  refine lv_if_eq (tgt := 371) hx hb dL_law_124 (by decide) (fun c_2 => absurd c_2 ((by decide : ¬ (1 : Int32) = 0))) (fun c_2 => ?_)
  refine lv_aload_n hx hb dL_law_127 rfl (lv_at hl 2 rfl) ?_
  refine lv_iconst (v := 2) hx hb dL_law_128 (by decide) ?_
  refine lv_iload hx hb dL_law_129 (lv_at hl 1 rfl) ?_
  refine lv_imul hx hb dL_law_131 ?_
  refine W.eq (congrArg (fun z9 => F0 m 132 ls [.int z9, .ref b]) (pk_mul 2 k)) ?_
  refine cS (W.runS (As := [.ref b, .int (nI (2 * k))]) (rest := []) ⟨hx, hb, hml, hown, hts⟩ (c_L_at l b L xs hL9 (2 * k) (by omega)) (va_cwS 2 hts gL_law_L_at rfl rfl rfl (by decide +kernel) ⟨Nat.le_of_ble_eq_true rfl, Nat.le_of_ble_eq_true rfl⟩) ⟨fun a U g mk h => h, fun U hU hW => ⟨rfl, va_Xat hX hbl hbA hS U hU hW⟩⟩ rfl rfl hl.1 rfl (lv_room (Nat.le_of_ble_eq_true rfl)) dL_law_132 ⟨by show _ ≤ 659596; omega, by show _ ≤ 7122983; omega⟩) (fun z132 _ => ?_)
  refine W.eq (g2 := F0 m 135 ls [.int z132]) rfl ?_
  refine lv_istore (lv' := [(8, .int z132), (6, .int 1), (7, .int (nI k)), (0, .ref b), (1, .ref (ad 0)), (2, .ref (ad2 0)), (3, .ref qa), (4, .ref qm), (5, .ref qb)]) hx hb dL_law_135 hl (by decide) rfl (fun ls hl => ?_)
  refine lv_aload_n hx hb dL_law_137 rfl (lv_at hl 3 rfl) ?_
  refine lv_iconst (v := 2) hx hb dL_law_138 (by decide) ?_
  refine lv_iload hx hb dL_law_139 (lv_at hl 2 rfl) ?_
  refine lv_imul hx hb dL_law_141 ?_
  refine W.eq (congrArg (fun z9 => F0 m 142 ls [.int z9, .ref b]) (pk_mul 2 k)) ?_
  refine lv_iconst (v := 1) hx hb dL_law_142 (by decide) ?_
  refine lv_iadd hx hb dL_law_143 ?_
  refine W.eq (congrArg (fun z9 => F0 m 144 ls [.int z9, .ref b]) (nI_add (2 * k) 1)) ?_
  refine cS (W.runS (As := [.ref b, .int (nI (2 * k + 1))]) (rest := []) ⟨hx, hb, hml, hown, hts⟩ (c_L_at l b L xs hL9 (2 * k + 1) (by omega)) (va_cwS 2 hts gL_law_L_at rfl rfl rfl (by decide +kernel) ⟨Nat.le_of_ble_eq_true rfl, Nat.le_of_ble_eq_true rfl⟩) ⟨fun a U g mk h => h, fun U hU hW => ⟨rfl, va_Xat hX hbl hbA hS U hU hW⟩⟩ rfl rfl hl.1 rfl (lv_room (Nat.le_of_ble_eq_true rfl)) dL_law_144 ⟨by show _ ≤ 659596; omega, by show _ ≤ 7122983; omega⟩) (fun z144 _ => ?_)
  refine W.eq (g2 := F0 m 147 ls [.int z144]) rfl ?_
  refine lv_istore (lv' := [(9, .int z144), (8, .int z132), (6, .int 1), (7, .int (nI k)), (0, .ref b), (1, .ref (ad 0)), (2, .ref (ad2 0)), (3, .ref qa), (4, .ref qm), (5, .ref qb)]) hx hb dL_law_147 hl (by decide) rfl (fun ls hl => ?_)
  refine lv_iload hx hb dL_law_149 (lv_at hl 3 rfl) ?_
  refine lv_bipush (v := 8) hx hb dL_law_151 (by decide) ?_
  refine lv_icmp_le (tgt := 204) hx hb dL_law_153 (by decide) (fun c_3 => ?_) (fun c_3 => ?_)
  · have d_3 := Int32.not_lt.mpr c_3
    refine lv_aload_n hx hb dL_law_204 rfl (lv_at hl 5 rfl) ?_
    refine lv_aload_n hx hb dL_law_205 rfl (lv_at hl 6 rfl) ?_
    refine lv_aload_n hx hb dL_law_206 rfl (lv_at hl 7 rfl) ?_
    refine lv_aload hx hb dL_law_207 (lv_at hl 8 rfl) ?_
    refine lv_aload hx hb dL_law_209 (lv_at hl 9 rfl) ?_
    refine lv_iload hx hb dL_law_211 (lv_at hl 1 rfl) ?_
    refine lv_iload hx hb dL_law_213 (lv_at hl 0 rfl) ?_
    refine lMi (fun _ h9 => h9) (va_runS (As := [.ref (ad 0), .ref (ad2 0), .ref qa, .ref qm, .ref qb, .int z132, .int z144]) (rest := []) ⟨hx, hb, hml, hown, hts⟩ (c_L_acts l hst D cy ad σ s.heap.size ad2 hj hj2 hne hz hz2 qa qm qb fa fm fb h N z132 z144 (by omega) hO (hDD σ σ fa fm fb)) (va_cwS 7 hts gL_law_L_acts rfl rfl rfl (by decide +kernel) ⟨Nat.le_of_ble_eq_true rfl, Nat.le_of_ble_eq_true rfl⟩) ⟨lX_bl, lX_S hP hK Az_z hxk hS⟩ rfl rfl hl.1 rfl (lv_room (Nat.le_of_ble_eq_true rfl)) dL_law_215 ⟨by show _ ≤ 659596; omega, by show _ ≤ 7122983; omega⟩) hS (fun H locs hPW hS hk1 => ?_)
    obtain ⟨σ', fa', fm', fb', hPW, hO9⟩ := hPW
    refine W.eq (g2 := F0 m 218 ls [.int 1]) rfl ?_
    exact tail σ' fa' fm' fb' h (N + 70) (by omega) (by omega) H locs ls (c0 + 2500 * k + 60) (s0 + 15000 * k + 360) (by omega) (by omega) hPW hS hO9 (lv_sub hl [3, 4, 5, 6, 7, 8, 9] rfl)
  · have d_3 := Int32.not_le.mp c_3
    refine lv_iload hx hb dL_law_156 (lv_at hl 1 rfl) ?_
    refine lv_bipush (v := 6) hx hb dL_law_158 (by decide) ?_
    refine lv_ishr hx hb dL_law_160 ?_
    refine lv_bipush (v := 6) hx hb dL_law_161 (by decide) ?_
    refine cS (W.runS (As := [.int (z132 >>> (6 &&& 31)), .int 6]) (rest := []) ⟨hx, hb, hml, hown, hts⟩ (c_L_low l (z132 >>> (6 &&& 31)) 6 (by decide) (by decide)) (va_cwS 2 hts gL_law_L_low rfl rfl rfl (by decide +kernel) ⟨Nat.le_of_ble_eq_true rfl, Nat.le_of_ble_eq_true rfl⟩) ⟨fun a U g mk h => h, fun U _ _ => ⟨rfl, trivial⟩⟩ rfl rfl hl.1 rfl (lv_room (Nat.le_of_ble_eq_true rfl)) dL_law_163 ⟨by show _ ≤ 659596; omega, by show _ ≤ 7122983; omega⟩) (fun j163 hj163 => ?_)
    refine W.eq (g2 := F0 m 166 ls [.int (nI j163)]) rfl ?_
    refine lv_if_ne (tgt := 204) hx hb dL_law_166 (by decide) (fun c_4 => ?_) (fun c_4 => ?_)
    · refine lv_aload_n hx hb dL_law_204 rfl (lv_at hl 5 rfl) ?_
      refine lv_aload_n hx hb dL_law_205 rfl (lv_at hl 6 rfl) ?_
      refine lv_aload_n hx hb dL_law_206 rfl (lv_at hl 7 rfl) ?_
      refine lv_aload hx hb dL_law_207 (lv_at hl 8 rfl) ?_
      refine lv_aload hx hb dL_law_209 (lv_at hl 9 rfl) ?_
      refine lv_iload hx hb dL_law_211 (lv_at hl 1 rfl) ?_
      refine lv_iload hx hb dL_law_213 (lv_at hl 0 rfl) ?_
      refine lMi (fun _ h9 => h9) (va_runS (As := [.ref (ad 0), .ref (ad2 0), .ref qa, .ref qm, .ref qb, .int z132, .int z144]) (rest := []) ⟨hx, hb, hml, hown, hts⟩ (c_L_acts l hst D cy ad σ s.heap.size ad2 hj hj2 hne hz hz2 qa qm qb fa fm fb h N z132 z144 (by omega) hO (hDD σ σ fa fm fb)) (va_cwS 7 hts gL_law_L_acts rfl rfl rfl (by decide +kernel) ⟨Nat.le_of_ble_eq_true rfl, Nat.le_of_ble_eq_true rfl⟩) ⟨lX_bl, lX_S hP hK Az_z hxk hS⟩ rfl rfl hl.1 rfl (lv_room (Nat.le_of_ble_eq_true rfl)) dL_law_215 ⟨by show _ ≤ 659596; omega, by show _ ≤ 7122983; omega⟩) hS (fun H locs hPW hS hk1 => ?_)
      obtain ⟨σ', fa', fm', fb', hPW, hO9⟩ := hPW
      refine W.eq (g2 := F0 m 218 ls [.int 1]) rfl ?_
      exact tail σ' fa' fm' fb' h (N + 70) (by omega) (by omega) H locs ls (c0 + 2500 * k + 60) (s0 + 15000 * k + 360) (by omega) (by omega) hPW hS hO9 (lv_sub hl [3, 4, 5, 6, 7, 8, 9] rfl)
    · refine lv_aload_n hx hb dL_law_169 rfl (lv_at hl 5 rfl) ?_
      refine lv_aload_n hx hb dL_law_170 rfl (lv_at hl 6 rfl) ?_
      refine lv_iconst (v := 1) hx hb dL_law_171 (by decide) ?_
      refine lv_iload hx hb dL_law_172 (lv_at hl 0 rfl) ?_
      refine lv_iload hx hb dL_law_174 (lv_at hl 1 rfl) ?_
      refine lv_bipush (v := 9) hx hb dL_law_176 (by decide) ?_
      refine lv_ishr hx hb dL_law_178 ?_
      refine lv_iconst (v := 4) hx hb dL_law_179 (by decide) ?_
      refine cS (W.runS (As := [.int (z132 >>> (9 &&& 31)), .int 4]) (rest := [.int z144, .int 1, .ref (ad2 0), .ref (ad 0)]) ⟨hx, hb, hml, hown, hts⟩ (c_L_low l (z132 >>> (9 &&& 31)) 4 (by decide) (by decide)) (va_cwS 2 hts gL_law_L_low rfl rfl rfl (by decide +kernel) ⟨Nat.le_of_ble_eq_true rfl, Nat.le_of_ble_eq_true rfl⟩) ⟨fun a U g mk h => h, fun U _ _ => ⟨rfl, trivial⟩⟩ rfl rfl hl.1 rfl (lv_room (Nat.le_of_ble_eq_true rfl)) dL_law_180 ⟨by show _ ≤ 659596; omega, by show _ ≤ 7122983; omega⟩) (fun j180 hj180 => ?_)
      refine W.eq (g2 := F0 m 183 ls [.int (nI j180), .int z144, .int 1, .ref (ad2 0), .ref (ad 0)]) rfl ?_
      refine w_all (fun u9 : Nat => u9 < 200) (fun u9 => F0 m 197 ls [.int (nI u9), .int 1, .ref (ad2 0), .ref (ad 0)]) (fun u9 hu9 => ?_) (fun J197 => ?_)
      · refine lv_iadd hx hb dL_law_197 ?_
        refine W.eq (congrArg (fun z9 => F0 m 198 ls [.int z9, .ref (ad2 0), .ref (ad 0)]) (nI_add 1 u9)) ?_
        refine lMi (fun _ h9 => h9) (va_runS (As := [.ref (ad 0), .ref (ad2 0), .int (nI (1 + u9))]) (rest := []) ⟨hx, hb, hml, hown, hts⟩ (c_L_passes l hst D cy ad σ s.heap.size ad2 hj hj2 hne hz hz2 [aW cy qa 64 fa, aW cy qm 48 fm, aW cy qb 6 fb] hTo hTt h N (1 + u9) (by omega) (by omega) (by omega) (by omega) hO.1 hO.2.1) (va_cwS 3 hts gL_law_L_passes rfl rfl rfl (by decide +kernel) ⟨Nat.le_of_ble_eq_true rfl, Nat.le_of_ble_eq_true rfl⟩) ⟨lX_bl, lX_S hP hK Az_z hxk hS⟩ rfl rfl hl.1 rfl (lv_room (Nat.le_of_ble_eq_true rfl)) dL_law_198 ⟨by show _ ≤ 659596; omega, by show _ ≤ 7122983; omega⟩) hS (fun H locs hPW hS hk1 => ?_)
        obtain ⟨p1, p2, p3, p4⟩ := adv_all hO.1 (by omega) (by omega) hO.2.1 (1 + u9) (by omega)
        refine W.eq (g2 := F0 m 201 ls [.int 1]) rfl ?_
        refine lv_goto (tgt := 218) hx hb dL_law_201 (by decide) ?_
        exact tail (sAdv σ (1 + u9)) fa fm fb (h + (1 + u9)) (N + 112 * (1 + u9)) (by omega) (by omega) H locs ls (c0 + 2500 * k + 210) (s0 + 15000 * k + 1260) (by omega) (by omega) hPW hS ⟨p1, p2, hO.2.2.kp p3⟩ (lv_sub hl [3, 4, 5, 6, 7, 8, 9] rfl)
      · refine lv_if_ne (tgt := 192) hx hb dL_law_183 (by decide) (fun c_5 => ?_) (fun c_5 => ?_)
        · refine lv_bipush (v := 6) hx hb dL_law_192 (by decide) ?_
          refine cS (W.runS (As := [.int z144, .int 6]) (rest := [.int 1, .ref (ad2 0), .ref (ad 0)]) ⟨hx, hb, hml, hown, hts⟩ (c_L_low l z144 6 (by decide) (by decide)) (va_cwS 2 hts gL_law_L_low rfl rfl rfl (by decide +kernel) ⟨Nat.le_of_ble_eq_true rfl, Nat.le_of_ble_eq_true rfl⟩) ⟨fun a U g mk h => h, fun U _ _ => ⟨rfl, trivial⟩⟩ rfl rfl hl.1 rfl (lv_room (Nat.le_of_ble_eq_true rfl)) dL_law_194 ⟨by show _ ≤ 659596; omega, by show _ ≤ 7122983; omega⟩) (fun j194 hj194 => ?_)
          refine W.eq (g2 := F0 m 197 ls [.int (nI j194), .int 1, .ref (ad2 0), .ref (ad 0)]) rfl ?_
          exact J197 j194 (by omega)
        · refine lv_sipush (v := 200) hx hb dL_law_186 (by decide) ?_
          refine lv_goto (tgt := 194) hx hb dL_law_189 (by decide) ?_
          refine cS (W.runS (As := [.int z144, .int 200]) (rest := [.int 1, .ref (ad2 0), .ref (ad 0)]) ⟨hx, hb, hml, hown, hts⟩ (c_L_low l z144 200 (by decide) (by decide)) (va_cwS 2 hts gL_law_L_low rfl rfl rfl (by decide +kernel) ⟨Nat.le_of_ble_eq_true rfl, Nat.le_of_ble_eq_true rfl⟩) ⟨fun a U g mk h => h, fun U _ _ => ⟨rfl, trivial⟩⟩ rfl rfl hl.1 rfl (lv_room (Nat.le_of_ble_eq_true rfl)) dL_law_194 ⟨by show _ ≤ 659596; omega, by show _ ≤ 7122983; omega⟩) (fun j194 hj194 => ?_)
          refine W.eq (g2 := F0 m 197 ls [.int (nI j194), .int 1, .ref (ad2 0), .ref (ad 0)]) rfl ?_
          exact J197 j194 (by omega)
