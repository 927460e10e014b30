/-- being apart is a matter of the addresses alone -/
theorem va_D_adr {A : Nat → Prop} {w1 w2 : va_W} (h : va_D A w1) (e : w1.map Prod.fst = w2.map Prod.fst) : va_D A w2 := by
  have at9 : ∀ (i : Nat) (p : Nat × va_E), w2[i]? = some p → ∃ q, w1[i]? = some q ∧ q.1 = p.1 := by
    intro i p hp
    have h1 : (w2.map Prod.fst)[i]? = some p.1 := by rw [List.getElem?_map, hp]; rfl
    rw [← e, List.getElem?_map] at h1
    cases hq : w1[i]? with
    | none => rw [hq] at h1; cases h1
    | some q => rw [hq] at h1; exact ⟨q, rfl, Option.some.inj h1⟩
  refine ⟨fun i j p q hp hq h9 => ?_, fun k q hq => ?_⟩
  · obtain ⟨p1, a1, a2⟩ := at9 i p hp
    obtain ⟨q1, b1, b2⟩ := at9 j q hq
    exact h.1 i j p1 q1 a1 b1 (by rw [a2, b2, h9])
  · obtain ⟨q1, b1, b2⟩ := at9 k q hq
    rw [← b2]
    exact h.2 k q1 b1
set_option maxHeartbeats 2000000 in
set_option maxRecDepth 100000 in
/-- the law's rows get their first numbers -/
theorem law_init {p : Program} {l : Launch} {e : Env} {s : State} {m : MethodId} {args : Array Value} {below : List Frame} {meth : Method} {c : Code} {Q : State → Prop} {D : va_G} {cy : Nat → ClassId} {ad ad2 : Nat → Nat} {qa qm qb b L : Nat} {xs : Nat → Int32} (C : LCtx p l s m args c D cy ad ad2 qa qm qb b L xs) {H : Heap} {locs : List Loc} {ls : Array Slot} {cells slots : Nat} (hc9 : cells ≤ 100) (hs9 : slots ≤ 1000) (hP : va_P D vwCl (X2 cy ad ad2 σ0 σ0 ++ [aW cy qa 64 (fun _ => 0), aW cy qm 48 (fun _ => 0), aW cy qb 6 (fun _ => 0)]) H) (hD : va_D (Az s.heap.size) (X2 cy ad ad2 σ0 σ0 ++ [aW cy qa 64 (fun _ => 0), aW cy qm 48 (fun _ => 0), aW cy qb 6 (fun _ => 0)])) (hS : va_S (Az s.heap.size) s.heap H locs) (hl : lv_has ls 13 [(0, .ref b), (1, .ref (ad 0)), (2, .ref (ad2 0)), (3, .ref qa), (4, .ref qm), (5, .ref qb)])
    (kk : ∀ (fa fm fb : Nat → Int32) (H : Heap) (locs : List Loc) (ls : Array Slot) (cells slots : Nat), cells ≤ 100 → slots ≤ 1000 → va_P D vwCl (X2 cy ad ad2 σ0 σ0 ++ [aW cy qa 64 fa, aW cy qm 48 fm, aW cy qb 6 fb]) H → va_S (Az s.heap.size) s.heap H locs → Tell fa fm fb σ0 → lv_has ls 13 [(6, .int 1), (7, .int (nI 0)), (0, .ref b), (1, .ref (ad 0)), (2, .ref (ad2 0)), (3, .ref qa), (4, .ref qm), (5, .ref qb)] → W p l e room_1 s m args below meth c H locs cells slots Q (F0 m 115 ls [])) : W p l e room_1 s m args below meth c H locs cells slots Q (F0 m 33 ls []) := by
  obtain ⟨hx, hb, hml, hown, hts, hX, hbl, hL9, hK, hxk, hst, hj, hj2, hne, hz, hz2, hDD⟩ := C
  refine lv_iconst (v := 0) hx hb dL_law_33 (by decide) ?_
  refine W.eq (g2 := F0 m 34 ls [.int (nI 0)]) rfl ?_
  refine lv_istore (lv' := [(6, .int (nI 0)), (0, .ref b), (1, .ref (ad 0)), (2, .ref (ad2 0)), (3, .ref qa), (4, .ref qm), (5, .ref qb)]) hx hb dL_law_34 hl (by decide) rfl (fun ls hl => ?_)
  refine lv_iload hx hb dL_law_36 (lv_at hl 0 rfl) ?_
  refine lv_bipush (v := 8) hx hb dL_law_38 (by decide) ?_
  refine lv_icmp_ge (tgt := 66) hx hb dL_law_40 (by decide) (fun c_1 => absurd c_1 ((fun z9 => absurd ((nI_leI (a := 8) (b := 0) (by omega) (by omega)).mp z9) (by omega)))) (fun c_1 => ?_)
  refine lv_aload hx hb dL_law_43 (lv_at hl 5 rfl) ?_
  refine lv_bipush (v := 6) hx hb dL_law_45 (by decide) ?_
  refine lv_iload hx hb dL_law_47 (lv_at hl 0 rfl) ?_
  refine lv_imul hx hb dL_law_49 ?_
  refine W.eq (congrArg (fun z9 => F0 m 50 ls [.int z9, .ref qm]) (pk_mul 6 0)) ?_
  refine lv_iconst (v := (-1)) hx hb dL_law_50 (by decide) ?_
  refine rs5 (j := 1) hx hb hK hP hD hS rfl (show 6 * 0 < 48 by omega) (by decide) dL_law_51 (fun H locs hP hD hS => ?_)
  have hP : va_P D vwCl (X2 cy ad ad2 σ0 σ0 ++ [aW cy qa 64 (fun _ => 0), aW cy qm 48 (upd (fun _ => 0) (6 * 0) (-1)), aW cy qb 6 (fun _ => 0)]) H := hP
  have hD : va_D (Az s.heap.size) (X2 cy ad ad2 σ0 σ0 ++ [aW cy qa 64 (fun _ => 0), aW cy qm 48 (upd (fun _ => 0) (6 * 0) (-1)), aW cy qb 6 (fun _ => 0)]) := hD
  refine lv_aload hx hb dL_law_52 (lv_at hl 6 rfl) ?_
  refine lv_iload hx hb dL_law_54 (lv_at hl 0 rfl) ?_
  refine lv_iconst (v := 4) hx hb dL_law_56 (by decide) ?_
  refine lv_irem hx hb dL_law_57 (by decide) ?_
  refine W.eq (congrArg (fun z9 => F0 m 58 ls [.int z9, .ref qb]) (pk_rem (a := 0) (d := 4) (by omega) (by decide) (by decide))) ?_
  refine lv_iconst (v := 2) hx hb dL_law_58 (by decide) ?_
  refine rs5 (j := 2) hx hb hK hP hD hS rfl (show 0 % 4 < 6 by omega) (by decide) dL_law_59 (fun H locs hP hD hS => ?_)
  have hP : va_P D vwCl (X2 cy ad ad2 σ0 σ0 ++ [aW cy qa 64 (fun _ => 0), aW cy qm 48 (upd (fun _ => 0) (6 * 0) (-1)), aW cy qb 6 (upd (fun _ => 0) (0 % 4) 2)]) H := hP
  have hD : va_D (Az s.heap.size) (X2 cy ad ad2 σ0 σ0 ++ [aW cy qa 64 (fun _ => 0), aW cy qm 48 (upd (fun _ => 0) (6 * 0) (-1)), aW cy qb 6 (upd (fun _ => 0) (0 % 4) 2)]) := hD
  refine lv_iinc (v := nI 1) (lv' := [(6, .int (nI 1)), (0, .ref b), (1, .ref (ad 0)), (2, .ref (ad2 0)), (3, .ref qa), (4, .ref qm), (5, .ref qb)]) hx hb dL_law_60 hl (k := 0) rfl (nI_1 0) (by decide) rfl (fun ls hl => ?_)
  refine lv_goto (tgt := 36) hx hb dL_law_63 (by decide) ?_
  refine lv_iload hx hb dL_law_36 (lv_at hl 0 rfl) ?_
  refine lv_bipush (v := 8) hx hb dL_law_38 (by decide) ?_
  refine lv_icmp_ge (tgt := 66) hx hb dL_law_40 (by decide) (fun c_2 => absurd c_2 ((fun z9 => absurd ((nI_leI (a := 8) (b := 1) (by omega) (by omega)).mp z9) (by omega)))) (fun c_2 => ?_)
  refine lv_aload hx hb dL_law_43 (lv_at hl 5 rfl) ?_
  refine lv_bipush (v := 6) hx hb dL_law_45 (by decide) ?_
  refine lv_iload hx hb dL_law_47 (lv_at hl 0 rfl) ?_
  refine lv_imul hx hb dL_law_49 ?_
  refine W.eq (congrArg (fun z9 => F0 m 50 ls [.int z9, .ref qm]) (pk_mul 6 1)) ?_
  refine lv_iconst (v := (-1)) hx hb dL_law_50 (by decide) ?_
  refine rs5 (j := 1) hx hb hK hP hD hS rfl (show 6 * 1 < 48 by omega) (by decide) dL_law_51 (fun H locs hP hD hS => ?_)
  have hP : va_P D vwCl (X2 cy ad ad2 σ0 σ0 ++ [aW cy qa 64 (fun _ => 0), aW cy qm 48 (upd (upd (fun _ => 0) (6 * 0) (-1)) (6 * 1) (-1)), aW cy qb 6 (upd (fun _ => 0) (0 % 4) 2)]) H := hP
  have hD : va_D (Az s.heap.size) (X2 cy ad ad2 σ0 σ0 ++ [aW cy qa 64 (fun _ => 0), aW cy qm 48 (upd (upd (fun _ => 0) (6 * 0) (-1)) (6 * 1) (-1)), aW cy qb 6 (upd (fun _ => 0) (0 % 4) 2)]) := hD
  refine lv_aload hx hb dL_law_52 (lv_at hl 6 rfl) ?_
  refine lv_iload hx hb dL_law_54 (lv_at hl 0 rfl) ?_
  refine lv_iconst (v := 4) hx hb dL_law_56 (by decide) ?_
  refine lv_irem hx hb dL_law_57 (by decide) ?_
  refine W.eq (congrArg (fun z9 => F0 m 58 ls [.int z9, .ref qb]) (pk_rem (a := 1) (d := 4) (by omega) (by decide) (by decide))) ?_
  refine lv_iconst (v := 2) hx hb dL_law_58 (by decide) ?_
  refine rs5 (j := 2) hx hb hK hP hD hS rfl (show 1 % 4 < 6 by omega) (by decide) dL_law_59 (fun H locs hP hD hS => ?_)
  have hP : va_P D vwCl (X2 cy ad ad2 σ0 σ0 ++ [aW cy qa 64 (fun _ => 0), aW cy qm 48 (upd (upd (fun _ => 0) (6 * 0) (-1)) (6 * 1) (-1)), aW cy qb 6 (upd (upd (fun _ => 0) (0 % 4) 2) (1 % 4) 2)]) H := hP
  have hD : va_D (Az s.heap.size) (X2 cy ad ad2 σ0 σ0 ++ [aW cy qa 64 (fun _ => 0), aW cy qm 48 (upd (upd (fun _ => 0) (6 * 0) (-1)) (6 * 1) (-1)), aW cy qb 6 (upd (upd (fun _ => 0) (0 % 4) 2) (1 % 4) 2)]) := hD
  refine lv_iinc (v := nI 2) (lv' := [(6, .int (nI 2)), (0, .ref b), (1, .ref (ad 0)), (2, .ref (ad2 0)), (3, .ref qa), (4, .ref qm), (5, .ref qb)]) hx hb dL_law_60 hl (k := 0) rfl (nI_1 1) (by decide) rfl (fun ls hl => ?_)
  refine lv_goto (tgt := 36) hx hb dL_law_63 (by decide) ?_
  refine lv_iload hx hb dL_law_36 (lv_at hl 0 rfl) ?_
  refine lv_bipush (v := 8) hx hb dL_law_38 (by decide) ?_
  refine lv_icmp_ge (tgt := 66) hx hb dL_law_40 (by decide) (fun c_3 => absurd c_3 ((fun z9 => absurd ((nI_leI (a := 8) (b := 2) (by omega) (by omega)).mp z9) (by omega)))) (fun c_3 => ?_)
  refine lv_aload hx hb dL_law_43 (lv_at hl 5 rfl) ?_
  refine lv_bipush (v := 6) hx hb dL_law_45 (by decide) ?_
  refine lv_iload hx hb dL_law_47 (lv_at hl 0 rfl) ?_
  refine lv_imul hx hb dL_law_49 ?_
  refine W.eq (congrArg (fun z9 => F0 m 50 ls [.int z9, .ref qm]) (pk_mul 6 2)) ?_
  refine lv_iconst (v := (-1)) hx hb dL_law_50 (by decide) ?_
  refine rs5 (j := 1) hx hb hK hP hD hS rfl (show 6 * 2 < 48 by omega) (by decide) dL_law_51 (fun H locs hP hD hS => ?_)
  have hP : va_P D vwCl (X2 cy ad ad2 σ0 σ0 ++ [aW cy qa 64 (fun _ => 0), aW cy qm 48 (upd (upd (upd (fun _ => 0) (6 * 0) (-1)) (6 * 1) (-1)) (6 * 2) (-1)), aW cy qb 6 (upd (upd (fun _ => 0) (0 % 4) 2) (1 % 4) 2)]) H := hP
  have hD : va_D (Az s.heap.size) (X2 cy ad ad2 σ0 σ0 ++ [aW cy qa 64 (fun _ => 0), aW cy qm 48 (upd (upd (upd (fun _ => 0) (6 * 0) (-1)) (6 * 1) (-1)) (6 * 2) (-1)), aW cy qb 6 (upd (upd (fun _ => 0) (0 % 4) 2) (1 % 4) 2)]) := hD
  refine lv_aload hx hb dL_law_52 (lv_at hl 6 rfl) ?_
  refine lv_iload hx hb dL_law_54 (lv_at hl 0 rfl) ?_
  refine lv_iconst (v := 4) hx hb dL_law_56 (by decide) ?_
  refine lv_irem hx hb dL_law_57 (by decide) ?_
  refine W.eq (congrArg (fun z9 => F0 m 58 ls [.int z9, .ref qb]) (pk_rem (a := 2) (d := 4) (by omega) (by decide) (by decide))) ?_
  refine lv_iconst (v := 2) hx hb dL_law_58 (by decide) ?_
  refine rs5 (j := 2) hx hb hK hP hD hS rfl (show 2 % 4 < 6 by omega) (by decide) dL_law_59 (fun H locs hP hD hS => ?_)
  have hP : va_P D vwCl (X2 cy ad ad2 σ0 σ0 ++ [aW cy qa 64 (fun _ => 0), aW cy qm 48 (upd (upd (upd (fun _ => 0) (6 * 0) (-1)) (6 * 1) (-1)) (6 * 2) (-1)), aW cy qb 6 (upd (upd (upd (fun _ => 0) (0 % 4) 2) (1 % 4) 2) (2 % 4) 2)]) H := hP
  have hD : va_D (Az s.heap.size) (X2 cy ad ad2 σ0 σ0 ++ [aW cy qa 64 (fun _ => 0), aW cy qm 48 (upd (upd (upd (fun _ => 0) (6 * 0) (-1)) (6 * 1) (-1)) (6 * 2) (-1)), aW cy qb 6 (upd (upd (upd (fun _ => 0) (0 % 4) 2) (1 % 4) 2) (2 % 4) 2)]) := hD
  refine lv_iinc (v := nI 3) (lv' := [(6, .int (nI 3)), (0, .ref b), (1, .ref (ad 0)), (2, .ref (ad2 0)), (3, .ref qa), (4, .ref qm), (5, .ref qb)]) hx hb dL_law_60 hl (k := 0) rfl (nI_1 2) (by decide) rfl (fun ls hl => ?_)
  refine lv_goto (tgt := 36) hx hb dL_law_63 (by decide) ?_
  refine lv_iload hx hb dL_law_36 (lv_at hl 0 rfl) ?_
  refine lv_bipush (v := 8) hx hb dL_law_38 (by decide) ?_
  refine lv_icmp_ge (tgt := 66) hx hb dL_law_40 (by decide) (fun c_4 => absurd c_4 ((fun z9 => absurd ((nI_leI (a := 8) (b := 3) (by omega) (by omega)).mp z9) (by omega)))) (fun c_4 => ?_)
  refine lv_aload hx hb dL_law_43 (lv_at hl 5 rfl) ?_
  refine lv_bipush (v := 6) hx hb dL_law_45 (by decide) ?_
  refine lv_iload hx hb dL_law_47 (lv_at hl 0 rfl) ?_
  refine lv_imul hx hb dL_law_49 ?_
  refine W.eq (congrArg (fun z9 => F0 m 50 ls [.int z9, .ref qm]) (pk_mul 6 3)) ?_
  refine lv_iconst (v := (-1)) hx hb dL_law_50 (by decide) ?_
  refine rs5 (j := 1) hx hb hK hP hD hS rfl (show 6 * 3 < 48 by omega) (by decide) dL_law_51 (fun H locs hP hD hS => ?_)
  have hP : va_P D vwCl (X2 cy ad ad2 σ0 σ0 ++ [aW cy qa 64 (fun _ => 0), aW cy qm 48 (upd (upd (upd (upd (fun _ => 0) (6 * 0) (-1)) (6 * 1) (-1)) (6 * 2) (-1)) (6 * 3) (-1)), aW cy qb 6 (upd (upd (upd (fun _ => 0) (0 % 4) 2) (1 % 4) 2) (2 % 4) 2)]) H := hP
  have hD : va_D (Az s.heap.size) (X2 cy ad ad2 σ0 σ0 ++ [aW cy qa 64 (fun _ => 0), aW cy qm 48 (upd (upd (upd (upd (fun _ => 0) (6 * 0) (-1)) (6 * 1) (-1)) (6 * 2) (-1)) (6 * 3) (-1)), aW cy qb 6 (upd (upd (upd (fun _ => 0) (0 % 4) 2) (1 % 4) 2) (2 % 4) 2)]) := hD
  refine lv_aload hx hb dL_law_52 (lv_at hl 6 rfl) ?_
  refine lv_iload hx hb dL_law_54 (lv_at hl 0 rfl) ?_
  refine lv_iconst (v := 4) hx hb dL_law_56 (by decide) ?_
  refine lv_irem hx hb dL_law_57 (by decide) ?_
  refine W.eq (congrArg (fun z9 => F0 m 58 ls [.int z9, .ref qb]) (pk_rem (a := 3) (d := 4) (by omega) (by decide) (by decide))) ?_
  refine lv_iconst (v := 2) hx hb dL_law_58 (by decide) ?_
  refine rs5 (j := 2) hx hb hK hP hD hS rfl (show 3 % 4 < 6 by omega) (by decide) dL_law_59 (fun H locs hP hD hS => ?_)
  have hP : va_P D vwCl (X2 cy ad ad2 σ0 σ0 ++ [aW cy qa 64 (fun _ => 0), aW cy qm 48 (upd (upd (upd (upd (fun _ => 0) (6 * 0) (-1)) (6 * 1) (-1)) (6 * 2) (-1)) (6 * 3) (-1)), aW cy qb 6 (upd (upd (upd (upd (fun _ => 0) (0 % 4) 2) (1 % 4) 2) (2 % 4) 2) (3 % 4) 2)]) H := hP
  have hD : va_D (Az s.heap.size) (X2 cy ad ad2 σ0 σ0 ++ [aW cy qa 64 (fun _ => 0), aW cy qm 48 (upd (upd (upd (upd (fun _ => 0) (6 * 0) (-1)) (6 * 1) (-1)) (6 * 2) (-1)) (6 * 3) (-1)), aW cy qb 6 (upd (upd (upd (upd (fun _ => 0) (0 % 4) 2) (1 % 4) 2) (2 % 4) 2) (3 % 4) 2)]) := hD
  refine lv_iinc (v := nI 4) (lv' := [(6, .int (nI 4)), (0, .ref b), (1, .ref (ad 0)), (2, .ref (ad2 0)), (3, .ref qa), (4, .ref qm), (5, .ref qb)]) hx hb dL_law_60 hl (k := 0) rfl (nI_1 3) (by decide) rfl (fun ls hl => ?_)
  refine lv_goto (tgt := 36) hx hb dL_law_63 (by decide) ?_
  refine lv_iload hx hb dL_law_36 (lv_at hl 0 rfl) ?_
  refine lv_bipush (v := 8) hx hb dL_law_38 (by decide) ?_
  refine lv_icmp_ge (tgt := 66) hx hb dL_law_40 (by decide) (fun c_5 => absurd c_5 ((fun z9 => absurd ((nI_leI (a := 8) (b := 4) (by omega) (by omega)).mp z9) (by omega)))) (fun c_5 => ?_)
  refine lv_aload hx hb dL_law_43 (lv_at hl 5 rfl) ?_
  refine lv_bipush (v := 6) hx hb dL_law_45 (by decide) ?_
  refine lv_iload hx hb dL_law_47 (lv_at hl 0 rfl) ?_
  refine lv_imul hx hb dL_law_49 ?_
  refine W.eq (congrArg (fun z9 => F0 m 50 ls [.int z9, .ref qm]) (pk_mul 6 4)) ?_
  refine lv_iconst (v := (-1)) hx hb dL_law_50 (by decide) ?_
  refine rs5 (j := 1) hx hb hK hP hD hS rfl (show 6 * 4 < 48 by omega) (by decide) dL_law_51 (fun H locs hP hD hS => ?_)
  have hP : va_P D vwCl (X2 cy ad ad2 σ0 σ0 ++ [aW cy qa 64 (fun _ => 0), aW cy qm 48 (upd (upd (upd (upd (upd (fun _ => 0) (6 * 0) (-1)) (6 * 1) (-1)) (6 * 2) (-1)) (6 * 3) (-1)) (6 * 4) (-1)), aW cy qb 6 (upd (upd (upd (upd (fun _ => 0) (0 % 4) 2) (1 % 4) 2) (2 % 4) 2) (3 % 4) 2)]) H := hP
  have hD : va_D (Az s.heap.size) (X2 cy ad ad2 σ0 σ0 ++ [aW cy qa 64 (fun _ => 0), aW cy qm 48 (upd (upd (upd (upd (upd (fun _ => 0) (6 * 0) (-1)) (6 * 1) (-1)) (6 * 2) (-1)) (6 * 3) (-1)) (6 * 4) (-1)), aW cy qb 6 (upd (upd (upd (upd (fun _ => 0) (0 % 4) 2) (1 % 4) 2) (2 % 4) 2) (3 % 4) 2)]) := hD
  refine lv_aload hx hb dL_law_52 (lv_at hl 6 rfl) ?_
  refine lv_iload hx hb dL_law_54 (lv_at hl 0 rfl) ?_
  refine lv_iconst (v := 4) hx hb dL_law_56 (by decide) ?_
  refine lv_irem hx hb dL_law_57 (by decide) ?_
  refine W.eq (congrArg (fun z9 => F0 m 58 ls [.int z9, .ref qb]) (pk_rem (a := 4) (d := 4) (by omega) (by decide) (by decide))) ?_
  refine lv_iconst (v := 2) hx hb dL_law_58 (by decide) ?_
  refine rs5 (j := 2) hx hb hK hP hD hS rfl (show 4 % 4 < 6 by omega) (by decide) dL_law_59 (fun H locs hP hD hS => ?_)
  have hP : va_P D vwCl (X2 cy ad ad2 σ0 σ0 ++ [aW cy qa 64 (fun _ => 0), aW cy qm 48 (upd (upd (upd (upd (upd (fun _ => 0) (6 * 0) (-1)) (6 * 1) (-1)) (6 * 2) (-1)) (6 * 3) (-1)) (6 * 4) (-1)), aW cy qb 6 (upd (upd (upd (upd (upd (fun _ => 0) (0 % 4) 2) (1 % 4) 2) (2 % 4) 2) (3 % 4) 2) (4 % 4) 2)]) H := hP
  have hD : va_D (Az s.heap.size) (X2 cy ad ad2 σ0 σ0 ++ [aW cy qa 64 (fun _ => 0), aW cy qm 48 (upd (upd (upd (upd (upd (fun _ => 0) (6 * 0) (-1)) (6 * 1) (-1)) (6 * 2) (-1)) (6 * 3) (-1)) (6 * 4) (-1)), aW cy qb 6 (upd (upd (upd (upd (upd (fun _ => 0) (0 % 4) 2) (1 % 4) 2) (2 % 4) 2) (3 % 4) 2) (4 % 4) 2)]) := hD
  refine lv_iinc (v := nI 5) (lv' := [(6, .int (nI 5)), (0, .ref b), (1, .ref (ad 0)), (2, .ref (ad2 0)), (3, .ref qa), (4, .ref qm), (5, .ref qb)]) hx hb dL_law_60 hl (k := 0) rfl (nI_1 4) (by decide) rfl (fun ls hl => ?_)
  refine lv_goto (tgt := 36) hx hb dL_law_63 (by decide) ?_
  refine lv_iload hx hb dL_law_36 (lv_at hl 0 rfl) ?_
  refine lv_bipush (v := 8) hx hb dL_law_38 (by decide) ?_
  refine lv_icmp_ge (tgt := 66) hx hb dL_law_40 (by decide) (fun c_6 => absurd c_6 ((fun z9 => absurd ((nI_leI (a := 8) (b := 5) (by omega) (by omega)).mp z9) (by omega)))) (fun c_6 => ?_)
  refine lv_aload hx hb dL_law_43 (lv_at hl 5 rfl) ?_
  refine lv_bipush (v := 6) hx hb dL_law_45 (by decide) ?_
  refine lv_iload hx hb dL_law_47 (lv_at hl 0 rfl) ?_
  refine lv_imul hx hb dL_law_49 ?_
  refine W.eq (congrArg (fun z9 => F0 m 50 ls [.int z9, .ref qm]) (pk_mul 6 5)) ?_
  refine lv_iconst (v := (-1)) hx hb dL_law_50 (by decide) ?_
  refine rs5 (j := 1) hx hb hK hP hD hS rfl (show 6 * 5 < 48 by omega) (by decide) dL_law_51 (fun H locs hP hD hS => ?_)
  have hP : va_P D vwCl (X2 cy ad ad2 σ0 σ0 ++ [aW cy qa 64 (fun _ => 0), aW cy qm 48 (upd (upd (upd (upd (upd (upd (fun _ => 0) (6 * 0) (-1)) (6 * 1) (-1)) (6 * 2) (-1)) (6 * 3) (-1)) (6 * 4) (-1)) (6 * 5) (-1)), aW cy qb 6 (upd (upd (upd (upd (upd (fun _ => 0) (0 % 4) 2) (1 % 4) 2) (2 % 4) 2) (3 % 4) 2) (4 % 4) 2)]) H := hP
  have hD : va_D (Az s.heap.size) (X2 cy ad ad2 σ0 σ0 ++ [aW cy qa 64 (fun _ => 0), aW cy qm 48 (upd (upd (upd (upd (upd (upd (fun _ => 0) (6 * 0) (-1)) (6 * 1) (-1)) (6 * 2) (-1)) (6 * 3) (-1)) (6 * 4) (-1)) (6 * 5) (-1)), aW cy qb 6 (upd (upd (upd (upd (upd (fun _ => 0) (0 % 4) 2) (1 % 4) 2) (2 % 4) 2) (3 % 4) 2) (4 % 4) 2)]) := hD
  refine lv_aload hx hb dL_law_52 (lv_at hl 6 rfl) ?_
  refine lv_iload hx hb dL_law_54 (lv_at hl 0 rfl) ?_
  refine lv_iconst (v := 4) hx hb dL_law_56 (by decide) ?_
  refine lv_irem hx hb dL_law_57 (by decide) ?_
  refine W.eq (congrArg (fun z9 => F0 m 58 ls [.int z9, .ref qb]) (pk_rem (a := 5) (d := 4) (by omega) (by decide) (by decide))) ?_
  refine lv_iconst (v := 2) hx hb dL_law_58 (by decide) ?_
  refine rs5 (j := 2) hx hb hK hP hD hS rfl (show 5 % 4 < 6 by omega) (by decide) dL_law_59 (fun H locs hP hD hS => ?_)
  have hP : va_P D vwCl (X2 cy ad ad2 σ0 σ0 ++ [aW cy qa 64 (fun _ => 0), aW cy qm 48 (upd (upd (upd (upd (upd (upd (fun _ => 0) (6 * 0) (-1)) (6 * 1) (-1)) (6 * 2) (-1)) (6 * 3) (-1)) (6 * 4) (-1)) (6 * 5) (-1)), aW cy qb 6 (upd (upd (upd (upd (upd (upd (fun _ => 0) (0 % 4) 2) (1 % 4) 2) (2 % 4) 2) (3 % 4) 2) (4 % 4) 2) (5 % 4) 2)]) H := hP
  have hD : va_D (Az s.heap.size) (X2 cy ad ad2 σ0 σ0 ++ [aW cy qa 64 (fun _ => 0), aW cy qm 48 (upd (upd (upd (upd (upd (upd (fun _ => 0) (6 * 0) (-1)) (6 * 1) (-1)) (6 * 2) (-1)) (6 * 3) (-1)) (6 * 4) (-1)) (6 * 5) (-1)), aW cy qb 6 (upd (upd (upd (upd (upd (upd (fun _ => 0) (0 % 4) 2) (1 % 4) 2) (2 % 4) 2) (3 % 4) 2) (4 % 4) 2) (5 % 4) 2)]) := hD
  refine lv_iinc (v := nI 6) (lv' := [(6, .int (nI 6)), (0, .ref b), (1, .ref (ad 0)), (2, .ref (ad2 0)), (3, .ref qa), (4, .ref qm), (5, .ref qb)]) hx hb dL_law_60 hl (k := 0) rfl (nI_1 5) (by decide) rfl (fun ls hl => ?_)
  refine lv_goto (tgt := 36) hx hb dL_law_63 (by decide) ?_
  refine lv_iload hx hb dL_law_36 (lv_at hl 0 rfl) ?_
  refine lv_bipush (v := 8) hx hb dL_law_38 (by decide) ?_
  refine lv_icmp_ge (tgt := 66) hx hb dL_law_40 (by decide) (fun c_7 => absurd c_7 ((fun z9 => absurd ((nI_leI (a := 8) (b := 6) (by omega) (by omega)).mp z9) (by omega)))) (fun c_7 => ?_)
  refine lv_aload hx hb dL_law_43 (lv_at hl 5 rfl) ?_
  refine lv_bipush (v := 6) hx hb dL_law_45 (by decide) ?_
  refine lv_iload hx hb dL_law_47 (lv_at hl 0 rfl) ?_
  refine lv_imul hx hb dL_law_49 ?_
  refine W.eq (congrArg (fun z9 => F0 m 50 ls [.int z9, .ref qm]) (pk_mul 6 6)) ?_
  refine lv_iconst (v := (-1)) hx hb dL_law_50 (by decide) ?_
  refine rs5 (j := 1) hx hb hK hP hD hS rfl (show 6 * 6 < 48 by omega) (by decide) dL_law_51 (fun H locs hP hD hS => ?_)
  have hP : va_P D vwCl (X2 cy ad ad2 σ0 σ0 ++ [aW cy qa 64 (fun _ => 0), aW cy qm 48 (upd (upd (upd (upd (upd (upd (upd (fun _ => 0) (6 * 0) (-1)) (6 * 1) (-1)) (6 * 2) (-1)) (6 * 3) (-1)) (6 * 4) (-1)) (6 * 5) (-1)) (6 * 6) (-1)), aW cy qb 6 (upd (upd (upd (upd (upd (upd (fun _ => 0) (0 % 4) 2) (1 % 4) 2) (2 % 4) 2) (3 % 4) 2) (4 % 4) 2) (5 % 4) 2)]) H := hP
  have hD : va_D (Az s.heap.size) (X2 cy ad ad2 σ0 σ0 ++ [aW cy qa 64 (fun _ => 0), aW cy qm 48 (upd (upd (upd (upd (upd (upd (upd (fun _ => 0) (6 * 0) (-1)) (6 * 1) (-1)) (6 * 2) (-1)) (6 * 3) (-1)) (6 * 4) (-1)) (6 * 5) (-1)) (6 * 6) (-1)), aW cy qb 6 (upd (upd (upd (upd (upd (upd (fun _ => 0) (0 % 4) 2) (1 % 4) 2) (2 % 4) 2) (3 % 4) 2) (4 % 4) 2) (5 % 4) 2)]) := hD
  refine lv_aload hx hb dL_law_52 (lv_at hl 6 rfl) ?_
  refine lv_iload hx hb dL_law_54 (lv_at hl 0 rfl) ?_
  refine lv_iconst (v := 4) hx hb dL_law_56 (by decide) ?_
  refine lv_irem hx hb dL_law_57 (by decide) ?_
  refine W.eq (congrArg (fun z9 => F0 m 58 ls [.int z9, .ref qb]) (pk_rem (a := 6) (d := 4) (by omega) (by decide) (by decide))) ?_
  refine lv_iconst (v := 2) hx hb dL_law_58 (by decide) ?_
  refine rs5 (j := 2) hx hb hK hP hD hS rfl (show 6 % 4 < 6 by omega) (by decide) dL_law_59 (fun H locs hP hD hS => ?_)
  have hP : va_P D vwCl (X2 cy ad ad2 σ0 σ0 ++ [aW cy qa 64 (fun _ => 0), aW cy qm 48 (upd (upd (upd (upd (upd (upd (upd (fun _ => 0) (6 * 0) (-1)) (6 * 1) (-1)) (6 * 2) (-1)) (6 * 3) (-1)) (6 * 4) (-1)) (6 * 5) (-1)) (6 * 6) (-1)), aW cy qb 6 (upd (upd (upd (upd (upd (upd (upd (fun _ => 0) (0 % 4) 2) (1 % 4) 2) (2 % 4) 2) (3 % 4) 2) (4 % 4) 2) (5 % 4) 2) (6 % 4) 2)]) H := hP
  have hD : va_D (Az s.heap.size) (X2 cy ad ad2 σ0 σ0 ++ [aW cy qa 64 (fun _ => 0), aW cy qm 48 (upd (upd (upd (upd (upd (upd (upd (fun _ => 0) (6 * 0) (-1)) (6 * 1) (-1)) (6 * 2) (-1)) (6 * 3) (-1)) (6 * 4) (-1)) (6 * 5) (-1)) (6 * 6) (-1)), aW cy qb 6 (upd (upd (upd (upd (upd (upd (upd (fun _ => 0) (0 % 4) 2) (1 % 4) 2) (2 % 4) 2) (3 % 4) 2) (4 % 4) 2) (5 % 4) 2) (6 % 4) 2)]) := hD
  refine lv_iinc (v := nI 7) (lv' := [(6, .int (nI 7)), (0, .ref b), (1, .ref (ad 0)), (2, .ref (ad2 0)), (3, .ref qa), (4, .ref qm), (5, .ref qb)]) hx hb dL_law_60 hl (k := 0) rfl (nI_1 6) (by decide) rfl (fun ls hl => ?_)
  refine lv_goto (tgt := 36) hx hb dL_law_63 (by decide) ?_
  refine lv_iload hx hb dL_law_36 (lv_at hl 0 rfl) ?_
  refine lv_bipush (v := 8) hx hb dL_law_38 (by decide) ?_
  refine lv_icmp_ge (tgt := 66) hx hb dL_law_40 (by decide) (fun c_8 => absurd c_8 ((fun z9 => absurd ((nI_leI (a := 8) (b := 7) (by omega) (by omega)).mp z9) (by omega)))) (fun c_8 => ?_)
  refine lv_aload hx hb dL_law_43 (lv_at hl 5 rfl) ?_
  refine lv_bipush (v := 6) hx hb dL_law_45 (by decide) ?_
  refine lv_iload hx hb dL_law_47 (lv_at hl 0 rfl) ?_
  refine lv_imul hx hb dL_law_49 ?_
  refine W.eq (congrArg (fun z9 => F0 m 50 ls [.int z9, .ref qm]) (pk_mul 6 7)) ?_
  refine lv_iconst (v := (-1)) hx hb dL_law_50 (by decide) ?_
  refine rs5 (j := 1) hx hb hK hP hD hS rfl (show 6 * 7 < 48 by omega) (by decide) dL_law_51 (fun H locs hP hD hS => ?_)
  have hP : va_P D vwCl (X2 cy ad ad2 σ0 σ0 ++ [aW cy qa 64 (fun _ => 0), aW cy qm 48 (upd (upd (upd (upd (upd (upd (upd (upd (fun _ => 0) (6 * 0) (-1)) (6 * 1) (-1)) (6 * 2) (-1)) (6 * 3) (-1)) (6 * 4) (-1)) (6 * 5) (-1)) (6 * 6) (-1)) (6 * 7) (-1)), aW cy qb 6 (upd (upd (upd (upd (upd (upd (upd (fun _ => 0) (0 % 4) 2) (1 % 4) 2) (2 % 4) 2) (3 % 4) 2) (4 % 4) 2) (5 % 4) 2) (6 % 4) 2)]) H := hP
  have hD : va_D (Az s.heap.size) (X2 cy ad ad2 σ0 σ0 ++ [aW cy qa 64 (fun _ => 0), aW cy qm 48 (upd (upd (upd (upd (upd (upd (upd (upd (fun _ => 0) (6 * 0) (-1)) (6 * 1) (-1)) (6 * 2) (-1)) (6 * 3) (-1)) (6 * 4) (-1)) (6 * 5) (-1)) (6 * 6) (-1)) (6 * 7) (-1)), aW cy qb 6 (upd (upd (upd (upd (upd (upd (upd (fun _ => 0) (0 % 4) 2) (1 % 4) 2) (2 % 4) 2) (3 % 4) 2) (4 % 4) 2) (5 % 4) 2) (6 % 4) 2)]) := hD
  refine lv_aload hx hb dL_law_52 (lv_at hl 6 rfl) ?_
  refine lv_iload hx hb dL_law_54 (lv_at hl 0 rfl) ?_
  refine lv_iconst (v := 4) hx hb dL_law_56 (by decide) ?_
  refine lv_irem hx hb dL_law_57 (by decide) ?_
  refine W.eq (congrArg (fun z9 => F0 m 58 ls [.int z9, .ref qb]) (pk_rem (a := 7) (d := 4) (by omega) (by decide) (by decide))) ?_
  refine lv_iconst (v := 2) hx hb dL_law_58 (by decide) ?_
  refine rs5 (j := 2) hx hb hK hP hD hS rfl (show 7 % 4 < 6 by omega) (by decide) dL_law_59 (fun H locs hP hD hS => ?_)
  have hP : va_P D vwCl (X2 cy ad ad2 σ0 σ0 ++ [aW cy qa 64 (fun _ => 0), aW cy qm 48 (upd (upd (upd (upd (upd (upd (upd (upd (fun _ => 0) (6 * 0) (-1)) (6 * 1) (-1)) (6 * 2) (-1)) (6 * 3) (-1)) (6 * 4) (-1)) (6 * 5) (-1)) (6 * 6) (-1)) (6 * 7) (-1)), aW cy qb 6 (upd (upd (upd (upd (upd (upd (upd (upd (fun _ => 0) (0 % 4) 2) (1 % 4) 2) (2 % 4) 2) (3 % 4) 2) (4 % 4) 2) (5 % 4) 2) (6 % 4) 2) (7 % 4) 2)]) H := hP
  have hD : va_D (Az s.heap.size) (X2 cy ad ad2 σ0 σ0 ++ [aW cy qa 64 (fun _ => 0), aW cy qm 48 (upd (upd (upd (upd (upd (upd (upd (upd (fun _ => 0) (6 * 0) (-1)) (6 * 1) (-1)) (6 * 2) (-1)) (6 * 3) (-1)) (6 * 4) (-1)) (6 * 5) (-1)) (6 * 6) (-1)) (6 * 7) (-1)), aW cy qb 6 (upd (upd (upd (upd (upd (upd (upd (upd (fun _ => 0) (0 % 4) 2) (1 % 4) 2) (2 % 4) 2) (3 % 4) 2) (4 % 4) 2) (5 % 4) 2) (6 % 4) 2) (7 % 4) 2)]) := hD
  refine lv_iinc (v := nI 8) (lv' := [(6, .int (nI 8)), (0, .ref b), (1, .ref (ad 0)), (2, .ref (ad2 0)), (3, .ref qa), (4, .ref qm), (5, .ref qb)]) hx hb dL_law_60 hl (k := 0) rfl (nI_1 7) (by decide) rfl (fun ls hl => ?_)
  refine lv_goto (tgt := 36) hx hb dL_law_63 (by decide) ?_
  refine lv_iload hx hb dL_law_36 (lv_at hl 0 rfl) ?_
  refine lv_bipush (v := 8) hx hb dL_law_38 (by decide) ?_
  refine lv_icmp_ge (tgt := 66) hx hb dL_law_40 (by decide) (fun c_9 => ?_) (fun c_9 => absurd (((nI_leI (a := 8) (b := 8) (by omega) (by omega)).mpr (by omega))) c_9)
  refine lv_aload hx hb dL_law_66 (lv_at hl 6 rfl) ?_
  refine lv_iconst (v := 4) hx hb dL_law_68 (by decide) ?_
  refine lv_iconst (v := 1) hx hb dL_law_69 (by decide) ?_
  refine W.eq (g2 := F0 m 70 ls [.int 1, .int (nI 4), .ref qb]) rfl ?_
  refine rs5 (j := 2) hx hb hK hP hD hS rfl (show 4 < 6 by omega) (by decide) dL_law_70 (fun H locs hP hD hS => ?_)
  have hP : va_P D vwCl (X2 cy ad ad2 σ0 σ0 ++ [aW cy qa 64 (fun _ => 0), aW cy qm 48 (upd (upd (upd (upd (upd (upd (upd (upd (fun _ => 0) (6 * 0) (-1)) (6 * 1) (-1)) (6 * 2) (-1)) (6 * 3) (-1)) (6 * 4) (-1)) (6 * 5) (-1)) (6 * 6) (-1)) (6 * 7) (-1)), aW cy qb 6 (upd (upd (upd (upd (upd (upd (upd (upd (upd (fun _ => 0) (0 % 4) 2) (1 % 4) 2) (2 % 4) 2) (3 % 4) 2) (4 % 4) 2) (5 % 4) 2) (6 % 4) 2) (7 % 4) 2) 4 1)]) H := hP
  have hD : va_D (Az s.heap.size) (X2 cy ad ad2 σ0 σ0 ++ [aW cy qa 64 (fun _ => 0), aW cy qm 48 (upd (upd (upd (upd (upd (upd (upd (upd (fun _ => 0) (6 * 0) (-1)) (6 * 1) (-1)) (6 * 2) (-1)) (6 * 3) (-1)) (6 * 4) (-1)) (6 * 5) (-1)) (6 * 6) (-1)) (6 * 7) (-1)), aW cy qb 6 (upd (upd (upd (upd (upd (upd (upd (upd (upd (fun _ => 0) (0 % 4) 2) (1 % 4) 2) (2 % 4) 2) (3 % 4) 2) (4 % 4) 2) (5 % 4) 2) (6 % 4) 2) (7 % 4) 2) 4 1)]) := hD
  refine lv_aload hx hb dL_law_71 (lv_at hl 6 rfl) ?_
  refine lv_iconst (v := 5) hx hb dL_law_73 (by decide) ?_
  refine lv_iconst (v := 3) hx hb dL_law_74 (by decide) ?_
  refine W.eq (g2 := F0 m 75 ls [.int 3, .int (nI 5), .ref qb]) rfl ?_
  refine rs5 (j := 2) hx hb hK hP hD hS rfl (show 5 < 6 by omega) (by decide) dL_law_75 (fun H locs hP hD hS => ?_)
  have hP : va_P D vwCl (X2 cy ad ad2 σ0 σ0 ++ [aW cy qa 64 (fun _ => 0), aW cy qm 48 (upd (upd (upd (upd (upd (upd (upd (upd (fun _ => 0) (6 * 0) (-1)) (6 * 1) (-1)) (6 * 2) (-1)) (6 * 3) (-1)) (6 * 4) (-1)) (6 * 5) (-1)) (6 * 6) (-1)) (6 * 7) (-1)), aW cy qb 6 (upd (upd (upd (upd (upd (upd (upd (upd (upd (upd (fun _ => 0) (0 % 4) 2) (1 % 4) 2) (2 % 4) 2) (3 % 4) 2) (4 % 4) 2) (5 % 4) 2) (6 % 4) 2) (7 % 4) 2) 4 1) 5 3)]) H := hP
  have hD : va_D (Az s.heap.size) (X2 cy ad ad2 σ0 σ0 ++ [aW cy qa 64 (fun _ => 0), aW cy qm 48 (upd (upd (upd (upd (upd (upd (upd (upd (fun _ => 0) (6 * 0) (-1)) (6 * 1) (-1)) (6 * 2) (-1)) (6 * 3) (-1)) (6 * 4) (-1)) (6 * 5) (-1)) (6 * 6) (-1)) (6 * 7) (-1)), aW cy qb 6 (upd (upd (upd (upd (upd (upd (upd (upd (upd (upd (fun _ => 0) (0 % 4) 2) (1 % 4) 2) (2 % 4) 2) (3 % 4) 2) (4 % 4) 2) (5 % 4) 2) (6 % 4) 2) (7 % 4) 2) 4 1) 5 3)]) := hD
  refine lv_aload_n hx hb dL_law_76 rfl (lv_at hl 2 rfl) ?_
  refine cS (W.runV (As := []) (rest := []) ⟨hx, hb, hml, hown, hts⟩ (c_X3_nextChange l D cy ad σ0) (cwV 0 hts gL_law_X3_nextChange rfl rfl rfl (by decide +kernel) ⟨Nat.le_of_ble_eq_true rfl, Nat.le_of_ble_eq_true rfl⟩) ⟨cw_bl, cw_F hP.left.left hK, cw_at hP.left.left hK⟩ rfl rfl hl.1 rfl (lv_room (Nat.le_of_ble_eq_true rfl)) dL_law_77 ⟨by show _ ≤ 659596; omega, by show _ ≤ 7122983; omega⟩) (fun _ _ => ?_)
  refine W.eq (g2 := F0 m 80 ls [.int (rNextChange σ0)]) rfl ?_
  refine W.eq (g2 := F0 m 80 ls [.int (-1)]) (by rw [nx_0]) ?_
  refine lv_iconst (v := (-1)) hx hb dL_law_80 (by decide) ?_
  refine lv_icmp_ne (tgt := 109) hx hb dL_law_81 (by decide) (fun c_10 => absurd ((by decide : (-1 : Int32) = -1)) c_10) (fun c_10 => ?_)
  refine lv_aload_n hx hb dL_law_84 rfl (lv_at hl 2 rfl) ?_
  refine cS (W.runV (As := []) (rest := []) ⟨hx, hb, hml, hown, hts⟩ (c_X3_entries l D cy ad σ0) (cwV 0 hts gL_law_X3_entries rfl rfl rfl (by decide +kernel) ⟨Nat.le_of_ble_eq_true rfl, Nat.le_of_ble_eq_true rfl⟩) ⟨cw_bl, cw_F hP.left.left hK, cw_at hP.left.left hK⟩ rfl rfl hl.1 rfl (lv_room (Nat.le_of_ble_eq_true rfl)) dL_law_85 ⟨by show _ ≤ 659596; omega, by show _ ≤ 7122983; omega⟩) (fun _ _ => ?_)
  refine W.eq (g2 := F0 m 88 ls [.int (sKept σ0)]) rfl ?_
  refine W.eq (g2 := F0 m 88 ls [.int 0]) (by rw [en_0]) ?_
  refine lv_if_ne (tgt := 109) hx hb dL_law_88 (by decide) (fun c_11 => absurd ((by decide : (0 : Int32) = 0)) c_11) (fun c_11 => ?_)
  refine lv_aload_n hx hb dL_law_91 rfl (lv_at hl 2 rfl) ?_
  refine cS (W.runV (As := []) (rest := []) ⟨hx, hb, hml, hown, hts⟩ (c_X3_wipes l D cy ad σ0) (cwV 0 hts gL_law_X3_wipes rfl rfl rfl (by decide +kernel) ⟨Nat.le_of_ble_eq_true rfl, Nat.le_of_ble_eq_true rfl⟩) ⟨cw_bl, cw_F hP.left.left hK, cw_at hP.left.left hK⟩ rfl rfl hl.1 rfl (lv_room (Nat.le_of_ble_eq_true rfl)) dL_law_92 ⟨by show _ ≤ 659596; omega, by show _ ≤ 7122983; omega⟩) (fun _ _ => ?_)
  refine W.eq (g2 := F0 m 95 ls [.int (σ0 20 7)]) rfl ?_
  refine W.eq (g2 := F0 m 95 ls [.int 0]) (by rw [wi_0]) ?_
  refine lv_if_ne (tgt := 109) hx hb dL_law_95 (by decide) (fun c_12 => absurd ((by decide : (0 : Int32) = 0)) c_12) (fun c_12 => ?_)
  refine lv_aload_n hx hb dL_law_98 rfl (lv_at hl 2 rfl) ?_
  refine cS (W.runV (As := []) (rest := []) ⟨hx, hb, hml, hown, hts⟩ (c_X3_now l D cy ad σ0) (cwV 0 hts gL_law_X3_now rfl rfl rfl (by decide +kernel) ⟨Nat.le_of_ble_eq_true rfl, Nat.le_of_ble_eq_true rfl⟩) ⟨cw_bl, cw_F hP.left.left hK, cw_at hP.left.left hK⟩ rfl rfl hl.1 rfl (lv_room (Nat.le_of_ble_eq_true rfl)) dL_law_99 ⟨by show _ ≤ 659596; omega, by show _ ≤ 7122983; omega⟩) (fun _ _ => ?_)
  refine W.eq (g2 := F0 m 102 ls [.int (σ0 20 6)]) rfl ?_
  refine W.eq (g2 := F0 m 102 ls [.int 0]) (by rw [no_0]) ?_
  refine lv_if_ne (tgt := 109) hx hb dL_law_102 (by decide) (fun c_13 => absurd ((by decide : (0 : Int32) = 0)) c_13) (fun c_13 => ?_)
  refine lv_iconst (v := 1) hx hb dL_law_105 (by decide) ?_
  refine lv_goto (tgt := 110) hx hb dL_law_106 (by decide) ?_
  refine lv_istore (lv' := [(6, .int 1), (0, .ref b), (1, .ref (ad 0)), (2, .ref (ad2 0)), (3, .ref qa), (4, .ref qm), (5, .ref qb)]) hx hb dL_law_110 hl (by decide) rfl (fun ls hl => ?_)
  refine lv_iconst (v := 0) hx hb dL_law_112 (by decide) ?_
  refine W.eq (g2 := F0 m 113 ls [.int (nI 0)]) rfl ?_
  refine lv_istore (lv' := [(7, .int (nI 0)), (6, .int 1), (0, .ref b), (1, .ref (ad 0)), (2, .ref (ad2 0)), (3, .ref qa), (4, .ref qm), (5, .ref qb)]) hx hb dL_law_113 hl (by decide) rfl (fun ls hl => ?_)
  exact kk _ _ _ H locs ls _ _ hc9 hs9 hP hS ⟨fun i hi => ⟨rfl, rfl, rfl, rfl⟩, fun k hk => ⟨fun _ => by rcases (show k = 0 ∨ k = 1 ∨ k = 2 ∨ k = 3 ∨ k = 4 ∨ k = 5 ∨ k = 6 ∨ k = 7 by omega) with rfl | rfl | rfl | rfl | rfl | rfl | rfl | rfl <;> rfl, fun z => absurd rfl z⟩, fun r hr => by rcases (show r = 0 ∨ r = 1 ∨ r = 2 ∨ r = 3 by omega) with rfl | rfl | rfl | rfl <;> rfl, rfl, rfl⟩ (lv_sub hl [1, 0, 2, 3, 4, 5, 6, 7] rfl)
section BG0
variable {p : Program} {l : Launch} {e : Env} {R : Room} {s : State} {m : MethodId} {args : Array Value} {below : List Frame} {meth : Method} {c : Code} {H : Heap} {locs : List Loc} {cells slots : Nat} {Q : State → Prop} {pc : Nat} {ls : Array Slot} {rest st0 : List Value} {A A1 : Nat → Prop} {a : Array Value} {H0 : Heap} {mc ms : Nat}
theorem lMv {PW : Heap → Prop} (hsub : ∀ q, A q → A1 q) (hr : va_Run p l e R s m args below meth c H locs cells slots mc ms (F0 m pc ls st0) rest (QV PW A a) A) (hS : va_S A1 H0 H locs)
    (kk : ∀ (H1 : Heap) (locs1 : List Loc), PW H1 → va_S A1 H0 H1 locs1 → (∀ q : Nat, q < H.size → ¬ A q → H1[q]? = H[q]?) → W p l e R s m args below meth c H1 locs1 (cells + mc) (slots + ms) Q (F0 m (pc + 3) ls rest)) : W p l e R s m args below meth c H locs cells slots Q (F0 m pc ls st0) :=
  va_callv hr hS (fun q _ h => hsub q h) (fun q h => hsub q h) (fun u t H1 locs1 ht _ _ hB hz hk hS1 => kk H1 locs1 (by rw [← ht]; exact hB) hS1 hk)
end BG0
/-- the loop -/
theorem law_loop {p : Program} {l : Launch} {e : Env} {s : State} {m : MethodId} {args : Array Value} {below : List Frame} {meth : Method} {c : Code} {Q : State → Prop} {D : va_G} {cy : Nat → ClassId} {ad ad2 : Nat → Nat} {qa qm qb b L : Nat} {xs : Nat → Int32} {c0 s0 : Nat} (hc0 : c0 ≤ 1000) (hs0 : s0 ≤ 10000) (C : LCtx p l s m args c D cy ad ad2 qa qm qb b L xs)
    (hexit : ∀ (H : Heap) (locs : List Loc) (ls : Array Slot) (cells slots : Nat), va_S (Az s.heap.size) s.heap H locs → cells ≤ c0 + 2500 * 64 → slots ≤ s0 + 15000 * 64 → lv_has ls 13 [(6, .int 1)] → W p l e room_1 s m args below meth c H locs cells slots Q (F0 m 371 ls [])) :
    ∀ (n k : Nat), k + n = 64 → ∀ (σ : Mem) (fa fm fb : Nat → Int32) (h N : Nat), h ≤ 200 * k → N ≤ 25000 * k → ∀ (H : Heap) (locs : List Loc) (ls : Array Slot) (cells slots : Nat), cells ≤ c0 + 2500 * k → slots ≤ s0 + 15000 * k → va_P D vwCl (X2 cy ad ad2 σ σ ++ [aW cy qa 64 fa, aW cy qm 48 fm, aW cy qb 6 fb]) H → va_S (Az s.heap.size) s.heap H locs → OKs h N fa fm fb σ → lv_has ls 13 [(6, .int 1), (7, .int (nI k)), (0, .ref b), (1, .ref (ad 0)), (2, .ref (ad2 0)), (3, .ref qa), (4, .ref qm), (5, .ref qb)] → W p l e room_1 s m args below meth c H locs cells slots Q (F0 m 115 ls []) := by
  intro n
  induction n with
  | zero =>
    intro k hk σ fa fm fb h N hh hN H locs ls cells slots hc9 hs9 hP hS hO hl
    have e : k = 64 := by omega
    subst e
    obtain ⟨hx, hb, -⟩ := C
    refine lv_iload hx hb dL_law_115 (lv_at hl 1 rfl) ?_
    refine lv_bipush (v := 64) hx hb dL_law_117 (by decide) ?_
    refine lv_icmp_ge (tgt := 371) hx hb dL_law_119 (by decide) (fun _ => ?_) (fun z => absurd (show (64 : Int32) ≤ nI 64 by decide) z)
    exact hexit H locs ls cells slots hS hc9 hs9 (lv_sub hl [0] rfl)
  | succ n ih =>
    intro k hk σ fa fm fb h N hh hN H locs ls cells slots hc9 hs9 hP hS hO hl
    exact law_turn (k := k) (by omega) hc0 hs0 C (fun σ fa fm fb h N h1 h2 H locs ls cells slots h3 h4 h5 h6 h7 h8 => ih (k + 1) (by omega) σ fa fm fb h N h1 h2 H locs ls cells slots h3 h4 h5 h6 h7 h8) σ fa fm fb h N hh hN H locs ls cells slots hc9 hs9 hP hS hO hl
/-! from the law's entry to its loop: two objects, three rows -/
set_option maxHeartbeats 4000000 in
set_option maxRecDepth 100000 in
theorem law_begin {p : Program} {l : Launch} {e : Env} {s : State} {m : MethodId} {below : List Frame} {meth : Method} {c : Code} {Q : State → Prop} {b L : Nat} {xs : Nat → Int32} (hx : p.tables.exec = Jvm.exec) (hb : c.code = cL_law) (hml : c.maxLocals = 13) (hown : s.vm.findClass RL = some m.cls) (htb : ∀ w ∈ lw_tbl, w.before #[Value.ref b] s = true) (hX : va_X b L xs s s.heap) (hbl : b < s.heap.size) (hL9 : L ≤ 260) (hgv : (Jvm.Cond.and given_1 narrow_1).before #[Value.ref b] s = true) (hst : l.stackTraces = false)
    (hexit : ∀ (H : Heap) (locs : List Loc) (ls : Array Slot) (cells slots : Nat), va_S (Az s.heap.size) s.heap H locs → cells ≤ 659596 → slots ≤ 7122983 → lv_has ls 13 [(6, .int 1)] → W p l e room_1 s m #[Value.ref b] below meth c H locs cells slots Q (F0 m 371 ls [])) :
    W p l e room_1 s m #[Value.ref b] below meth c s.heap [] 0 0 Q (entryFrame m ([Value.ref b] : List Value).toArray 13) := by
  have hts : ∀ w ∈ wsL_law, w.before #[Value.ref b] s = true := fun w h => htb w (wsL_law_in w h)
  obtain ⟨D, cy, hK⟩ := K_start htb
  have hxk := xk_start htb hgv
  have hO2 : va_AO RX2 s := va_AO.of (htb (.arrayOver (.object RX2)) (by decide +kernel))
  have hO0 : va_AO RX0 s := va_AO.of (htb (.arrayOver (.object RX0)) (by decide +kernel))
  have hNJ : va_Nw nwJ s := va_Nw.of rfl (htb nwJ (by decide +kernel))
  have hA : ∀ q : Nat, s.heap.size ≤ q → Az s.heap.size q := fun _ h => h
  have hS : va_S (Az s.heap.size) s.heap s.heap [] := va_S.rf
  have hP : va_P D vwCl [] s.heap := fun k q h => by simp at h
  have hD : va_D (Az s.heap.size) [] := ⟨fun i j p q h => by simp at h, fun k q h => by simp at h⟩
  have hl := lv_entry ([.ref b]) (n := 13) (Nat.le_of_ble_eq_true rfl)
  rw [lg_entry_eq]
  generalize (lg_sl ([.ref b]) ++ List.replicate (13 - (lg_sl ([.ref b])).length) Slot.unset).toArray = ls at hl ⊢
  have hl : lv_has ls 13 [(0, .ref b)] := hl
  refine va_new (ci := 3) (C := RX3) (T := TX3) (N := 9) hx hb hts inlX3 tyX3 tyX3_ok hown (hts (.classLink RL 11 RX3) (by decide +kernel)) (hts (.instantiable RX3 9) (by decide +kernel)) (hts (.initialized RX3) (by decide +kernel)) hK hP hD hS hA rfl fsX3 (Nat.le_of_ble_eq_true rfl) (Nat.le_of_ble_eq_true rfl) dL_law_0 (fun q0 H hP hD hS => ?_)
  have hP : va_P D vwCl [(q0, .inr (3, [.null, .null, .null, .null, .int 0, .int 0, .int 0, .int 0, .int 0]))] H := hP
  have hq0 : Az s.heap.size q0 := hD.2 0 _ rfl
  have hq0l : q0 < H.size := (hP 0 _ rfl).lt
  have hz0 := hS.1
  refine lv_dup hx hb dL_law_3 rfl ?_
  refine lMv (A := fun q => q = q0 ∨ H.size ≤ q) (fun q h => h.elim (fun z => by rw [z]; exact hq0) (fun z => Nat.le_trans hz0 z)) (va_runI (As := []) (rest := [.ref q0]) ⟨hx, hb, hml, hown, hts⟩ (c_X3_init l D cy (fun q => q = q0 ∨ H.size ≤ q) H.size (fun q h => Or.inr h) q0 (Or.inl rfl)) (cwI 0 hts gL_law_X3_init rfl rfl rfl (hts (.initialized RX3) (by decide +kernel)) (hts (.methodLink RL 172 yX3_init) (by decide +kernel)) (hts (.instanceMethod yX3_init) (by decide +kernel)) rfl (by decide +kernel) ⟨Nat.le_of_ble_eq_true rfl, Nat.le_of_ble_eq_true rfl⟩) ⟨ctP3_bl, ctP3_at (Nat.le_refl _) hP hK hO2 hO0 hNJ⟩ rfl rfl hl.1 rfl (lv_room (Nat.le_of_ble_eq_true rfl)) dL_law_4 ⟨Nat.le_of_ble_eq_true rfl, Nat.le_of_ble_eq_true rfl⟩) hS (fun H1 locs hPW hS hk1 => ?_)
  obtain ⟨ad, had, hDa, hC⟩ := hPW
  have hgA : ∀ k, k < 31 → s.heap.size ≤ ad k := fun k hk => (wC_A hDa k hk).elim (fun z => by rw [z]; exact hq0) (fun z => Nat.le_trans hz0 z)
  have hj := inj31_of hDa
  have hDa0 : va_D (Az s.heap.size) (wC cy ad σ0) := hDa.weaken (fun _ _ _ h => h.elim (fun z => by rw [z]; exact hq0) (fun z => Nat.le_trans hz0 z))
  refine W.eq (g2 := F0 m 7 ls [.ref (ad 0)]) (by rw [had]) ?_
  refine lv_astore_n (lv' := [(1, .ref (ad 0)), (0, .ref b)]) hx hb dL_law_7 rfl hl (by decide) rfl (fun ls hl => ?_)
  refine va_new (ci := 3) (C := RX3) (T := TX3) (N := 9) hx hb hts inlX3 tyX3 tyX3_ok hown (hts (.classLink RL 11 RX3) (by decide +kernel)) (hts (.instantiable RX3 9) (by decide +kernel)) (hts (.initialized RX3) (by decide +kernel)) hK hC hDa0 hS hA rfl fsX3 (Nat.le_of_ble_eq_true rfl) (Nat.le_of_ble_eq_true rfl) dL_law_8 (fun q1 H2 hP hD hS => ?_)
  have hC := hP.left
  have hP1 : va_P D vwCl [(q1, .inr (3, [.null, .null, .null, .null, .int 0, .int 0, .int 0, .int 0, .int 0]))] H2 := hP.right
  have hne9 := last_ne hD
  have hq1 : Az s.heap.size q1 := hD.2 (wC cy ad σ0).length _ (wget _ [] _)
  have hz2 := hS.1
  have hadl : ∀ k, k < 31 → ad k < H2.size := fun k hk => (hC k _ (wC_at hk)).lt
  have hadn : ∀ k, k < 31 → ad k ≠ q1 := fun k hk => hne9 k _ (wC_at hk)
  refine lv_dup hx hb dL_law_11 rfl ?_
  refine lMv (A := fun q => q = q1 ∨ H2.size ≤ q) (fun q h => h.elim (fun z => by rw [z]; exact hq1) (fun z => Nat.le_trans hz2 z)) (va_runI (As := []) (rest := [.ref q1]) ⟨hx, hb, hml, hown, hts⟩ (c_X3_init l D cy (fun q => q = q1 ∨ H2.size ≤ q) H2.size (fun q h => Or.inr h) q1 (Or.inl rfl)) (cwI 0 hts gL_law_X3_init rfl rfl rfl (hts (.initialized RX3) (by decide +kernel)) (hts (.methodLink RL 172 yX3_init) (by decide +kernel)) (hts (.instanceMethod yX3_init) (by decide +kernel)) rfl (by decide +kernel) ⟨Nat.le_of_ble_eq_true rfl, Nat.le_of_ble_eq_true rfl⟩) ⟨ctP3_bl, ctP3_at (Nat.le_refl _) hP1 hK hO2 hO0 hNJ⟩ rfl rfl hl.1 rfl (lv_room (Nat.le_of_ble_eq_true rfl)) dL_law_12 ⟨Nat.le_of_ble_eq_true rfl, Nat.le_of_ble_eq_true rfl⟩) hS (fun H3 locs3 hPW hS hk1 => ?_)
  obtain ⟨ad2, had2, hDb, hM9⟩ := hPW
  have hC := hC.apart hk1 (wC_no (A := fun q => q = q1 ∨ H2.size ≤ q) (fun i h => fun (z : ad i = q1 ∨ H2.size ≤ ad i) => z.elim (hadn i h) (fun z => by have := hadl i h; omega)))
  have hgB : ∀ j, j < 31 → s.heap.size ≤ ad2 j := fun j h => (wC_A hDb j h).elim (fun z => by rw [z]; exact hq1) (fun z => Nat.le_trans hz2 z)
  have hj2 := inj31_of hDb
  have hne : apart ad ad2 := fun i j hi hj9 e9 => (wC_A hDb j hj9).elim (fun z => hadn i hi (e9.trans z)) (fun z => by have := hadl i hi; omega)
  have hDb0 : va_D (Az s.heap.size) (wC cy ad2 σ0) := hDb.weaken (fun _ _ _ h => h.elim (fun z => by rw [z]; exact hq1) (fun z => Nat.le_trans hz2 z))
  refine W.eq (g2 := F0 m 15 ls [.ref (ad2 0)]) (by rw [had2]) ?_
  refine lv_astore_n (lv' := [(2, .ref (ad2 0)), (1, .ref (ad 0)), (0, .ref b)]) hx hb dL_law_15 rfl hl (by decide) rfl (fun ls hl => ?_)
  have hDab : va_D (Az s.heap.size) (X2 cy ad ad2 σ0 σ0) := hDa0.app hDb0 (fun i j p q hp hq h => by
    obtain ⟨h1, h2⟩ := wC_get hp
    obtain ⟨h3, h4⟩ := wC_get hq
    rw [h2, h4] at h
    exact hne _ _ h1 h3 h)
  have hP2 : va_P D vwCl (X2 cy ad ad2 σ0 σ0) H3 := hC.app hM9
  refine lv_bipush (v := 64) hx hb dL_law_16 (by decide) ?_
  refine nwI hx hb (hts (.arrayClass .int) (by decide +kernel)) hK hP2 hDab hS hA 64 (by decide) (by decide) (by decide) (Nat.le_of_ble_eq_true rfl) (Nat.le_of_ble_eq_true rfl) dL_law_18 (fun qa H hP hD hS => ?_)
  refine lv_astore_n (lv' := [(3, .ref qa), (2, .ref (ad2 0)), (1, .ref (ad 0)), (0, .ref b)]) hx hb dL_law_20 rfl hl (by decide) rfl (fun ls hl => ?_)
  refine lv_bipush (v := 48) hx hb dL_law_21 (by decide) ?_
  refine nwI hx hb (hts (.arrayClass .int) (by decide +kernel)) hK hP hD hS hA 48 (by decide) (by decide) (by decide) (Nat.le_of_ble_eq_true rfl) (Nat.le_of_ble_eq_true rfl) dL_law_23 (fun qm H hP hD hS => ?_)
  have hP : va_P D vwCl (X2 cy ad ad2 σ0 σ0 ++ [aW cy qa 64 (fun _ => 0), aW cy qm 48 (fun _ => 0)]) H := by rw [List.append_assoc] at hP; exact hP
  have hD : va_D (Az s.heap.size) (X2 cy ad ad2 σ0 σ0 ++ [aW cy qa 64 (fun _ => 0), aW cy qm 48 (fun _ => 0)]) := by rw [List.append_assoc] at hD; exact hD
  refine lv_astore (lv' := [(4, .ref qm), (3, .ref qa), (2, .ref (ad2 0)), (1, .ref (ad 0)), (0, .ref b)]) hx hb dL_law_25 hl (by decide) rfl (fun ls hl => ?_)
  refine lv_bipush (v := 6) hx hb dL_law_27 (by decide) ?_
  refine nwI hx hb (hts (.arrayClass .int) (by decide +kernel)) hK hP hD hS hA 6 (by decide) (by decide) (by decide) (Nat.le_of_ble_eq_true rfl) (Nat.le_of_ble_eq_true rfl) dL_law_29 (fun qb H hP hD hS => ?_)
  have hP : va_P D vwCl (X2 cy ad ad2 σ0 σ0 ++ [aW cy qa 64 (fun _ => 0), aW cy qm 48 (fun _ => 0), aW cy qb 6 (fun _ => 0)]) H := by rw [List.append_assoc] at hP; exact hP
  have hD : va_D (Az s.heap.size) (X2 cy ad ad2 σ0 σ0 ++ [aW cy qa 64 (fun _ => 0), aW cy qm 48 (fun _ => 0), aW cy qb 6 (fun _ => 0)]) := by rw [List.append_assoc] at hD; exact hD
  refine lv_astore (lv' := [(5, .ref qb), (4, .ref qm), (3, .ref qa), (2, .ref (ad2 0)), (1, .ref (ad 0)), (0, .ref b)]) hx hb dL_law_31 hl (by decide) rfl (fun ls hl => ?_)
  have hDD : ∀ (σ τ : Mem) (fa fm fb : Nat → Int32), va_D (Az s.heap.size) (X2 cy ad ad2 σ τ ++ [aW cy qa 64 fa, aW cy qm 48 fm, aW cy qb 6 fb]) := fun σ τ fa fm fb => va_D_adr hD (by unfold X2; simp [wC, Function.comp_def])
  have C : LCtx p l s m #[Value.ref b] c D cy ad ad2 qa qm qb b L xs := ⟨hx, hb, hml, hown, hts, hX, hbl, hL9, hK, hxk, hst, hj, hj2, hne, hgA, hgB, hDD⟩
  refine W.widen (k := 100) (n := 1000) (Nat.le_of_ble_eq_true rfl) (Nat.le_of_ble_eq_true rfl) ?_
  refine law_init C (Nat.le_refl _) (Nat.le_refl _) hP hD hS (lv_sub hl [5, 4, 3, 2, 1, 0] rfl) (fun fa fm fb H locs ls cells slots h1 h2 hP hS hT hl => ?_)
  exact law_loop (c0 := 100) (s0 := 1000) (by omega) (by omega) C (fun H locs ls cells slots hS hc hs hl => hexit H locs ls cells slots hS (by omega) (by omega) hl) 64 0 rfl σ0 fa fm fb 0 0 (by omega) (by omega) H locs ls cells slots (by omega) (by omega) hP hS ⟨inv_0, full_0, hT⟩ (lv_sub hl [0, 1, 2, 3, 4, 5, 6, 7] rfl)
