section LOOP9
variable {p : Program} {l : Launch} {e : Env} {s : State} {m : MethodId} {args : Array Value} {below : List Frame} {meth : Method} {c : Code} {Q : State → Prop} {D : va_G} {cy : Nat → ClassId} {b L : Nat} {xs : Nat → Int32} {ad bd : Nat → Nat} {ob : Nat}
set_option maxHeartbeats 4000000 in
set_option maxRecDepth 100000 in
theorem law_loop (C : LCtx p l s m c args b L xs D cy ad bd ob)
    (hexit : ∀ (H : Heap) (locs : List Loc) (cells slots : Nat) (ls : Array Slot), va_S (A0 s) s.heap H locs → cells ≤ 644319 → slots ≤ 7163146 → W p l e room_1 s m args below meth c H locs cells slots Q (F0 m 1580 ls [])) :
    ∀ (d k : Nat), k + d = 512 → ∀ (H : Heap) (locs : List Loc) (cells slots : Nat) (σ τ : Mem) (ls : Array Slot), cells ≤ 100 + 6 * k → slots ≤ 1000 + 36 * k → LSt s D cy ad bd ob d σ τ H locs → lv_has ls 7 (lvL b ad bd ob k) → W p l e room_1 s m args below meth c H locs cells slots Q (F0 m 23 ls []) := by
  obtain ⟨hx, hb, hml, hown, hts, hX, hbl, hL9, -⟩ := id C
  have hl9 : nI L - 7 = nI L - nI 7 := rfl
  intro d
  induction d with
  | zero =>
    intro k hkd H locs cells slots σ τ ls hc hs h hl
    have hS := h.2.2.2.1
    refine lv_iload hx hb dL_law_23 (lv_at hl 0 rfl) ?_
    refine lv_aload_n hx hb dL_law_25 rfl (lv_at hl 1 rfl) ?_
    refine va_slen hx hb hX hbl (Nat.not_le.mpr hbl) hS dL_law_26 ?_
    refine lv_bipush (v := 7) hx hb dL_law_27 (by decide) ?_
    refine lv_isub hx hb dL_law_29 ?_
    refine lv_icmp_gt (tgt := 1580) hx hb dL_law_30 (by decide) (fun cg => ?_) (fun cg => ?_)
    · exact hexit H locs cells slots ls hS (by omega) (by omega)
    · exfalso
      have h1 : ¬ (nI L - nI 7 < nI (7 * k)) := cg
      rw [Int32.lt_iff_toInt_lt, pk_sub_toInt (by omega) (by omega), nI_toInt (by omega)] at h1
      omega
  | succ d ih =>
    intro k hkd H locs cells slots σ τ ls hc hs h hl
    have hS := h.2.2.2.1
    refine lv_iload hx hb dL_law_23 (lv_at hl 0 rfl) ?_
    refine lv_aload_n hx hb dL_law_25 rfl (lv_at hl 1 rfl) ?_
    refine va_slen hx hb hX hbl (Nat.not_le.mpr hbl) hS dL_law_26 ?_
    refine lv_bipush (v := 7) hx hb dL_law_27 (by decide) ?_
    refine lv_isub hx hb dL_law_29 ?_
    refine lv_icmp_gt (tgt := 1580) hx hb dL_law_30 (by decide) (fun cg => ?_) (fun cg => ?_)
    · exact hexit H locs cells slots ls hS (by omega) (by omega)
    · have hk : 7 * k + 7 ≤ L := by
        have h1 : ¬ (nI L - nI 7 < nI (7 * k)) := cg
        rw [Int32.lt_iff_toInt_lt, pk_sub_toInt (by omega) (by omega), nI_toInt (by omega)] at h1
        omega
      have knext : ∀ (H : Heap) (locs : List Loc) (σ τ : Mem) (ls : Array Slot), LSt s D cy ad bd ob d σ τ H locs → lv_has ls 7 (lvL b ad bd ob k) → W p l e room_1 s m args below meth c H locs (cells + 6) (slots + 36) Q (F0 m 1574 ls []) := by
        intro H locs σ τ ls h hl
        refine lv_iinc (v := nI (7 * (k + 1))) (lv' := lvL b ad bd ob (k + 1)) hx hb dL_law_1574 hl (k := 0) rfl (by rw [show Int32.ofInt 7 = nI 7 from rfl, nI_add]; rfl) (by decide) rfl (fun ls hl => ?_)
        refine lv_goto (tgt := 23) hx hb dL_law_1577 (by decide) ?_
        exact ih (k + 1) (by omega) H locs (cells + 6) (slots + 36) σ τ ls (by omega) (by omega) h hl
      refine lv_aload_n hx hb dL_law_33 rfl (lv_at hl 1 rfl) ?_
      refine lv_iload hx hb dL_law_34 (lv_at hl 0 rfl) ?_
      refine sld hx hb hX hbl hS (show 7 * k < L by omega) hL9 dL_law_36 ?_
      refine lv_bipush (v := 31) hx hb dL_law_37 (by decide) ?_
      refine lv_iand hx hb dL_law_39 ?_
      generalize xs (7 * k) &&& 31 = v
      by_cases h0 : v = 0
      · rw [h0]
        refine lv_tableIn (tgt := 164) hx hb dL_law_40 (by decide) (by decide) (off := 124) (by decide) (by decide) ?_
        exact law_c0 C hk h (by omega) (by omega) hl knext
      by_cases h1 : v = 1
      · rw [h1]
        refine lv_tableIn (tgt := 262) hx hb dL_law_40 (by decide) (by decide) (off := 222) (by decide) (by decide) ?_
        exact law_c1 C hk h (by omega) (by omega) hl knext
      by_cases h2 : v = 2
      · rw [h2]
        refine lv_tableIn (tgt := 330) hx hb dL_law_40 (by decide) (by decide) (off := 290) (by decide) (by decide) ?_
        exact law_c2 C hk h (by omega) (by omega) hl knext
      by_cases h3 : v = 3
      · rw [h3]
        refine lv_tableIn (tgt := 366) hx hb dL_law_40 (by decide) (by decide) (off := 326) (by decide) (by decide) ?_
        exact law_c3 C hk h (by omega) (by omega) hl knext
      by_cases h4 : v = 4
      · rw [h4]
        refine lv_tableIn (tgt := 434) hx hb dL_law_40 (by decide) (by decide) (off := 394) (by decide) (by decide) ?_
        exact law_c4 C hk h (by omega) (by omega) hl knext
      by_cases h5 : v = 5
      · rw [h5]
        refine lv_tableIn (tgt := 482) hx hb dL_law_40 (by decide) (by decide) (off := 442) (by decide) (by decide) ?_
        exact law_c5 C hk h (by omega) (by omega) hl knext
      by_cases h6 : v = 6
      · rw [h6]
        refine lv_tableIn (tgt := 586) hx hb dL_law_40 (by decide) (by decide) (off := 546) (by decide) (by decide) ?_
        exact law_c6 C hk h (by omega) (by omega) hl knext
      by_cases h7 : v = 7
      · rw [h7]
        refine lv_tableIn (tgt := 642) hx hb dL_law_40 (by decide) (by decide) (off := 602) (by decide) (by decide) ?_
        exact law_c7 C hk h (by omega) (by omega) hl knext
      by_cases h8 : v = 8
      · rw [h8]
        refine lv_tableIn (tgt := 678) hx hb dL_law_40 (by decide) (by decide) (off := 638) (by decide) (by decide) ?_
        exact law_c8 C hk h (by omega) (by omega) hl knext
      by_cases h9 : v = 9
      · rw [h9]
        refine lv_tableIn (tgt := 762) hx hb dL_law_40 (by decide) (by decide) (off := 722) (by decide) (by decide) ?_
        exact law_c9 C hk h (by omega) (by omega) hl knext
      by_cases h10 : v = 10
      · rw [h10]
        refine lv_tableIn (tgt := 810) hx hb dL_law_40 (by decide) (by decide) (off := 770) (by decide) (by decide) ?_
        exact law_c10 C hk h (by omega) (by omega) hl knext
      by_cases h11 : v = 11
      · rw [h11]
        refine lv_tableIn (tgt := 846) hx hb dL_law_40 (by decide) (by decide) (off := 806) (by decide) (by decide) ?_
        exact law_c11 C hk h (by omega) (by omega) hl knext
      by_cases h12 : v = 12
      · rw [h12]
        refine lv_tableIn (tgt := 882) hx hb dL_law_40 (by decide) (by decide) (off := 842) (by decide) (by decide) ?_
        exact law_c12 C hk h (by omega) (by omega) hl knext
      by_cases h13 : v = 13
      · rw [h13]
        refine lv_tableIn (tgt := 938) hx hb dL_law_40 (by decide) (by decide) (off := 898) (by decide) (by decide) ?_
        exact law_c13 C hk h (by omega) (by omega) hl knext
      by_cases h14 : v = 14
      · rw [h14]
        refine lv_tableIn (tgt := 951) hx hb dL_law_40 (by decide) (by decide) (off := 911) (by decide) (by decide) ?_
        exact law_c14 C hk h (by omega) (by omega) hl knext
      by_cases h15 : v = 15
      · rw [h15]
        refine lv_tableIn (tgt := 1007) hx hb dL_law_40 (by decide) (by decide) (off := 967) (by decide) (by decide) ?_
        exact law_c15 C hk h (by omega) (by omega) hl knext
      by_cases h16 : v = 16
      · rw [h16]
        refine lv_tableIn (tgt := 1063) hx hb dL_law_40 (by decide) (by decide) (off := 1023) (by decide) (by decide) ?_
        exact law_c16 C hk h (by omega) (by omega) hl knext
      by_cases h17 : v = 17
      · rw [h17]
        refine lv_tableIn (tgt := 1119) hx hb dL_law_40 (by decide) (by decide) (off := 1079) (by decide) (by decide) ?_
        exact law_c17 C hk h (by omega) (by omega) hl knext
      by_cases h18 : v = 18
      · rw [h18]
        refine lv_tableIn (tgt := 1175) hx hb dL_law_40 (by decide) (by decide) (off := 1135) (by decide) (by decide) ?_
        exact law_c18 C hk h (by omega) (by omega) hl knext
      by_cases h19 : v = 19
      · rw [h19]
        refine lv_tableIn (tgt := 1231) hx hb dL_law_40 (by decide) (by decide) (off := 1191) (by decide) (by decide) ?_
        exact law_c19 C hk h (by omega) (by omega) hl knext
      by_cases h20 : v = 20
      · rw [h20]
        refine lv_tableIn (tgt := 1287) hx hb dL_law_40 (by decide) (by decide) (off := 1247) (by decide) (by decide) ?_
        exact law_c20 C hk h (by omega) (by omega) hl knext
      by_cases h21 : v = 21
      · rw [h21]
        refine lv_tableIn (tgt := 1343) hx hb dL_law_40 (by decide) (by decide) (off := 1303) (by decide) (by decide) ?_
        exact law_c21 C hk h (by omega) (by omega) hl knext
      by_cases h22 : v = 22
      · rw [h22]
        refine lv_tableIn (tgt := 1411) hx hb dL_law_40 (by decide) (by decide) (off := 1371) (by decide) (by decide) ?_
        exact law_c22 C hk h (by omega) (by omega) hl knext
      by_cases h23 : v = 23
      · rw [h23]
        refine lv_tableIn (tgt := 1424) hx hb dL_law_40 (by decide) (by decide) (off := 1384) (by decide) (by decide) ?_
        exact law_c23 C hk h (by omega) (by omega) hl knext
      by_cases h24 : v = 24
      · rw [h24]
        refine lv_tableIn (tgt := 1437) hx hb dL_law_40 (by decide) (by decide) (off := 1397) (by decide) (by decide) ?_
        exact law_c24 C hk h (by omega) (by omega) hl knext
      by_cases h25 : v = 25
      · rw [h25]
        refine lv_tableIn (tgt := 1450) hx hb dL_law_40 (by decide) (by decide) (off := 1410) (by decide) (by decide) ?_
        exact law_c25 C hk h (by omega) (by omega) hl knext
      by_cases h26 : v = 26
      · rw [h26]
        refine lv_tableIn (tgt := 1506) hx hb dL_law_40 (by decide) (by decide) (off := 1466) (by decide) (by decide) ?_
        exact law_c26 C hk h (by omega) (by omega) hl knext
      refine lv_tableOut (tgt := 1574) hx hb dL_law_40 (sw27 (fun n hn => by
        match n, hn with
        | 0, _ => exact h0
        | 1, _ => exact h1
        | 2, _ => exact h2
        | 3, _ => exact h3
        | 4, _ => exact h4
        | 5, _ => exact h5
        | 6, _ => exact h6
        | 7, _ => exact h7
        | 8, _ => exact h8
        | 9, _ => exact h9
        | 10, _ => exact h10
        | 11, _ => exact h11
        | 12, _ => exact h12
        | 13, _ => exact h13
        | 14, _ => exact h14
        | 15, _ => exact h15
        | 16, _ => exact h16
        | 17, _ => exact h17
        | 18, _ => exact h18
        | 19, _ => exact h19
        | 20, _ => exact h20
        | 21, _ => exact h21
        | 22, _ => exact h22
        | 23, _ => exact h23
        | 24, _ => exact h24
        | 25, _ => exact h25
        | 26, _ => exact h26
        | n + 27, hn => exact absurd hn (by omega))) (by decide) ?_
      refine W.widen (k := cells + 6) (n := slots + 36) (by omega) (by omega) ?_
      exact knext H locs σ τ ls ⟨h.1, h.2.1, h.2.2.1, h.2.2.2.1, h.2.2.2.2.le⟩ hl
end LOOP9
