/-! each step of the two keeps them in agreement -/
theorem sC_up {σ : Mem} {i r k : Nat} {st v : Int32} (h1 : r ≠ 1) (h20 : r ≠ 20) (h22 : r ≠ 22) (h23 : r ≠ 23) : sChg (up2 σ r k v) i st = up2 (sChg σ i st) r k v := by
  funext a b
  by_cases ha : a = r
  · subst ha
    simp [sChg, sAdd, sh, up2, h1, h20, h22, h23]
  · simp [sChg, sAdd, sh, up2, ha, h1.symm, h20.symm, h22.symm, h23.symm]
theorem sC_up20 {σ : Mem} {i k : Nat} {st v : Int32} (h9 : k ≠ 9) : sChg (up2 σ 20 k v) i st = up2 (sChg σ i st) 20 k v := by
  funext a b
  by_cases ha : a = 20
  · subst ha
    by_cases hb : b = 9
    · subst hb
      simp [sChg, sAdd, sh, up2, h9.symm]
    · simp [sChg, sAdd, sh, up2, hb]
  · simp [sChg, sAdd, sh, up2, ha]
theorem shl_dbl (a : Int32) {n : Nat} (h : n ≤ 8) : a <<< (nI n &&& 31) = dbl a n := by
  have two : ∀ x : Int32, (x * 2).toBitVec.toNat = x.toBitVec.toNat * 2 % 4294967296 := fun x => rfl
  have e : ∀ m : Nat, m ≤ 8 → (dbl a m).toBitVec.toNat = a.toBitVec.toNat * 2 ^ m % 4294967296 := by
    intro m
    induction m with
    | zero => intro _; show a.toBitVec.toNat = _; have := a.toBitVec.isLt; omega
    | succ m ih =>
      intro hm
      show (dbl a m * 2).toBitVec.toNat = _
      rw [two, ih (by omega), Nat.pow_succ]
      rw [Nat.mod_mul_mod, Nat.mul_assoc]
  have e2 : (a <<< (nI n &&& 31)).toBitVec.toNat = a.toBitVec.toNat * 2 ^ n % 4294967296 := by
    have sm : ∀ m : Nat, m < 9 → (((nI m).toBitVec &&& 31#32).smod 32#32).toNat = m := by decide +kernel
    simp [Int32.toBitVec_shiftLeft, BitVec.toNat_shiftLeft, Nat.shiftLeft_eq]
    rw [sm n (by omega)]
  apply Int32.toBitVec_inj.mp
  apply BitVec.eq_of_toNat_eq
  rw [e2, e n h]
theorem Rel.fail {b i : Nat} {σ τ : Mem} (h : Rel (b + 1) σ τ) (hF : FI τ) (hi : i < 16) (hs : ¬ τ 5 i = 7) : Rel b (sFail σ i) (tFail τ i) := by
  obtain ⟨n, -, hn, hn8⟩ := hF.1 i hi
  have hn8 : n ≤ 8 := hn8.resolve_right hs
  have e6 : σ 6 i = τ 13 i := (h.2.1 i hi).2.2.2.2.2
  have e5 : σ 20 5 = τ 0 2 := h.1.2.1
  unfold sFail tFail
  rw [e6, e5]
  by_cases hc : τ 0 2 ≤ τ 13 i + 1
  · rw [if_pos hc, if_pos hc]
    have k := ((h.opn i).fails (i := i) (τ 13 i + 1)).turn hi 7
    have e : (tTurn (up2 τ 13 i (τ 13 i + 1)) i 7) 5 i = 7 := by rw [tT_5, if_pos rfl]
    exact k.close (by rw [e]; intro q; rcases q with q | q | q <;> exact absurd q (by decide)) (by rw [e]; intro q; rcases q with q | q | q <;> exact absurd q (by decide)) (by rw [e]; decide)
  · rw [if_neg hc, if_neg hc, sC_up (by decide) (by decide) (by decide) (by decide)]
    have k := (((h.opn i).fails (i := i) (τ 13 i + 1)).turn hi 4).ends (σ 20 6 + (σ 20 4 <<< ((τ 13 i + 1 - 1) &&& 31))) (tFl τ i 0 0 + dbl (tFl τ i 0 1) (ix (τ 13 i + 1) - 1))
    have e : (up2 (tTurn (up2 τ 13 i (τ 13 i + 1)) i 4) 12 i (tFl τ i 0 0 + dbl (tFl τ i 0 1) (ix (τ 13 i + 1) - 1))) 5 i = 4 := by rw [up2_r (by decide), tT_5, if_pos rfl]
    refine k.close (by rw [e]; intro q; rcases q with q | q | q <;> exact absurd q (by decide)) (fun _ => ?_) (by rw [e]; decide)
    have f0 : tFl τ i 0 0 = τ 0 0 := by simp [tFl, tTurn, up2]
    have f1 : tFl τ i 0 1 = τ 0 1 := by simp [tFl, tTurn, up2]
    rw [up2_s, up2_s, f0, f1, h.1.1, h.1.2.2.1, hn, nI_1, nI_pred, ix_nI (by omega), Nat.add_sub_cancel, shl_dbl _ hn8]
theorem Rel.chg1 {b i : Nat} {σ τ : Mem} (h : Rel (b + 1) σ τ) (hi : i < 16) {st : Int32} (h2 : ¬ st = 2) (c1 : st = 3 ∨ st = 5 ∨ st = 6 → σ 7 i = τ 11 i) (c2 : st = 3 ∨ st = 4 ∨ st = 6 → σ 8 i = τ 12 i) : Rel b (sChg σ i st) (tTurn τ i st) := by
  have e : (tTurn τ i st) 5 i = st := by rw [tT_5, if_pos rfl]
  refine ((h.opn i).turn hi st).close ?_ ?_ (by rw [e]; exact h2)
  · rw [e, sC_r (by decide) (by decide) (by decide) (by decide), tT_r (by decide) (by decide) (by decide) (by decide)]; exact c1
  · rw [e, sC_r (by decide) (by decide) (by decide) (by decide), tT_r (by decide) (by decide) (by decide) (by decide)]; exact c2
theorem Rel.wiped {b i : Nat} {σ τ : Mem} (h : Rel (b + 1) σ τ) (hi : i < 16) : Rel b (sWipe σ i) (tWiped τ i) := by
  unfold sWipe tWiped
  rw [sC_up20 (by decide), tT_0 (by decide), h.1.2.2.2]
  exact (h.chg1 hi (by decide) (fun q => by rcases q with q | q | q <;> exact absurd q (by decide)) (fun q => by rcases q with q | q | q <;> exact absurd q (by decide))).wipes _
theorem sEnq_eq (σ : Mem) (i : Nat) : sEnq σ i = up2 (sDraw (sChg σ i 2)) 9 i (sChg σ i 2 20 8 + 1) := by
  unfold sEnq sDraw
  rw [sC_up (by decide) (by decide) (by decide) (by decide), sC_up20 (by decide), sC_20 (by decide)]
theorem Rel.queue {b i : Nat} {σ τ : Mem} (h : Rel (b + 2) σ τ) (hi : i < 16) : Rel b (sEnq σ i) (tQueue τ i) := by
  rw [sEnq_eq]
  exact ((h.opn i).turn hi 2).stand (by rw [tT_5, if_pos rfl])
theorem bst_mt {mt : Nat → Bool} {pr : Nat → Int32} : ∀ {n b : Nat}, bst mt pr n = some b → mt b = true
  | 0, b, h => by simp [bst] at h
  | n + 1, b, h => by
    simp only [bst] at h
    cases hf : bst mt pr n with
    | none =>
      rw [hf] at h
      by_cases hp : mt n = true
      · simp [hp] at h; subst h; exact hp
      · simp [hp] at h
    | some j =>
      rw [hf] at h
      have hj := bst_mt hf
      by_cases hp : (mt n && decide (pr j < pr n)) = true
      · simp only [hp] at h
        simp at h hp
        subst h
        exact hp.1
      · simp only [hp] at h
        simp at h
        subst h
        exact hj
theorem RelX.bst {x b i : Nat} {σ τ : Mem} (h : RelX x b σ τ) (hi : i < 16) : sBst σ i = tBst τ i := by
  unfold sBst tBst
  have m := h.2.1 i hi
  refine bst_cong (fun k hk => ?_) (fun k hk => (h.2.2.2.2.1 k hk).2.1)
  have g := h.2.2.2.2.1 k hk
  unfold sMt tMt
  rw [m.1, m.2.2.1, m.2.2.2.1, m.2.2.2.2.1, g.1, g.2.2.1, g.2.2.2.1, g.2.2.2.2.1, g.2.2.2.2.2.1]
theorem Rel.step {b i : Nat} {σ τ : Mem} (h : Rel (b + 1) σ τ) (hi : i < 16) : Rel b (sBeg σ i) (tStep τ i) := by
  have hb := h.bst hi
  cases ho : tBst τ i with
  | none =>
    rw [tStep_none ho, sBeg_none (hb.trans ho)]
    have k := (((h.opn i).turn hi 1).imgT (-1)).endT (-1)
    have e : (up2 (up2 (tTurn τ i 1) 11 i (-1)) 12 i (-1)) 5 i = 1 := by rw [up2_r (by decide), up2_r (by decide), tT_5, if_pos rfl]
    exact k.close (by rw [e]; intro q; rcases q with q | q | q <;> exact absurd q (by decide)) (by rw [e]; intro q; rcases q with q | q | q <;> exact absurd q (by decide)) (by rw [e]; decide)
  | some k =>
    have hk := bst_lt (n := 8) ho
    have hm := bst_mt (n := 8) ho
    simp only [tMt, Bool.and_eq_true, Bool.not_eq_true', decide_eq_false_iff_not] at hm
    have h17 : σ 17 k = τ 20 k := (h.2.2.2.2.1 k hk).2.2.2.2.2.2 hm.1.1.1.1.1
    rw [tStep_some ho, sBeg_some (hb.trans ho), sC_up (by decide) (by decide) (by decide) (by decide), sC_up (by decide) (by decide) (by decide) (by decide)]
    have r := (((h.opn i).turn hi 3).imgs (nI k) (nI k)).ends (σ 20 6 + σ 17 k) (tTurn τ i 3 0 0 + tTurn τ i 3 20 k)
    have e : (up2 (up2 (tTurn τ i 3) 11 i (nI k)) 12 i (tTurn τ i 3 0 0 + tTurn τ i 3 20 k)) 5 i = 3 := by rw [up2_r (by decide), up2_r (by decide), tT_5, if_pos rfl]
    refine r.close (fun _ => ?_) (fun _ => ?_) (by rw [e]; decide)
    · simp [up2]
    · rw [up2_s, up2_s, tT_0 (by decide), tT_r (by decide) (by decide) (by decide) (by decide), h17, h.1.2.2.1]
/-! who stands where in a queue -/
theorem ct_lt {p q : Nat → Bool} {i : Nat} : ∀ {n : Nat}, (∀ k, k < n → p k = true → q k = true) → i < n → q i = true → p i = false → ct p n < ct q n
  | 0, _, h, _, _ => absurd h (Nat.not_lt_zero i)
  | n + 1, hpq, hi, hq, hp => by
    have le : ∀ m, m ≤ n + 1 → ct p m ≤ ct q m := by
      intro m
      induction m with
      | zero => intro _; exact Nat.le_refl _
      | succ m ih =>
        intro hm
        have := ih (by omega)
        simp only [ct]
        by_cases h1 : p m = true
        · simp [h1, hpq m (by omega) h1]; omega
        · simp at h1
          simp [h1]
          split <;> omega
    simp only [ct]
    rcases Nat.lt_or_ge i n with k | k
    · have := ct_lt (fun k hk => hpq k (by omega)) k hq hp
      by_cases h1 : p n = true
      · simp [h1, hpq n (by omega) h1]; omega
      · simp at h1
        simp [h1]
        split <;> omega
    · have e : i = n := by omega
      subst e
      have := le i (by omega)
      simp [hp, hq]
      omega
theorem tQd_fnd {p : Nat → Bool} : ∀ {n : Nat}, (∀ i j, i < n → j < n → p i = true → p j = true → i = j) → tQd p n = oI (fnd p n)
  | 0, _ => rfl
  | n + 1, h => by
    have ih := tQd_fnd (p := p) (n := n) (fun i j hi hj => h i j (by omega) (by omega))
    simp only [tQd, fnd]
    cases hf : fnd p n with
    | some j =>
      have hj := fnd_some hf
      have hn : p n = false := by
        cases hpn : p n with
        | false => rfl
        | true => exact absurd (h j n (by omega) (by omega) hj.2 hpn) (by omega)
      simp [hn, ih, hf]
    | none =>
      cases hpn : p n with
      | false => simp [ih, hf]
      | true => simp [oI]
theorem RelX.tick {x b i j : Nat} {σ τ : Mem} (h : RelX x b σ τ) (hi : i < 16) (hj : j < 16) (hix : i ≠ x) (hjx : j ≠ x) (qi : τ 5 i = 2) (qj : τ 5 j = 2) : (σ 9 j < σ 9 i ↔ τ 10 j < τ 10 i) := by
  obtain ⟨-, -, -, -, -, -, -, T, h9, -, -, h12, -⟩ := h
  obtain ⟨t, a1, a2, a3⟩ := h12 i hi hix qi
  obtain ⟨u, b1, b2, b3⟩ := h12 j hj hjx qj
  rw [a2, a3, b2, b3, nI_ltI (by omega) (by omega), nI_ltI (by omega) (by omega)]
  omega
theorem Rel.qp {b : Nat} {σ τ : Mem} (h : Rel b σ τ) (r pl : Int32) {i : Nat} (hi : i < 16) : sQAP σ r pl i = tQdP τ r pl i := by
  have m := h.2.1 i hi
  by_cases q : τ 5 i = 2 ∧ τ 6 i = r
  · have e : sAh σ i = nI (ct (tAhP τ r i) 16) := by
      unfold sAh
      rw [ct_cong (fun j hj => ?_)]
      have mj := h.2.1 j hj
      unfold sAhP tAhP sQ
      rw [mj.1, mj.2.1, m.2.1, q.2]
      by_cases qj : τ 5 j = 2
      · simp [h.tick hi hj (by omega) (by omega) q.1 qj]
      · simp [qj]
    unfold sQAP tQdP sQ
    rw [m.1, m.2.1, e]
  · unfold sQAP tQdP sQ
    rw [m.1, m.2.1]
    have : (decide (τ 5 i = 2) && decide (τ 6 i = r)) = false := by
      rw [Bool.eq_false_iff]
      intro w
      simp at w
      exact q w
    rw [this]
    simp
theorem Rel.qu1 {b : Nat} {σ τ : Mem} (h : Rel b σ τ) (r pl : Int32) {i j : Nat} (hi : i < 16) (hj : j < 16) (pi : tQdP τ r pl i = true) (pj : tQdP τ r pl j = true) : i = j := by
  simp only [tQdP, Bool.and_eq_true, decide_eq_true_eq] at pi pj
  obtain ⟨-, -, -, -, -, -, -, T, h9, -, -, h12, h13⟩ := h
  obtain ⟨t, a1, a2, -⟩ := h12 i hi (by omega) pi.1.1
  obtain ⟨u, b1, b2, -⟩ := h12 j hj (by omega) pj.1.1
  have cle : ∀ k, ct (tAhP τ r k) 16 ≤ 16 := fun k => ct_le _ 16
  have hc : ct (tAhP τ r i) 16 = ct (tAhP τ r j) 16 := (nI_eq (by have := cle i; omega) (by have := cle j; omega)).mp (pi.2.trans pj.2.symm)
  have lt : ∀ m, m < 16 → ∀ v, v < T → τ 10 m = nI v → ∀ k, k < 16 → ∀ z, z < T → τ 10 k = nI z → v < z → τ 5 m = 2 → τ 6 m = r → ct (tAhP τ r m) 16 < ct (tAhP τ r k) 16 := by
    intro m hm v hv e1 k hk z hz e2 hvz s1 s2
    refine ct_lt (i := m) (fun y hy hp => ?_) hm ?_ ?_
    · simp only [tAhP, Bool.and_eq_true, decide_eq_true_eq] at hp ⊢
      refine ⟨hp.1, ?_⟩
      obtain ⟨y9, c1, c2, -⟩ := h12 y hy (by omega) hp.1.1
      have := hp.2
      rw [c2, e1, nI_ltI (by omega) (by omega)] at this
      rw [c2, e2, nI_ltI (by omega) (by omega)]
      omega
    · simp only [tAhP, Bool.and_eq_true, decide_eq_true_eq]
      exact ⟨⟨s1, s2⟩, by rw [e1, e2, nI_ltI (by omega) (by omega)]; exact hvz⟩
    · rw [Bool.eq_false_iff]
      intro w
      simp only [tAhP, Bool.and_eq_true, decide_eq_true_eq] at w
      exact Int32.lt_irrefl w.2
  rcases Nat.lt_trichotomy t u with q | q | q
  · have := lt i hi t a1 a2 j hj u b1 b2 q pi.1.1 pi.1.2
    omega
  · exact h13 i j hi hj (by omega) (by omega) pi.1.1 pj.1.1 (by rw [a2, b2, q])
  · have := lt j hj u b1 b2 i hi t a1 a2 q pj.1.1 pj.1.2
    omega
theorem Rel.queued {b : Nat} {σ τ : Mem} (h : Rel b σ τ) (r pl : Int32) : tQu τ r pl = oI (sQA σ r pl) := by
  unfold tQu sQA
  rw [fnd_cong (fun k hk => h.qp r pl hk)]
  exact tQd_fnd (fun i j hi hj pi pj => h.qu1 r pl hi hj pi pj)
theorem Rel.work {b : Nat} {σ τ : Mem} (h : Rel b σ τ) (r : Int32) : sIn σ r = tAW τ r := by
  unfold sIn tAW
  rw [ct_cong (fun j hj => ?_)]
  have m := h.2.1 j hj
  unfold sInP tAWP
  rw [m.1, m.2.1]
theorem tStep_21 {τ : Mem} {i : Nat} (r : Nat) : tStep τ i 21 r = τ 21 r := by
  cases ho : tBst τ i with
  | none => rw [tStep_none ho]; simp [tTurn, up2]
  | some k => rw [tStep_some ho]; simp [tTurn, up2]
theorem Rel.fill {r b : Nat} : ∀ {n : Nat} {σ τ : Mem}, Rel (b + n) σ τ → Rel b (sFill (nI r) (τ 21 r) n σ) (tFill r n τ)
  | 0, σ, τ, h => h
  | n + 1, σ, τ, h => by
    have hq := h.queued (nI r) 0
    have hw := h.work (nI r)
    cases ho : sQA σ (nI r) 0 with
    | none =>
      rw [ho] at hq
      rw [sFill_none n ho, tFill_none _ hq]
      exact h.le (by omega)
    | some i =>
      rw [ho] at hq
      have hi : i < 16 := (fnd_some ho).1
      by_cases hb : τ 21 r ≤ tAW τ (nI r)
      · rw [sFill_full n (by rw [hw]; exact hb), tFill_full _ hb]
        exact h.le (by omega)
      · rw [sFill_go n ho (by rw [hw]; exact hb), tFill_go n hi hq hb]
        have := Rel.fill (r := r) (n := n) (Rel.step (b := b + n) (by rw [show b + n + 1 = b + (n + 1) by omega]; exact h) hi)
        rw [tStep_21] at this
        exact this
theorem Rel.bi {b : Nat} {σ τ : Mem} (h : Rel (b + 64) σ τ) : ∀ k, k ≤ 4 → Rel (b + 16 * (4 - k)) (sBI σ k) (tBI τ k)
  | 0, _ => h.le (by omega)
  | k + 1, hk => by
    have ih := Rel.bi h k (by omega)
    have e : sBI σ k 21 k = tBI τ k 21 k := ih.2.2.2.2.2.1 k (by omega)
    show Rel _ (sFill (nI k) (sBI σ k 21 k) 16 (sBI σ k)) (tFill k 16 (tBI τ k))
    rw [e]
    exact Rel.fill (ih.le (by omega))
theorem Rel.begins {b : Nat} {σ τ : Mem} (h : Rel (b + 64) σ τ) : Rel b (sBegins σ) (tBegins τ) := (h.bi 4 (by omega)).le (by omega)
theorem Rel.over {b i : Nat} {σ τ : Mem} (h : Rel b σ τ) (hi : i < 16) {st : Int32} (hs : st = 3 ∨ st = 4 ∨ st = 6) : sOv σ i st (σ 20 6) = tOv τ i st := by
  unfold sOv tOv
  rw [h.st hi, h.1.2.2.1]
  by_cases q : τ 5 i = st
  · rw [h.2.2.2.1 i hi (by omega) (by rw [q]; exact hs)]
  · simp [q]
theorem Rel.fo {b : Nat} {σ τ : Mem} (h : Rel (b + 16) σ τ) (hF : FI τ) : ∀ k, k ≤ 16 → Rel (b + (16 - k)) (sFO σ k) (tFO τ k)
  | 0, _ => h.le (by omega)
  | k + 1, hk => by
    have ih := Rel.fo h hF k (by omega)
    simp only [sFO, tFO]
    rw [ih.over (by omega) (Or.inl rfl)]
    by_cases q : tOv (tFO τ k) k 3 = true
    · rw [if_pos q, if_pos q]
      exact Rel.fail (ih.le (by omega)) (hF.fo k (by omega)) (by omega) (by rw [tOv_st q]; decide)
    · rw [if_neg q, if_neg q]
      exact ih.le (by omega)
theorem Rel.wd {b : Nat} {σ τ : Mem} (h : Rel (b + 16) σ τ) : ∀ k, k ≤ 16 → Rel (b + (16 - k)) (sWD σ k) (tWD τ k)
  | 0, _ => h.le (by omega)
  | k + 1, hk => by
    have ih := Rel.wd h k (by omega)
    simp only [sWD, tWD]
    rw [ih.over (by omega) (Or.inr (Or.inr rfl))]
    by_cases q : tOv (tWD τ k) k 6 = true
    · rw [if_pos q, if_pos q]
      exact Rel.wiped (ih.le (by omega)) (by omega)
    · rw [if_neg q, if_neg q]
      exact ih.le (by omega)
theorem Rel.er {b : Nat} {σ τ : Mem} (h : Rel (b + 32) σ τ) : ∀ k, k ≤ 16 → Rel (b + 2 * (16 - k)) (sER σ k) (tQR τ k)
  | 0, _ => h.le (by omega)
  | k + 1, hk => by
    have ih := Rel.er h k (by omega)
    simp only [sER, tQR]
    rw [ih.over (by omega) (Or.inr (Or.inl rfl))]
    by_cases q : tOv (tQR τ k) k 4 = true
    · rw [if_pos q, if_pos q]
      exact Rel.queue (ih.le (by omega)) (by omega)
    · rw [if_neg q, if_neg q]
      exact ih.le (by omega)
theorem Rel.pass {b : Nat} {σ τ : Mem} (h : Rel (b + 128) σ τ) (hF : FI τ) : Rel b (sPass σ) (tPass τ) := by
  unfold sPass tPass
  rw [h.1.2.2.1]
  have h1 : Rel (b + 64 + 32 + 16 + 16) (up2 σ 20 6 (τ 0 0 + 1)) (up2 τ 0 0 (τ 0 0 + 1)) := (h.hours _).le (by omega)
  have h2 := (Rel.fo h1 hF.hour 16 (by omega)).le (c := b + 64 + 32 + 16) (by omega)
  have h3 := (Rel.wd h2 16 (by omega)).le (c := b + 64 + 32) (by omega)
  have h4 := (Rel.er h3 16 (by omega)).le (c := b + 64) (by omega)
  exact Rel.begins h4
theorem Rel.adv {b n : Nat} {σ τ : Mem} (h : Rel (b + 128 * n) σ τ) (hF : FI τ) : ∀ k, k ≤ n → Rel (b + 128 * (n - k)) (sAdv σ k) (tAdv τ k)
  | 0, _ => h.le (by omega)
  | k + 1, hk => Rel.pass ((Rel.adv h hF k (by omega)).le (by omega)) (hF.adv k)
