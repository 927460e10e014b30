/-! INSTALLATIONS BEGIN: what that keeps, and that no rack is left with a queue and room -/
theorem sBst_cong {σ σ' : Mem} {i : Nat} (e : ∀ r j, (3 ≤ r ∧ r ≤ 5) ∨ (11 ≤ r ∧ r ≤ 16) → σ' r j = σ r j) (e1 : σ' 1 i = 0 ↔ σ 1 i = 0) : sBst σ' i = sBst σ i := by
  unfold sBst
  refine bst_cong (fun k _ => ?_) (fun k _ => e 12 k (by omega))
  unfold sMt
  rw [e 11 k (by omega), e 13 k (by omega), e 14 k (by omega), e 15 k (by omega), e 16 k (by omega), e 3 i (by omega), e 4 i (by omega), e 5 i (by omega)]
  by_cases q : σ 1 i = 0
  · rw [decide_eq_true q, decide_eq_true (e1.mpr q)]
  · rw [decide_eq_false q, decide_eq_false (fun z => q (e1.mp z))]
/-- what the beginning of installations leaves -/
def BG (σ σ' : Mem) : Prop := (∀ r j, (2 ≤ r ∧ r ≤ 6) ∨ (9 ≤ r ∧ r ≤ 19) ∨ r = 21 → σ' r j = σ r j) ∧ (∀ j, j ≠ 9 → σ' 20 j = σ 20 j) ∧ (∀ j, ¬ σ 1 j = 2 → σ' 1 j = σ 1 j ∧ σ' 7 j = σ 7 j ∧ σ' 8 j = σ 8 j) ∧ ∀ j, σ 1 j = 2 → σ' 1 j = 2 ∨ σ' 1 j = 3 ∨ (σ' 1 j = 1 ∧ sBst σ j = none)
theorem BG.rf {σ : Mem} : BG σ σ := ⟨fun _ _ _ => rfl, fun _ _ => rfl, fun _ _ => ⟨rfl, rfl, rfl⟩, fun _ h => Or.inl h⟩
theorem BG.bst {σ σ' : Mem} (h : BG σ σ') (i : Nat) : sBst σ' i = sBst σ i := by
  refine sBst_cong (fun r j q => h.1 r j (by omega)) ?_
  by_cases q : σ 1 i = 2
  · have h9 := h.2.2.2 i q
    rw [q]
    constructor
    · intro z
      rw [z] at h9
      rcases h9 with y | y | y
      · exact absurd y (by decide)
      · exact absurd y (by decide)
      · exact absurd y.1 (by decide)
    · intro z; exact absurd z (by decide)
  · rw [(h.2.2.1 i q).1]
theorem BG.tr {a b c : Mem} (h : BG a b) (k : BG b c) : BG a c := by
  refine ⟨fun r j q => (k.1 r j q).trans (h.1 r j q), fun j q => (k.2.1 j q).trans (h.2.1 j q), fun j q => ?_, fun j q => ?_⟩
  · obtain ⟨e1, e2, e3⟩ := h.2.2.1 j q
    obtain ⟨f1, f2, f3⟩ := k.2.2.1 j (by rw [e1]; exact q)
    exact ⟨f1.trans e1, f2.trans e2, f3.trans e3⟩
  · rcases h.2.2.2 j q with z | z | ⟨z, y⟩
    · rcases k.2.2.2 j z with x | x | ⟨x, w⟩
      · exact Or.inl x
      · exact Or.inr (Or.inl x)
      · exact Or.inr (Or.inr ⟨x, by rw [← h.bst j]; exact w⟩)
    · have := (k.2.2.1 j (by rw [z]; decide)).1
      exact Or.inr (Or.inl (this.trans z))
    · have := (k.2.2.1 j (by rw [z]; decide)).1
      exact Or.inr (Or.inr ⟨this.trans z, y⟩)
theorem BG.beg {σ : Mem} {i : Nat} (hs : σ 1 i = 2) : BG σ (sBeg σ i) := by
  cases ho : sBst σ i with
  | none =>
    rw [sBeg_none ho]
    refine ⟨fun r j q => sC_r (by omega) (by omega) (by omega) (by omega) j, fun j q => sC_20 q, fun j q => ?_, fun j q => ?_⟩
    · have hj : j ≠ i := fun z => q (by rw [z]; exact hs)
      exact ⟨sC_1n hj, sC_r (by decide) (by decide) (by decide) (by decide) j, sC_r (by decide) (by decide) (by decide) (by decide) j⟩
    · by_cases z : j = i
      · subst z; exact Or.inr (Or.inr ⟨sC_1i, ho⟩)
      · exact Or.inl ((sC_1n z).trans q)
  | some k =>
    rw [sBeg_some ho]
    refine ⟨fun r j q => (sC_r (by omega) (by omega) (by omega) (by omega) j).trans ((up2_o (by omega)).trans (up2_o (by omega))), fun j q => (sC_20 q).trans ((up2_o (by omega)).trans (up2_o (by omega))), fun j q => ?_, fun j q => ?_⟩
    · have hj : j ≠ i := fun z => q (by rw [z]; exact hs)
      exact ⟨(sC_1n hj).trans ((up2_o (by omega)).trans (up2_o (by omega))), (sC_r (by decide) (by decide) (by decide) (by decide) j).trans ((up2_o (by omega)).trans (up2_o (by omega))), (sC_r (by decide) (by decide) (by decide) (by decide) j).trans ((up2_o (by omega)).trans (up2_o (by omega)))⟩
    · by_cases z : j = i
      · subst z; exact Or.inr (Or.inl sC_1i)
      · exact Or.inl ((sC_1n z).trans (((up2_o (by omega)).trans (up2_o (by omega))).trans q))
theorem beg_1 {σ : Mem} {i : Nat} : (sBeg σ i 1 i = 1 ∨ sBeg σ i 1 i = 3) ∧ ∀ j, j ≠ i → sBeg σ i 1 j = σ 1 j := by
  cases ho : sBst σ i with
  | none => rw [sBeg_none ho]; exact ⟨Or.inl sC_1i, fun j q => sC_1n q⟩
  | some k => rw [sBeg_some ho]; exact ⟨Or.inr sC_1i, fun j q => (sC_1n q).trans ((up2_o (by omega)).trans (up2_o (by omega)))⟩
/-! counts -/
theorem ct_drop {p q : Nat → Bool} {i : Nat} (hp : p i = true) (hq : q i = false) : ∀ {n : Nat}, i < n → (∀ j, j < n → j ≠ i → q j = p j) → ct q n + 1 = ct p n
  | 0, hi, _ => absurd hi (Nat.not_lt_zero i)
  | n + 1, hi, h => by
    by_cases z : i = n
    · subst z
      rw [ct_y hp, ct_n hq, ct_cong (fun k hk => h k (by omega) (by omega))]
    · have ih := ct_drop hp hq (n := n) (by omega) (fun j hj => h j (by omega))
      have e := h n (by omega) (Ne.symm z)
      simp only [ct]
      rw [e]
      omega
theorem ct_zero {p : Nat → Bool} : ∀ {n : Nat}, ct p n = 0 → ∀ j, j < n → p j = false
  | 0, _, j, hj => absurd hj (Nat.not_lt_zero j)
  | n + 1, h, j, hj => by
    cases hp : p n with
    | true => rw [ct_y hp] at h; omega
    | false =>
      rw [ct_n hp] at h
      by_cases z : j = n
      · rw [z]; exact hp
      · exact ct_zero h j (by omega)
theorem sQA_cong {σ σ' : Mem} {r pl : Int32} (h : ∀ j, j < 16 → sQ σ' j r = sQ σ j r) (h2 : ∀ j, j < 16 → sQ σ j r = true → σ' 2 j = σ 2 j ∧ σ' 9 j = σ 9 j) : sQA σ' r pl = sQA σ r pl := by
  unfold sQA
  refine fnd_cong (fun i hi => ?_)
  unfold sQAP
  rw [h i hi]
  cases q : sQ σ i r with
  | false => rw [Bool.false_and, Bool.false_and]
  | true =>
    have e := h2 i hi q
    have er : σ 2 i = r := by
      simp only [sQ, Bool.and_eq_true, decide_eq_true_eq] at q
      exact q.2
    unfold sAh
    have e9 : ct (sAhP σ' i) 16 = ct (sAhP σ i) 16 := by
      refine ct_cong (fun j hj => ?_)
      unfold sAhP
      rw [e.1, er, h j hj, e.2]
      cases q2 : sQ σ j r with
      | false => rw [Bool.false_and, Bool.false_and]
      | true => rw [(h2 j hj q2).2]
    rw [e9]
theorem sIn_cong {σ σ' : Mem} {r : Int32} (h : ∀ j, j < 16 → sInP σ' r j = sInP σ r j) : sIn σ' r = sIn σ r := by
  unfold sIn
  rw [ct_cong h]
/-- rack r with batch b: nothing waits, or there is no room -/
def FA (σ : Mem) (r b : Int32) : Prop := sQA σ r 0 = none ∨ b ≤ sIn σ r
theorem FA.beg {σ : Mem} {i : Nat} {r R b : Int32} (hi : σ 2 i = r) (hR : ¬ r = R) (h : FA σ R b) : FA (sBeg σ i) R b := by
  have g := beg_1 (σ := σ) (i := i)
  have g2 : ∀ j, sBeg σ i 2 j = σ 2 j ∧ sBeg σ i 9 j = σ 9 j := fun j => by
    cases ho : sBst σ i with
    | none => rw [sBeg_none ho]; exact ⟨sC_r (by decide) (by decide) (by decide) (by decide) j, sC_r (by decide) (by decide) (by decide) (by decide) j⟩
    | some k => rw [sBeg_some ho]; exact ⟨(sC_r (by decide) (by decide) (by decide) (by decide) j).trans ((up2_o (by omega)).trans (up2_o (by omega))), (sC_r (by decide) (by decide) (by decide) (by decide) j).trans ((up2_o (by omega)).trans (up2_o (by omega)))⟩
  have n2 : ¬ σ 2 i = R := by rw [hi]; exact hR
  have e1 : sQA (sBeg σ i) R 0 = sQA σ R 0 := by
    refine sQA_cong (fun j _ => ?_) (fun j _ _ => g2 j)
    unfold sQ
    rw [(g2 j).1]
    by_cases q : j = i
    · subst q; rw [decide_eq_false n2, Bool.and_false, Bool.and_false]
    · rw [g.2 j q]
  have e2 : sIn (sBeg σ i) R = sIn σ R := by
    refine sIn_cong (fun j _ => ?_)
    unfold sInP
    rw [(g2 j).1]
    by_cases q : j = i
    · subst q; rw [decide_eq_false n2, Bool.and_false, Bool.and_false]
    · rw [g.2 j q]
  unfold FA at h ⊢
  rw [e1, e2]
  exact h
theorem sQA_q {σ : Mem} {r pl : Int32} {i : Nat} (h : sQA σ r pl = some i) : i < 16 ∧ σ 1 i = 2 ∧ σ 2 i = r := by
  have h9 := fnd_some (n := 16) h
  have h1 := h9.2
  simp only [sQAP, sQ, Bool.and_eq_true, decide_eq_true_eq] at h1
  exact ⟨h9.1, h1.1.1, h1.1.2⟩
theorem sQA_empty {σ : Mem} {r pl : Int32} (h : ct (fun j => sQ σ j r) 16 = 0) : sQA σ r pl = none := by
  unfold sQA
  refine fnd_no (fun j hj => ?_)
  unfold sQAP
  rw [show sQ σ j r = false from ct_zero h j hj, Bool.false_and]
/-- one rack -/
theorem fill_all {P : Nat → Nat → Prop} {h : Nat} {r b : Int32} : ∀ {n N : Nat} {σ : Mem}, Inv P h N σ → N + n < 2000000000 →
    Inv P h (N + n) (sFill r b n σ) ∧ BG σ (sFill r b n σ) ∧ (sFill r b n σ = σ ∨ Ad σ < Ad (sFill r b n σ)) ∧ (ct (fun j => sQ σ j r) 16 ≤ n → FA (sFill r b n σ) r b) ∧ ∀ R c, ¬ r = R → FA σ R c → FA (sFill r b n σ) R c
  | 0, N, σ, H, hN => ⟨H, BG.rf, Or.inl rfl, fun q => Or.inl (sQA_empty (by rw [sFill_0]; omega)), fun _ _ _ z => z⟩
  | n + 1, N, σ, H, hN => by
    have st : sFill r b (n + 1) σ = σ → FA σ r b → Inv P h (N + (n + 1)) (sFill r b (n + 1) σ) ∧ BG σ (sFill r b (n + 1) σ) ∧ (sFill r b (n + 1) σ = σ ∨ Ad σ < Ad (sFill r b (n + 1) σ)) ∧ (ct (fun j => sQ σ j r) 16 ≤ n + 1 → FA (sFill r b (n + 1) σ) r b) ∧ ∀ R c, ¬ r = R → FA σ R c → FA (sFill r b (n + 1) σ) R c := by
      intro e f
      rw [e]
      exact ⟨H.mono (fun _ _ _ z => z) (by omega), BG.rf, Or.inl rfl, fun _ => f, fun _ _ _ z => z⟩
    cases ho : sQA σ r 0 with
    | none => exact st (sFill_none n ho) (Or.inl ho)
    | some i =>
      by_cases hb : b ≤ sIn σ r
      · exact st (sFill_full n hb) (Or.inr hb)
      · rw [sFill_go n ho hb]
        obtain ⟨hi, q1, q2⟩ := sQA_q ho
        obtain ⟨H1, H2⟩ := H.beg hi (by omega) q1
        obtain ⟨k1, k2, k3, k4, k5⟩ := fill_all (r := r) (b := b) (n := n) H1 (by omega)
        have g := beg_1 (σ := σ) (i := i)
        refine ⟨by rw [show N + (n + 1) = N + 1 + n by omega]; exact k1, (BG.beg q1).tr k2, Or.inr ?_, fun q => k4 ?_, fun R c hR z => k5 R c hR (z.beg q2 hR)⟩
        · rcases k3 with z | z
          · rw [z, H2]; omega
          · omega
        · have e := ct_drop (p := fun j => sQ σ j r) (q := fun j => sQ (sBeg σ i) j r) (i := i) (by simp [sQ, q1, q2]) (by unfold sQ; rcases g.1 with z | z <;> rw [z] <;> rfl) (n := 16) hi (fun j _ hj => by unfold sQ; rw [g.2 j hj, (BG.beg q1).1 2 j (by omega)])
          omega
def Full (σ : Mem) : Prop := ∀ r, r < 4 → FA σ (nI r) (σ 21 r)
theorem bi_all {P : Nat → Nat → Prop} {h N : Nat} {σ : Mem} (H : Inv P h N σ) (hN : N + 64 < 2000000000) : ∀ k, k ≤ 4 → Inv P h (N + 16 * k) (sBI σ k) ∧ BG σ (sBI σ k) ∧ (sBI σ k = σ ∨ Ad σ < Ad (sBI σ k)) ∧ ∀ r, r < k → FA (sBI σ k) (nI r) (σ 21 r)
  | 0, _ => ⟨H, BG.rf, Or.inl rfl, fun r hr => absurd hr (Nat.not_lt_zero r)⟩
  | k + 1, hk => by
    obtain ⟨i1, i2, i3, i4⟩ := bi_all H hN k (by omega)
    obtain ⟨k1, k2, k3, k4, k5⟩ := fill_all (r := nI k) (b := sBI σ k 21 k) (n := 16) i1 (by omega)
    show Inv P h (N + 16 * (k + 1)) (sFill (nI k) (sBI σ k 21 k) 16 (sBI σ k)) ∧ BG σ (sFill (nI k) (sBI σ k 21 k) 16 (sBI σ k)) ∧ (sFill (nI k) (sBI σ k 21 k) 16 (sBI σ k) = σ ∨ Ad σ < Ad (sFill (nI k) (sBI σ k 21 k) 16 (sBI σ k))) ∧ ∀ r, r < k + 1 → FA (sFill (nI k) (sBI σ k 21 k) 16 (sBI σ k)) (nI r) (σ 21 r)
    refine ⟨by rw [show N + 16 * (k + 1) = N + 16 * k + 16 by omega]; exact k1, i2.tr k2, ?_, fun r hr => ?_⟩
    · rcases k3 with z | z
      · rw [z]; exact i3
      · rcases i3 with y | y
        · right; rw [y] at z ⊢; exact z
        · right; omega
    · by_cases q : r = k
      · subst q
        have := k4 (ct_le _ 16)
        rw [i2.1 21 r (by omega)] at this ⊢
        exact this
      · exact k5 _ _ (fun z => q ((nI_eq (by omega) (by omega)).mp z).symm) (i4 r (by omega))
theorem begins_all {P : Nat → Nat → Prop} {h N : Nat} {σ : Mem} (H : Inv P h N σ) (hN : N + 64 < 2000000000) : Inv P h (N + 64) (sBegins σ) ∧ BG σ (sBegins σ) ∧ (sBegins σ = σ ∨ Ad σ < Ad (sBegins σ)) ∧ Full (sBegins σ) := by
  obtain ⟨i1, i2, i3, i4⟩ := bi_all H hN 4 (by omega)
  have i2 : BG σ (sBegins σ) := i2
  refine ⟨i1, i2, i3, fun r hr => ?_⟩
  rw [i2.1 21 r (by omega)]
  exact i4 r hr
theorem begins_full {σ : Mem} (h : Full σ) : sBegins σ = σ := by
  have key : ∀ k, k ≤ 4 → sBI σ k = σ := by
    intro k
    induction k with
    | zero => intro _; rfl
    | succ k ih =>
      intro hk
      show sFill (nI k) (sBI σ k 21 k) 16 (sBI σ k) = σ
      rw [ih (by omega)]
      rcases h k (by omega) with q | q
      · exact sFill_none 15 q
      · exact sFill_full 15 q
  exact key 4 (by omega)
theorem Full.cong {σ σ' : Mem} (h : Full σ) (e : ∀ r j, r = 1 ∨ r = 2 ∨ r = 9 ∨ r = 21 → σ' r j = σ r j) : Full σ' := by
  intro r hr
  have e1 : sQA σ' (nI r) 0 = sQA σ (nI r) 0 := sQA_cong (fun j _ => by unfold sQ; rw [e 1 j (by omega), e 2 j (by omega)]) (fun j _ _ => ⟨e 2 j (by omega), e 9 j (by omega)⟩)
  have e2 : sIn σ' (nI r) = sIn σ (nI r) := sIn_cong (fun j _ => by unfold sInP; rw [e 1 j (by omega), e 2 j (by omega)])
  unfold FA
  rw [e1, e2, e 21 r (by omega)]
  exact h r hr
