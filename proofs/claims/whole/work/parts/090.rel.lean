/-! THE CLASS AND THE REFERENCE: one state, kept in two ways -/
def RS (σ τ : Mem) : Prop := σ 20 4 = τ 0 1 ∧ σ 20 5 = τ 0 2 ∧ σ 20 6 = τ 0 0 ∧ σ 20 7 = τ 0 4
def RM (σ τ : Mem) : Prop := ∀ i, i < 16 → σ 1 i = τ 5 i ∧ σ 2 i = τ 6 i ∧ σ 3 i = τ 7 i ∧ σ 4 i = τ 8 i ∧ σ 5 i = τ 9 i ∧ σ 6 i = τ 13 i
def RI (x : Nat) (σ τ : Mem) : Prop := ∀ i, i < 16 → i ≠ x → τ 5 i = 3 ∨ τ 5 i = 5 ∨ τ 5 i = 6 → σ 7 i = τ 11 i
def RE (x : Nat) (σ τ : Mem) : Prop := ∀ i, i < 16 → i ≠ x → τ 5 i = 3 ∨ τ 5 i = 4 ∨ τ 5 i = 6 → σ 8 i = τ 12 i
def RG (σ τ : Mem) : Prop := ∀ k, k < 8 → σ 11 k = τ 14 k ∧ σ 12 k = τ 15 k ∧ σ 13 k = τ 16 k ∧ σ 14 k = τ 17 k ∧ σ 15 k = τ 18 k ∧ σ 16 k = τ 19 k ∧ (¬ τ 14 k = 0 → σ 17 k = τ 20 k)
def RB (σ τ : Mem) : Prop := ∀ k, k < 4 → σ 21 k = τ 21 k
def JR (σ τ : Mem) (w : Nat) : Prop := σ 20 9 = nI w ∧ τ 0 22 = nI w ∧ ∀ e, e < 40 → e < w → σ 22 e = τ 23 ((w - 1 - e) % 40) ∧ σ 23 e = τ 24 ((w - 1 - e) % 40)
def TK (x : Nat) (σ τ : Mem) (T : Nat) : Prop := σ 20 8 = nI T ∧ τ 0 3 = nI T ∧ (∀ i, i < 16 → i ≠ x → τ 5 i = 2 → ∃ t, t < T ∧ τ 10 i = nI t ∧ σ 9 i = nI (t + 1)) ∧ ∀ i j, i < 16 → j < 16 → i ≠ x → j ≠ x → τ 5 i = 2 → τ 5 j = 2 → τ 10 i = τ 10 j → i = j
/-- the two agree; of the machine x (16: of none) image, end and ticket are set aside -/
def RelX (x b : Nat) (σ τ : Mem) : Prop := RS σ τ ∧ RM σ τ ∧ RI x σ τ ∧ RE x σ τ ∧ RG σ τ ∧ RB σ τ ∧ (∃ w, w + b < 2147483648 ∧ JR σ τ w) ∧ ∃ T, T + b < 2147483648 ∧ TK x σ τ T
abbrev Rel (b : Nat) (σ τ : Mem) : Prop := RelX 16 b σ τ
theorem RelX.le {x b c : Nat} {σ τ : Mem} (h : RelX x b σ τ) (hc : c ≤ b) : RelX x c σ τ := by
  obtain ⟨h1, h2, h3, h4, h5, h6, ⟨w, h7, h8⟩, T, h9, h10⟩ := h
  exact ⟨h1, h2, h3, h4, h5, h6, ⟨w, by omega, h8⟩, T, by omega, h10⟩
theorem RelX.st {x b : Nat} {σ τ : Mem} (h : RelX x b σ τ) {i : Nat} (hi : i < 16) : σ 1 i = τ 5 i := (h.2.1 i hi).1
theorem RelX.wb {x b : Nat} {σ τ : Mem} (h : RelX x b σ τ) : WB τ b := by
  obtain ⟨-, -, -, -, -, -, ⟨w, h7, h8⟩, -⟩ := h
  exact ⟨w, h8.2.1, h7⟩
theorem RelX.opn {b : Nat} {σ τ : Mem} (h : Rel b σ τ) (i : Nat) : RelX i b σ τ := by
  obtain ⟨h1, h2, h3, h4, h5, h6, h7, T, h9, h10, h11, h12, h13⟩ := h
  exact ⟨h1, h2, fun j hj _ => h3 j hj (by omega), fun j hj _ => h4 j hj (by omega), h5, h6, h7, T, h9, h10, h11, fun j hj _ => h12 j hj (by omega), fun j k hj hk _ _ => h13 j k hj hk (by omega) (by omega)⟩
theorem RelX.close {b i : Nat} {σ τ : Mem} (h : RelX i b σ τ) (c1 : τ 5 i = 3 ∨ τ 5 i = 5 ∨ τ 5 i = 6 → σ 7 i = τ 11 i) (c2 : τ 5 i = 3 ∨ τ 5 i = 4 ∨ τ 5 i = 6 → σ 8 i = τ 12 i) (c3 : ¬ τ 5 i = 2) : Rel b σ τ := by
  obtain ⟨h1, h2, h3, h4, h5, h6, h7, T, h9, h10, h11, h12, h13⟩ := h
  have ne : ∀ j, τ 5 j = 2 → j ≠ i := fun j q r => c3 (by rw [← r]; exact q)
  refine ⟨h1, h2, fun j hj _ => ?_, fun j hj _ => ?_, h5, h6, h7, T, h9, h10, h11, fun j hj _ q => h12 j hj (ne j q) q, fun j k hj hk _ _ q r => h13 j k hj hk (ne j q) (ne k r) q r⟩
  · by_cases q : j = i
    · subst q; exact c1
    · exact h3 j hj q
  · by_cases q : j = i
    · subst q; exact c2
    · exact h4 j hj q
theorem sC_r {σ : Mem} {i : Nat} {st : Int32} {a : Nat} (h1 : a ≠ 1) (h20 : a ≠ 20) (h22 : a ≠ 22) (h23 : a ≠ 23) (b : Nat) : sChg σ i st a b = σ a b := by simp [sChg, sAdd, sh, up2, h1, h20, h22, h23]
theorem sC_1 {σ : Mem} {i : Nat} {st : Int32} (j : Nat) : sChg σ i st 1 j = if j = i then st else σ 1 j := by simp [sChg, sAdd, sh, up2]
theorem sC_20 {σ : Mem} {i : Nat} {st : Int32} {b : Nat} (h : b ≠ 9) : sChg σ i st 20 b = σ 20 b := by simp [sChg, sAdd, sh, up2, h]
theorem sC_209 {σ : Mem} {i : Nat} {st : Int32} : sChg σ i st 20 9 = σ 20 9 + 1 := by simp [sChg, sAdd, sh, up2]
theorem tT_r {τ : Mem} {i : Nat} {st : Int32} {a : Nat} (h0 : a ≠ 0) (h5 : a ≠ 5) (h23 : a ≠ 23) (h24 : a ≠ 24) (b : Nat) : tTurn τ i st a b = τ a b := by simp [tTurn, up2, h0, h5, h23, h24]
theorem tT_5 {τ : Mem} {i : Nat} {st : Int32} (j : Nat) : tTurn τ i st 5 j = if j = i then st else τ 5 j := by simp [tTurn, up2]
theorem tT_0 {τ : Mem} {i : Nat} {st : Int32} {b : Nat} (h : b ≠ 22) : tTurn τ i st 0 b = τ 0 b := by simp [tTurn, up2, h]
theorem JR.turn {σ τ : Mem} {w i : Nat} {st : Int32} (h : JR σ τ w) (hw : w < 2147483648) (hs : σ 1 i = τ 5 i) : JR (sChg σ i st) (tTurn τ i st) (w + 1) := by
  obtain ⟨h1, h2, h3⟩ := h
  have hx : ix (τ 0 22) = w := by rw [h2]; exact ix_nI hw
  refine ⟨by rw [sC_209, h1, nI_1], by simp [tTurn, up2, h2, nI_1], fun e he hew => ?_⟩
  have t23 : ∀ j, tTurn τ i st 23 j = if j = w % 40 then nI i else τ 23 j := fun j => by simp [tTurn, up2, hx]
  have t24 : ∀ j, tTurn τ i st 24 j = if j = w % 40 then τ 5 i else τ 24 j := fun j => by simp [tTurn, up2, hx]
  rw [t23, t24]
  by_cases h0 : e = 0
  · subst h0
    rw [if_pos (by omega), if_pos (by omega), ← hs]
    simp [sChg, sAdd, sh, up2]
  · have h9 := h3 (e - 1) (by omega) (by omega)
    rw [if_neg (by omega), if_neg (by omega)]
    rw [show w + 1 - 1 - e = w - 1 - (e - 1) by omega]
    rw [← h9.1, ← h9.2]
    constructor <;> simp [sChg, sAdd, sh, up2, h0] <;> (intro q; exact absurd (q (by omega)) (by omega))
/-- a change of state, both write it down -/
theorem RelX.turn {b i : Nat} {σ τ : Mem} (h : RelX i (b + 1) σ τ) (hi : i < 16) (st : Int32) : RelX i b (sChg σ i st) (tTurn τ i st) := by
  have hsi := h.st hi
  obtain ⟨h1, h2, h3, h4, h5, h6, ⟨w, h7, h8⟩, T, h9, h10, h11, h12, h13⟩ := h
  have t5 : ∀ j, j ≠ i → tTurn τ i st 5 j = τ 5 j := fun j hj => by rw [tT_5, if_neg hj]
  refine ⟨?_, fun j hj => ?_, fun j hj hne => ?_, fun j hj hne => ?_, fun k hk => ?_, fun k hk => ?_, ⟨w + 1, by omega, h8.turn (by omega) hsi⟩, T, by omega, ?_, ?_, fun j hj hne => ?_, fun j k hj hk hne hne2 => ?_⟩
  · simp only [RS, sC_20 (show 4 ≠ 9 by decide), sC_20 (show 5 ≠ 9 by decide), sC_20 (show 6 ≠ 9 by decide), sC_20 (show 7 ≠ 9 by decide), tT_0 (show 1 ≠ 22 by decide), tT_0 (show 2 ≠ 22 by decide), tT_0 (show 0 ≠ 22 by decide), tT_0 (show 4 ≠ 22 by decide)]
    exact h1
  · have := h2 j hj
    refine ⟨?_, by simpa [sC_r, tT_r] using this.2⟩
    rw [sC_1, tT_5, this.1]
  · rw [t5 j hne, sC_r (by decide) (by decide) (by decide) (by decide), tT_r (by decide) (by decide) (by decide) (by decide)]
    exact h3 j hj hne
  · rw [t5 j hne, sC_r (by decide) (by decide) (by decide) (by decide), tT_r (by decide) (by decide) (by decide) (by decide)]
    exact h4 j hj hne
  · simpa [sC_r, tT_r] using h5 k hk
  · simpa [sC_r, tT_r] using h6 k hk
  · rw [sC_20 (by decide)]; exact h10
  · rw [tT_0 (by decide)]; exact h11
  · rw [t5 j hne, tT_r (by decide) (by decide) (by decide) (by decide), sC_r (by decide) (by decide) (by decide) (by decide)]
    exact h12 j hj hne
  · rw [t5 j hne, t5 k hne2, tT_r (by decide) (by decide) (by decide) (by decide), tT_r (by decide) (by decide) (by decide) (by decide)]
    exact h13 j k hj hk hne hne2
/-- writes to what is set aside, or to the same field on both sides -/
theorem RelX.cong {x b : Nat} {σ τ σ' τ' : Mem} (h : RelX x b σ τ) (e1 : RS σ' τ') (e2 : ∀ i, i < 16 → τ' 5 i = τ 5 i) (e2b : RM σ' τ') (e3 : ∀ i, i < 16 → i ≠ x → σ' 7 i = σ 7 i ∧ σ' 8 i = σ 8 i ∧ σ' 9 i = σ 9 i ∧ τ' 10 i = τ 10 i ∧ τ' 11 i = τ 11 i ∧ τ' 12 i = τ 12 i) (e5 : RG σ' τ') (e6 : RB σ' τ') (e7 : ∀ e, σ' 22 e = σ 22 e ∧ σ' 23 e = σ 23 e ∧ τ' 23 e = τ 23 e ∧ τ' 24 e = τ 24 e) (e8 : σ' 20 8 = σ 20 8 ∧ σ' 20 9 = σ 20 9 ∧ τ' 0 3 = τ 0 3 ∧ τ' 0 22 = τ 0 22) : RelX x b σ' τ' := by
  obtain ⟨h1, h2, h3, h4, h5, h6, ⟨w, h7, h8a, h8b, h8c⟩, T, h9, h10, h11, h12, h13⟩ := h
  refine ⟨e1, e2b, fun j hj hne => ?_, fun j hj hne => ?_, e5, e6, ⟨w, h7, by rw [e8.2.1]; exact h8a, by rw [e8.2.2.2]; exact h8b, fun e he hew => ?_⟩, T, h9, by rw [e8.1]; exact h10, by rw [e8.2.2.1]; exact h11, fun j hj hne => ?_, fun j k hj hk hne hne2 => ?_⟩
  · rw [e2 j hj, (e3 j hj hne).1, (e3 j hj hne).2.2.2.2.1]; exact h3 j hj hne
  · rw [e2 j hj, (e3 j hj hne).2.1, (e3 j hj hne).2.2.2.2.2]; exact h4 j hj hne
  · rw [(e7 e).1, (e7 e).2.1, (e7 _).2.2.1, (e7 _).2.2.2]; exact h8c e he hew
  · rw [e2 j hj, (e3 j hj hne).2.2.1, (e3 j hj hne).2.2.2.1]; exact h12 j hj hne
  · rw [e2 j hj, e2 k hk, (e3 j hj hne).2.2.2.1, (e3 k hk hne2).2.2.2.1]; exact h13 j k hj hk hne hne2
theorem RelX.go {x b : Nat} {σ τ : Mem} (h : RelX x b σ τ) (v : Int32) : RelX x b σ (up2 τ 0 25 v) := by
  refine h.cong ?_ (fun i _ => by simp [up2]) ?_ (fun i _ _ => by simp [up2]) ?_ ?_ (fun e => by simp [up2]) (by simp [up2])
  · simpa [RS, up2] using h.1
  · intro i hi; simpa [up2] using h.2.1 i hi
  · intro k hk; simpa [up2] using h.2.2.2.2.1 k hk
  · intro k hk; simpa [up2] using h.2.2.2.2.2.1 k hk
/-- image and end of the machine set aside -/
theorem RelX.ends {i b : Nat} {σ τ : Mem} (h : RelX i b σ τ) (v v2 : Int32) : RelX i b (up2 σ 8 i v) (up2 τ 12 i v2) := by
  refine h.cong ?_ (fun i _ => by simp [up2]) ?_ (fun j _ hj => by simp [up2, hj]) ?_ ?_ (fun e => by simp [up2]) (by simp [up2])
  · simpa [RS, up2] using h.1
  · intro i hi; simpa [up2] using h.2.1 i hi
  · intro k hk; simpa [up2] using h.2.2.2.2.1 k hk
  · intro k hk; simpa [up2] using h.2.2.2.2.2.1 k hk
theorem RelX.imgs {i b : Nat} {σ τ : Mem} (h : RelX i b σ τ) (v v2 : Int32) : RelX i b (up2 σ 7 i v) (up2 τ 11 i v2) := by
  refine h.cong ?_ (fun i _ => by simp [up2]) ?_ (fun j _ hj => by simp [up2, hj]) ?_ ?_ (fun e => by simp [up2]) (by simp [up2])
  · simpa [RS, up2] using h.1
  · intro i hi; simpa [up2] using h.2.1 i hi
  · intro k hk; simpa [up2] using h.2.2.2.2.1 k hk
  · intro k hk; simpa [up2] using h.2.2.2.2.2.1 k hk
theorem RelX.imgT {i b : Nat} {σ τ : Mem} (h : RelX i b σ τ) (v2 : Int32) : RelX i b σ (up2 τ 11 i v2) := by
  refine h.cong ?_ (fun i _ => by simp [up2]) ?_ (fun j _ hj => by simp [up2, hj]) ?_ ?_ (fun e => by simp [up2]) (by simp [up2])
  · simpa [RS, up2] using h.1
  · intro i hi; simpa [up2] using h.2.1 i hi
  · intro k hk; simpa [up2] using h.2.2.2.2.1 k hk
  · intro k hk; simpa [up2] using h.2.2.2.2.2.1 k hk
theorem RelX.endT {i b : Nat} {σ τ : Mem} (h : RelX i b σ τ) (v2 : Int32) : RelX i b σ (up2 τ 12 i v2) := by
  refine h.cong ?_ (fun i _ => by simp [up2]) ?_ (fun j _ hj => by simp [up2, hj]) ?_ ?_ (fun e => by simp [up2]) (by simp [up2])
  · simpa [RS, up2] using h.1
  · intro i hi; simpa [up2] using h.2.1 i hi
  · intro k hk; simpa [up2] using h.2.2.2.2.1 k hk
  · intro k hk; simpa [up2] using h.2.2.2.2.2.1 k hk
theorem RelX.fails {x i b : Nat} {σ τ : Mem} (h : RelX x b σ τ) (v : Int32) : RelX x b (up2 σ 6 i v) (up2 τ 13 i v) := by
  refine h.cong ?_ (fun i _ => by simp [up2]) ?_ (fun j _ hj => by simp [up2]) ?_ ?_ (fun e => by simp [up2]) (by simp [up2])
  · simpa [RS, up2] using h.1
  · intro j hj
    have := h.2.1 j hj
    by_cases q : j = i
    · simpa [up2, q] using ⟨q ▸ this.1, q ▸ this.2.1, q ▸ this.2.2.1, q ▸ this.2.2.2.1, q ▸ this.2.2.2.2.1⟩
    · simpa [up2, q] using this
  · intro k hk; simpa [up2] using h.2.2.2.2.1 k hk
  · intro k hk; simpa [up2] using h.2.2.2.2.2.1 k hk
theorem RelX.wipes {x b : Nat} {σ τ : Mem} (h : RelX x b σ τ) (v : Int32) : RelX x b (up2 σ 20 7 v) (up2 τ 0 4 v) := by
  refine h.cong ?_ (fun i _ => by simp [up2]) ?_ (fun j _ hj => by simp [up2]) ?_ ?_ (fun e => by simp [up2]) (by simp [up2])
  · have := h.1; simp [RS, up2] at this ⊢; simp [this]
  · intro i hi; simpa [up2] using h.2.1 i hi
  · intro k hk; simpa [up2] using h.2.2.2.2.1 k hk
  · intro k hk; simpa [up2] using h.2.2.2.2.2.1 k hk
theorem RelX.hours {x b : Nat} {σ τ : Mem} (h : RelX x b σ τ) (v : Int32) : RelX x b (up2 σ 20 6 v) (up2 τ 0 0 v) := by
  refine h.cong ?_ (fun i _ => by simp [up2]) ?_ (fun j _ hj => by simp [up2]) ?_ ?_ (fun e => by simp [up2]) (by simp [up2])
  · have := h.1; simp [RS, up2] at this ⊢; simp [this]
  · intro i hi; simpa [up2] using h.2.1 i hi
  · intro k hk; simpa [up2] using h.2.2.2.2.1 k hk
  · intro k hk; simpa [up2] using h.2.2.2.2.2.1 k hk
/-- a ticket is drawn -/
theorem RelX.stand {b i : Nat} {σ τ : Mem} (h : RelX i (b + 1) σ τ) (h2 : τ 5 i = 2) : Rel b (up2 (sDraw σ) 9 i (σ 20 8 + 1)) (tStand τ i) := by
  obtain ⟨h1, hm, h3, h4, h5, h6, ⟨w, h7, h8a, h8b, h8c⟩, T, h9, h10, h11, h12, h13⟩ := h
  refine ⟨by simpa [RS, sDraw, tStand, up2] using h1, fun j hj => by simpa [sDraw, tStand, up2] using hm j hj, fun j hj _ => ?_, fun j hj _ => ?_, fun k hk => by simpa [sDraw, tStand, up2] using h5 k hk, fun k hk => by simpa [sDraw, tStand, up2] using h6 k hk, ⟨w, by omega, by simpa [sDraw, up2] using h8a, by simpa [tStand, up2] using h8b, fun e he hew => by simpa [sDraw, tStand, up2] using h8c e he hew⟩, T + 1, by omega, by simp [sDraw, up2, h10, nI_1], by simp [tStand, up2, h11, nI_1], fun j hj _ => ?_, fun j k hj hk _ _ => ?_⟩
  · by_cases q : j = i
    · subst q; simp [tStand, up2, h2]
    · simpa [sDraw, tStand, up2] using h3 j hj q
  · by_cases q : j = i
    · subst q; simp [tStand, up2, h2]
    · simpa [sDraw, tStand, up2] using h4 j hj q
  · by_cases q : j = i
    · subst q
      intro _
      exact ⟨T, by omega, by simp [tStand, up2, h11], by simp [sDraw, up2, h10, nI_1]⟩
    · intro hq
      obtain ⟨t, a1, a2, a3⟩ := h12 j hj q (by simpa [tStand, up2] using hq)
      exact ⟨t, by omega, by simpa [tStand, up2, q] using a2, by simpa [sDraw, up2, q] using a3⟩
  · intro q1 q2 q3
    have q1' : τ 5 j = 2 := by simpa [tStand, up2] using q1
    have q2' : τ 5 k = 2 := by simpa [tStand, up2] using q2
    have far : ∀ m, m < 16 → m ≠ i → τ 5 m = 2 → ¬ τ 10 m = nI T := by
      intro m hm9 hne hq q
      obtain ⟨t, a1, a2, -⟩ := h12 m hm9 hne hq
      rw [a2] at q
      have := (nI_eq (a := t) (b := T) (by omega) (by omega)).mp q
      omega
    by_cases e1 : j = i
    · by_cases e2 : k = i
      · rw [e1, e2]
      · simp [tStand, up2, e1, e2, h11] at q3
        exact absurd q3.symm (far k hk e2 q2')
    · by_cases e2 : k = i
      · simp [tStand, up2, e1, e2, h11] at q3
        exact absurd q3 (far j hj e1 q1')
      · exact h13 j k hj hk e1 e2 q1' q2' (by simpa [tStand, up2, e1, e2] using q3)
