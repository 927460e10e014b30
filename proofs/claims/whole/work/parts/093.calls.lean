/-! each public call: the two throw the same, answer the same, stay in agreement -/
def LI (n : Nat) (σ τ : Mem) : Prop := Rel (30000 * n) σ τ ∧ ∃ h, h + 200 * n ≤ 200000 ∧ TT Sa h τ
theorem tGo_25 {τ : Mem} {a b c : Bool} : tGo τ a b c 0 25 = gC a b c := by simp [tGo, up2]
theorem TT.go {S : Nat → Int32 → Prop} {h : Nat} {τ : Mem} (ht : TT S h τ) (v : Int32) : TT S h (up2 τ 0 25 v) := by
  refine ⟨ht.1.same (by simp [up2]) (fun j _ => by simp [up2]), ⟨?_, fun k hk => ?_⟩, ht.2.2.cong (fun j _ => by simp [up2]) (by simp [up2]) (fun j _ hj => by simpa [up2] using hj)⟩
  · simpa [up2] using ht.2.1.1
  · simpa [up2] using ht.2.1.2 k hk
theorem LI.le {n : Nat} {σ τ : Mem} (h : LI (n + 1) σ τ) : LI n σ τ := by
  obtain ⟨h1, t, h2, h3⟩ := h
  exact ⟨h1.le (by omega), t, by omega, h3⟩
theorem LI.go {n : Nat} {σ τ : Mem} (h : LI n σ τ) (a b c : Bool) : LI n σ (tGo τ a b c) := by
  obtain ⟨h1, t, h2, h3⟩ := h
  exact ⟨h1.go _, t, h2, h3.go _⟩
theorem LI.told {n : Nat} {σ τ : Mem} (h : LI n σ τ) : LI n σ (tTold τ) := by
  obtain ⟨h1, t, h2, h3⟩ := h
  exact ⟨h1.go _, t, h2, h3.go _⟩
theorem LI.wb {n : Nat} {σ τ : Mem} (h : LI (n + 1) σ τ) : WB τ 30000 := h.1.wb.le (by omega)
theorem LI.fi {n : Nat} {σ τ : Mem} (h : LI n σ τ) : FI τ := by
  obtain ⟨-, t, -, h3⟩ := h
  exact h3.2.2
theorem gC_0 {a b c : Bool} : gC a b c = 0 ↔ a = true ∧ b = true ∧ c = true := by
  cases a <;> cases b <;> cases c <;> simp [gC]
theorem cal_w {n : Nat} {σ τ g h' : Mem} {a b c : Bool} {k : Int32} (hL : LI (n + 1) σ τ) (hk : k = gC a b c)
    (hf : ¬ (a = true ∧ b = true ∧ c = true) → h' = tGo τ a b c)
    (hs : ∀ h : Nat, h ≤ 200000 → TT Sa h (tGo τ a b c) → Rel (30000 * n + 30000) σ (tGo τ a b c) → a = true → b = true → c = true → ∃ σ1 τ1 : Mem, g = sBegins σ1 ∧ h' = tBegins τ1 ∧ Rel (30000 * n + 64) σ1 τ1 ∧ TT Sa h τ1 ∧ τ1 0 25 = tGo τ a b c 0 25) : h' 0 25 = k ∧ LI n (if k = 0 then g else σ) h' := by
  by_cases q : a = true ∧ b = true ∧ c = true
  · obtain ⟨h1, h, h2, h3⟩ := hL.go a b c
    have h9 : h ≤ 200000 := by omega
    have h1b : Rel (30000 * n + 30000) σ (tGo τ a b c) := h1.le (by omega)
    obtain ⟨σ1, τ1, e1, e2, h4, h5, h6⟩ := hs h h9 h3 h1b q.1 q.2.1 q.2.2
    rw [e1, e2]
    have h0 : k = 0 := by rw [hk]; exact gC_0.mpr q
    rw [if_pos h0]
    exact ⟨(KP.begins (τ := τ1)).2.1.trans (h6.trans (by rw [tGo_25, hk])), Rel.begins h4, h, by omega, h5.begins⟩
  · rw [hf q, tGo_25, hk, if_neg (fun z => q (gC_0.mp z))]
    exact ⟨rfl, (hL.go a b c).le⟩
theorem of_lo {v : Int32} (lo n : Nat) (hn : n < 2147483648) (hl : lo ≤ n) (h : inB v (nI lo) (nI n) = true) : ∃ c, lo ≤ c ∧ c ≤ n ∧ v = nI c := by
  obtain ⟨c, h1, rfl⟩ := inB_le n hn (nI_pos' (n := lo) (by omega)) (Int32.le_refl _) h
  simp only [inB, Bool.and_eq_true, decide_eq_true_eq] at h
  exact ⟨c, (nI_leI (by omega) (by omega)).mp h.1, h1, rfl⟩
theorem RelX.setIm {x b i : Nat} {σ τ : Mem} (h : RelX x b σ τ) (hi : i < 8) (zb zc zd ze zf : Int32) : RelX x b (sSetIm σ i zb zc zd ze zf) (tSetIm τ i zb zc zd ze zf) := by
  have g := h.2.2.2.2.1
  have e := (g i hi).1
  unfold sSetIm tSetIm
  rw [e]
  refine h.cong ?_ (fun i _ => by simp [up2]) ?_ (fun i _ _ => by split <;> simp [up2]) ?_ ?_ (fun e => by split <;> simp [up2]) (by split <;> simp [up2])
  · split <;> simpa [RS, up2] using h.1
  · intro i hi; split <;> simpa [up2] using h.2.1 i hi
  · intro k hk
    have gk := g k hk
    by_cases q : k = i
    · subst q
      by_cases h0 : τ 14 k = 0
      · simp [up2, h0]
      · simpa [up2, h0] using gk.2.2.2.2.2.2 h0
    · split <;> simpa [up2, q] using gk
  · intro k hk; split <;> simpa [up2] using h.2.2.2.2.2.1 k hk
theorem TT.setIm {S : Nat → Int32 → Prop} {h i : Nat} {τ : Mem} (ht : TT S h τ) (zb zc zd ze zf : Int32) : TT S h (tSetIm τ i zb zc zd ze zf) := by
  refine ⟨ht.1.same (by simp [tSetIm, up2]) (fun j _ => by simp [tSetIm, up2]), ⟨by simpa [tSetIm, up2] using ht.2.1.1, fun k hk => ?_⟩, ht.2.2.cong (fun j _ => by simp [tSetIm, up2]) (by simp [tSetIm, up2]) (fun j _ hj => by simpa [tSetIm, up2] using hj)⟩
  have := ht.2.1.2 k hk
  by_cases q : k = i
  · subst q
    intro _
    by_cases h0 : τ 14 k = 0
    · exact ⟨2, by omega, by omega, by simp [tSetIm, up2, h0]; rfl⟩
    · simpa [tSetIm, up2, h0] using this h0
  · simpa [tSetIm, up2, q] using this
theorem RelX.setT {x b i : Nat} {σ τ : Mem} (h : RelX x b σ τ) (v : Int32) : RelX x b (up2 σ 17 i v) (up2 τ 20 i v) := by
  refine h.cong (by simpa [RS, up2] using h.1) (fun i _ => by simp [up2]) (fun i hi => by simpa [up2] using h.2.1 i hi) (fun i _ _ => by simp [up2]) (fun k hk => ?_) (fun k hk => by simpa [up2] using h.2.2.2.2.2.1 k hk) (fun e => by simp [up2]) (by simp [up2])
  have gk := h.2.2.2.2.1 k hk
  by_cases q : k = i
  · subst q; simpa [up2] using ⟨gk.1, gk.2.1, gk.2.2.1, gk.2.2.2.1, gk.2.2.2.2.1, gk.2.2.2.2.2.1⟩
  · simpa [up2, q] using gk
theorem TT.setT {S : Nat → Int32 → Prop} {h i t : Nat} {τ : Mem} (ht : TT S h τ) (h1 : 1 ≤ t) (h2 : t ≤ 24) : TT S h (up2 τ 20 i (nI t)) := by
  refine ⟨ht.1.same (by simp [up2]) (fun j _ => by simp [up2]), ⟨by simpa [up2] using ht.2.1.1, fun k hk => ?_⟩, ht.2.2.cong (fun j _ => by simp [up2]) (by simp [up2]) (fun j _ hj => by simpa [up2] using hj)⟩
  by_cases q : k = i
  · subst q; intro _; exact ⟨t, h1, h2, by simp [up2]⟩
  · simpa [up2, q] using ht.2.1.2 k hk
theorem RelX.drop {x b i : Nat} {σ τ : Mem} (h : RelX x b σ τ) : RelX x b (up2 σ 11 i 0) (up2 τ 14 i 0) := by
  refine h.cong (by simpa [RS, up2] using h.1) (fun i _ => by simp [up2]) (fun i hi => by simpa [up2] using h.2.1 i hi) (fun i _ _ => by simp [up2]) (fun k hk => ?_) (fun k hk => by simpa [up2] using h.2.2.2.2.2.1 k hk) (fun e => by simp [up2]) (by simp [up2])
  have gk := h.2.2.2.2.1 k hk
  by_cases q : k = i
  · subst q; simpa [up2] using ⟨gk.2.1, gk.2.2.1, gk.2.2.2.1, gk.2.2.2.2.1, gk.2.2.2.2.2.1⟩
  · simpa [up2, q] using gk
theorem TT.drop {S : Nat → Int32 → Prop} {h i : Nat} {τ : Mem} (ht : TT S h τ) : TT S h (up2 τ 14 i 0) := by
  refine ⟨ht.1.same (by simp [up2]) (fun j _ => by simp [up2]), ⟨by simpa [up2] using ht.2.1.1, fun k hk => ?_⟩, ht.2.2.cong (fun j _ => by simp [up2]) (by simp [up2]) (fun j _ hj => by simpa [up2] using hj)⟩
  by_cases q : k = i
  · subst q; simp [up2]
  · simpa [up2, q] using ht.2.1.2 k hk
theorem RelX.batch {x b i : Nat} {σ τ : Mem} (h : RelX x b σ τ) (v : Int32) : RelX x b (up2 σ 21 i v) (up2 τ 21 i v) := by
  refine h.cong (by simpa [RS, up2] using h.1) (fun i _ => by simp [up2]) (fun i hi => by simpa [up2] using h.2.1 i hi) (fun i _ _ => by simp [up2]) (fun k hk => by simpa [up2] using h.2.2.2.2.1 k hk) (fun k hk => ?_) (fun e => by simp [up2]) (by simp [up2])
  by_cases q : k = i
  · subst q; simp [up2]
  · simpa [up2, q] using h.2.2.2.2.2.1 k hk
theorem TT.batch {S : Nat → Int32 → Prop} {h i : Nat} {τ : Mem} (ht : TT S h τ) (v : Int32) : TT S h (up2 τ 21 i v) :=
  ⟨ht.1.same (by simp [up2]) (fun j _ => by simp [up2]), ht.2.1.kp (by simp [KP, up2]), ht.2.2.cong (fun j _ => by simp [up2]) (by simp [up2]) (fun j _ hj => by simpa [up2] using hj)⟩
theorem RelX.retr {x b : Nat} {σ τ : Mem} (h : RelX x b σ τ) (v v2 : Int32) : RelX x b (up2 (up2 σ 20 4 v) 20 5 v2) (up2 (up2 τ 0 1 v) 0 2 v2) := by
  refine h.cong ?_ (fun i _ => by simp [up2]) (fun i hi => by simpa [up2] using h.2.1 i hi) (fun i _ _ => by simp [up2]) (fun k hk => by simpa [up2] using h.2.2.2.2.1 k hk) (fun k hk => by simpa [up2] using h.2.2.2.2.2.1 k hk) (fun e => by simp [up2]) (by simp [up2])
  have := h.1
  simp [RS, up2] at this ⊢
  simp [this]
theorem TT.retr {S : Nat → Int32 → Prop} {h f g : Nat} {τ : Mem} (ht : TT S h τ) (h1 : 1 ≤ f) (h2 : f ≤ 24) (h3 : g ≤ 9) : TT S h (up2 (up2 τ 0 1 (nI f)) 0 2 (nI g)) :=
  ⟨ht.1.same (by simp [up2]) (fun j _ => by simp [up2]), ⟨⟨f, h1, h2, by simp [up2]⟩, fun k hk => by simpa [up2] using ht.2.1.2 k hk⟩, fun i hi => by simpa [up2] using ht.2.2.1 i hi, g, h3, by simp [up2]⟩
theorem RelX.rep {x b i : Nat} {σ τ : Mem} (h : RelX x b σ τ) (zb zc zd ze : Int32) : RelX x b (up2 (up2 (up2 (up2 σ 2 i zb) 3 i zc) 4 i zd) 5 i ze) (tRep τ i zb zc zd ze) := by
  refine h.cong (by simpa [RS, tRep, up2] using h.1) (fun i _ => by simp [tRep, up2]) (fun j hj => ?_) (fun i _ _ => by simp [tRep, up2]) (fun k hk => by simpa [tRep, up2] using h.2.2.2.2.1 k hk) (fun k hk => by simpa [tRep, up2] using h.2.2.2.2.2.1 k hk) (fun e => by simp [tRep, up2]) (by simp [tRep, up2])
  have m := h.2.1 j hj
  by_cases q : j = i
  · subst q; simpa [tRep, up2] using ⟨m.1, m.2.2.2.2.2⟩
  · simpa [tRep, up2, q] using m
theorem TT.rep {S : Nat → Int32 → Prop} {h i : Nat} {τ : Mem} (ht : TT S h τ) (zb zc zd ze : Int32) : TT S h (tRep τ i zb zc zd ze) :=
  ⟨ht.1.same (by simp [tRep, up2]) (fun j _ => by simp [tRep, up2]), ht.2.1.kp (by simp [KP, tRep, up2]), ht.2.2.cong (fun j _ => by simp [tRep, up2]) (by simp [tRep, up2]) (fun j _ hj => by simpa [tRep, up2] using hj)⟩
theorem nst {τ : Mem} {i : Nat} {x y : Int32} (h : τ 5 i = x) (hxy : x ≠ y) : ¬ τ 5 i = y := by rw [h]; exact hxy
theorem Rel.ans {b i : Nat} {σ τ : Mem} (h : Rel (b + 1) σ τ) (hF : FI τ) (hi : i < 16) (mv : Bool) : Rel b (sAns σ i mv) (tAns τ i mv) := by
  unfold sAns tAns
  rw [h.st hi]
  by_cases c0 : τ 5 i = 0
  · rw [if_pos c0, if_pos c0]
    exact h.chg1 hi (by decide) (fun q => by rcases q with q | q | q <;> exact absurd q (by decide)) (fun q => by rcases q with q | q | q <;> exact absurd q (by decide))
  · rw [if_neg c0, if_neg c0]
    by_cases c3 : τ 5 i = 3
    · rw [if_pos c3, if_neg (fun q => absurd (c3.symm.trans q.1) (by decide)), if_pos c3]
      exact h.fail hF hi (nst c3 (by decide))
    · rw [if_neg c3]
      by_cases c2 : τ 5 i = 2 ∧ mv = true
      · rw [if_pos c2, if_pos c2]
        exact (h.opn i).stand c2.1
      · rw [if_neg c2, if_neg c2, if_neg c3]
        exact h.le (by omega)
theorem TT.ans {h i : Nat} {τ : Mem} (ht : TT Sa h τ) (hi : i < 16) (mv : Bool) : TT Sa h (tAns τ i mv) := by
  unfold tAns
  by_cases c0 : τ 5 i = 0
  · rw [if_pos c0]
    exact ht.turn (nst c0 (by decide)) (fun _ _ _ s => s) (by decide) (by decide) (by decide)
  · rw [if_neg c0]
    by_cases c2 : τ 5 i = 2 ∧ mv = true
    · rw [if_pos c2]; exact ht.stand
    · rw [if_neg c2]
      by_cases c3 : τ 5 i = 3
      · rw [if_pos c3]; exact ht.fail hi (nst c3 (by decide)) (fun _ _ _ s => s)
      · rw [if_neg c3]; exact ht
theorem KP.ans {i : Nat} {τ : Mem} {mv : Bool} : KP τ (tAns τ i mv) := by
  unfold tAns
  split
  · exact KP.turn
  · split
    · exact KP.stand
    · split
      · exact KP.fail
      · exact KP.rf
theorem FI.zero {τ : Mem} {i : Nat} {st : Int32} (h : FI τ) : FI (up2 (tTurn τ i st) 13 i 0) := by
  refine ⟨fun j hj => ?_, ?_⟩
  · by_cases q : j = i
    · subst q; exact ⟨0, by omega, by simp [up2]; rfl, Or.inl (by omega)⟩
    · simpa [up2, tTurn, q] using h.1 j hj
  · simpa [up2, tTurn] using h.2
theorem Rel.back {b i : Nat} {σ τ : Mem} (h : Rel (b + 1) σ τ) (hi : i < 16) {st : Int32} (h2 : ¬ st = 2) (c1 : st = 3 ∨ st = 5 ∨ st = 6 → σ 7 i = τ 11 i) (c2 : st = 3 ∨ st = 4 ∨ st = 6 → σ 8 i = τ 12 i) : Rel b (sChg (up2 σ 6 i 0) i st) (up2 (tTurn τ i st) 13 i 0) := by
  rw [sC_up (by decide) (by decide) (by decide) (by decide)]
  exact (h.chg1 hi h2 c1 c2).fails 0
theorem TT.back {h i : Nat} {τ : Mem} {st : Int32} (ht : TT Sa h τ) (h3 : ¬ st = 3) (h4 : ¬ st = 4) (h6 : ¬ st = 6) : TT Sa h (up2 (tTurn τ i st) 13 i 0) :=
  ⟨(ht.1.turn (i := i) (st := st) (S' := Sa) (fun _ _ _ s => s) h3 h4 h6).same (by simp [up2]) (fun j _ => by simp [up2]), (ht.2.1.kp (KP.turn (i := i) (st := st))).kp (by simp [KP, up2]), ht.2.2.zero⟩
theorem Rel.drain {b i : Nat} {σ τ : Mem} (h : Rel (b + 1) σ τ) (hi : i < 16) (h5 : τ 5 i = 5) (zb : Int32) : Rel b (sChg (up2 σ 8 i (σ 20 6 + zb)) i 6) (tDrain τ i zb) := by
  unfold tDrain
  rw [sC_up (by decide) (by decide) (by decide) (by decide)]
  have k := ((h.opn i).turn hi 6).ends (σ 20 6 + zb) (tTurn τ i 6 0 0 + zb)
  have e : (up2 (tTurn τ i 6) 12 i (tTurn τ i 6 0 0 + zb)) 5 i = 6 := by rw [up2_r (by decide), tT_5, if_pos rfl]
  refine k.close (fun _ => ?_) (fun _ => ?_) (by rw [e]; decide)
  · rw [up2_r (by decide), up2_r (by decide), sC_r (by decide) (by decide) (by decide) (by decide), tT_r (by decide) (by decide) (by decide) (by decide)]
    exact h.2.2.1 i hi (by omega) (Or.inr (Or.inl h5))
  · rw [up2_s, up2_s, tT_0 (by decide), h.1.2.2.1]
theorem TT.drain {h i t : Nat} {τ : Mem} (ht : TT Sa h τ) (hs : ¬ τ 5 i = 7) (h1 : 1 ≤ t) (h2 : t ≤ 48) : TT Sa h (tDrain τ i (nI t)) := by
  unfold tDrain
  refine ⟨ht.1.upd (i := i) (by simp [tTurn, up2]) (fun j _ hne => by simp [tTurn, up2, hne]) (fun _ _ _ s => s) (fun _ => ⟨h + t, ?_, by omega, by omega⟩), (ht.2.1.kp (KP.turn (i := i) (st := 6))).kp (by simp [KP, up2]), (ht.2.2.turn (i := i) (st := 6) hs).cong (fun j _ => by simp [up2]) (by simp [up2]) (fun j _ hj => by simpa [up2] using hj)⟩
  rw [up2_s, tT_0 (by decide), ht.1.1, nI_add]
