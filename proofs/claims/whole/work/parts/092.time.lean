/-! hours and ends of the reference, and what a step does not touch -/
def KP (τ τ' : Mem) : Prop := τ' 0 1 = τ 0 1 ∧ τ' 0 25 = τ 0 25 ∧ ∀ k, τ' 14 k = τ 14 k ∧ τ' 20 k = τ 20 k
theorem KP.rf {τ : Mem} : KP τ τ := ⟨rfl, rfl, fun _ => ⟨rfl, rfl⟩⟩
theorem KP.tr {a b c : Mem} (h : KP a b) (h2 : KP b c) : KP a c := ⟨h2.1.trans h.1, h2.2.1.trans h.2.1, fun k => ⟨(h2.2.2 k).1.trans (h.2.2 k).1, (h2.2.2 k).2.trans (h.2.2 k).2⟩⟩
theorem KP.turn {τ : Mem} {i : Nat} {st : Int32} : KP τ (tTurn τ i st) := by simp [KP, tTurn, up2]
theorem KP.stand {τ : Mem} {i : Nat} : KP τ (tStand τ i) := by simp [KP, tStand, up2]
theorem KP.queue {τ : Mem} {i : Nat} : KP τ (tQueue τ i) := KP.turn.tr KP.stand
theorem KP.wiped {τ : Mem} {i : Nat} : KP τ (tWiped τ i) := by simp [KP, tWiped, tTurn, up2]
theorem KP.fail {τ : Mem} {i : Nat} : KP τ (tFail τ i) := by
  unfold tFail
  split <;> simp [KP, tFl, tTurn, up2]
theorem KP.step {τ : Mem} {i : Nat} : KP τ (tStep τ i) := by
  cases ho : tBst τ i with
  | none => rw [tStep_none ho]; simp [KP, tTurn, up2]
  | some k => rw [tStep_some ho]; simp [KP, tTurn, up2]
theorem KP.fill {r : Nat} : ∀ {n : Nat} {τ : Mem}, KP τ (tFill r n τ)
  | 0, τ => KP.rf
  | n + 1, τ => by
    by_cases h1 : tQu τ (nI r) 0 = -1
    · rw [tFill_none _ h1]; exact KP.rf
    · by_cases h2 : τ 21 r ≤ tAW τ (nI r)
      · rw [tFill_full _ h2]; exact KP.rf
      · rcases tQd_or (tQdP τ (nI r) 0) 16 (by decide) with ⟨q, -⟩ | ⟨i, hi, hp, q⟩
        · exact absurd q h1
        · rw [tFill_go _ hi q h2]
          exact KP.step.tr KP.fill
theorem KP.bi {τ : Mem} : ∀ k, KP τ (tBI τ k)
  | 0 => KP.rf
  | k + 1 => (KP.bi k).tr KP.fill
theorem KP.begins {τ : Mem} : KP τ (tBegins τ) := KP.bi 4
theorem KP.fo {τ : Mem} : ∀ k, KP τ (tFO τ k)
  | 0 => KP.rf
  | k + 1 => by
    simp only [tFO]
    split
    · exact (KP.fo k).tr KP.fail
    · exact KP.fo k
theorem KP.wd {τ : Mem} : ∀ k, KP τ (tWD τ k)
  | 0 => KP.rf
  | k + 1 => by
    simp only [tWD]
    split
    · exact (KP.wd k).tr KP.wiped
    · exact KP.wd k
theorem KP.qr {τ : Mem} : ∀ k, KP τ (tQR τ k)
  | 0 => KP.rf
  | k + 1 => by
    simp only [tQR]
    split
    · exact (KP.qr k).tr KP.queue
    · exact KP.qr k
theorem KP.hour {τ : Mem} {v : Int32} : KP τ (up2 τ 0 0 v) := by simp [KP, up2]
theorem KP.pass {τ : Mem} : KP τ (tPass τ) := (((KP.hour.tr (KP.fo 16)).tr (KP.wd 16)).tr (KP.qr 16)).tr KP.begins
theorem KP.adv {τ : Mem} : ∀ k, KP τ (tAdv τ k)
  | 0 => KP.rf
  | k + 1 => (KP.adv k).tr KP.pass
def TIs (S : Nat → Int32 → Prop) (h : Nat) (τ : Mem) : Prop := τ 0 0 = nI h ∧ ∀ i, i < 16 → tEnds τ i = true → ∃ e, τ 12 i = nI e ∧ h ≤ e ∧ e ≤ h + 6200 ∧ (S i (τ 5 i) → h < e)
def TG (τ : Mem) : Prop := (∃ f, 1 ≤ f ∧ f ≤ 24 ∧ τ 0 1 = nI f) ∧ ∀ k, k < 8 → ¬ τ 14 k = 0 → ∃ t, 1 ≤ t ∧ t ≤ 24 ∧ τ 20 k = nI t
theorem TG.kp {τ τ' : Mem} (h : TG τ) (k : KP τ τ') : TG τ' := by
  refine ⟨?_, fun j hj => ?_⟩
  · obtain ⟨f, h1, h2, h3⟩ := h.1
    exact ⟨f, h1, h2, k.1.trans h3⟩
  · rw [(k.2.2 j).1, (k.2.2 j).2]
    exact h.2 j hj
/-- the hour is h, ends are set, sizes are in their bounds; who is in S ends later than now -/
def TT (S : Nat → Int32 → Prop) (h : Nat) (τ : Mem) : Prop := TIs S h τ ∧ TG τ ∧ FI τ
theorem TIs.upd {S S' : Nat → Int32 → Prop} {h i : Nat} {τ τ' : Mem} (ht : TIs S h τ) (e0 : τ' 0 0 = τ 0 0) (e5 : ∀ j, j < 16 → j ≠ i → τ' 5 j = τ 5 j ∧ τ' 12 j = τ 12 j) (hS : ∀ j, j < 16 → j ≠ i → S' j (τ 5 j) → S j (τ 5 j)) (ei : tEnds τ' i = true → ∃ e, τ' 12 i = nI e ∧ h < e ∧ e ≤ h + 6200) : TIs S' h τ' := by
  refine ⟨e0.trans ht.1, fun j hj hq => ?_⟩
  by_cases q : j = i
  · subst q
    obtain ⟨e, a1, a2, a3⟩ := ei hq
    exact ⟨e, a1, by omega, a3, fun _ => a2⟩
  · have e9 := e5 j hj q
    have hq2 : tEnds τ j = true := by unfold tEnds at hq ⊢; rw [e9.1] at hq; exact hq
    obtain ⟨e, a1, a2, a3, a4⟩ := ht.2 j hj hq2
    exact ⟨e, e9.2.trans a1, a2, a3, fun s => a4 (hS j hj q (by rw [e9.1] at s; exact s))⟩
theorem TIs.mono {S S' : Nat → Int32 → Prop} {h : Nat} {τ : Mem} (ht : TIs S h τ) (hS : ∀ j, j < 16 → tEnds τ j = true → S' j (τ 5 j) → S j (τ 5 j)) : TIs S' h τ :=
  ⟨ht.1, fun j hj hq => by
    obtain ⟨e, a1, a2, a3, a4⟩ := ht.2 j hj hq
    exact ⟨e, a1, a2, a3, fun s => a4 (hS j hj hq s)⟩⟩
theorem TIs.same {S : Nat → Int32 → Prop} {h : Nat} {τ τ' : Mem} (ht : TIs S h τ) (e0 : τ' 0 0 = τ 0 0) (e5 : ∀ j, j < 16 → τ' 5 j = τ 5 j ∧ τ' 12 j = τ 12 j) : TIs S h τ' :=
  ⟨e0.trans ht.1, fun j hj hq => by
    have e9 := e5 j hj
    have hq2 : tEnds τ j = true := by unfold tEnds at hq ⊢; rw [e9.1] at hq; exact hq
    obtain ⟨e, a1, a2, a3, a4⟩ := ht.2 j hj hq2
    exact ⟨e, e9.2.trans a1, a2, a3, fun s => a4 (by rw [e9.1] at s; exact s)⟩⟩
theorem dbl_nI (f : Nat) : ∀ n, dbl (nI f) n = nI (f * 2 ^ n)
  | 0 => by rw [Nat.pow_zero, Nat.mul_one]; rfl
  | n + 1 => by
    show dbl (nI f) n * 2 = _
    rw [dbl_nI f n, show (2 : Int32) = nI 2 from rfl, pk_mul, Nat.mul_assoc, ← Nat.pow_succ]
theorem TIs.turn {S S' : Nat → Int32 → Prop} {h i : Nat} {τ : Mem} {st : Int32} (ht : TIs S h τ) (hS : ∀ j, j < 16 → j ≠ i → S' j (τ 5 j) → S j (τ 5 j)) (h3 : ¬ st = 3) (h4 : ¬ st = 4) (h6 : ¬ st = 6) : TIs S' h (tTurn τ i st) :=
  ht.upd (i := i) (tT_0 (by decide)) (fun j _ hne => ⟨by rw [tT_5, if_neg hne], tT_r (by decide) (by decide) (by decide) (by decide) j⟩) hS (fun q => by
    have e : tTurn τ i st 5 i = st := by rw [tT_5, if_pos rfl]
    unfold tEnds at q
    rw [e] at q
    simp [h3, h4, h6] at q)
theorem TT.fail {S S' : Nat → Int32 → Prop} {h i : Nat} {τ : Mem} (ht : TT S h τ) (hi : i < 16) (hs : ¬ τ 5 i = 7) (hS : ∀ j, j < 16 → j ≠ i → S' j (τ 5 j) → S j (τ 5 j)) : TT S' h (tFail τ i) := by
  obtain ⟨h1, h2, h3⟩ := ht
  refine ⟨?_, h2.kp KP.fail, h3.fail hi hs⟩
  obtain ⟨n, -, hn, hn8⟩ := h3.1 i hi
  have hn8 : n ≤ 8 := hn8.resolve_right hs
  obtain ⟨f, f1, f2, f3⟩ := h2.1
  unfold tFail
  have e0 : TIs S h (up2 τ 13 i (τ 13 i + 1)) := h1.same (by simp [up2]) (fun j _ => by simp [up2])
  split
  · exact e0.turn (fun j hj hne => by simpa [up2] using hS j hj hne) (by decide) (by decide) (by decide)
  · refine h1.upd (i := i) (by simp [tFl, tTurn, up2]) (fun j _ hne => by simp [tFl, tTurn, up2, hne]) hS (fun _ => ?_)
    have g0 : tFl τ i 0 0 = nI h := by rw [← h1.1]; simp [tFl, tTurn, up2]
    have g1 : tFl τ i 0 1 = nI f := by rw [← f3]; simp [tFl, tTurn, up2]
    have hb : 2 ^ n ≤ 256 := by
      have := Nat.pow_le_pow_right (n := 2) (by decide) hn8
      simpa using this
    have hb0 : 0 < 2 ^ n := Nat.pow_pos (by decide)
    refine ⟨h + f * 2 ^ n, ?_, ?_, ?_⟩
    · rw [up2_s, g0, g1, hn, nI_1, ix_nI (by omega), Nat.add_sub_cancel, dbl_nI, nI_add]
    · have := Nat.mul_pos (show 0 < f by omega) hb0
      omega
    · have := Nat.mul_le_mul f2 hb
      omega
theorem TT.turn {S S' : Nat → Int32 → Prop} {h i : Nat} {τ : Mem} {st : Int32} (ht : TT S h τ) (hs : ¬ τ 5 i = 7) (hS : ∀ j, j < 16 → j ≠ i → S' j (τ 5 j) → S j (τ 5 j)) (h3 : ¬ st = 3) (h4 : ¬ st = 4) (h6 : ¬ st = 6) : TT S' h (tTurn τ i st) :=
  ⟨ht.1.turn hS h3 h4 h6, ht.2.1.kp KP.turn, ht.2.2.turn hs⟩
theorem TT.stand {S : Nat → Int32 → Prop} {h i : Nat} {τ : Mem} (ht : TT S h τ) : TT S h (tStand τ i) :=
  ⟨ht.1.same (by simp [tStand, up2]) (fun j _ => by simp [tStand, up2]), ht.2.1.kp KP.stand, ht.2.2.cong (fun j _ => by simp [tStand, up2]) (by simp [tStand, up2]) (fun j _ hj => by simpa [tStand, up2] using hj)⟩
theorem TT.queue {S S' : Nat → Int32 → Prop} {h i : Nat} {τ : Mem} (ht : TT S h τ) (hs : ¬ τ 5 i = 7) (hS : ∀ j, j < 16 → j ≠ i → S' j (τ 5 j) → S j (τ 5 j)) : TT S' h (tQueue τ i) :=
  (ht.turn (st := 2) hs hS (by decide) (by decide) (by decide)).stand
theorem TT.wiped {S S' : Nat → Int32 → Prop} {h i : Nat} {τ : Mem} (ht : TT S h τ) (hs : ¬ τ 5 i = 7) (hS : ∀ j, j < 16 → j ≠ i → S' j (τ 5 j) → S j (τ 5 j)) : TT S' h (tWiped τ i) :=
  ⟨(ht.1.turn (st := 1) hS (by decide) (by decide) (by decide)).same (by simp [tWiped, up2]) (fun j _ => by simp [tWiped, up2]), ht.2.1.kp KP.wiped, ht.2.2.wiped hs⟩
theorem TT.step {S : Nat → Int32 → Prop} {h i : Nat} {τ : Mem} (ht : TT S h τ) (hs : ¬ τ 5 i = 7) : TT S h (tStep τ i) := by
  obtain ⟨h1, h2, h3⟩ := ht
  refine ⟨?_, h2.kp KP.step, h3.step hs⟩
  cases ho : tBst τ i with
  | none =>
    rw [tStep_none ho]
    refine h1.upd (i := i) (by simp [tTurn, up2]) (fun j _ hne => by simp [tTurn, up2, hne]) (fun _ _ _ s => s) (fun q => ?_)
    simp [tEnds, tTurn, up2] at q
  | some k =>
    have hk := bst_lt (n := 8) ho
    have hm := bst_mt (n := 8) ho
    simp only [tMt, Bool.and_eq_true, Bool.not_eq_true', decide_eq_false_iff_not] at hm
    obtain ⟨t, t1, t2, t3⟩ := h2.2 k hk hm.1.1.1.1.1
    rw [tStep_some ho]
    refine h1.upd (i := i) (by simp [tTurn, up2]) (fun j _ hne => by simp [tTurn, up2, hne]) (fun _ _ _ s => s) (fun _ => ⟨h + t, ?_, by omega, by omega⟩)
    rw [up2_s, tT_0 (by decide), tT_r (by decide) (by decide) (by decide) (by decide), t3, h1.1, nI_add]
theorem TT.fill {S : Nat → Int32 → Prop} {h r : Nat} : ∀ {n : Nat} {τ : Mem}, TT S h τ → TT S h (tFill r n τ)
  | 0, τ, ht => ht
  | n + 1, τ, ht => by
    by_cases h1 : tQu τ (nI r) 0 = -1
    · rw [tFill_none _ h1]; exact ht
    · by_cases h2 : τ 21 r ≤ tAW τ (nI r)
      · rw [tFill_full _ h2]; exact ht
      · rcases tQd_or (tQdP τ (nI r) 0) 16 (by decide) with ⟨q, -⟩ | ⟨i, hi, hp, q⟩
        · exact absurd q h1
        · rw [tFill_go _ hi q h2]
          refine TT.fill (ht.step ?_)
          simp only [tQdP, Bool.and_eq_true, decide_eq_true_eq] at hp
          rw [hp.1.1]; decide
theorem TT.bi {S : Nat → Int32 → Prop} {h : Nat} {τ : Mem} (ht : TT S h τ) : ∀ k, TT S h (tBI τ k)
  | 0 => ht
  | k + 1 => TT.fill (TT.bi ht k)
theorem TT.begins {S : Nat → Int32 → Prop} {h : Nat} {τ : Mem} (ht : TT S h τ) : TT S h (tBegins τ) := ht.bi 4
theorem TIs.not {S : Nat → Int32 → Prop} {h k : Nat} {x : Int32} {τ : Mem} (hx : x = 3 ∨ x = 4 ∨ x = 6) (hh : h ≤ 1000000) (ht : TIs (fun i st => S i st ∨ (i < k ∧ st = x)) h τ) (hn : ¬ tOv τ k x = true) : TIs (fun i st => S i st ∨ (i < k + 1 ∧ st = x)) h τ := by
  refine ⟨ht.1, fun j hj hq => ?_⟩
  obtain ⟨e, a1, a2, a3, a4⟩ := ht.2 j hj hq
  refine ⟨e, a1, a2, a3, fun s => ?_⟩
  rcases s with s | ⟨s1, s2⟩
  · exact a4 (Or.inl s)
  · rcases Nat.lt_or_ge j k with q | q
    · exact a4 (Or.inr ⟨q, s2⟩)
    · have ej : j = k := by omega
      subst ej
      refine Nat.not_le.mp (fun r => hn ?_)
      simp only [tOv, Bool.and_eq_true, decide_eq_true_eq]
      exact ⟨s2, by rw [a1, ht.1]; exact (nI_leI (by omega) (by omega)).mpr r⟩
theorem TT.fo {S : Nat → Int32 → Prop} {h : Nat} {τ : Mem} (ht : TT S h τ) (hh : h ≤ 1000000) : ∀ k, k ≤ 16 → TT (fun i st => S i st ∨ (i < k ∧ st = 3)) h (tFO τ k)
  | 0, _ => ⟨ht.1.mono (fun j _ _ s => s.elim id (fun q => absurd q.1 (Nat.not_lt_zero j))), ht.2⟩
  | k + 1, hk => by
    have ih := TT.fo ht hh k (by omega)
    simp only [tFO]
    by_cases q : tOv (tFO τ k) k 3 = true
    · rw [if_pos q]
      exact ih.fail (by omega) (by rw [tOv_st q]; decide) (fun j _ hne s => s.elim Or.inl (fun s => Or.inr ⟨by omega, s.2⟩))
    · rw [if_neg q]
      exact ⟨ih.1.not (Or.inl rfl) hh q, ih.2⟩
theorem TT.wd {S : Nat → Int32 → Prop} {h : Nat} {τ : Mem} (ht : TT S h τ) (hh : h ≤ 1000000) : ∀ k, k ≤ 16 → TT (fun i st => S i st ∨ (i < k ∧ st = 6)) h (tWD τ k)
  | 0, _ => ⟨ht.1.mono (fun j _ _ s => s.elim id (fun q => absurd q.1 (Nat.not_lt_zero j))), ht.2⟩
  | k + 1, hk => by
    have ih := TT.wd ht hh k (by omega)
    simp only [tWD]
    by_cases q : tOv (tWD τ k) k 6 = true
    · rw [if_pos q]
      exact ih.wiped (by rw [tOv_st q]; decide) (fun j _ hne s => s.elim Or.inl (fun s => Or.inr ⟨by omega, s.2⟩))
    · rw [if_neg q]
      exact ⟨ih.1.not (Or.inr (Or.inr rfl)) hh q, ih.2⟩
theorem TT.qr {S : Nat → Int32 → Prop} {h : Nat} {τ : Mem} (ht : TT S h τ) (hh : h ≤ 1000000) : ∀ k, k ≤ 16 → TT (fun i st => S i st ∨ (i < k ∧ st = 4)) h (tQR τ k)
  | 0, _ => ⟨ht.1.mono (fun j _ _ s => s.elim id (fun q => absurd q.1 (Nat.not_lt_zero j))), ht.2⟩
  | k + 1, hk => by
    have ih := TT.qr ht hh k (by omega)
    simp only [tQR]
    by_cases q : tOv (tQR τ k) k 4 = true
    · rw [if_pos q]
      exact ih.queue (by rw [tOv_st q]; decide) (fun j _ hne s => s.elim Or.inl (fun s => Or.inr ⟨by omega, s.2⟩))
    · rw [if_neg q]
      exact ⟨ih.1.not (Or.inr (Or.inl rfl)) hh q, ih.2⟩
abbrev Sa : Nat → Int32 → Prop := fun _ _ => True
theorem TT.pass {h : Nat} {τ : Mem} (ht : TT Sa h τ) (hh : h < 1000000) : TT Sa (h + 1) (tPass τ) := by
  have h0 : TT (fun _ _ => False) (h + 1) (up2 τ 0 0 (τ 0 0 + 1)) := by
    refine ⟨⟨by rw [up2_s, ht.1.1, nI_1], fun j hj hq => ?_⟩, ht.2.1.kp KP.hour, ht.2.2.hour⟩
    have hq2 : tEnds τ j = true := by simpa [tEnds, up2] using hq
    obtain ⟨e, a1, a2, a3, a4⟩ := ht.1.2 j hj hq2
    have := a4 trivial
    exact ⟨e, by simpa [up2] using a1, by omega, by omega, fun s => s.elim⟩
  have h4 := ((h0.fo hh 16 (by omega)).wd hh 16 (by omega)).qr hh 16 (by omega)
  refine TT.begins ⟨h4.1.mono (fun j hj hq _ => ?_), h4.2⟩
  simp only [tEnds, Bool.or_eq_true, decide_eq_true_eq] at hq
  rcases hq with (q | q) | q
  · exact Or.inl (Or.inl (Or.inr ⟨hj, q⟩))
  · exact Or.inr ⟨hj, q⟩
  · exact Or.inl (Or.inr ⟨hj, q⟩)
theorem TT.adv {h n : Nat} {τ : Mem} (ht : TT Sa h τ) (hh : h + n ≤ 1000000) : ∀ k, k ≤ n → TT Sa (h + k) (tAdv τ k)
  | 0, _ => ht
  | k + 1, hk => (TT.adv ht hh k (by omega)).pass (by omega)
/-- the next change -/
theorem Rel.next {b h : Nat} {σ τ : Mem} (hR : Rel b σ τ) (ht : TIs Sa h τ) (hh : h ≤ 1000000) : ∀ k, k ≤ 16 → (sNx σ k = -1 ∧ tNx τ k = -1) ∨ ∃ e, h < e ∧ e ≤ h + 6200 ∧ sNx σ k = nI e ∧ tNx τ k = nI (e - h)
  | 0, _ => Or.inl ⟨rfl, rfl⟩
  | k + 1, hk => by
    have ih := Rel.next hR ht hh k (by omega)
    have he : sEnds σ k = tEnds τ k := by unfold sEnds tEnds; rw [hR.st (by omega)]
    simp only [sNx, tNx]
    rw [he]
    by_cases q : tEnds τ k = true
    · obtain ⟨e, a1, a2, a3, a4⟩ := ht.2 k (by omega) q
      have a5 := a4 trivial
      have a6 : σ 8 k = nI e := by
        rw [← a1]
        refine hR.2.2.2.1 k (by omega) (by omega) ?_
        simp only [tEnds, Bool.or_eq_true, decide_eq_true_eq] at q
        rcases q with (q | q) | q
        · exact Or.inl q
        · exact Or.inr (Or.inl q)
        · exact Or.inr (Or.inr q)
      have a7 : τ 12 k - τ 0 0 = nI (e - h) := by rw [a1, ht.1, pk_sub (by omega)]
      rw [a6, a7, q]
      rcases ih with ⟨i1, i2⟩ | ⟨f, f1, f2, f3, f4⟩
      · rw [i1, i2]
        exact Or.inr ⟨e, a5, a3, by simp, by simp⟩
      · rw [f3, f4]
        have m1 : ¬ nI f = -1 := nI_ne_m1 (by omega)
        have m2 : ¬ nI (f - h) = -1 := nI_ne_m1 (by omega)
        by_cases r : e < f
        · have r1 : nI e < nI f := (nI_ltI (by omega) (by omega)).mpr r
          have r2 : nI (e - h) < nI (f - h) := (nI_ltI (by omega) (by omega)).mpr (by omega)
          exact Or.inr ⟨e, a5, a3, by simp [m1, r1], by simp [m2, r2]⟩
        · have r1 : ¬ nI e < nI f := fun z => r ((nI_ltI (by omega) (by omega)).mp z)
          have r2 : ¬ nI (e - h) < nI (f - h) := fun z => by have := (nI_ltI (by omega) (by omega)).mp z; omega
          exact Or.inr ⟨f, f1, f2, by simp [m1, r1], by simp [m2, r2]⟩
    · simp only [Bool.not_eq_true] at q
      rw [q]
      simpa using ih
theorem Rel.sb {b w i : Nat} {σ τ : Mem} (hR : Rel b σ τ) (hi : i < 16) (hw : τ 0 22 = nI w) (hwb : w < 2147483648) : ∀ n, n ≤ 40 → n ≤ w → sSB σ i n = tSB τ i w n
  | 0, _, _ => hR.st hi
  | n + 1, h1, h2 => by
    have ih := Rel.sb hR hi hw hwb n (by omega) (by omega)
    obtain ⟨-, -, -, -, -, -, ⟨w9, h7, h8a, h8b, h8c⟩, -⟩ := hR
    have e : w9 = w := (nI_eq (by omega) (by omega)).mp (h8b.symm.trans hw)
    subst e
    have h9 := h8c n (by omega) (by omega)
    simp only [sSB, tSB]
    rw [h9.1, h9.2, ih]
