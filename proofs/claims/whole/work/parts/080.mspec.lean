/-! WHAT EACH METHOD OF THE REFERENCE DOES, on the numbers of its state -/
theorem rem40 {x : Int32} (h : ¬ x < 0) : x - x / 40 * 40 = nI (ix x % 40) := by
  obtain ⟨j, hj, rfl⟩ := nI_of h
  rw [ix_nI (by omega)]
  exact pk_rem (d := 40) hj (by decide) (by decide)
theorem nI_ne_m1 {i : Nat} (h : i < 2147483648) : ¬ nI i = -1 := by
  intro q
  have e := congrArg Int32.toInt q
  rw [nI_toInt (by omega)] at e
  have e2 : (-1 : Int32).toInt = -1 := by decide
  omega
def gC (a b c : Bool) : Int32 := if a = true then (if b = true then (if c = true then 0 else 3) else 2) else 1
def tGo (τ : Mem) (a b c : Bool) : Mem := up2 τ 0 25 (gC a b c)
def tTold (τ : Mem) : Mem := up2 τ 0 25 0
def tTurn (τ : Mem) (i : Nat) (st : Int32) : Mem := up2 (up2 (up2 (up2 τ 23 (ix (τ 0 22) % 40) (nI i)) 24 (ix (τ 0 22) % 40) (τ 5 i)) 0 22 (τ 0 22 + 1)) 5 i st
def tStand (τ : Mem) (i : Nat) : Mem := up2 (up2 τ 10 i (τ 0 3)) 0 3 (τ 0 3 + 1)
def tQueue (τ : Mem) (i : Nat) : Mem := tStand (tTurn τ i 2) i
def dbl (a : Int32) : Nat → Int32
  | 0 => a
  | n + 1 => dbl a n * 2
def tFl (τ : Mem) (i : Nat) : Mem := tTurn (up2 τ 13 i (τ 13 i + 1)) i 4
def tFail (τ : Mem) (i : Nat) : Mem := if τ 0 2 ≤ τ 13 i + 1 then tTurn (up2 τ 13 i (τ 13 i + 1)) i 7 else up2 (tFl τ i) 12 i (tFl τ i 0 0 + dbl (tFl τ i 0 1) (ix (τ 13 i + 1) - 1))
def tWiped (τ : Mem) (i : Nat) : Mem := up2 (tTurn τ i 1) 0 4 (tTurn τ i 1 0 4 + 1)
def tMt (τ : Mem) (k i : Nat) : Bool := !decide (τ 14 k = 0) && !decide (τ 5 i = 0) && decide (τ 16 k ≤ τ 7 i) && decide ((τ 17 k >>> (τ 8 i &&& 31)) &&& 1 = 1) && decide (τ 9 i &&& τ 18 k = τ 18 k) && decide (τ 9 i &&& τ 19 k = 0)
def tBst (τ : Mem) (i : Nat) : Option Nat := bst (fun k => tMt τ k i) (τ 15) 8
def tAWP (τ : Mem) (r : Int32) (i : Nat) : Bool := decide (τ 5 i = 3) && decide (τ 6 i = r)
def tAW (τ : Mem) (r : Int32) : Int32 := nI (ct (tAWP τ r) 16)
def tAhP (τ : Mem) (r : Int32) (k n : Nat) : Bool := decide (τ 5 n = 2) && decide (τ 6 n = r) && decide (τ 10 n < τ 10 k)
def tQdP (τ : Mem) (r pl : Int32) (k : Nat) : Bool := decide (τ 5 k = 2) && decide (τ 6 k = r) && decide (nI (ct (tAhP τ r k) 16) = pl)
def tQd (p : Nat → Bool) : Nat → Int32
  | 0 => -1
  | n + 1 => if p n then nI n else tQd p n
theorem tQd_or (p : Nat → Bool) : ∀ n : Nat, n < 2147483648 → (tQd p n = -1 ∧ ∀ i, i < n → p i = false) ∨ ∃ i, i < n ∧ p i = true ∧ tQd p n = nI i
  | 0, _ => Or.inl ⟨rfl, fun i h => absurd h (Nat.not_lt_zero i)⟩
  | n + 1, hn => by
    simp only [tQd]
    cases hp : p n with
    | true => exact Or.inr ⟨n, by omega, hp, by simp⟩
    | false =>
      rcases tQd_or p n (by omega) with ⟨h, h2⟩ | ⟨i, h1, h2, h3⟩
      · refine Or.inl ⟨by simp [h], fun i hi => ?_⟩
        rcases Nat.lt_or_ge i n with q | q
        · exact h2 i q
        · have e : i = n := by omega
          rw [e]; exact hp
      · exact Or.inr ⟨i, by omega, h2, by simp [h3]⟩
def tQu (τ : Mem) (r pl : Int32) : Int32 := tQd (tQdP τ r pl) 16
def tOv (τ : Mem) (i : Nat) (st : Int32) : Bool := decide (τ 5 i = st) && decide (τ 12 i ≤ τ 0 0)
def tEnds (τ : Mem) (i : Nat) : Bool := decide (τ 5 i = 3) || decide (τ 5 i = 4) || decide (τ 5 i = 6)
def tStep (τ : Mem) (i : Nat) : Mem := match tBst τ i with
  | none => up2 (up2 (tTurn τ i 1) 11 i (-1)) 12 i (-1)
  | some k => up2 (up2 (tTurn τ i 3) 11 i (nI k)) 12 i (tTurn τ i 3 0 0 + tTurn τ i 3 20 k)
theorem tStep_none {τ : Mem} {i : Nat} (h : tBst τ i = none) : tStep τ i = up2 (up2 (tTurn τ i 1) 11 i (-1)) 12 i (-1) := by unfold tStep; rw [h]
theorem tStep_some {τ : Mem} {i k : Nat} (h : tBst τ i = some k) : tStep τ i = up2 (up2 (tTurn τ i 3) 11 i (nI k)) 12 i (tTurn τ i 3 0 0 + tTurn τ i 3 20 k) := by unfold tStep; rw [h]
def tFill (r : Nat) : Nat → Mem → Mem
  | 0, τ => τ
  | n + 1, τ => if tQu τ (nI r) 0 = -1 then τ else if τ 21 r ≤ tAW τ (nI r) then τ else tFill r n (tStep τ (ix (tQu τ (nI r) 0)))
theorem tFill_0 (r : Nat) (τ : Mem) : tFill r 0 τ = τ := rfl
theorem tFill_none {r : Nat} {τ : Mem} (n : Nat) (h : tQu τ (nI r) 0 = -1) : tFill r n τ = τ := by
  cases n with
  | zero => rfl
  | succ n =>
    show (if tQu τ (nI r) 0 = -1 then τ else if τ 21 r ≤ tAW τ (nI r) then τ else tFill r n (tStep τ (ix (tQu τ (nI r) 0)))) = _
    rw [if_pos h]
theorem tFill_full {r : Nat} {τ : Mem} (n : Nat) (hb : τ 21 r ≤ tAW τ (nI r)) : tFill r n τ = τ := by
  cases n with
  | zero => rfl
  | succ n =>
    show (if tQu τ (nI r) 0 = -1 then τ else if τ 21 r ≤ tAW τ (nI r) then τ else tFill r n (tStep τ (ix (tQu τ (nI r) 0)))) = _
    rw [if_pos hb]
    exact ite_self _
theorem tFill_go {r i : Nat} {τ : Mem} (n : Nat) (hi : i < 16) (h : tQu τ (nI r) 0 = nI i) (hb : ¬ τ 21 r ≤ tAW τ (nI r)) : tFill r (n + 1) τ = tFill r n (tStep τ i) := by
  show (if tQu τ (nI r) 0 = -1 then τ else if τ 21 r ≤ tAW τ (nI r) then τ else tFill r n (tStep τ (ix (tQu τ (nI r) 0)))) = _
  rw [h, if_neg (nI_ne_m1 (by omega)), if_neg hb, ix_nI (by omega)]
def tBI (τ : Mem) : Nat → Mem
  | 0 => τ
  | k + 1 => tFill k 16 (tBI τ k)
def tBegins (τ : Mem) : Mem := tBI τ 4
def tFO (τ : Mem) : Nat → Mem
  | 0 => τ
  | k + 1 => if tOv (tFO τ k) k 3 then tFail (tFO τ k) k else tFO τ k
def tWD (τ : Mem) : Nat → Mem
  | 0 => τ
  | k + 1 => if tOv (tWD τ k) k 6 then tWiped (tWD τ k) k else tWD τ k
def tQR (τ : Mem) : Nat → Mem
  | 0 => τ
  | k + 1 => if tOv (tQR τ k) k 4 then tQueue (tQR τ k) k else tQR τ k
def tPass (τ : Mem) : Mem := tBegins (tQR (tWD (tFO (up2 τ 0 0 (τ 0 0 + 1)) 16) 16) 16)
def tAdv (τ : Mem) : Nat → Mem
  | 0 => τ
  | k + 1 => tPass (tAdv τ k)
def tKept (τ : Mem) : Int32 := if τ 0 22 < 40 then τ 0 22 else 40
def tWhy (τ : Mem) (i : Nat) : Int32 := if τ 5 i = 0 then 1 else if τ 5 i = 1 then (if (tBst τ i).isSome = true then 3 else 2) else if τ 5 i = 2 then (if (tBst τ i).isSome = true then 4 else 2) else if τ 5 i = 3 then 5 else if τ 5 i = 4 then 6 else if τ 5 i = 6 then 7 else if τ 5 i = 7 then 8 else 0
def tNx (τ : Mem) : Nat → Int32
  | 0 => -1
  | k + 1 => if tEnds τ k && (decide (tNx τ k = -1) || decide (τ 12 k - τ 0 0 < tNx τ k)) then τ 12 k - τ 0 0 else tNx τ k
def tSB (τ : Mem) (i w : Nat) : Nat → Int32
  | 0 => τ 5 i
  | k + 1 => if τ 23 ((w - 1 - k) % 40) = nI i then τ 24 ((w - 1 - k) % 40) else tSB τ i w k
/-! the reference's invariants: what is written stays far below 2^31; failures stay small -/
def WB (τ : Mem) (b : Nat) : Prop := ∃ w, τ 0 22 = nI w ∧ w + b < 2147483648
def FI (τ : Mem) : Prop := (∀ i, i < 16 → ∃ n, n ≤ 9 ∧ τ 13 i = nI n ∧ (n ≤ 8 ∨ τ 5 i = 7)) ∧ ∃ f, f ≤ 9 ∧ τ 0 2 = nI f
theorem WB.nn {τ : Mem} {b : Nat} (h : WB τ b) : ¬ τ 0 22 < 0 := by
  obtain ⟨w, h1, h2⟩ := h
  rw [h1]
  exact nI_pos (by omega)
theorem WB.le {τ : Mem} {b c : Nat} (h : WB τ b) (hc : c ≤ b) : WB τ c := by
  obtain ⟨w, h1, h2⟩ := h
  exact ⟨w, h1, by omega⟩
theorem WB.cong {τ τ' : Mem} {b : Nat} (h : WB τ b) (e : τ' 0 22 = τ 0 22) : WB τ' b := by
  obtain ⟨w, h1, h2⟩ := h
  exact ⟨w, e.trans h1, h2⟩
theorem WB.up {τ τ' : Mem} {b : Nat} (h : WB τ (b + 1)) (e : τ' 0 22 = τ 0 22 + 1) : WB τ' b := by
  obtain ⟨w, h1, h2⟩ := h
  exact ⟨w + 1, by rw [e, h1, nI_1], by omega⟩
theorem WB.turn {τ : Mem} {b i : Nat} {st : Int32} (h : WB τ (b + 1)) : WB (tTurn τ i st) b := h.up (by simp [tTurn, up2])
theorem WB.stand {τ : Mem} {b i : Nat} (h : WB τ b) : WB (tStand τ i) b := h.cong (by simp [tStand, up2])
theorem WB.queue {τ : Mem} {b i : Nat} (h : WB τ (b + 1)) : WB (tQueue τ i) b := h.up (by simp [tQueue, tStand, tTurn, up2])
theorem WB.wiped {τ : Mem} {b i : Nat} (h : WB τ (b + 1)) : WB (tWiped τ i) b := h.up (by simp [tWiped, tTurn, up2])
theorem WB.fail {τ : Mem} {b i : Nat} (h : WB τ (b + 1)) : WB (tFail τ i) b := by
  refine h.up ?_
  unfold tFail
  split <;> simp [tFl, tTurn, up2]
theorem WB.step {τ : Mem} {b i : Nat} (h : WB τ (b + 1)) : WB (tStep τ i) b := by
  refine h.up ?_
  cases ho : tBst τ i with
  | none => rw [tStep_none ho]; simp [tTurn, up2]
  | some k => rw [tStep_some ho]; simp [tTurn, up2]
theorem WB.fill {r : Nat} : ∀ {n b : Nat} {τ : Mem}, WB τ (b + n) → WB (tFill r n τ) b
  | 0, b, τ, h => h
  | n + 1, b, τ, h => by
    by_cases h1 : tQu τ (nI r) 0 = -1
    · rw [tFill_none _ h1]; exact h.le (by omega)
    · by_cases h2 : τ 21 r ≤ tAW τ (nI r)
      · rw [tFill_full _ h2]; exact h.le (by omega)
      · rcases tQd_or (tQdP τ (nI r) 0) 16 (by decide) with ⟨q, -⟩ | ⟨i, hi, -, q⟩
        · exact absurd q h1
        · rw [tFill_go _ hi q h2]
          exact WB.fill (WB.step (by rw [show b + n + 1 = b + (n + 1) by omega]; exact h))
theorem WB.bi {b : Nat} {τ : Mem} : ∀ k, k ≤ 4 → WB τ (b + 64) → WB (tBI τ k) (b + 16 * (4 - k))
  | 0, _, h => h.le (by omega)
  | k + 1, hk, h => WB.fill ((WB.bi k (by omega) h).le (by omega))
theorem WB.begins {b : Nat} {τ : Mem} (h : WB τ (b + 64)) : WB (tBegins τ) b := (WB.bi 4 (by omega) h).le (by omega)
theorem WB.fo {b : Nat} {τ : Mem} (h : WB τ (b + 16)) : ∀ k, k ≤ 16 → WB (tFO τ k) (b + (16 - k))
  | 0, _ => h.le (by omega)
  | k + 1, hk => by
    have ih := WB.fo h k (by omega)
    simp only [tFO]
    split
    · exact WB.fail (ih.le (by omega))
    · exact ih.le (by omega)
theorem WB.wd {b : Nat} {τ : Mem} (h : WB τ (b + 16)) : ∀ k, k ≤ 16 → WB (tWD τ k) (b + (16 - k))
  | 0, _ => h.le (by omega)
  | k + 1, hk => by
    have ih := WB.wd h k (by omega)
    simp only [tWD]
    split
    · exact WB.wiped (ih.le (by omega))
    · exact ih.le (by omega)
theorem WB.qr {b : Nat} {τ : Mem} (h : WB τ (b + 16)) : ∀ k, k ≤ 16 → WB (tQR τ k) (b + (16 - k))
  | 0, _ => h.le (by omega)
  | k + 1, hk => by
    have ih := WB.qr h k (by omega)
    simp only [tQR]
    split
    · exact WB.queue (ih.le (by omega))
    · exact ih.le (by omega)
theorem WB.hour {b : Nat} {τ : Mem} {x : Int32} (h : WB τ b) : WB (up2 τ 0 0 x) b := h.cong (by simp [up2])
theorem WB.pass {b : Nat} {τ : Mem} (h : WB τ (b + 112)) : WB (tPass τ) b := by
  unfold tPass
  refine WB.begins ?_
  refine (WB.qr (b := b + 64) ?_ 16 (by omega)).le (by omega)
  refine (WB.wd (b := b + 64 + 16) ?_ 16 (by omega)).le (by omega)
  refine (WB.fo (b := b + 64 + 16 + 16) ?_ 16 (by omega)).le (by omega)
  exact WB.hour (h.le (by omega))
theorem WB.adv {b : Nat} {τ : Mem} {n : Nat} (h : WB τ (b + 112 * n)) : ∀ k, k ≤ n → WB (tAdv τ k) (b + 112 * (n - k))
  | 0, _ => h.le (by omega)
  | k + 1, hk => WB.pass ((WB.adv h k (by omega)).le (by omega))
/-- the failures: a step that touches neither failures nor most, and leaves the state of who is out -/
theorem FI.cong {τ τ' : Mem} (h : FI τ) (e1 : ∀ i, i < 16 → τ' 13 i = τ 13 i) (e2 : τ' 0 2 = τ 0 2) (e3 : ∀ i, i < 16 → τ 5 i = 7 → τ' 5 i = 7) : FI τ' := by
  refine ⟨fun i hi => ?_, ?_⟩
  · obtain ⟨n, h1, h2, h3⟩ := h.1 i hi
    exact ⟨n, h1, (e1 i hi).trans h2, h3.imp id (e3 i hi)⟩
  · obtain ⟨f, h1, h2⟩ := h.2
    exact ⟨f, h1, e2.trans h2⟩
theorem FI.turn {τ : Mem} {i : Nat} {st : Int32} (h : FI τ) (hs : ¬ τ 5 i = 7) : FI (tTurn τ i st) := by
  refine h.cong (fun j _ => by simp [tTurn, up2]) (by simp [tTurn, up2]) (fun j _ hj => ?_)
  have : j ≠ i := fun q => hs (by rw [← q]; exact hj)
  simp [tTurn, up2, this, hj]
theorem FI.queue {τ : Mem} {i : Nat} (h : FI τ) (hs : ¬ τ 5 i = 7) : FI (tQueue τ i) :=
  (h.turn (st := 2) hs).cong (fun j _ => by simp [tQueue, tStand, up2]) (by simp [tQueue, tStand, up2]) (fun j _ hj => by simp [tQueue, tStand, up2, hj])
theorem FI.wiped {τ : Mem} {i : Nat} (h : FI τ) (hs : ¬ τ 5 i = 7) : FI (tWiped τ i) :=
  (h.turn (st := 1) hs).cong (fun j _ => by simp [tWiped, up2]) (by simp [tWiped, up2]) (fun j _ hj => by simp [tWiped, up2, hj])
theorem FI.step {τ : Mem} {i : Nat} (h : FI τ) (hs : ¬ τ 5 i = 7) : FI (tStep τ i) := by
  cases ho : tBst τ i with
  | none => rw [tStep_none ho]; exact (h.turn (st := 1) hs).cong (fun j _ => by simp [up2]) (by simp [up2]) (fun j _ hj => by simp [up2, hj])
  | some k => rw [tStep_some ho]; exact (h.turn (st := 3) hs).cong (fun j _ => by simp [up2]) (by simp [up2]) (fun j _ hj => by simp [up2, hj])
theorem FI.fail {τ : Mem} {i : Nat} (h : FI τ) (hi : i < 16) (hs : ¬ τ 5 i = 7) : FI (tFail τ i) := by
  obtain ⟨f, hf1, hf2⟩ := h.2
  obtain ⟨n, hn1, hn2, hn3⟩ := h.1 i hi
  have hn8 : n ≤ 8 := hn3.resolve_right hs
  have key : ∀ (τ' : Mem), τ' 13 i = nI (n + 1) → (∀ j, j ≠ i → τ' 13 j = τ 13 j) → τ' 0 2 = τ 0 2 → (∀ j, j ≠ i → τ' 5 j = τ 5 j) → (n + 1 ≤ 8 ∨ τ' 5 i = 7) → FI τ' := by
    intro τ' e1 e2 e3 e4 e5
    refine ⟨fun j hj => ?_, f, hf1, e3.trans hf2⟩
    by_cases hji : j = i
    · subst hji
      exact ⟨n + 1, by omega, e1, e5⟩
    · obtain ⟨k, h1, h2, h3⟩ := h.1 j hj
      exact ⟨k, h1, (e2 j hji).trans h2, h3.imp id (fun q => (e4 j hji).trans q)⟩
  unfold tFail
  split
  · exact key _ (by simp [tTurn, up2, hn2, nI_1]) (fun j hj => by simp [tTurn, up2, hj]) (by simp [tTurn, up2]) (fun j hj => by simp [tTurn, up2, hj]) (Or.inr (by simp [tTurn, up2]))
  · rename_i hlt
    refine key _ (by simp [tFl, tTurn, up2, hn2, nI_1]) (fun j hj => by simp [tFl, tTurn, up2, hj]) (by simp [tFl, tTurn, up2]) (fun j hj => by simp [tFl, tTurn, up2, hj]) (Or.inl ?_)
    rw [hf2, hn2, nI_1] at hlt
    have := Int32.not_le.mp hlt
    have := (nI_ltI (a := n + 1) (b := f) (by omega) (by omega)).mp this
    omega
theorem FI.fill {r : Nat} : ∀ {n : Nat} {τ : Mem}, FI τ → FI (tFill r n τ)
  | 0, τ, h => h
  | n + 1, τ, h => by
    by_cases h1 : tQu τ (nI r) 0 = -1
    · rw [tFill_none _ h1]; exact h
    · by_cases h2 : τ 21 r ≤ tAW τ (nI r)
      · rw [tFill_full _ h2]; exact h
      · rcases tQd_or (tQdP τ (nI r) 0) 16 (by decide) with ⟨q, -⟩ | ⟨i, hi, hp, q⟩
        · exact absurd q h1
        · rw [tFill_go _ hi q h2]
          refine FI.fill (FI.step h ?_)
          simp only [tQdP, Bool.and_eq_true, decide_eq_true_eq] at hp
          rw [hp.1.1]; decide
theorem FI.bi {τ : Mem} (h : FI τ) : ∀ k, FI (tBI τ k)
  | 0 => h
  | k + 1 => FI.fill (FI.bi h k)
theorem FI.begins {τ : Mem} (h : FI τ) : FI (tBegins τ) := h.bi 4
theorem tOv_st {τ : Mem} {i : Nat} {st : Int32} (h : tOv τ i st = true) : τ 5 i = st := by
  simp only [tOv, Bool.and_eq_true, decide_eq_true_eq] at h
  exact h.1
theorem FI.fo {τ : Mem} (h : FI τ) : ∀ k, k ≤ 16 → FI (tFO τ k)
  | 0, _ => h
  | k + 1, hk => by
    have ih := FI.fo h k (by omega)
    simp only [tFO]
    split
    · rename_i q; exact FI.fail ih (by omega) (by rw [tOv_st q]; decide)
    · exact ih
theorem FI.wd {τ : Mem} (h : FI τ) : ∀ k, k ≤ 16 → FI (tWD τ k)
  | 0, _ => h
  | k + 1, hk => by
    have ih := FI.wd h k (by omega)
    simp only [tWD]
    split
    · rename_i q; exact FI.wiped ih (by rw [tOv_st q]; decide)
    · exact ih
theorem FI.qr {τ : Mem} (h : FI τ) : ∀ k, k ≤ 16 → FI (tQR τ k)
  | 0, _ => h
  | k + 1, hk => by
    have ih := FI.qr h k (by omega)
    simp only [tQR]
    split
    · rename_i q; exact FI.queue ih (by rw [tOv_st q]; decide)
    · exact ih
theorem FI.hour {τ : Mem} {x : Int32} (h : FI τ) : FI (up2 τ 0 0 x) := h.cong (fun j _ => by simp [up2]) (by simp [up2]) (fun j _ hj => by simp [up2, hj])
theorem FI.pass {τ : Mem} (h : FI τ) : FI (tPass τ) := (((h.hour.fo 16 (by omega)).wd 16 (by omega)).qr 16 (by omega)).begins
theorem FI.adv {τ : Mem} (h : FI τ) : ∀ k, FI (tAdv τ k)
  | 0 => h
  | k + 1 => (FI.adv h k).pass
/-- how many are QUEUED in a rack: it falls with each beginning -/
def tQCP (τ : Mem) (r : Nat) (i : Nat) : Bool := decide (τ 5 i = 2) && decide (τ 6 i = nI r)
def tQC (τ : Mem) (r : Nat) : Nat := ct (tQCP τ r) 16
theorem ct_zero {p : Nat → Bool} : ∀ {n : Nat}, ct p n = 0 → ∀ i, i < n → p i = false
  | 0, _, i, h => absurd h (Nat.not_lt_zero i)
  | n + 1, h, i, hi => by
    simp only [ct] at h
    cases hp : p n with
    | true => rw [hp] at h; simp at h
    | false =>
      rw [hp] at h
      simp at h
      rcases Nat.lt_or_ge i n with q | q
      · exact ct_zero h i q
      · have e : i = n := by omega
        rw [e]; exact hp
theorem ct_drop {p q : Nat → Bool} {i : Nat} (hp : p i = true) (hq : q i = false) (ho : ∀ j, j ≠ i → q j = p j) : ∀ {n : Nat}, i < n → ct q n + 1 = ct p n
  | 0, h => absurd h (Nat.not_lt_zero i)
  | n + 1, h => by
    simp only [ct]
    rcases Nat.lt_or_ge i n with k | k
    · rw [ho n (by omega), ← ct_drop hp hq ho k]
      omega
    · have e : i = n := by omega
      subst e
      rw [hp, hq, ct_cong (fun j hj => ho j (by omega))]
      simp
theorem tQC_step {τ : Mem} {r i : Nat} (hi : i < 16) (hp : tQdP τ (nI r) 0 i = true) : tQC (tStep τ i) r + 1 = tQC τ r := by
  simp only [tQdP, Bool.and_eq_true, decide_eq_true_eq] at hp
  have e5 : ∀ j, j ≠ i → tStep τ i 5 j = τ 5 j := fun j hj => by
    cases ho : tBst τ i with
    | none => rw [tStep_none ho]; simp [tTurn, up2, hj]
    | some k => rw [tStep_some ho]; simp [tTurn, up2, hj]
  have e6 : ∀ j, tStep τ i 6 j = τ 6 j := fun j => by
    cases ho : tBst τ i with
    | none => rw [tStep_none ho]; simp [tTurn, up2]
    | some k => rw [tStep_some ho]; simp [tTurn, up2]
  have ei : ¬ tStep τ i 5 i = 2 := by
    cases ho : tBst τ i with
    | none => rw [tStep_none ho]; simp [tTurn, up2]
    | some k => rw [tStep_some ho]; simp [tTurn, up2]
  refine ct_drop ?_ ?_ (fun j hj => ?_) hi
  · simp [tQCP, hp.1.1, hp.1.2]
  · simp [tQCP, ei]
  · simp [tQCP, e5 j hj, e6 j]
theorem tQC_0 {τ : Mem} {r : Nat} (h : tQC τ r = 0) : tQu τ (nI r) 0 = -1 := by
  rcases tQd_or (tQdP τ (nI r) 0) 16 (by decide) with ⟨q, -⟩ | ⟨i, hi, hp, q⟩
  · exact q
  · have := ct_zero h i hi
    simp only [tQdP, Bool.and_eq_true, decide_eq_true_eq] at hp
    simp [tQCP, hp.1.1, hp.1.2] at this
theorem WB.go {τ : Mem} {b : Nat} {x y z : Bool} (h : WB τ b) : WB (tGo τ x y z) b := h.cong (by simp [tGo, up2])
theorem FI.go {τ : Mem} {x y z : Bool} (h : FI τ) : FI (tGo τ x y z) := h.cong (fun j _ => by simp [tGo, up2]) (by simp [tGo, up2]) (fun j _ hj => by simp [tGo, up2, hj])
/-! the public calls of the reference -/
def tSetIm (τ : Mem) (i : Nat) (zb zc zd ze zf : Int32) : Mem := up2 (up2 (up2 (up2 (up2 (up2 (up2 τ 20 i (if τ 14 i = 0 then 2 else τ 20 i)) 14 i 1) 15 i zb) 16 i zc) 17 i zd) 18 i ze) 19 i zf
def bSetImage (zb zc zd ze zf : Int32) : Bool := inB zb 0 9 && inB zc 0 99 && inB zd 0 15 && inB ze 0 15 && inB zf 0 15
def hSetImage (τ : Mem) (za zb zc zd ze zf : Int32) : Mem := if inB za 0 7 = true ∧ bSetImage zb zc zd ze zf = true then tBegins (tSetIm (tGo τ (inB za 0 7) (bSetImage zb zc zd ze zf) true) (ix za) zb zc zd ze zf) else tGo τ (inB za 0 7) (bSetImage zb zc zd ze zf) true
def bIm (τ : Mem) (za : Int32) : Bool := inB za 0 7 && !decide (τ 14 (ix za) = 0)
def hSetTime (τ : Mem) (za zb : Int32) : Mem := if bIm τ za = true ∧ inB zb 1 24 = true then tBegins (up2 (tGo τ (bIm τ za) (inB zb 1 24) true) 20 (ix za) zb) else tGo τ (bIm τ za) (inB zb 1 24) true
def qSetTime (τ : Mem) (za zb : Int32) : Int32 := if bIm τ za = true ∧ inB zb 1 24 = true then tGo τ (bIm τ za) (inB zb 1 24) true 20 (ix za) else 0
def hDropImage (τ : Mem) (za : Int32) : Mem := if bIm τ za = true then tBegins (up2 (tGo τ (bIm τ za) true true) 14 (ix za) 0) else tGo τ (bIm τ za) true true
def hSetBatch (τ : Mem) (za zb : Int32) : Mem := if inB za 0 3 = true ∧ inB zb 0 4 = true then tBegins (up2 (tGo τ (inB za 0 3) (inB zb 0 4) true) 21 (ix za) zb) else tGo τ (inB za 0 3) (inB zb 0 4) true
def qSetBatch (τ : Mem) (za zb : Int32) : Int32 := if inB za 0 3 = true ∧ inB zb 0 4 = true then tGo τ (inB za 0 3) (inB zb 0 4) true 21 (ix za) else 0
def bRt (za zb : Int32) : Bool := inB za 1 24 && inB zb 1 9
def hSetRetries (τ : Mem) (za zb : Int32) : Mem := if bRt za zb = true then tBegins (up2 (up2 (tGo τ (bRt za zb) true true) 0 1 za) 0 2 zb) else tGo τ (bRt za zb) true true
def bRp1 (za zb : Int32) : Bool := inB za 0 15 && inB zb 0 3
def bRp2 (zc zd ze : Int32) : Bool := inB zc 0 99 && inB zd 0 3 && inB ze 0 15
def tRep (τ : Mem) (i : Nat) (zb zc zd ze : Int32) : Mem := up2 (up2 (up2 (up2 τ 6 i zb) 7 i zc) 8 i zd) 9 i ze
def tAns (τ : Mem) (i : Nat) (mv : Bool) : Mem := if τ 5 i = 0 then tTurn τ i 1 else if τ 5 i = 2 ∧ mv = true then tStand τ i else if τ 5 i = 3 then tFail τ i else τ
def tGoRp (τ : Mem) (za zb zc zd ze : Int32) : Mem := tGo τ (bRp1 za zb) (bRp2 zc zd ze) true
def hReport (τ : Mem) (za zb zc zd ze : Int32) : Mem := if bRp1 za zb = true ∧ bRp2 zc zd ze = true then tBegins (tAns (tRep (tGoRp τ za zb zc zd ze) (ix za) zb zc zd ze) (ix za) (!decide (tGoRp τ za zb zc zd ze 6 (ix za) = zb))) else tGoRp τ za zb zc zd ze
def qReport (τ : Mem) (za zb zc zd ze : Int32) : Int32 := if bRp1 za zb = true ∧ bRp2 zc zd ze = true then hReport τ za zb zc zd ze 5 (ix za) else 0
def bOr (τ : Mem) (za : Int32) : Bool := inB za 0 15 && (decide (τ 5 (ix za) = 1) && (tBst τ (ix za)).isSome)
def hOrder (τ : Mem) (za : Int32) : Mem := if bOr τ za = true then tBegins (tQueue (tGo τ (inB za 0 15) (bOr τ za) true) (ix za)) else tGo τ (inB za 0 15) (bOr τ za) true
def qOrder (τ : Mem) (za : Int32) : Int32 := if bOr τ za = true then hOrder τ za 5 (ix za) else 0
def bCa (τ : Mem) (za : Int32) : Bool := inB za 0 15 && (decide (τ 5 (ix za) = 2) || decide (τ 5 (ix za) = 4))
def hCancel (τ : Mem) (za : Int32) : Mem := if bCa τ za = true then tBegins (tTurn (tGo τ (inB za 0 15) (bCa τ za) true) (ix za) 1) else tGo τ (inB za 0 15) (bCa τ za) true
def bSt (τ : Mem) (za st : Int32) : Bool := inB za 0 15 && decide (τ 5 (ix za) = st)
def hFinish (τ : Mem) (za : Int32) (gd : Bool) : Mem := if bSt τ za 3 = true then tBegins (if gd = true then up2 (tTurn (tGo τ (inB za 0 15) (bSt τ za 3) true) (ix za) 5) 13 (ix za) 0 else tFail (tGo τ (inB za 0 15) (bSt τ za 3) true) (ix za)) else tGo τ (inB za 0 15) (bSt τ za 3) true
def qFinish (τ : Mem) (za : Int32) (gd : Bool) : Int32 := if bSt τ za 3 = true then hFinish τ za gd 5 (ix za) else 0
def tGoRe (τ : Mem) (za zb : Int32) : Mem := tGo τ (inB za 0 15) (inB zb 0 48) (bSt τ za 5)
def tDrain (τ : Mem) (i : Nat) (zb : Int32) : Mem := up2 (tTurn τ i 6) 12 i (tTurn τ i 6 0 0 + zb)
def hRetire (τ : Mem) (za zb : Int32) : Mem := if inB zb 0 48 = true ∧ bSt τ za 5 = true then tBegins (if zb = 0 then tWiped (tGoRe τ za zb) (ix za) else tDrain (tGoRe τ za zb) (ix za) zb) else tGoRe τ za zb
def hKeep (τ : Mem) (za : Int32) : Mem := if bSt τ za 6 = true then tBegins (tTurn (tGo τ (inB za 0 15) (bSt τ za 6) true) (ix za) 5) else tGo τ (inB za 0 15) (bSt τ za 6) true
def hRelease (τ : Mem) (za : Int32) : Mem := if bSt τ za 7 = true then tBegins (up2 (tTurn (tGo τ (inB za 0 15) (bSt τ za 7) true) (ix za) 1) 13 (ix za) 0) else tGo τ (inB za 0 15) (bSt τ za 7) true
def hAdvance (τ : Mem) (za : Int32) : Mem := if inB za 1 200 = true then tAdv (tGo τ (inB za 1 200) true true) (ix za) else tGo τ (inB za 1 200) true true
def qAdvance (τ : Mem) (za : Int32) : Int32 := if inB za 1 200 = true then hAdvance τ za 0 22 - tGo τ (inB za 1 200) true true 0 22 else 0
def hM (τ : Mem) (za : Int32) : Mem := tGo τ (inB za 0 15) true true
def qM (τ : Mem) (za x : Int32) : Int32 := if inB za 0 15 = true then x else 0
def hR (τ : Mem) (za : Int32) : Mem := tGo τ (inB za 0 3) true true
def bQa (za zb : Int32) : Bool := inB za 0 3 && !decide (zb < 0)
def hQueueAt (τ : Mem) (za zb : Int32) : Mem := tGo τ (bQa za zb) true true
def bMa (τ : Mem) (za : Int32) : Bool := inB za 0 (tKept τ - 1)
def hMachineAt (τ : Mem) (za : Int32) : Mem := tGo τ (bMa τ za) true true
def bSb (τ : Mem) (zb : Int32) : Bool := inB zb 0 (tKept τ)
def hStateBefore (τ : Mem) (za zb : Int32) : Mem := tGo τ (inB za 0 15) (bSb τ zb) true
theorem tKept_nI {τ : Mem} {w : Nat} (hw : τ 0 22 = nI w) (hb : w < 2147483648) : tKept τ = nI (if w < 40 then w else 40) := by
  unfold tKept
  rw [hw]
  by_cases h : w < 40
  · rw [if_pos h, if_pos (show nI w < (40 : Int32) from nI_lt (b := 40) h (by decide))]
  · rw [if_neg h, if_neg (show ¬ nI w < (40 : Int32) from nI_nlt (b := 40) (by omega) (by omega))]
    rfl
theorem sb_of {τ : Mem} {w : Nat} {zb : Int32} (hw : τ 0 22 = nI w) (hb : w < 2147483648) (h : inB zb 0 (tKept τ) = true) : ∃ n, n ≤ 40 ∧ n ≤ w ∧ zb = nI n := by
  rw [tKept_nI hw hb] at h
  by_cases hq : w < 40
  · rw [if_pos hq] at h
    obtain ⟨c, h1, h2⟩ := inB_le w (by omega) (by decide : (0 : Int32) ≤ 0) (Int32.le_refl _) h
    exact ⟨c, by omega, h1, h2⟩
  · rw [if_neg hq] at h
    obtain ⟨c, h1, h2⟩ := inB_le 40 (by omega) (by decide : (0 : Int32) ≤ 0) (Int32.le_refl _) h
    exact ⟨c, h1, by omega, h2⟩
theorem ma_of {τ : Mem} {w : Nat} {za : Int32} (hw : τ 0 22 = nI w) (hb : w < 2147483648) (h : inB za 0 (tKept τ - 1) = true) : ∃ k, k < 40 ∧ k < w ∧ za = nI k := by
  rw [tKept_nI hw hb] at h
  have key : ∀ n : Nat, n ≤ 40 → n ≤ w → inB za 0 (nI n - 1) = true → ∃ k, k < 40 ∧ k < w ∧ za = nI k := by
    intro n h40 hnw h
    cases n with
    | zero =>
      simp only [inB, Bool.and_eq_true, decide_eq_true_eq] at h
      have := i32_le_le h.1 h.2
      exact absurd this (by decide)
    | succ n =>
      rw [nI_pred] at h
      obtain ⟨c, h1, h2⟩ := inB_le n (by omega) (by decide : (0 : Int32) ≤ 0) (Int32.le_refl _) h
      exact ⟨c, by omega, by omega, h2⟩
  by_cases hq : w < 40
  · rw [if_pos hq] at h; exact key w (by omega) (Nat.le_refl w) h
  · rw [if_neg hq] at h; exact key 40 (Nat.le_refl 40) (by omega) h
def qMachineAt (τ : Mem) (za : Int32) : Int32 := if bMa τ za = true then hMachineAt τ za 23 ((ix (τ 0 22) - 1 - ix za) % 40) else 0
def qStateBefore (τ : Mem) (za zb : Int32) : Int32 := if inB za 0 15 = true ∧ bSb τ zb = true then tSB τ (ix za) (ix (τ 0 22)) (ix zb) else 0
def qQueueAt (τ : Mem) (za zb : Int32) : Int32 := if bQa za zb = true then tQu τ za zb else 0
def qInstalling (τ : Mem) (za : Int32) : Int32 := if inB za 0 3 = true then tAW τ za else 0
def qImageOf (τ : Mem) (za : Int32) : Int32 := if inB za 0 15 = true then (if hM τ za 5 (ix za) = 3 ∨ hM τ za 5 (ix za) = 5 ∨ hM τ za 5 (ix za) = 6 then hM τ za 11 (ix za) else -1) else 0
def qEndOf (τ : Mem) (za : Int32) : Int32 := if inB za 0 15 = true then (if tEnds τ (ix za) = true then hM τ za 12 (ix za) else -1) else 0
theorem tGo_r (τ : Mem) (a b c : Bool) {r : Nat} (h : r ≠ 0) (k : Nat) : tGo τ a b c r k = τ r k := by simp [tGo, up2, h]
theorem tGo_0 (τ : Mem) (a b c : Bool) {k : Nat} (h : k ≠ 25) : tGo τ a b c 0 k = τ 0 k := by simp [tGo, up2, h]
