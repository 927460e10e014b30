/-! THE QUEUES, place by place; and the match, looked for from above -/
theorem ct_up (q : Nat → Bool) (n : Nat) : ct q n ≤ ct q (n + 1) := Nat.le_add_right _ _
theorem ct_mono {p q : Nat → Bool} : ∀ {n : Nat}, (∀ y, y < n → p y = true → q y = true) → ct p n ≤ ct q n
  | 0, _ => Nat.le_refl 0
  | n + 1, h => by
    have ih := ct_mono (n := n) (fun y hy => h y (by omega))
    have hn := h n (by omega)
    cases hp : p n with
    | false =>
      have := ct_up q n
      rw [ct_n hp]; omega
    | true => rw [ct_y hp, ct_y (hn hp)]; omega
theorem ct_lt {p q : Nat → Bool} {i : Nat} : ∀ {n : Nat}, (∀ y, y < n → p y = true → q y = true) → i < n → p i = false → q i = true → ct p n < ct q n
  | 0, _, hi, _, _ => absurd hi (Nat.not_lt_zero i)
  | n + 1, h, hi, hp, hq => by
    by_cases z : i = n
    · subst z
      have := ct_mono (p := p) (q := q) (n := i) (fun y hy => h y (by omega))
      rw [ct_n hp, ct_y hq]
      omega
    · have ih := ct_lt (n := n) (fun y hy => h y (by omega)) (by omega) hp hq
      have hn := h n (by omega)
      cases hp2 : p n with
      | false =>
        have := ct_up q n
        rw [ct_n hp2]; omega
      | true => rw [ct_y hp2, ct_y (hn hp2)]; omega
theorem ct_none {p : Nat → Bool} : ∀ {n : Nat}, (∀ y, y < n → p y = false) → ct p n = 0
  | 0, _ => rfl
  | n + 1, h => by rw [ct_n (h n (by omega)), ct_none (fun y hy => h y (by omega))]
theorem ex_min {S : Nat → Prop} (tk : Nat → Nat) : ∀ {n : Nat}, (∃ i, i < n ∧ S i) → ∃ i, i < n ∧ S i ∧ ∀ j, j < n → S j → tk i ≤ tk j
  | 0, h => by obtain ⟨i, hi, -⟩ := h; exact absurd hi (Nat.not_lt_zero i)
  | n + 1, h => by
    by_cases q : ∃ i, i < n ∧ S i
    · obtain ⟨i, h1, h2, h3⟩ := ex_min tk q
      by_cases z : S n ∧ tk n < tk i
      · refine ⟨n, by omega, z.1, fun j hj hs => ?_⟩
        by_cases y : j = n
        · rw [y]; exact Nat.le_refl _
        · have := h3 j (by omega) hs
          omega
      · refine ⟨i, by omega, h2, fun j hj hs => ?_⟩
        by_cases y : j = n
        · subst y
          exact Nat.not_lt.mp (fun w => z ⟨hs, w⟩)
        · exact h3 j (by omega) hs
    · obtain ⟨i, h1, h2⟩ := h
      have e : i = n := by
        refine Classical.byContradiction (fun z => q ⟨i, by omega, h2⟩)
      subst e
      refine ⟨i, h1, h2, fun j hj hs => ?_⟩
      by_cases y : j = i
      · rw [y]; exact Nat.le_refl _
      · exact absurd ⟨j, by omega, hs⟩ q
def rk (Q : Nat → Bool) (tk : Nat → Nat) (i : Nat) : Nat := ct (fun j => Q j && decide (tk j < tk i)) 16
theorem rk_lt {Q : Nat → Bool} {tk : Nat → Nat} {i j : Nat} (hi : i < 16) (qi : Q i = true) (h : tk i < tk j) : rk Q tk i < rk Q tk j := by
  refine ct_lt (i := i) (fun y _ hp => ?_) hi ?_ ?_
  · simp only [Bool.and_eq_true, decide_eq_true_eq] at hp ⊢
    exact ⟨hp.1, by omega⟩
  · rw [decide_eq_false (Nat.lt_irrefl _), Bool.and_false]
  · simp only [Bool.and_eq_true, decide_eq_true_eq]
    exact ⟨qi, h⟩
theorem rk_n {Q : Nat → Bool} {tk : Nat → Nat} {i : Nat} (hi : i < 16) (qi : Q i = true) : rk Q tk i < ct Q 16 := by
  refine ct_lt (i := i) (fun y _ hp => ?_) hi ?_ qi
  · simp only [Bool.and_eq_true] at hp
    exact hp.1
  · rw [decide_eq_false (Nat.lt_irrefl _), Bool.and_false]
theorem rk_inj {Q : Nat → Bool} {tk : Nat → Nat} (hinj : ∀ i j, i < 16 → j < 16 → Q i = true → Q j = true → tk i = tk j → i = j) {i j : Nat} (hi : i < 16) (hj : j < 16) (qi : Q i = true) (qj : Q j = true) (h : rk Q tk i = rk Q tk j) : i = j := by
  rcases Nat.lt_trichotomy (tk i) (tk j) with z | z | z
  · have := rk_lt (Q := Q) (tk := tk) hi qi z; omega
  · exact hinj i j hi hj qi qj z
  · have := rk_lt (Q := Q) (tk := tk) hj qj z; omega
theorem rk_ex {Q : Nat → Bool} {tk : Nat → Nat} (hinj : ∀ i j, i < 16 → j < 16 → Q i = true → Q j = true → tk i = tk j → i = j) : ∀ p, p ≤ ct Q 16 → ct (fun j => Q j && decide (rk Q tk j < p)) 16 = p ∧ (p < ct Q 16 → ∃ i, i < 16 ∧ Q i = true ∧ rk Q tk i = p) := by
  have one : ∀ p, p < ct Q 16 → ct (fun j => Q j && decide (rk Q tk j < p)) 16 = p → ∃ i, i < 16 ∧ Q i = true ∧ rk Q tk i = p := by
    intro p hp hc
    have ex : ∃ i, i < 16 ∧ (Q i = true ∧ p ≤ rk Q tk i) := by
      refine Classical.byContradiction (fun z => ?_)
      have e : ct (fun j => Q j && decide (rk Q tk j < p)) 16 = ct Q 16 := by
        refine ct_cong (fun k hk => ?_)
        cases hq : Q k with
        | false => rw [Bool.false_and]
        | true =>
          rw [Bool.true_and, decide_eq_true_eq]
          exact Nat.not_le.mp (fun w => z ⟨k, hk, hq, w⟩)
      omega
    obtain ⟨i, h1, ⟨h2, h3⟩, h4⟩ := ex_min tk ex
    refine ⟨i, h1, h2, ?_⟩
    have e : rk Q tk i = ct (fun j => Q j && decide (rk Q tk j < p)) 16 := by
      refine ct_cong (fun k hk => ?_)
      cases hq : Q k with
      | false => rfl
      | true =>
        rw [Bool.true_and, Bool.true_and, decide_eq_decide]
        constructor
        · intro w
          refine Nat.not_le.mp (fun y => ?_)
          have := h4 k hk ⟨hq, y⟩
          omega
        · intro w
          rcases Nat.lt_trichotomy (tk k) (tk i) with y | y | y
          · exact y
          · have := hinj k i hk h1 hq h2 y
            rw [this] at w
            omega
          · have := rk_lt (Q := Q) (tk := tk) h1 h2 y
            omega
    rw [e, hc]
  intro p
  induction p with
  | zero =>
    intro _
    have z : ct (fun j => Q j && decide (rk Q tk j < 0)) 16 = 0 := ct_none (fun y _ => by rw [decide_eq_false (Nat.not_lt_zero _), Bool.and_false])
    exact ⟨z, fun hp => one 0 hp z⟩
  | succ p ih =>
    intro hp
    obtain ⟨a1, a2⟩ := ih (by omega)
    obtain ⟨i, h1, h2, h3⟩ := a2 (by omega)
    have e := ct_drop (p := fun j => Q j && decide (rk Q tk j < p + 1)) (q := fun j => Q j && decide (rk Q tk j < p)) (i := i)
      (by rw [h2, Bool.true_and, decide_eq_true_eq]; omega) (by rw [decide_eq_false (by omega), Bool.and_false]) (n := 16) h1
      (fun j hj16 hj => by
        cases hq : Q j with
        | false => rfl
        | true =>
          rw [Bool.true_and, Bool.true_and, decide_eq_decide]
          constructor
          · intro w; omega
          · intro w
            refine Nat.lt_of_le_of_ne (by omega) (fun y => hj ?_)
            exact rk_inj hinj hj16 h1 hq h2 (by omega))
    have z : ct (fun j => Q j && decide (rk Q tk j < p + 1)) 16 = p + 1 := by omega
    exact ⟨z, fun hp => one (p + 1) hp z⟩
/-! of the class's numbers -/
/-- how many stand in the queue of rack R -/
def nQ (σ : Mem) (R : Int32) : Nat := ct (fun i => sQ σ i R) 16
theorem nQ_le (σ : Mem) (R : Int32) : nQ σ R ≤ 16 := ct_le _ 16
theorem fnd_none {p : Nat → Bool} : ∀ {n : Nat}, fnd p n = none → ∀ j, j < n → p j = false
  | 0, _, j, hj => absurd hj (Nat.not_lt_zero j)
  | n + 1, h, j, hj => by
    simp only [fnd] at h
    cases hf : fnd p n with
    | some i => rw [hf] at h; cases h
    | none =>
      rw [hf] at h
      by_cases hp : p n = true
      · simp [hp] at h
      · by_cases z : j = n
        · rw [z]; simpa using hp
        · exact fnd_none hf j (by omega)
theorem sQ_st {σ : Mem} {i : Nat} {R : Int32} (h : sQ σ i R = true) : σ 1 i = 2 ∧ σ 2 i = R := by
  simpa only [sQ, Bool.and_eq_true, decide_eq_true_eq] using h
theorem rank_eq {N : Nat} {σ : Mem} {R : Int32} (H : TKs N σ) (hN : N < 2000000000) {i : Nat} (hi : i < 16) (qi : sQ σ i R = true) : sAh σ i = nI (rk (fun j => sQ σ j R) (fun j => ix (σ 9 j)) i) := by
  obtain ⟨T, a1, a2, a3, a4⟩ := H
  unfold sAh rk
  congr 1
  refine ct_cong (fun j hj => ?_)
  unfold sAhP
  rw [(sQ_st qi).2]
  show (sQ σ j R && decide (σ 9 j < σ 9 i)) = (sQ σ j R && decide (ix (σ 9 j) < ix (σ 9 i)))
  cases qj : sQ σ j R with
  | false => rw [Bool.false_and, Bool.false_and]
  | true =>
    obtain ⟨t, t1, t2⟩ := a3 i hi (sQ_st qi).1
    obtain ⟨u, u1, u2⟩ := a3 j hj (sQ_st qj).1
    rw [Bool.true_and, Bool.true_and, decide_eq_decide, t2, u2, ix2 (by omega), ix2 (by omega), nI_ltI (by omega) (by omega)]
theorem tk_inj {N : Nat} {σ : Mem} {R : Int32} (H : TKs N σ) (hN : N < 2000000000) : ∀ i j, i < 16 → j < 16 → sQ σ i R = true → sQ σ j R = true → ix (σ 9 i) = ix (σ 9 j) → i = j := by
  obtain ⟨T, a1, a2, a3, a4⟩ := H
  intro i j hi hj qi qj h
  obtain ⟨t, t1, t2⟩ := a3 i hi (sQ_st qi).1
  obtain ⟨u, u1, u2⟩ := a3 j hj (sQ_st qj).1
  rw [t2, u2, ix2 (by omega), ix2 (by omega)] at h
  exact a4 i j hi hj (sQ_st qi).1 (sQ_st qj).1 (by rw [t2, u2, h])
theorem sQA_some {N p : Nat} {σ : Mem} {R : Int32} (H : TKs N σ) (hN : N < 2000000000) (hp : p < nQ σ R) : ∃ i, sQA σ R (nI p) = some i ∧ i < 16 ∧ sQ σ i R = true ∧ sAh σ i = nI p := by
  obtain ⟨i, h1, h2, h3⟩ := (rk_ex (tk_inj (R := R) H hN) p (Nat.le_of_lt hp)).2 hp
  have e := rank_eq H hN h1 h2
  rw [h3] at e
  have hq : sQAP σ R (nI p) i = true := by
    simp only [sQAP, Bool.and_eq_true, decide_eq_true_eq]
    exact ⟨h2, e⟩
  cases hf : sQA σ R (nI p) with
  | none => rw [fnd_none (n := 16) hf i h1] at hq; cases hq
  | some j =>
    have h9 := fnd_some (n := 16) hf
    have h8 := h9.2
    simp only [sQAP, Bool.and_eq_true, decide_eq_true_eq] at h8
    exact ⟨j, rfl, h9.1, h8.1, h8.2⟩
theorem sQA_end {N p : Nat} {σ : Mem} {R : Int32} (H : TKs N σ) (hN : N < 2000000000) (hp : nQ σ R ≤ p) (hp2 : p < 100) : sQA σ R (nI p) = none := by
  refine fnd_no (fun j hj => ?_)
  rw [Bool.eq_false_iff]
  intro w
  simp only [sQAP, Bool.and_eq_true, decide_eq_true_eq] at w
  have e := rank_eq H hN hj w.1
  rw [w.2] at e
  have l : rk (fun j => sQ σ j R) (fun j => ix (σ 9 j)) j < nQ σ R := rk_n hj w.1
  have := nQ_le σ R
  have := (nI_eq (by omega) (by omega)).mp e
  omega
/-- who has been seen, as the law keeps it -/
def bN (σ : Mem) (R : Int32) : Nat → Int32
  | 0 => 0
  | p + 1 => bN σ R p ||| ((1 : Int32) <<< (nI ((sQA σ R (nI p)).getD 0) &&& 31))
theorem bN_of {N : Nat} {σ : Mem} {R : Int32} (H : TKs N σ) (hN : N < 2000000000) : ∀ p, p ≤ nQ σ R → ∀ j, j < 16 → bt (bN σ R p) j = true → ∃ q, q < p ∧ sQA σ R (nI q) = some j
  | 0, _, j, _, h => by rw [show bN σ R 0 = 0 from rfl, b_0] at h; cases h
  | p + 1, hp, j, hj, h => by
    obtain ⟨i, e, hi, -, -⟩ := sQA_some H hN (show p < nQ σ R by omega)
    have e2 : bN σ R (p + 1) = bN σ R p ||| ((1 : Int32) <<< (nI i &&& 31)) := by
      show bN σ R p ||| ((1 : Int32) <<< (nI ((sQA σ R (nI p)).getD 0) &&& 31)) = _
      rw [e]; rfl
    rw [e2, bit_set _ (by omega) (by omega)] at h
    simp only [Bool.or_eq_true, decide_eq_true_eq] at h
    rcases h with h | h
    · obtain ⟨q, q1, q2⟩ := bN_of H hN p (by omega) j hj h
      exact ⟨q, by omega, q2⟩
    · subst h; exact ⟨p, by omega, e⟩
theorem bN_no {N p i : Nat} {σ : Mem} {R : Int32} (H : TKs N σ) (hN : N < 2000000000) (hp : p < nQ σ R) (e : sQA σ R (nI p) = some i) : ¬ (bN σ R p >>> (nI i &&& 31)) &&& 1 = 1 := by
  have hi := (sQA_q e).1
  rw [bit_1 _ (by omega)]
  intro h
  obtain ⟨q, q1, q2⟩ := bN_of H hN p (by omega) i hi h
  have := nQ_le σ R
  have f1 := (fnd_some (n := 16) e).2
  have f2 := (fnd_some (n := 16) q2).2
  simp only [sQAP, Bool.and_eq_true, decide_eq_true_eq] at f1 f2
  have f3 := f1.2.symm.trans f2.2
  have := (nI_eq (by omega) (by omega)).mp f3
  omega
theorem bN_s {p i : Nat} {σ : Mem} {R : Int32} (e : sQA σ R (nI p) = some i) : bN σ R (p + 1) = bN σ R p ||| ((1 : Int32) <<< (nI i &&& 31)) := by
  show bN σ R p ||| ((1 : Int32) <<< (nI ((sQA σ R (nI p)).getD 0) &&& 31)) = _
  rw [e]; rfl
/-- all queues together -/
def aQ (σ : Mem) : Nat → Nat
  | 0 => 0
  | k + 1 => aQ σ k + nQ σ (nI k)
def wQ (σ : Mem) (n : Nat) : Nat := ct (fun i => decide (σ 1 i = 2)) n
theorem aQ_eq {σ : Mem} (h : ∀ i, i < 16 → ∃ r, r < 4 ∧ σ 2 i = nI r) : aQ σ 4 = wQ σ 16 := by
  have key : ∀ n, n ≤ 16 → ct (fun i => sQ σ i (nI 0)) n + ct (fun i => sQ σ i (nI 1)) n + ct (fun i => sQ σ i (nI 2)) n + ct (fun i => sQ σ i (nI 3)) n = wQ σ n := by
    intro n
    induction n with
    | zero => intro _; rfl
    | succ n ih =>
      intro hn
      have := ih (by omega)
      obtain ⟨r, r1, r2⟩ := h n (by omega)
      have sq : ∀ k, k < 4 → sQ σ n (nI k) = (decide (σ 1 n = 2) && decide (r = k)) := by
        intro k hk
        unfold sQ
        rw [r2]
        congr 1
        rw [decide_eq_decide]
        exact nI_eq (by omega) (by omega)
      have st : ∀ k, k < 4 → ct (fun i => sQ σ i (nI k)) (n + 1) = ct (fun i => sQ σ i (nI k)) n + (if (decide (σ 1 n = 2) && decide (r = k)) = true then 1 else 0) := by
        intro k hk
        rw [← sq k hk]
        rfl
      have sw : wQ σ (n + 1) = wQ σ n + (if decide (σ 1 n = 2) = true then 1 else 0) := rfl
      rw [st 0 (by omega), st 1 (by omega), st 2 (by omega), st 3 (by omega), sw]
      by_cases q : σ 1 n = 2
      · rw [decide_eq_true q]
        rcases (show r = 0 ∨ r = 1 ∨ r = 2 ∨ r = 3 by omega) with rfl | rfl | rfl | rfl <;> simp <;> omega
      · rw [decide_eq_false q]
        simp
        omega
  have := key 16 (by omega)
  simp only [aQ, nQ]
  omega
/-! the match, looked for from above -/
def bsd (mt : Nat → Bool) (pr : Nat → Int32) : Nat → Option Nat
  | 0 => none
  | n + 1 => if mt (7 - n) && (match bsd mt pr n with | none => true | some b => decide (pr b ≤ pr (7 - n))) then some (7 - n) else bsd mt pr n
theorem bst_ch {mt : Nat → Bool} {pr : Nat → Int32} : ∀ n, (bst mt pr n = none ∧ ∀ j, j < n → mt j = false) ∨ ∃ b, bst mt pr n = some b ∧ b < n ∧ mt b = true ∧ ∀ j, j < n → mt j = true → (pr j).toInt ≤ (pr b).toInt ∧ ((pr j).toInt = (pr b).toInt → b ≤ j)
  | 0 => Or.inl ⟨rfl, fun j hj => absurd hj (Nat.not_lt_zero j)⟩
  | n + 1 => by
    rcases bst_ch (mt := mt) (pr := pr) n with ⟨h1, h2⟩ | ⟨b, h1, h2, h3, h4⟩
    · cases q : mt n with
      | false =>
        left
        refine ⟨by simp [bst, h1, q], fun j hj => ?_⟩
        by_cases z : j = n
        · rw [z]; exact q
        · exact h2 j (by omega)
      | true =>
        right
        refine ⟨n, by simp [bst, h1, q], by omega, q, fun j hj m => ?_⟩
        by_cases z : j = n
        · rw [z]; exact ⟨Int.le_refl _, fun _ => Nat.le_refl n⟩
        · rw [h2 j (by omega)] at m; cases m
    · right
      by_cases c : (mt n && decide (pr b < pr n)) = true
      · have c2 := c
        simp only [Bool.and_eq_true, decide_eq_true_eq, Int32.lt_iff_toInt_lt] at c2
        refine ⟨n, by simp only [bst, h1]; rw [if_pos c], by omega, c2.1, fun j hj m => ?_⟩
        by_cases z : j = n
        · rw [z]; exact ⟨Int.le_refl _, fun _ => Nat.le_refl n⟩
        · have := h4 j (by omega) m
          exact ⟨by omega, fun y => by omega⟩
      · refine ⟨b, by simp only [bst, h1]; rw [if_neg c], by omega, h3, fun j hj m => ?_⟩
        by_cases z : j = n
        · subst z
          simp only [Bool.and_eq_true, decide_eq_true_eq, Int32.lt_iff_toInt_lt, not_and] at c
          have := c m
          exact ⟨by omega, fun _ => by omega⟩
        · exact h4 j (by omega) m
theorem bsd_ch {mt : Nat → Bool} {pr : Nat → Int32} : ∀ n, n ≤ 8 → (bsd mt pr n = none ∧ ∀ j, 8 - n ≤ j → j < 8 → mt j = false) ∨ ∃ b, bsd mt pr n = some b ∧ 8 - n ≤ b ∧ b < 8 ∧ mt b = true ∧ ∀ j, 8 - n ≤ j → j < 8 → mt j = true → (pr j).toInt ≤ (pr b).toInt ∧ ((pr j).toInt = (pr b).toInt → b ≤ j)
  | 0, _ => Or.inl ⟨rfl, fun j h hj => absurd hj (by omega)⟩
  | n + 1, hn => by
    rcases bsd_ch (mt := mt) (pr := pr) n (by omega) with ⟨h1, h2⟩ | ⟨b, h1, h0, h2, h3, h4⟩
    · cases q : mt (7 - n) with
      | false =>
        left
        refine ⟨by simp [bsd, h1, q], fun j hj hj8 => ?_⟩
        by_cases z : j = 7 - n
        · rw [z]; exact q
        · exact h2 j (by omega) hj8
      | true =>
        right
        refine ⟨7 - n, by simp [bsd, h1, q], by omega, by omega, q, fun j hj hj8 m => ?_⟩
        by_cases z : j = 7 - n
        · rw [z]; exact ⟨Int.le_refl _, fun _ => Nat.le_refl _⟩
        · rw [h2 j (by omega) hj8] at m; cases m
    · right
      by_cases c : (mt (7 - n) && decide (pr b ≤ pr (7 - n))) = true
      · have c2 := c
        simp only [Bool.and_eq_true, decide_eq_true_eq, Int32.le_iff_toInt_le] at c2
        refine ⟨7 - n, by simp only [bsd, h1]; rw [if_pos c], by omega, by omega, c2.1, fun j hj hj8 m => ?_⟩
        by_cases z : j = 7 - n
        · rw [z]; exact ⟨Int.le_refl _, fun _ => Nat.le_refl _⟩
        · have := h4 j (by omega) hj8 m
          exact ⟨by omega, fun y => by omega⟩
      · refine ⟨b, by simp only [bsd, h1]; rw [if_neg c], by omega, h2, h3, fun j hj hj8 m => ?_⟩
        by_cases z : j = 7 - n
        · subst z
          simp only [Bool.and_eq_true, decide_eq_true_eq, Int32.le_iff_toInt_le, not_and] at c
          have := c m
          exact ⟨by omega, fun _ => by omega⟩
        · exact h4 j (by omega) hj8 m
theorem bsd_bst (mt : Nat → Bool) (pr : Nat → Int32) : bsd mt pr 8 = bst mt pr 8 := by
  rcases bsd_ch (mt := mt) (pr := pr) 8 (Nat.le_refl 8) with ⟨h1, h2⟩ | ⟨b, h1, h0, h2, h3, h4⟩
  · rcases bst_ch (mt := mt) (pr := pr) 8 with ⟨k1, k2⟩ | ⟨c, k1, k2, k3, k4⟩
    · rw [h1, k1]
    · rw [h2 c (by omega) k2] at k3; cases k3
  · rcases bst_ch (mt := mt) (pr := pr) 8 with ⟨k1, k2⟩ | ⟨c, k1, k2, k3, k4⟩
    · rw [k2 b h2] at h3; cases h3
    · have p1 := h4 c (by omega) k2 k3
      have p2 := k4 b h2 h3
      have e : b = c := by
        have e9 : (pr c).toInt = (pr b).toInt := by omega
        have := p1.2 e9
        have := p2.2 e9.symm
        omega
      rw [h1, k1, e]
theorem bsd_lt {mt : Nat → Bool} {pr : Nat → Int32} {n b : Nat} (hn : n ≤ 8) (h : bsd mt pr n = some b) : b < 8 ∧ mt b = true := by
  rcases bsd_ch (mt := mt) (pr := pr) n hn with ⟨h1, h2⟩ | ⟨c, h1, h0, h2, h3, h4⟩
  · rw [h1] at h; cases h
  · rw [h1] at h; cases h; exact ⟨h2, h3⟩
