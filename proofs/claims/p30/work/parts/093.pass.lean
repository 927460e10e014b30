/-! THE HOURS -/
theorem nI_ne_m1 {n : Nat} (h : n < 2147483648) : ¬ nI n = -1 := by
  intro q
  have h1 := nI_pos (n := n) (by omega)
  rw [q] at h1
  exact h1 (by decide)
/-- what is known and set stays -/
def KP (σ σ' : Mem) : Prop := (∀ r j, (2 ≤ r ∧ r ≤ 5) ∨ (11 ≤ r ∧ r ≤ 17) ∨ r = 21 → σ' r j = σ r j) ∧ σ' 20 4 = σ 20 4 ∧ σ' 20 5 = σ 20 5
theorem KP.rf {σ : Mem} : KP σ σ := ⟨fun _ _ _ => rfl, rfl, rfl⟩
theorem KP.tr {a b c : Mem} (h : KP a b) (k : KP b c) : KP a c := ⟨fun r j q => (k.1 r j q).trans (h.1 r j q), k.2.1.trans h.2.1, k.2.2.trans h.2.2⟩
theorem KP.chg {i : Nat} {σ σ1 : Mem} {st : Int32} (A : As i σ σ1) : KP σ (sChg σ1 i st) := by
  refine ⟨fun r j q => (sC_r (by omega) (by omega) (by omega) (by omega) j).trans ?_, (sC_20 (by decide)).trans (A.2.2.2 4 (by decide) (by decide)), (sC_20 (by decide)).trans (A.2.2.2 5 (by decide) (by decide))⟩
  rcases Nat.lt_or_ge r 6 with z | z
  · exact A.1 r j (by omega)
  · exact A.2.2.1 r j (by omega) (by omega)
theorem BG.kp {σ σ' : Mem} (h : BG σ σ') : KP σ σ' := ⟨fun r j q => h.1 r j (by omega), h.2.1 4 (by decide), h.2.1 5 (by decide)⟩
theorem KP.fail {i : Nat} {σ : Mem} : KP σ (sFail σ i) := by
  unfold sFail
  by_cases c : σ 20 5 ≤ σ 6 i + 1
  · rw [if_pos c]; exact KP.chg (As.rf.up (by omega))
  · rw [if_neg c]; exact KP.chg ((As.up (r := 6) (k := i) As.rf (by omega)).up (by omega))
theorem KP.wipe {i : Nat} {σ : Mem} : KP σ (sWipe σ i) := KP.chg (As.up (r := 20) (k := 7) As.rf (by omega))
theorem KP.enq {i : Nat} {σ : Mem} : KP σ (sEnq σ i) := KP.chg ((As.up (r := 20) (k := 8) As.rf (by omega)).up (by omega))
theorem sOv_st {σ : Mem} {i : Nat} {st h : Int32} (q : sOv σ i st h = true) : σ 1 i = st := by
  simp only [sOv, Bool.and_eq_true, decide_eq_true_eq] at q
  exact q.1
/-- who isn't over isn't to end in this hour -/
theorem Inv.notOv {P P' : Nat → Nat → Prop} {h N k x : Nat} {σ : Mem} (H : Inv P h N σ) (hh : h < 2000000) (hn : ¬ sOv σ k (nI x) (σ 20 6) = true) (hP : ∀ i s, P i s → P' i s ∨ (i = k ∧ s = x)) : Inv P' h N σ := by
  refine ⟨H.1, fun i hi => ?_, H.2.2⟩
  obtain ⟨s, r, n, a1, a2, a3, a4, a5, a6, a7, a8, a9, a10, a11⟩ := H.2.1 i hi
  refine ⟨s, r, n, a1, a2, a3, a4, a5, a6, a7, a8, a9, a10, fun q => ?_⟩
  obtain ⟨e, b1, b2, b3, b4, b5⟩ := a11 q
  refine ⟨e, b1, b2, b3, b4, fun z => ?_⟩
  rcases hP i s (b5 z) with y | ⟨y1, y2⟩
  · exact y
  · exfalso
    apply hn
    simp only [sOv, Bool.and_eq_true, decide_eq_true_eq]
    rw [← y1, ← y2, H.1, b1, z]
    exact ⟨a2, Int32.le_refl _⟩
def PFO (k : Nat) : Nat → Nat → Prop := fun i s => (s = 3 ∧ k ≤ i) ∨ s = 6 ∨ s = 4
def PWD (k : Nat) : Nat → Nat → Prop := fun i s => (s = 6 ∧ k ≤ i) ∨ s = 4
def PER (k : Nat) : Nat → Nat → Prop := fun i s => s = 4 ∧ k ≤ i
def PN : Nat → Nat → Prop := fun _ _ => False
theorem fo_all {h N : Nat} {σ : Mem} (H : Inv (PFO 0) h N σ) (hh : h < 2000000) (hN : N + 100 < 2000000000) : ∀ k, k ≤ 16 → Inv (PFO k) h (N + k) (sFO σ k) ∧ KP σ (sFO σ k) ∧ (sFO σ k = σ ∨ Ad σ < Ad (sFO σ k))
  | 0, _ => ⟨H, KP.rf, Or.inl rfl⟩
  | k + 1, hk => by
    obtain ⟨i1, i2, i3⟩ := fo_all H hh hN k (by omega)
    simp only [sFO]
    by_cases q : sOv (sFO σ k) k 3 (sFO σ k 20 6) = true
    · rw [if_pos q]
      obtain ⟨⟨j1, j2⟩, -⟩ := i1.fail (P' := PFO (k + 1)) (by omega) (by omega) (sOv_st q) (fun j s hj z => by unfold PFO at z ⊢; omega)
      refine ⟨j1, i2.tr KP.fail, Or.inr ?_⟩
      rcases i3 with z | z
      · rw [j2, z]; omega
      · omega
    · rw [if_neg q]
      refine ⟨(i1.notOv (k := k) (x := 3) hh q (fun i s z => by unfold PFO at z ⊢; omega)).mono (fun _ _ _ z => z) (by omega), i2, i3⟩
theorem wd_all {h N : Nat} {σ : Mem} (H : Inv (PWD 0) h N σ) (hh : h < 2000000) (hN : N + 100 < 2000000000) : ∀ k, k ≤ 16 → Inv (PWD k) h (N + k) (sWD σ k) ∧ KP σ (sWD σ k) ∧ (sWD σ k = σ ∨ Ad σ < Ad (sWD σ k))
  | 0, _ => ⟨H, KP.rf, Or.inl rfl⟩
  | k + 1, hk => by
    obtain ⟨i1, i2, i3⟩ := wd_all H hh hN k (by omega)
    simp only [sWD]
    by_cases q : sOv (sWD σ k) k 6 (sWD σ k 20 6) = true
    · rw [if_pos q]
      obtain ⟨j1, j2⟩ := i1.wipe (P' := PWD (k + 1)) (by omega) (by omega) (Or.inr (sOv_st q)) (fun j s hj z => by unfold PWD at z ⊢; omega)
      refine ⟨j1, i2.tr KP.wipe, Or.inr ?_⟩
      rcases i3 with z | z
      · rw [j2, z]; omega
      · omega
    · rw [if_neg q]
      refine ⟨(i1.notOv (k := k) (x := 6) hh q (fun i s z => by unfold PWD at z ⊢; omega)).mono (fun _ _ _ z => z) (by omega), i2, i3⟩
theorem er_all {h N : Nat} {σ : Mem} (H : Inv (PER 0) h N σ) (hh : h < 2000000) (hN : N + 100 < 2000000000) : ∀ k, k ≤ 16 → Inv (PER k) h (N + k) (sER σ k) ∧ KP σ (sER σ k) ∧ (sER σ k = σ ∨ Ad σ < Ad (sER σ k))
  | 0, _ => ⟨H, KP.rf, Or.inl rfl⟩
  | k + 1, hk => by
    obtain ⟨i1, i2, i3⟩ := er_all H hh hN k (by omega)
    simp only [sER]
    by_cases q : sOv (sER σ k) k 4 (sER σ k 20 6) = true
    · rw [if_pos q]
      obtain ⟨j1, j2⟩ := i1.enq (P' := PER (k + 1)) (by omega) (by omega) (Or.inr (sOv_st q)) (fun j s hj z => by unfold PER at z ⊢; omega)
      refine ⟨j1, i2.tr KP.enq, Or.inr ?_⟩
      rcases i3 with z | z
      · rw [j2, z]; omega
      · omega
    · rw [if_neg q]
      refine ⟨(i1.notOv (k := k) (x := 4) hh q (fun i s z => by unfold PER at z ⊢; omega)).mono (fun _ _ _ z => z) (by omega), i2, i3⟩
/-- nobody is over: nothing happens -/
theorem fo_no {σ : Mem} (h : ∀ i, i < 16 → ¬ sOv σ i 3 (σ 20 6) = true) : ∀ k, k ≤ 16 → sFO σ k = σ
  | 0, _ => rfl
  | k + 1, hk => by
    simp only [sFO]
    rw [fo_no h k (by omega), if_neg (h k (by omega))]
theorem wd_no {σ : Mem} (h : ∀ i, i < 16 → ¬ sOv σ i 6 (σ 20 6) = true) : ∀ k, k ≤ 16 → sWD σ k = σ
  | 0, _ => rfl
  | k + 1, hk => by
    simp only [sWD]
    rw [wd_no h k (by omega), if_neg (h k (by omega))]
theorem er_no {σ : Mem} (h : ∀ i, i < 16 → ¬ sOv σ i 4 (σ 20 6) = true) : ∀ k, k ≤ 16 → sER σ k = σ
  | 0, _ => rfl
  | k + 1, hk => by
    simp only [sER]
    rw [er_no h k (by omega), if_neg (h k (by omega))]
theorem Ad_hour {σ : Mem} {v : Int32} : Ad (up2 σ 20 6 v) = Ad σ := by
  unfold Ad
  rw [up2_o (by omega)]
/-- the hour grows -/
theorem Inv.hour {h N : Nat} {σ : Mem} (H : Inv PN h N σ) : Inv (PFO 0) (h + 1) N (up2 σ 20 6 (nI (h + 1))) := by
  have z : ∀ r j, r ≠ 20 → up2 σ 20 6 (nI (h + 1)) r j = σ r j := fun r j q => up2_o (by omega)
  refine ⟨up2_s _ _ _ _, fun i hi => ?_, H.2.2.1.cong (up2_o (by omega)) (up2_o (by omega)) (fun k => ⟨z 11 k (by omega), z 17 k (by omega)⟩), H.2.2.2.1.same (Nat.le_refl N) (up2_o (by omega)) (fun j => ⟨z 1 j (by omega), z 9 j (by omega)⟩), H.2.2.2.2.cong (Nat.le_refl N) (fun j => z 1 j (by omega)) (fun j => z 22 j (by omega)) (fun j => z 23 j (by omega)) (up2_o (by omega))⟩
  obtain ⟨s, r, n, a1, a2, a3, a4, a5, a6, a7, a8, a9, a10, a11⟩ := H.2.1 i hi
  refine ⟨s, r, n, a1, (z 1 i (by omega)).trans a2, a3, (z 2 i (by omega)).trans a4, (z 6 i (by omega)).trans a5, a6, a7, a8, a9, fun q => ?_, fun q => ?_⟩
  · obtain ⟨k, b1, b2⟩ := a10 q
    exact ⟨k, b1, (z 7 i (by omega)).trans b2⟩
  · obtain ⟨e, b1, b2, b3, b4, b5⟩ := a11 q
    have : ¬ e = h := b5
    exact ⟨e, (z 8 i (by omega)).trans b1, by omega, by omega, fun y => by have := b4 y; omega, fun _ => by unfold PFO; omega⟩
/-- an hour passes -/
theorem pass_all {h N : Nat} {σ : Mem} (H : Inv PN h N σ) (hh : h < 1000000) (hN : N + 200 < 2000000000) (F : Full σ) : Inv PN (h + 1) (N + 112) (sPass σ) ∧ Full (sPass σ) ∧ KP σ (sPass σ) ∧ Ad σ ≤ Ad (sPass σ)
    ∧ ((∀ i, i < 16 → sEnds σ i = true → ¬ σ 8 i = nI (h + 1)) → sPass σ = up2 σ 20 6 (nI (h + 1))) ∧ ((∃ i, i < 16 ∧ sEnds σ i = true ∧ σ 8 i = nI (h + 1)) → Ad σ < Ad (sPass σ)) := by
  have e0 : up2 σ 20 6 (σ 20 6 + 1) = up2 σ 20 6 (nI (h + 1)) := by rw [H.1, nI_1]
  have hp : sPass σ = sBegins (sER (sWD (sFO (up2 σ 20 6 (nI (h + 1))) 16) 16) 16) := by unfold sPass; rw [e0]
  have H0 := H.hour
  have k0 : KP σ (up2 σ 20 6 (nI (h + 1))) := ⟨fun r j q => up2_o (by omega), up2_o (by omega), up2_o (by omega)⟩
  have a0 : Ad (up2 σ 20 6 (nI (h + 1))) = Ad σ := Ad_hour
  have F0 : Full (up2 σ 20 6 (nI (h + 1))) := F.cong (fun r j q => up2_o (by omega))
  generalize hg0 : up2 σ 20 6 (nI (h + 1)) = σ0 at *
  obtain ⟨b1, b2, b3⟩ := fo_all H0 (by omega) (by omega) 16 (by omega)
  have b1 : Inv (PWD 0) (h + 1) (N + 16) (sFO σ0 16) := b1.mono (fun i s hi z => by unfold PFO at z; unfold PWD; omega) (Nat.le_refl _)
  generalize hg1 : sFO σ0 16 = σ1 at *
  obtain ⟨c1, c2, c3⟩ := wd_all b1 (by omega) (by omega) 16 (by omega)
  have c1 : Inv (PER 0) (h + 1) (N + 16 + 16) (sWD σ1 16) := c1.mono (fun i s hi z => by unfold PWD at z; unfold PER; omega) (Nat.le_refl _)
  generalize hg2 : sWD σ1 16 = σ2 at *
  obtain ⟨d1, d2, d3⟩ := er_all c1 (by omega) (by omega) 16 (by omega)
  have d1 : Inv PN (h + 1) (N + 16 + 16 + 16) (sER σ2 16) := d1.mono (fun i s hi z => by unfold PER at z; unfold PN; omega) (Nat.le_refl _)
  generalize hg3 : sER σ2 16 = σ3 at *
  obtain ⟨f1, f2, f3, f4⟩ := begins_all d1 (by omega)
  rw [hp]
  have hm : sBegins σ3 = σ0 ∨ Ad σ0 < Ad (sBegins σ3) := by
    rcases b3 with z1 | z1 <;> rcases c3 with z2 | z2 <;> rcases d3 with z3 | z3 <;> rcases f3 with z4 | z4
    · left; rw [z4, z3, z2, z1]
    all_goals right
    all_goals (try rw [z4]); (try rw [z3] at *); (try rw [z2] at *); (try rw [z1] at *); omega
  refine ⟨f1.mono (fun _ _ _ z => z) (by omega), f4, (((k0.tr b2).tr c2).tr d2).tr f2.kp, ?_, fun q => ?_, fun q => ?_⟩
  · rcases hm with z | z
    · rw [z]; omega
    · omega
  · have no : ∀ i, i < 16 → ∀ x : Nat, (x = 3 ∨ x = 4 ∨ x = 6) → ¬ sOv σ0 i (nI x) (σ0 20 6) = true := by
      intro i hi x hx z
      simp only [sOv, Bool.and_eq_true, decide_eq_true_eq] at z
      obtain ⟨z1, z2⟩ := z
      obtain ⟨s, r, n, a1, a2, -, -, -, -, -, -, -, -, a11⟩ := H0.2.1 i hi
      rw [z1] at a2
      have es : x = s := (nI_eq (by omega) (by omega)).mp a2
      obtain ⟨e, y1, y2, y3, -, -⟩ := a11 (es ▸ hx)
      rw [y1, H0.1, nI_leI (by omega) (by omega)] at z2
      have y4 : e = h + 1 := by omega
      have e8 : σ0 8 i = σ 8 i := by rw [← hg0]; exact up2_o (by omega)
      have e1 : σ0 1 i = σ 1 i := by rw [← hg0]; exact up2_o (by omega)
      refine q i hi ?_ (by rw [← e8, y1, y4])
      unfold sEnds
      rw [← e1, z1]
      rcases hx with rfl | rfl | rfl <;> rfl
    have g1 : σ1 = σ0 := by rw [← hg1]; exact fo_no (fun i hi => no i hi 3 (by omega)) 16 (by omega)
    have g2 : σ2 = σ0 := by rw [← hg2, g1]; exact wd_no (fun i hi => no i hi 6 (by omega)) 16 (by omega)
    have g3 : σ3 = σ0 := by rw [← hg3, g2]; exact er_no (fun i hi => no i hi 4 (by omega)) 16 (by omega)
    rw [g3]
    exact begins_full F0
  · obtain ⟨i, hi, q1, q2⟩ := q
    rcases hm with z | z
    · exfalso
      have e8 : σ0 8 i = σ 8 i := by rw [← hg0]; exact up2_o (by omega)
      have e1 : σ0 1 i = σ 1 i := by rw [← hg0]; exact up2_o (by omega)
      rw [z] at f1
      obtain ⟨s, r, n, a1, a2, -, -, -, -, -, -, -, -, a11⟩ := f1.2.1 i hi
      have hs : s = 3 ∨ s = 4 ∨ s = 6 := by
        unfold sEnds at q1
        simp only [Bool.or_eq_true, decide_eq_true_eq] at q1
        rw [← e1, a2] at q1
        rcases q1 with (y | y) | y
        · exact Or.inl ((nS a1 (c := 3) (by omega)).mp y)
        · exact Or.inr (Or.inl ((nS a1 (c := 4) (by omega)).mp y))
        · exact Or.inr (Or.inr ((nS a1 (c := 6) (by omega)).mp y))
      obtain ⟨e, y1, y2, y3, -, y5⟩ := a11 hs
      rw [e8, q2] at y1
      have : h + 1 = e := (nI_eq (by omega) (by omega)).mp y1
      exact y5 this.symm
    · omega
theorem sAdv_s (σ : Mem) (k : Nat) : sAdv σ (k + 1) = sPass (sAdv σ k) := rfl
theorem sAdv_1 (σ : Mem) : sAdv σ 1 = sPass σ := rfl
/-- hours pass -/
theorem adv_all {h N : Nat} {σ : Mem} (H : Inv PN h N σ) (hh : h < 900000) (hN : N + 30000 < 2000000000) (F : Full σ) : ∀ k, k ≤ 200 → Inv PN (h + k) (N + 112 * k) (sAdv σ k) ∧ Full (sAdv σ k) ∧ KP σ (sAdv σ k) ∧ Ad σ ≤ Ad (sAdv σ k)
  | 0, _ => ⟨H, F, KP.rf, Nat.le_refl _⟩
  | k + 1, hk => by
    obtain ⟨i1, i2, i3, i4⟩ := adv_all H hh hN F k (by omega)
    obtain ⟨j1, j2, j3, j4, -, -⟩ := pass_all i1 (by omega) (by omega) i2
    rw [sAdv_s]
    exact ⟨by rw [show N + 112 * (k + 1) = N + 112 * k + 112 by omega]; exact j1, j2, i3.tr j3, by omega⟩
/-- the hour of the next change -/
theorem nx_all {h N : Nat} {σ : Mem} (H : Inv PN h N σ) (hh : h < 900000) : ∀ k, k ≤ 16 → (sNx σ k = -1 ∧ ∀ i, i < k → ¬ sEnds σ i = true) ∨ ∃ e, sNx σ k = nI e ∧ h < e ∧ e ≤ h + 6200 ∧ (∃ i, i < k ∧ sEnds σ i = true ∧ σ 8 i = nI e) ∧ ∀ i, i < k → sEnds σ i = true → ∃ f, σ 8 i = nI f ∧ e ≤ f ∧ f ≤ h + 6200
  | 0, _ => Or.inl ⟨rfl, fun i hi => absurd hi (Nat.not_lt_zero i)⟩
  | k + 1, hk => by
    have ih := nx_all H hh k (by omega)
    simp only [sNx]
    by_cases q : sEnds σ k = true
    · obtain ⟨s, r, n, a1, a2, -, -, -, -, -, -, -, -, a11⟩ := H.2.1 k (by omega)
      have hs : s = 3 ∨ s = 4 ∨ s = 6 := by
        have q1 := q
        unfold sEnds at q1
        simp only [Bool.or_eq_true, decide_eq_true_eq] at q1
        rw [a2] at q1
        rcases q1 with (y | y) | y
        · exact Or.inl ((nS a1 (c := 3) (by omega)).mp y)
        · exact Or.inr (Or.inl ((nS a1 (c := 4) (by omega)).mp y))
        · exact Or.inr (Or.inr ((nS a1 (c := 6) (by omega)).mp y))
      obtain ⟨f, y1, y2, y3, -, y5⟩ := a11 hs
      have y6 : ¬ f = h := y5
      right
      rcases ih with ⟨i1, i2⟩ | ⟨e, i1, i2, i3, i4, i5⟩
      · rw [i1, q]
        refine ⟨f, by simp [y1], by omega, y3, ⟨k, by omega, q, y1⟩, fun i hi z => ?_⟩
        by_cases x : i = k
        · rw [x]; exact ⟨f, y1, Nat.le_refl f, y3⟩
        · exact absurd z (i2 i (by omega))
      · rw [i1, q, y1]
        have m1 : ¬ nI e = -1 := nI_ne_m1 (by omega)
        by_cases x : f < e
        · have x1 : nI f < nI e := (nI_ltI (by omega) (by omega)).mpr x
          refine ⟨f, by simp [m1, x1], by omega, y3, ⟨k, by omega, q, y1⟩, fun i hi z => ?_⟩
          by_cases w : i = k
          · rw [w]; exact ⟨f, y1, Nat.le_refl f, y3⟩
          · obtain ⟨g, v1, v2, v3⟩ := i5 i (by omega) z
            exact ⟨g, v1, by omega, v3⟩
        · have x1 : ¬ nI f < nI e := fun z => x ((nI_ltI (by omega) (by omega)).mp z)
          obtain ⟨i9, w1, w2, w3⟩ := i4
          refine ⟨e, by simp [m1, x1], i2, i3, ⟨i9, by omega, w2, w3⟩, fun i hi z => ?_⟩
          by_cases w : i = k
          · rw [w]; exact ⟨f, y1, by omega, y3⟩
          · exact i5 i (by omega) z
    · simp only [Bool.not_eq_true] at q
      rw [q]
      rcases ih with ⟨i1, i2⟩ | ⟨e, i1, i2, i3, ⟨i9, w1, w2, w3⟩, i5⟩
      · left
        refine ⟨by simpa using i1, fun i hi => ?_⟩
        by_cases x : i = k
        · rw [x, q]; decide
        · exact i2 i (by omega)
      · right
        refine ⟨e, by simpa using i1, i2, i3, ⟨i9, by omega, w2, w3⟩, fun i hi z => ?_⟩
        by_cases x : i = k
        · rw [x, q] at z; exact absurd z (by decide)
        · exact i5 i (by omega) z
theorem up2_up2 (σ : Mem) (r k : Nat) (v w : Int32) : up2 (up2 σ r k v) r k w = up2 σ r k w := by
  funext a b
  unfold up2
  by_cases q : a = r <;> by_cases z : b = k <;> simp [q, z]
/-- the answer of nextChange (c: hours; none: never), and what each hour brings -/
theorem next_all {h N : Nat} {σ : Mem} (H : Inv PN h N σ) (hh : h < 900000) (hN : N + 30000 < 2000000000) (F : Full σ) : (rNextChange σ = -1 ∧ ∀ k, k < 200 → Ad (sAdv σ (k + 1)) = Ad (sAdv σ k)) ∨ ∃ c, 0 < c ∧ c < 10000 ∧ rNextChange σ = nI c ∧ ∀ k, k < 200 → (k + 1 < c → Ad (sAdv σ (k + 1)) = Ad (sAdv σ k)) ∧ (k + 1 = c → Ad (sAdv σ k) < Ad (sAdv σ (k + 1))) := by
  have quiet : ∀ c, (∀ i, i < 16 → sEnds σ i = true → ∃ f, σ 8 i = nI f ∧ h + c < f ∧ f ≤ h + 6200) → ∀ k, k ≤ c → k ≤ 200 → sAdv σ k = up2 σ 20 6 (nI (h + k)) := by
    intro c hc k
    induction k with
    | zero =>
      intro _ _
      funext a b
      show σ a b = up2 σ 20 6 (nI (h + 0)) a b
      by_cases q : a = 20 ∧ b = 6
      · rw [q.1, q.2, up2_s, H.1, Nat.add_zero]
      · rw [up2_o q]
    | succ k ih =>
      intro h1 h2
      have e := ih (by omega) (by omega)
      obtain ⟨j1, j2, -, -⟩ := adv_all H hh hN F k (by omega)
      obtain ⟨-, -, -, -, j5, -⟩ := pass_all j1 (by omega) (by omega) j2
      rw [sAdv_s, j5 (fun i hi q z => ?_), e, up2_up2, Nat.add_assoc]
      rw [e, up2_o (by omega)] at z
      have q2 : sEnds σ i = true := by
        rw [e] at q
        unfold sEnds at q ⊢
        rw [up2_o (by omega)] at q
        exact q
      obtain ⟨f, x1, x2, x3⟩ := hc i hi q2
      rw [x1] at z
      have := (nI_eq (by omega) (by omega)).mp z
      omega
  rcases nx_all H hh 16 (by omega) with ⟨q1, q2⟩ | ⟨e, q1, q2, q3, ⟨i9, w1, w2, w3⟩, q5⟩
  · left
    refine ⟨by unfold rNextChange; rw [if_pos q1], fun k hk => ?_⟩
    have z := quiet 200 (fun i hi y => absurd y (q2 i hi))
    rw [z (k + 1) (by omega) (by omega), z k (by omega) (by omega), Ad_hour, Ad_hour]
  · right
    have m1 : ¬ nI e = -1 := nI_ne_m1 (by omega)
    refine ⟨e - h, by omega, by omega, by unfold rNextChange; rw [q1, if_neg m1, H.1, pk_sub (by omega)], fun k hk => ?_⟩
    have z := quiet (e - h - 1) (fun i hi y => by
      obtain ⟨f, x1, x2, x3⟩ := q5 i hi y
      exact ⟨f, x1, by omega, x3⟩)
    refine ⟨fun hk2 => ?_, fun hk2 => ?_⟩
    · rw [z (k + 1) (by omega) (by omega), z k (by omega) (by omega), Ad_hour, Ad_hour]
    · obtain ⟨j1, j2, -, -⟩ := adv_all H hh hN F k (by omega)
      obtain ⟨-, -, -, -, -, j6⟩ := pass_all j1 (by omega) (by omega) j2
      rw [sAdv_s]
      refine j6 ⟨i9, w1, ?_, ?_⟩
      · rw [z k (by omega) (by omega)]
        unfold sEnds at w2 ⊢
        rw [up2_o (by omega)]
        exact w2
      · rw [z k (by omega) (by omega), up2_o (by omega), w3]
        congr 1
        omega
/-- what advance answers -/
theorem adv_ans {h N k n : Nat} {σ : Mem} (H : Inv PN h N σ) (hh : h < 900000) (hN : N + 30000 < 2000000000) (F : Full σ) (hk : k + n ≤ 200) : sAdv (sAdv σ k) n 20 9 - sAdv σ k 20 9 = nI (Ad (sAdv σ (k + n)) - Ad (sAdv σ k)) ∧ Ad (sAdv σ k) ≤ Ad (sAdv σ (k + n)) ∧ Ad (sAdv σ (k + n)) ≤ N + 112 * (k + n) := by
  have add : ∀ n, sAdv (sAdv σ k) n = sAdv σ (k + n) := by
    intro n
    induction n with
    | zero => rfl
    | succ n ih => rw [sAdv_s, ih]; rfl
  have le : ∀ n, k + n ≤ 200 → Ad (sAdv σ k) ≤ Ad (sAdv σ (k + n)) := by
    intro n
    induction n with
    | zero => intro _; exact Nat.le_refl _
    | succ n ih =>
      intro h9
      obtain ⟨j1, j2, -, -⟩ := adv_all H hh hN F (k + n) (by omega)
      obtain ⟨-, -, -, j4, -, -⟩ := pass_all j1 (by omega) (by omega) j2
      have := ih (by omega)
      show Ad (sAdv σ k) ≤ Ad (sPass (sAdv σ (k + n)))
      omega
  obtain ⟨i1, -, -, -⟩ := adv_all H hh hN F k (by omega)
  obtain ⟨j1, -, -, -⟩ := adv_all H hh hN F (k + n) (by omega)
  have e1 := i1.ad (by omega)
  have e2 := j1.ad (by omega)
  have e3 := le n hk
  rw [add n, e1.1, e2.1, pk_sub e3]
  exact ⟨rfl, e3, e2.2⟩
