/-! WHAT THE WRAPPERS ANSWER where the numbers are in their bounds -/
theorem w1_0 {k r : Int32} (h : k = 0) : w1 k r = r := by unfold w1; rw [if_pos h]
theorem w2_0 {k r : Int32} (h : k = 0) : w2 k r = r := by unfold w2; rw [if_pos h]
theorem w12_0 {k r : Int32} (h : k = 0) : w12 k r = r := by unfold w12; rw [if_pos h]
theorem w13_0 {k r : Int32} (h : k = 0) : w13 k r = r := by unfold w13; rw [if_pos h]
theorem w123_0 {k r : Int32} (h : k = 0) : w123 k r = r := by unfold w123; rw [if_pos h]
theorem kM_0 {i : Nat} (hi : i < 16) : kM (nI i) = 0 := by unfold kM; rw [if_pos (inB_15 hi)]
theorem wS {σ : Mem} {i : Nat} (hi : i < 16) : w1 (kM (nI i)) (rStateOf σ (nI i)) = σ 1 i := by rw [w1_0 (kM_0 hi)]; unfold rStateOf; rw [ixs hi]
theorem wM {σ : Mem} {i : Nat} (hi : i < 16) : w1 (kM (nI i)) (rMatchOf σ (nI i)) = oI (sBst σ i) := by rw [w1_0 (kM_0 hi)]; unfold rMatchOf; rw [ixs hi]
theorem wF {σ : Mem} {i : Nat} (hi : i < 16) : w1 (kM (nI i)) (rFailuresOf σ (nI i)) = σ 6 i := by rw [w1_0 (kM_0 hi)]; unfold rFailuresOf; rw [ixs hi]
theorem wI {σ : Mem} {i : Nat} (hi : i < 16) : w1 (kM (nI i)) (rImageOf σ (nI i)) = if sBears σ i = true then σ 7 i else -1 := by rw [w1_0 (kM_0 hi)]; unfold rImageOf; rw [ixs hi]
theorem wE {σ : Mem} {i : Nat} (hi : i < 16) : w1 (kM (nI i)) (rEndOf σ (nI i)) = if sEnds σ i = true then σ 8 i else -1 := by rw [w1_0 (kM_0 hi)]; unfold rEndOf; rw [ixs hi]
theorem wR {σ : Mem} {i : Nat} (hi : i < 16) : w1 (kM (nI i)) (rReason σ (nI i)) = if (σ 1 i = 1 ∨ σ 1 i = 2) ∧ (sBst σ i).isSome = false then 2 else sRs (σ 1 i) := by rw [w1_0 (kM_0 hi)]; unfold rReason; rw [ixs hi]
theorem kQ_0 {r p : Nat} (hr : r < 4) (hp : p < 100) : kQueueAt (nI r) (nI p) = 0 := by unfold kQueueAt; rw [if_pos ⟨inB_3 hr, nI_pos (by omega)⟩]
theorem wQa {σ : Mem} {r p : Nat} (hr : r < 4) (hp : p < 100) : w1 (kQueueAt (nI r) (nI p)) (rQueueAt σ (nI r) (nI p)) = oI (sQA σ (nI r) (nI p)) := by rw [w1_0 (kQ_0 hr hp)]; rfl
theorem wN {σ : Mem} {r : Nat} (hr : r < 4) : w1 (kR (nI r)) (rInstalling σ (nI r)) = sIn σ (nI r) := by
  rw [w1_0 (by unfold kR; rw [if_pos (inB_3 hr)])]; rfl
theorem kept_w {N : Nat} {σ : Mem} (H : JN N σ) (hN : N < 2000000000) : ∃ w, w ≤ 40 ∧ sKept σ = nI w ∧ ∀ k, k < w → ∃ m f t, m < 16 ∧ σ 22 k = nI m ∧ σ 23 k = nI f ∧ sSB σ m k = nI t ∧ can f t := by
  obtain ⟨w, a1, a2, a3⟩ := H
  unfold sKept
  rw [a2]
  by_cases q : 40 < w
  · have q2 : (40 : Int32) < nI w := (nI_ltI (a := 40) (by omega) (by omega)).mpr q
    rw [if_pos q2]
    exact ⟨40, by omega, rfl, fun k hk => a3 k hk (by omega)⟩
  · have q2 : ¬ (40 : Int32) < nI w := fun z => q ((nI_ltI (a := 40) (by omega) (by omega)).mp z)
    rw [if_neg q2]
    exact ⟨w, by omega, rfl, fun k hk => a3 k (by omega) hk⟩
theorem wJ {σ : Mem} {k w : Nat} (hw : w ≤ 40) (hkp : sKept σ = nI w) (hk : k < w) : w1 (kMachineAt σ (nI k)) (rMachineAt σ (nI k)) = σ 22 k := by
  rw [w1_0 (by unfold kMachineAt; rw [if_pos ⟨nI_pos (by omega), by rw [hkp]; exact nI_lt hk (by omega)⟩])]
  unfold rMachineAt
  rw [ix_nI (by omega)]
theorem wJ1 {σ : Mem} {w : Nat} (hw : w ≤ 40) (hkp : sKept σ = nI w) : w1 (kMachineAt σ (nI w)) (rMachineAt σ (nI w)) = -1000001 := by
  have e : kMachineAt σ (nI w) = 1 := by unfold kMachineAt; rw [if_neg (fun z => by rw [hkp] at z; exact nI_nlt (Nat.le_refl w) (by omega) z.2)]
  rw [e]; rfl
theorem wJ2 {σ : Mem} : w1 (kMachineAt σ (-1)) (rMachineAt σ (-1)) = -1000001 := by
  have e : kMachineAt σ (-1) = 1 := by unfold kMachineAt; rw [if_neg (fun z => z.1 (by decide))]
  rw [e]; rfl
theorem wB {σ : Mem} {m k w : Nat} (hm : m < 16) (hw : w ≤ 40) (hkp : sKept σ = nI w) (hk : k ≤ w) : w12 (kStateBefore σ (nI m) (nI k)) (rStateBefore σ (nI m) (nI k)) = sSB σ m k := by
  rw [w12_0 (by unfold kStateBefore; rw [if_pos (inB_15 hm), hkp, if_pos (inB_nI (by omega) (by omega))])]
  unfold rStateBefore
  rw [ixs hm, ix_nI (by omega)]
theorem wB1 {σ : Mem} {w : Nat} (hw : w ≤ 40) (hkp : sKept σ = nI w) : w12 (kStateBefore σ 0 (nI (w + 1))) (rStateBefore σ 0 (nI (w + 1))) = -1000002 := by
  have e : kStateBefore σ 0 (nI (w + 1)) = 2 := by
    unfold kStateBefore
    rw [if_pos (by decide), hkp, if_neg (fun z => by
      simp only [inB, Bool.and_eq_true, decide_eq_true_eq] at z
      exact nI_ge (Nat.lt_succ_self w) (by omega) z.2)]
  rw [e]; rfl
theorem wB2 {σ : Mem} : w12 (kStateBefore σ 16 (-1)) (rStateBefore σ 16 (-1)) = -1000001 := by
  have e : kStateBefore σ 16 (-1) = 1 := by unfold kStateBefore; rw [if_neg (by decide)]
  rw [e]; rfl
theorem wQ1 {σ : Mem} : w1 (kQueueAt 4 0) (rQueueAt σ 4 0) = -1000001 := by rw [show kQueueAt 4 0 = 1 by decide]; rfl
theorem wQ2 {σ : Mem} : w1 (kQueueAt 0 (-1)) (rQueueAt σ 0 (-1)) = -1000001 := by rw [show kQueueAt 0 (-1) = 1 by decide]; rfl
theorem wN1 {σ : Mem} : w1 (kR (-1)) (rInstalling σ (-1)) = -1000001 := by rw [show kR (-1) = 1 by decide]; rfl
theorem bears_of {σ : Mem} {i s : Nat} (hs : s ≤ 7) (h : σ 1 i = nI s) : (s = 3 ∨ s = 5 ∨ s = 6 → sBears σ i = true) ∧ (¬ (s = 3 ∨ s = 5 ∨ s = 6) → sBears σ i = false) := by
  unfold sBears
  rw [h]
  rcases (show s = 0 ∨ s = 1 ∨ s = 2 ∨ s = 3 ∨ s = 4 ∨ s = 5 ∨ s = 6 ∨ s = 7 by omega) with rfl | rfl | rfl | rfl | rfl | rfl | rfl | rfl <;> decide
theorem ends_of {σ : Mem} {i s : Nat} (hs : s ≤ 7) (h : σ 1 i = nI s) : (s = 3 ∨ s = 4 ∨ s = 6 → sEnds σ i = true) ∧ (¬ (s = 3 ∨ s = 4 ∨ s = 6) → sEnds σ i = false) := by
  unfold sEnds
  rw [h]
  rcases (show s = 0 ∨ s = 1 ∨ s = 2 ∨ s = 3 ∨ s = 4 ∨ s = 5 ∨ s = 6 ∨ s = 7 by omega) with rfl | rfl | rfl | rfl | rfl | rfl | rfl | rfl <;> decide
theorem bsd_n {mt : Nat → Bool} {pr : Nat → Int32} {n : Nat} (h : mt (7 - n) = false) : bsd mt pr (n + 1) = bsd mt pr n := by
  show (if mt (7 - n) && _ then _ else _) = _
  rw [h, Bool.false_and]; rfl
theorem bsd_0 {mt : Nat → Bool} {pr : Nat → Int32} {n : Nat} (h : mt (7 - n) = true) (hb : bsd mt pr n = none) : bsd mt pr (n + 1) = some (7 - n) := by
  simp only [bsd, hb, h, Bool.true_and, if_pos]
theorem bsd_y {mt : Nat → Bool} {pr : Nat → Int32} {n b : Nat} (h : mt (7 - n) = true) (hb : bsd mt pr n = some b) (hp : pr b ≤ pr (7 - n)) : bsd mt pr (n + 1) = some (7 - n) := by
  simp only [bsd, hb, h, Bool.true_and, decide_eq_true hp, if_pos]
theorem bsd_o {mt : Nat → Bool} {pr : Nat → Int32} {n b : Nat} (hb : bsd mt pr n = some b) (hp : ¬ pr b ≤ pr (7 - n)) : bsd mt pr (n + 1) = some b := by
  simp only [bsd, hb, decide_eq_false hp, Bool.and_false]
  rfl
/-- the law's count downwards -/
def dn (n : Nat) : Int32 := nI (8 - n) + (-1)
theorem dn_lt {n : Nat} (h : n < 8) : dn n = nI (7 - n) := by
  unfold dn
  rw [show 8 - n = (7 - n) + 1 by omega, pk_m1]
theorem dn_s {n : Nat} (h : n < 8) : nI (7 - n) + Int32.ofInt (-1) = dn (n + 1) := by
  unfold dn
  rw [show 8 - (n + 1) = 7 - n by omega]
  rfl
theorem can_le {f t : Nat} (h : can f t) : f ≤ 7 ∧ t ≤ 7 ∧ 0 < t := by unfold can at h; omega
theorem no_entry {σ : Mem} {k m m2 : Nat} (hm : m < 16) (hm2 : m2 < 16) (hne : m2 ≠ m) (h : σ 22 k = nI m) : sSB σ m2 (k + 1) = sSB σ m2 k := by
  show (if σ 22 k = nI m2 then σ 23 k else sSB σ m2 k) = _
  rw [h, if_neg (fun z => hne ((nI_eq (by omega) (by omega)).mp z).symm)]
theorem at_entry {σ : Mem} {k m : Nat} (h : σ 22 k = nI m) : sSB σ m (k + 1) = σ 23 k := by
  show (if σ 22 k = nI m then σ 23 k else sSB σ m k) = _
  rw [h, if_pos rfl]
