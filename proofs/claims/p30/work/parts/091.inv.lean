/-! THE INVARIANT: what holds of the class's numbers -/
theorem sC_r {σ : Mem} {i : Nat} {st : Int32} {a : Nat} (h1 : a ≠ 1) (h20 : a ≠ 20) (h22 : a ≠ 22) (h23 : a ≠ 23) (b : Nat) : sChg σ i st a b = σ a b := by simp [sChg, sAdd, sh, up2, h1, h20, h22, h23]
theorem sC_1 {σ : Mem} {i : Nat} {st : Int32} (j : Nat) : sChg σ i st 1 j = if j = i then st else σ 1 j := by simp [sChg, sAdd, sh, up2]
theorem sC_1i {σ : Mem} {i : Nat} {st : Int32} : sChg σ i st 1 i = st := by rw [sC_1, if_pos rfl]
theorem sC_1n {σ : Mem} {i j : Nat} {st : Int32} (h : j ≠ i) : sChg σ i st 1 j = σ 1 j := by rw [sC_1, if_neg h]
theorem sC_20 {σ : Mem} {i : Nat} {st : Int32} {b : Nat} (h : b ≠ 9) : sChg σ i st 20 b = σ 20 b := by simp [sChg, sAdd, sh, up2, h]
theorem sC_209 {σ : Mem} {i : Nat} {st : Int32} : sChg σ i st 20 9 = σ 20 9 + 1 := by simp [sChg, sAdd, sh, up2]
theorem up2_o {σ : Mem} {r k a b : Nat} {v : Int32} (h : ¬ (a = r ∧ b = k)) : up2 σ r k v a b = σ a b := by
  unfold up2
  by_cases q : a = r
  · rw [if_pos q, if_neg (fun z => h ⟨q, z⟩)]
  · rw [if_neg q]
theorem ix2 {n : Nat} (h : n < 2000000100) : ix (nI n) = n := ix_nI (by omega)
/-- a machine: s its state, r its rack, n its failures; h the hour; P who may end in this very hour -/
def MO (P : Nat → Nat → Prop) (h : Nat) (σ : Mem) (i : Nat) : Prop := ∃ s r n : Nat, s ≤ 7 ∧ σ 1 i = nI s ∧ r < 4 ∧ σ 2 i = nI r ∧ σ 6 i = nI n ∧ n ≤ 9 ∧ (s ≠ 7 → n ≤ 8) ∧ (s = 0 ∨ s = 5 ∨ s = 6 → n = 0) ∧ (s = 4 ∨ s = 7 → 0 < n) ∧ (s = 3 ∨ s = 5 ∨ s = 6 → ∃ k, k < 8 ∧ σ 7 i = nI k) ∧ (s = 3 ∨ s = 4 ∨ s = 6 → ∃ e, σ 8 i = nI e ∧ h ≤ e ∧ e ≤ h + 6200 ∧ (s ≠ 4 → e ≤ h + 48) ∧ (e = h → P i s))
theorem MO.cong {P P' : Nat → Nat → Prop} {h i : Nat} {σ σ' : Mem} (hm : MO P h σ i) (e1 : σ' 1 i = σ 1 i) (e2 : σ' 2 i = σ 2 i) (e6 : σ' 6 i = σ 6 i) (e7 : σ' 7 i = σ 7 i) (e8 : σ' 8 i = σ 8 i) (hP : ∀ s, P i s → P' i s) : MO P' h σ' i := by
  obtain ⟨s, r, n, a1, a2, a3, a4, a5, a6, a7, a8, a9, a10, a11⟩ := hm
  refine ⟨s, r, n, a1, e1.trans a2, a3, e2.trans a4, e6.trans a5, a6, a7, a8, a9, fun q => ?_, fun q => ?_⟩
  · obtain ⟨k, b1, b2⟩ := a10 q
    exact ⟨k, b1, e7.trans b2⟩
  · obtain ⟨e, b1, b2, b3, b4, b5⟩ := a11 q
    exact ⟨e, e8.trans b1, b2, b3, b4, fun z => hP s (b5 z)⟩
/-- what is set -/
def CF (σ : Mem) : Prop := (∃ f, 1 ≤ f ∧ f ≤ 24 ∧ σ 20 4 = nI f) ∧ (∃ q, 1 ≤ q ∧ q ≤ 9 ∧ σ 20 5 = nI q) ∧ ∀ k, k < 8 → ¬ σ 11 k = 0 → ∃ t, 1 ≤ t ∧ t ≤ 24 ∧ σ 17 k = nI t
theorem CF.cong {σ σ' : Mem} (h : CF σ) (e4 : σ' 20 4 = σ 20 4) (e5 : σ' 20 5 = σ 20 5) (e : ∀ k, σ' 11 k = σ 11 k ∧ σ' 17 k = σ 17 k) : CF σ' := by
  refine ⟨?_, ?_, fun k hk => ?_⟩
  · rw [e4]; exact h.1
  · rw [e5]; exact h.2.1
  · rw [(e k).1, (e k).2]; exact h.2.2 k hk
/-- the tickets of who is QUEUED -/
def TKs (N : Nat) (σ : Mem) : Prop := ∃ T, T ≤ N ∧ σ 20 8 = nI T ∧ (∀ i, i < 16 → σ 1 i = 2 → ∃ t, t ≤ T ∧ σ 9 i = nI t) ∧ ∀ i j, i < 16 → j < 16 → σ 1 i = 2 → σ 1 j = 2 → σ 9 i = σ 9 j → i = j
theorem TKs.out {N i : Nat} {σ σ' : Mem} (h : TKs N σ) (e20 : σ' 20 8 = σ 20 8) (ei : ¬ σ' 1 i = 2) (ej : ∀ j, j ≠ i → σ' 1 j = σ 1 j ∧ σ' 9 j = σ 9 j) : TKs (N + 1) σ' := by
  obtain ⟨T, a1, a2, a3, a4⟩ := h
  have ne : ∀ j, σ' 1 j = 2 → j ≠ i := fun j q z => ei (by rw [← z]; exact q)
  refine ⟨T, by omega, e20.trans a2, fun j hj q => ?_, fun j k hj hk q1 q2 q3 => ?_⟩
  · have e := ej j (ne j q)
    obtain ⟨t, b1, b2⟩ := a3 j hj (by rw [← e.1]; exact q)
    exact ⟨t, b1, e.2.trans b2⟩
  · have e := ej j (ne j q1)
    have f := ej k (ne k q2)
    exact a4 j k hj hk (by rw [← e.1]; exact q1) (by rw [← f.1]; exact q2) (by rw [← e.2, ← f.2]; exact q3)
theorem TKs.inn {N i : Nat} {σ σ' : Mem} (h : TKs N σ) (hN : N < 2000000000) (e20 : σ' 20 8 = σ 20 8 + 1) (ei : σ' 9 i = σ 20 8 + 1) (ej : ∀ j, j ≠ i → σ' 1 j = σ 1 j ∧ σ' 9 j = σ 9 j) : TKs (N + 1) σ' := by
  obtain ⟨T, a1, a2, a3, a4⟩ := h
  have far : ∀ j, j < 16 → j ≠ i → σ' 1 j = 2 → ¬ σ' 9 j = σ' 9 i := by
    intro j hj hne q z
    have e := ej j hne
    obtain ⟨t, b1, b2⟩ := a3 j hj (by rw [← e.1]; exact q)
    rw [e.2, b2, ei, a2, nI_1] at z
    have := (nI_eq (by omega) (by omega)).mp z
    omega
  refine ⟨T + 1, by omega, by rw [e20, a2, nI_1], fun j hj q => ?_, fun j k hj hk q1 q2 q3 => ?_⟩
  · by_cases z : j = i
    · exact ⟨T + 1, by omega, by rw [z, ei, a2, nI_1]⟩
    · have e := ej j z
      obtain ⟨t, b1, b2⟩ := a3 j hj (by rw [← e.1]; exact q)
      exact ⟨t, by omega, e.2.trans b2⟩
  · by_cases z : j = i
    · by_cases y : k = i
      · rw [z, y]
      · exact absurd (by rw [← z]; exact q3.symm) (far k hk y q2)
    · by_cases y : k = i
      · exact absurd (by rw [← y]; exact q3) (far j hj z q1)
      · have e := ej j z
        have f := ej k y
        exact a4 j k hj hk (by rw [← e.1]; exact q1) (by rw [← f.1]; exact q2) (by rw [← e.2, ← f.2]; exact q3)
theorem TKs.same {N N' : Nat} {σ σ' : Mem} (h : TKs N σ) (hN : N ≤ N') (e20 : σ' 20 8 = σ 20 8) (e : ∀ j, σ' 1 j = σ 1 j ∧ σ' 9 j = σ 9 j) : TKs N' σ' := by
  obtain ⟨T, a1, a2, a3, a4⟩ := h
  refine ⟨T, by omega, e20.trans a2, fun j hj q => ?_, fun j k hj hk q1 q2 q3 => ?_⟩
  · rw [(e j).2]; exact a3 j hj (by rw [← (e j).1]; exact q)
  · exact a4 j k hj hk (by rw [← (e j).1]; exact q1) (by rw [← (e k).1]; exact q2) (by rw [← (e j).2, ← (e k).2]; exact q3)
/-- the steps from a state to another -/
def can (f t : Nat) : Prop := (f = 0 ∧ t = 1) ∨ (f = 1 ∧ t = 2) ∨ (f = 2 ∧ (t = 1 ∨ t = 3)) ∨ (f = 3 ∧ (t = 4 ∨ t = 5 ∨ t = 7)) ∨ (f = 4 ∧ (t = 1 ∨ t = 2)) ∨ (f = 5 ∧ (t = 1 ∨ t = 6)) ∨ (f = 6 ∧ (t = 1 ∨ t = 5)) ∨ (f = 7 ∧ t = 1)
/-- the journal -/
def JN (N : Nat) (σ : Mem) : Prop := ∃ w, w ≤ N ∧ σ 20 9 = nI w ∧ ∀ k, k < 40 → k < w → ∃ m f t, m < 16 ∧ σ 22 k = nI m ∧ σ 23 k = nI f ∧ sSB σ m k = nI t ∧ can f t
theorem sSB_cong {σ σ' : Mem} (m : Nat) (e1 : σ' 1 m = σ 1 m) (e22 : ∀ j, σ' 22 j = σ 22 j) (e23 : ∀ j, σ' 23 j = σ 23 j) : ∀ k, sSB σ' m k = sSB σ m k
  | 0 => e1
  | k + 1 => by
    show (if σ' 22 k = nI m then σ' 23 k else sSB σ' m k) = (if σ 22 k = nI m then σ 23 k else sSB σ m k)
    rw [e22, e23, sSB_cong m e1 e22 e23 k]
theorem JN.cong {N N' : Nat} {σ σ' : Mem} (h : JN N σ) (hN : N ≤ N') (e1 : ∀ j, σ' 1 j = σ 1 j) (e22 : ∀ j, σ' 22 j = σ 22 j) (e23 : ∀ j, σ' 23 j = σ 23 j) (e9 : σ' 20 9 = σ 20 9) : JN N' σ' := by
  obtain ⟨w, a1, a2, a3⟩ := h
  refine ⟨w, by omega, e9.trans a2, fun k hk hw => ?_⟩
  obtain ⟨m, f, t, b1, b2, b3, b4, b5⟩ := a3 k hk hw
  exact ⟨m, f, t, b1, (e22 k).trans b2, (e23 k).trans b3, (sSB_cong m (e1 m) e22 e23 k).trans b4, b5⟩
theorem j22_0 {σ : Mem} {i : Nat} {st : Int32} : sChg σ i st 22 0 = nI i := by simp [sChg, sAdd, sh, up2]
theorem j23_0 {σ : Mem} {i : Nat} {st : Int32} : sChg σ i st 23 0 = σ 1 i := by simp [sChg, sAdd, sh, up2]
theorem j22_s {σ : Mem} {i : Nat} {st : Int32} {k : Nat} (h : k + 1 < 40) : sChg σ i st 22 (k + 1) = σ 22 k := by
  have e : sChg σ i st 22 (k + 1) = sh σ 1 22 (k + 1) := by simp [sChg, sAdd, up2]
  rw [e]
  unfold sh
  rw [if_pos (Or.inl rfl), if_pos ⟨by omega, h⟩, Nat.add_sub_cancel]
theorem j23_s {σ : Mem} {i : Nat} {st : Int32} {k : Nat} (h : k + 1 < 40) : sChg σ i st 23 (k + 1) = σ 23 k := by
  have e : sChg σ i st 23 (k + 1) = sh σ 1 23 (k + 1) := by simp [sChg, sAdd, up2]
  rw [e]
  unfold sh
  rw [if_pos (Or.inr rfl), if_pos ⟨by omega, h⟩, Nat.add_sub_cancel]
theorem sSB_chg {σ : Mem} {i m : Nat} {st : Int32} (hi : i < 16) (hm : m < 16) : ∀ k, k ≤ 39 → sSB (sChg σ i st) m (k + 1) = sSB σ m k
  | 0, _ => by
    show (if sChg σ i st 22 0 = nI m then sChg σ i st 23 0 else sChg σ i st 1 m) = σ 1 m
    rw [j22_0, j23_0]
    by_cases q : i = m
    · subst q; rw [if_pos rfl]
    · rw [if_neg (fun z => q ((nI_eq (by omega) (by omega)).mp z)), sC_1n (Ne.symm q)]
  | k + 1, hk => by
    show (if sChg σ i st 22 (k + 1) = nI m then sChg σ i st 23 (k + 1) else sSB (sChg σ i st) m (k + 1)) = (if σ 22 k = nI m then σ 23 k else sSB σ m k)
    rw [j22_s (by omega), j23_s (by omega), sSB_chg hi hm k (by omega)]
theorem JN.chg {N i f t : Nat} {σ : Mem} {st : Int32} (h : JN N σ) (hi : i < 16) (hf : σ 1 i = nI f) (ht : st = nI t) (hc : can f t) : JN (N + 1) (sChg σ i st) := by
  obtain ⟨w, a1, a2, a3⟩ := h
  refine ⟨w + 1, by omega, by rw [sC_209, a2, nI_1], fun k hk hw => ?_⟩
  rcases k with _ | k
  · exact ⟨i, f, t, hi, j22_0, j23_0.trans hf, (show sChg σ i st 1 i = nI t from sC_1i.trans ht), hc⟩
  · obtain ⟨m, f9, t9, b1, b2, b3, b4, b5⟩ := a3 k (by omega) (by omega)
    exact ⟨m, f9, t9, b1, (j22_s hk).trans b2, (j23_s hk).trans b3, (sSB_chg hi b1 k (by omega)).trans b4, b5⟩
/-- all of it: the hour is h; N bounds tickets and entries -/
def Inv (P : Nat → Nat → Prop) (h N : Nat) (σ : Mem) : Prop := σ 20 6 = nI h ∧ (∀ i, i < 16 → MO P h σ i) ∧ CF σ ∧ TKs N σ ∧ JN N σ
def Ad (σ : Mem) : Nat := ix (σ 20 9)
theorem Inv.ad {P : Nat → Nat → Prop} {h N : Nat} {σ : Mem} (H : Inv P h N σ) (hN : N < 2000000000) : σ 20 9 = nI (Ad σ) ∧ Ad σ ≤ N := by
  obtain ⟨w, a1, a2, -⟩ := H.2.2.2.2
  have e : Ad σ = w := by unfold Ad; rw [a2]; exact ix2 (by omega)
  exact ⟨by rw [e]; exact a2, by omega⟩
theorem Inv.mono {P P' : Nat → Nat → Prop} {h N N' : Nat} {σ : Mem} (H : Inv P h N σ) (hP : ∀ i s, i < 16 → P i s → P' i s) (hN : N ≤ N') : Inv P' h N' σ :=
  ⟨H.1, fun i hi => (H.2.1 i hi).cong rfl rfl rfl rfl rfl (fun s => hP i s hi), H.2.2.1, H.2.2.2.1.same hN rfl (fun _ => ⟨rfl, rfl⟩), H.2.2.2.2.cong hN (fun _ => rfl) (fun _ => rfl) (fun _ => rfl) rfl⟩
/-- of machine i, failures, image, end and ticket may be other ones; and the wipes, and the tickets drawn -/
def As (i : Nat) (σ σ1 : Mem) : Prop := (∀ r j, r ≤ 5 → σ1 r j = σ r j) ∧ (∀ r j, r ≤ 9 → j ≠ i → σ1 r j = σ r j) ∧ (∀ r j, 10 ≤ r → r ≠ 20 → σ1 r j = σ r j) ∧ ∀ j, j ≠ 7 → j ≠ 8 → σ1 20 j = σ 20 j
theorem As.rf {i : Nat} {σ : Mem} : As i σ σ := ⟨fun _ _ _ => rfl, fun _ _ _ _ => rfl, fun _ _ _ _ => rfl, fun _ _ _ => rfl⟩
theorem As.up {i r k : Nat} {σ σ1 : Mem} {v : Int32} (A : As i σ σ1) (hk : (6 ≤ r ∧ r ≤ 9 ∧ k = i) ∨ (r = 20 ∧ (k = 7 ∨ k = 8))) : As i σ (up2 σ1 r k v) :=
  ⟨fun a j h => (up2_o (by omega)).trans (A.1 a j h), fun a j h1 h2 => (up2_o (by omega)).trans (A.2.1 a j h1 h2), fun a j h1 h2 => (up2_o (by omega)).trans (A.2.2.1 a j h1 h2), fun j h1 h2 => (up2_o (by omega)).trans (A.2.2.2 j h1 h2)⟩
/-- a change of state -/
theorem Inv.chg {P P' : Nat → Nat → Prop} {h N i f t : Nat} {σ σ1 : Mem} {st : Int32} (H : Inv P h N σ) (hi : i < 16) (hN : N < 2000000000) (A : As i σ σ1) (hf : σ 1 i = nI f) (hst : st = nI t) (hc : can f t) (hP : ∀ j s, j ≠ i → P j s → P' j s)
    (ht : (¬ st = 2 ∧ σ1 20 8 = σ 20 8) ∨ (σ1 20 8 = σ 20 8 + 1 ∧ σ1 9 i = σ 20 8 + 1)) (hm : MO P' h (sChg σ1 i st) i) : Inv P' h (N + 1) (sChg σ1 i st) ∧ Ad (sChg σ1 i st) = Ad σ + 1 := by
  obtain ⟨h1, h2, h3, h4, h5⟩ := id H
  obtain ⟨a1, a2, a3, a4⟩ := A
  have z : ∀ r j, (2 ≤ r ∧ r ≤ 9) → j ≠ i → sChg σ1 i st r j = σ r j := fun r j hr hj => (sC_r (by omega) (by omega) (by omega) (by omega) j).trans (a2 r j (by omega) hj)
  have z1 : ∀ j, j ≠ i → sChg σ1 i st 1 j = σ 1 j := fun j hj => (sC_1n hj).trans (a1 1 j (by omega))
  refine ⟨⟨(sC_20 (by decide)).trans ((a4 6 (by decide) (by decide)).trans h1), fun j hj => ?_, ?_, ?_, ?_⟩, ?_⟩
  · by_cases q : j = i
    · subst q; exact hm
    · exact (h2 j hj).cong (z1 j q) (z 2 j (by omega) q) (z 6 j (by omega) q) (z 7 j (by omega) q) (z 8 j (by omega) q) (fun s => hP j s q)
  · exact h3.cong ((sC_20 (by decide)).trans (a4 4 (by decide) (by decide))) ((sC_20 (by decide)).trans (a4 5 (by decide) (by decide))) (fun k => ⟨(sC_r (by decide) (by decide) (by decide) (by decide) k).trans (a3 11 k (by decide) (by decide)), (sC_r (by decide) (by decide) (by decide) (by decide) k).trans (a3 17 k (by decide) (by decide))⟩)
  · have ej : ∀ j, j ≠ i → sChg σ1 i st 1 j = σ 1 j ∧ sChg σ1 i st 9 j = σ 9 j := fun j q => ⟨z1 j q, z 9 j (by omega) q⟩
    rcases ht with ⟨q1, q2⟩ | ⟨q1, q2⟩
    · exact h4.out (i := i) ((sC_20 (by decide)).trans q2) (by rw [sC_1i]; exact q1) ej
    · exact h4.inn (i := i) hN ((sC_20 (by decide)).trans q1) ((sC_r (by decide) (by decide) (by decide) (by decide) i).trans q2) ej
  · have hj : JN N σ1 := h5.cong (Nat.le_refl N) (fun j => a1 1 j (by omega)) (fun j => a3 22 j (by decide) (by decide)) (fun j => a3 23 j (by decide) (by decide)) (a4 9 (by decide) (by decide))
    exact hj.chg hi ((a1 1 i (by omega)).trans hf) hst hc
  · have e := H.ad hN
    unfold Ad at e ⊢
    rw [sC_209, a4 9 (by decide) (by decide), e.1, nI_1, ix2 (by omega), ix2 (by omega)]
theorem nS {s c : Nat} (hs : s ≤ 7) (hc : c ≤ 7) : nI s = nI c ↔ s = c := nI_eq (by omega) (by omega)
/-- a machine is IDLE -/
theorem Inv.idle {P P' : Nat → Nat → Prop} {h N i n : Nat} {σ σ1 : Mem} (H : Inv P h N σ) (hi : i < 16) (hN : N < 2000000000) (A : As i σ σ1) (hs : σ 1 i = 0 ∨ σ 1 i = 2 ∨ σ 1 i = 4 ∨ σ 1 i = 5 ∨ σ 1 i = 6 ∨ σ 1 i = 7) (h6 : σ1 6 i = nI n) (hn : n ≤ 8) (e8 : σ1 20 8 = σ 20 8) (hP : ∀ j s, j ≠ i → P j s → P' j s) : Inv P' h (N + 1) (sChg σ1 i 1) ∧ Ad (sChg σ1 i 1) = Ad σ + 1 := by
  obtain ⟨s, r, n9, a1, a2, a3, a4, -⟩ := H.2.1 i hi
  have hc : can s 1 := by
    unfold can
    rw [a2] at hs
    rcases hs with q | q | q | q | q | q
    · have := (nS a1 (c := 0) (by omega)).mp q; omega
    · have := (nS a1 (c := 2) (by omega)).mp q; omega
    · have := (nS a1 (c := 4) (by omega)).mp q; omega
    · have := (nS a1 (c := 5) (by omega)).mp q; omega
    · have := (nS a1 (c := 6) (by omega)).mp q; omega
    · have := (nS a1 (c := 7) (by omega)).mp q; omega
  refine H.chg hi hN A a2 (t := 1) rfl hc hP (Or.inl ⟨by decide, e8⟩) ?_
  exact ⟨1, r, n, by omega, sC_1i, a3, (sC_r (by decide) (by decide) (by decide) (by decide) i).trans ((A.1 2 i (by omega)).trans a4), (sC_r (by decide) (by decide) (by decide) (by decide) i).trans h6, by omega, fun _ => hn, fun q => absurd q (by omega), fun q => absurd q (by omega), fun q => absurd q (by omega), fun q => absurd q (by omega)⟩
/-- an installation fails -/
theorem Inv.fail {P P' : Nat → Nat → Prop} {h N i : Nat} {σ : Mem} (H : Inv P h N σ) (hi : i < 16) (hN : N < 2000000000) (hs : σ 1 i = 3) (hP : ∀ j s, j ≠ i → P j s → P' j s) : (Inv P' h (N + 1) (sFail σ i) ∧ Ad (sFail σ i) = Ad σ + 1) ∧ sFail σ i 6 i = σ 6 i + 1 ∧ sFail σ i 1 i = (if σ 20 5 ≤ σ 6 i + 1 then 7 else 4) := by
  obtain ⟨s, r, n, a1, a2, a3, a4, a5, a6, a7, -⟩ := H.2.1 i hi
  obtain ⟨⟨f, f1, f2, f3⟩, ⟨q, q1, q2, q3⟩, -⟩ := H.2.2.1
  have es : s = 3 := (nS a1 (c := 3) (by omega)).mp (by rw [← a2]; exact hs)
  subst es
  have hn : n ≤ 8 := a7 (by decide)
  have A : As i σ (up2 σ 6 i (σ 6 i + 1)) := As.rf.up (by omega)
  unfold sFail
  by_cases c : σ 20 5 ≤ σ 6 i + 1
  · rw [if_pos c, if_pos c]
    refine ⟨H.chg hi hN A a2 (t := 7) rfl (by unfold can; omega) hP (Or.inl ⟨by decide, up2_o (by omega)⟩) ?_, ?_, sC_1i⟩
    · refine ⟨7, r, n + 1, by omega, sC_1i, a3, (sC_r (by decide) (by decide) (by decide) (by decide) i).trans ((A.1 2 i (by omega)).trans a4), ?_, by omega, fun z => absurd rfl z, fun z => absurd z (by omega), fun _ => by omega, fun z => absurd z (by omega), fun z => absurd z (by omega)⟩
      rw [sC_r (by decide) (by decide) (by decide) (by decide), up2_s, a5, nI_1]
    · rw [sC_r (by decide) (by decide) (by decide) (by decide), up2_s]
  · rw [if_neg c, if_neg c]
    have hn7 : n + 1 < q := by
      rw [q3, a5, nI_1, nI_leI (by omega) (by omega)] at c
      omega
    have hb : 2 ^ n ≤ 128 := by
      have := Nat.pow_le_pow_right (n := 2) (by decide) (show n ≤ 7 by omega)
      simpa using this
    have hb0 : 0 < 2 ^ n := Nat.pow_pos (by decide)
    have hfb : f * 2 ^ n ≤ 24 * 128 := Nat.mul_le_mul f2 hb
    have hf0 : 0 < f * 2 ^ n := Nat.mul_pos (by omega) hb0
    have ee : σ 20 6 + (σ 20 4 <<< ((σ 6 i + 1 - 1) &&& 31)) = nI (h + f * 2 ^ n) := by
      rw [H.1, f3, a5, nI_1, nI_pred, pk_shlN (n := f) (nI n &&& 31) n (s_l n (by omega)) (by omega), nI_add]
    have A2 : As i σ (up2 (up2 σ 6 i (σ 6 i + 1)) 8 i (σ 20 6 + (σ 20 4 <<< ((σ 6 i + 1 - 1) &&& 31)))) := A.up (by omega)
    have e6 : sChg (up2 (up2 σ 6 i (σ 6 i + 1)) 8 i (σ 20 6 + (σ 20 4 <<< ((σ 6 i + 1 - 1) &&& 31)))) i 4 6 i = σ 6 i + 1 := by
      rw [sC_r (by decide) (by decide) (by decide) (by decide), up2_o (by omega), up2_s]
    refine ⟨H.chg hi hN A2 a2 (t := 4) rfl (by unfold can; omega) hP (Or.inl ⟨by decide, (up2_o (by omega)).trans (up2_o (by omega))⟩) ?_, e6, sC_1i⟩
    refine ⟨4, r, n + 1, by omega, sC_1i, a3, (sC_r (by decide) (by decide) (by decide) (by decide) i).trans ((A2.1 2 i (by omega)).trans a4), by rw [e6, a5, nI_1], by omega, fun _ => by omega, fun z => absurd z (by omega), fun _ => by omega, fun z => absurd z (by omega), fun _ => ⟨h + f * 2 ^ n, ?_, by omega, by omega, fun z => absurd rfl z, fun z => absurd z (by omega)⟩⟩
    rw [sC_r (by decide) (by decide) (by decide) (by decide), up2_s, ee]
/-- a machine is QUEUED -/
theorem Inv.enq {P P' : Nat → Nat → Prop} {h N i : Nat} {σ : Mem} (H : Inv P h N σ) (hi : i < 16) (hN : N < 2000000000) (hs : σ 1 i = 1 ∨ σ 1 i = 4) (hP : ∀ j s, j ≠ i → P j s → P' j s) : Inv P' h (N + 1) (sEnq σ i) ∧ Ad (sEnq σ i) = Ad σ + 1 := by
  obtain ⟨s, r, n, a1, a2, a3, a4, a5, a6, a7, -⟩ := H.2.1 i hi
  have hs2 : s = 1 ∨ s = 4 := by
    rw [a2] at hs
    exact hs.imp (fun q => (nS a1 (c := 1) (by omega)).mp q) (fun q => (nS a1 (c := 4) (by omega)).mp q)
  have A : As i σ (up2 (sDraw σ) 9 i (σ 20 8 + 1)) := (As.up (r := 20) (k := 8) As.rf (by omega)).up (by omega)
  refine H.chg hi hN A a2 (t := 2) rfl (by unfold can; omega) hP (Or.inr ⟨(up2_o (by omega)).trans (up2_s _ _ _ _), up2_s _ _ _ _⟩) ?_
  exact ⟨2, r, n, by omega, sC_1i, a3, (sC_r (by decide) (by decide) (by decide) (by decide) i).trans ((A.1 2 i (by omega)).trans a4), (sC_r (by decide) (by decide) (by decide) (by decide) i).trans (((up2_o (by omega)).trans (up2_o (by omega))).trans a5), a6, fun _ => a7 (by omega), fun q => absurd q (by omega), fun q => absurd q (by omega), fun q => absurd q (by omega), fun q => absurd q (by omega)⟩
theorem Inv.wipe {P P' : Nat → Nat → Prop} {h N i : Nat} {σ : Mem} (H : Inv P h N σ) (hi : i < 16) (hN : N < 2000000000) (hs : σ 1 i = 5 ∨ σ 1 i = 6) (hP : ∀ j s, j ≠ i → P j s → P' j s) : Inv P' h (N + 1) (sWipe σ i) ∧ Ad (sWipe σ i) = Ad σ + 1 := by
  obtain ⟨s, r, n, a1, a2, a3, a4, a5, a6, a7, -⟩ := H.2.1 i hi
  have hs2 : s = 5 ∨ s = 6 := by
    rw [a2] at hs
    exact hs.imp (fun q => (nS a1 (c := 5) (by omega)).mp q) (fun q => (nS a1 (c := 6) (by omega)).mp q)
  exact H.idle hi hN (n := n) (As.up (r := 20) (k := 7) As.rf (by omega)) (hs.elim (fun q => Or.inr (Or.inr (Or.inr (Or.inl q)))) (fun q => Or.inr (Or.inr (Or.inr (Or.inr (Or.inl q)))))) ((up2_o (by omega)).trans a5) (a7 (by omega)) (up2_o (by omega)) hP
theorem bst_mt {mt : Nat → Bool} {pr : Nat → Int32} : ∀ {n b : Nat}, bst mt pr n = some b → mt b = true
  | 0, b, h => by simp [bst] at h
  | n + 1, b, h => by
    simp only [bst] at h
    cases hf : bst mt pr n with
    | none =>
      rw [hf] at h
      by_cases hp : mt n = true
      · simp [hp] at h; subst h; exact hp
      · simp [hp] at h
    | some j =>
      rw [hf] at h
      have hj := bst_mt hf
      by_cases hp : (mt n && decide (pr j < pr n)) = true
      · simp only [hp] at h
        simp at h
        subst h
        simp only [Bool.and_eq_true] at hp
        exact hp.1
      · simp only [hp] at h
        simp at h
        subst h
        exact hj
/-- the first of a queue begins -/
theorem Inv.beg {P : Nat → Nat → Prop} {h N i : Nat} {σ : Mem} (H : Inv P h N σ) (hi : i < 16) (hN : N < 2000000000) (hs : σ 1 i = 2) : Inv P h (N + 1) (sBeg σ i) ∧ Ad (sBeg σ i) = Ad σ + 1 := by
  obtain ⟨s, r, n, a1, a2, a3, a4, a5, a6, a7, -⟩ := H.2.1 i hi
  have es : s = 2 := (nS a1 (c := 2) (by omega)).mp (by rw [← a2]; exact hs)
  subst es
  cases ho : sBst σ i with
  | none =>
    rw [sBeg_none ho]
    exact H.idle hi hN As.rf (Or.inr (Or.inl hs)) a5 (a7 (by decide)) rfl (fun _ _ _ z => z)
  | some k =>
    have hk := bst_lt (n := 8) ho
    have hm := bst_mt (n := 8) ho
    simp only [sMt, Bool.and_eq_true, Bool.not_eq_true', decide_eq_false_iff_not] at hm
    obtain ⟨t, t1, t2, t3⟩ := H.2.2.1.2.2 k hk hm.1.1.1.1.1
    rw [sBeg_some ho]
    have A : As i σ (up2 (up2 σ 7 i (nI k)) 8 i (σ 20 6 + σ 17 k)) := (As.up (r := 7) (k := i) As.rf (by omega)).up (by omega)
    refine H.chg hi hN A a2 (t := 3) rfl (by unfold can; omega) (fun _ _ _ z => z) (Or.inl ⟨by decide, (up2_o (by omega)).trans (up2_o (by omega))⟩) ?_
    refine ⟨3, r, n, by omega, sC_1i, a3, (sC_r (by decide) (by decide) (by decide) (by decide) i).trans ((A.1 2 i (by omega)).trans a4), (sC_r (by decide) (by decide) (by decide) (by decide) i).trans (((up2_o (by omega)).trans (up2_o (by omega))).trans a5), a6, fun _ => a7 (by decide), fun q => absurd q (by omega), fun q => absurd q (by omega), fun _ => ⟨k, hk, ?_⟩, fun _ => ⟨h + t, ?_, by omega, by omega, fun _ => by omega, fun z => absurd z (by omega)⟩⟩
    · rw [sC_r (by decide) (by decide) (by decide) (by decide), up2_o (by omega), up2_s]
    · rw [sC_r (by decide) (by decide) (by decide) (by decide), up2_s, H.1, t3, nI_add]
