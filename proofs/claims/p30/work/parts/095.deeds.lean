/-! WHAT IS DONE: each call that the law makes keeps the invariant, and answers as it asks -/
/-- the law's rows tell the state: a the machines, m the images, b batches and retries -/
def Tell (fa fm fb : Nat → Int32) (σ : Mem) : Prop := (∀ i, i < 16 → fa (4 * i) = σ 2 i ∧ fa (4 * i + 1) = σ 3 i ∧ fa (4 * i + 2) = σ 4 i ∧ fa (4 * i + 3) = σ 5 i)
  ∧ (∀ k, k < 8 → (σ 11 k = 0 → fm (6 * k) = -1) ∧ (¬ σ 11 k = 0 → ¬ fm (6 * k) < 0 ∧ fm (6 * k) = σ 12 k ∧ fm (6 * k + 1) = σ 13 k ∧ fm (6 * k + 2) = σ 14 k ∧ fm (6 * k + 3) = σ 15 k ∧ fm (6 * k + 4) = σ 16 k ∧ fm (6 * k + 5) = σ 17 k))
  ∧ (∀ r, r < 4 → fb r = σ 21 r) ∧ fb 4 = σ 20 4 ∧ fb 5 = σ 20 5
theorem Tell.kp {fa fm fb : Nat → Int32} {σ σ' : Mem} (h : Tell fa fm fb σ) (k : KP σ σ') : Tell fa fm fb σ' := by
  obtain ⟨h1, h2, h3, h4, h5⟩ := h
  refine ⟨fun i hi => ?_, fun j hj => ?_, fun r hr => ?_, h4.trans k.2.1.symm, h5.trans k.2.2.symm⟩
  · rw [k.1 2 i (by omega), k.1 3 i (by omega), k.1 4 i (by omega), k.1 5 i (by omega)]
    exact h1 i hi
  · rw [k.1 11 j (by omega), k.1 12 j (by omega), k.1 13 j (by omega), k.1 14 j (by omega), k.1 15 j (by omega), k.1 16 j (by omega), k.1 17 j (by omega)]
    exact h2 j hj
  · rw [k.1 21 r (by omega)]
    exact h3 r hr
/-- between calls -/
def OKs (h N : Nat) (fa fm fb : Nat → Int32) (σ : Mem) : Prop := Inv PN h N σ ∧ Full σ ∧ Tell fa fm fb σ
theorem OKs.le {h N N' : Nat} {fa fm fb : Nat → Int32} {σ : Mem} (H : OKs h N fa fm fb σ) (hN : N ≤ N') : OKs h N' fa fm fb σ := ⟨H.1.mono (fun _ _ _ z => z) hN, H.2⟩
theorem OKs.begins {h N : Nat} {fa fm fb : Nat → Int32} {σ : Mem} (H : Inv PN h N σ) (T : Tell fa fm fb σ) (hN : N + 64 < 2000000000) : OKs h (N + 64) fa fm fb (sBegins σ) ∧ BG σ (sBegins σ) := by
  obtain ⟨i1, i2, -, i4⟩ := begins_all H hN
  exact ⟨⟨i1, i4, T.kp i2.kp⟩, i2⟩
theorem Inv.set {P : Nat → Nat → Prop} {h N : Nat} {σ σ' : Mem} (H : Inv P h N σ) (e : ∀ r j, r ≤ 9 ∨ r = 22 ∨ r = 23 → σ' r j = σ r j) (e6 : σ' 20 6 = σ 20 6) (e8 : σ' 20 8 = σ 20 8) (e9 : σ' 20 9 = σ 20 9) (c : CF σ') : Inv P h N σ' :=
  ⟨e6.trans H.1, fun i hi => (H.2.1 i hi).cong (e 1 i (by omega)) (e 2 i (by omega)) (e 6 i (by omega)) (e 7 i (by omega)) (e 8 i (by omega)) (fun _ z => z), c, H.2.2.2.1.same (Nat.le_refl N) e8 (fun j => ⟨e 1 j (by omega), e 9 j (by omega)⟩), H.2.2.2.2.cong (Nat.le_refl N) (fun j => e 1 j (by omega)) (fun j => e 22 j (by omega)) (fun j => e 23 j (by omega)) e9⟩
theorem ixs {i : Nat} (h : i < 16) : ix (nI i) = i := ix_nI (by omega)
theorem up6_o {σ : Mem} {i a b : Nat} {zb zc zd ze zf : Int32} (h : ¬ (11 ≤ a ∧ a ≤ 17 ∧ b = i)) : sSetIm σ i zb zc zd ze zf a b = σ a b := by
  unfold sSetIm
  rw [up2_o (by omega), up2_o (by omega), up2_o (by omega), up2_o (by omega), up2_o (by omega), up2_o (by omega)]
  by_cases q : σ 11 i = 0
  · rw [if_pos q, up2_o (by omega)]
  · rw [if_neg q]
theorem sSetIm_at {σ : Mem} {i : Nat} {zb zc zd ze zf : Int32} : sSetIm σ i zb zc zd ze zf 11 i = 1 ∧ sSetIm σ i zb zc zd ze zf 12 i = zb ∧ sSetIm σ i zb zc zd ze zf 13 i = zc ∧ sSetIm σ i zb zc zd ze zf 14 i = zd ∧ sSetIm σ i zb zc zd ze zf 15 i = ze ∧ sSetIm σ i zb zc zd ze zf 16 i = zf ∧ sSetIm σ i zb zc zd ze zf 17 i = if σ 11 i = 0 then 2 else σ 17 i := by
  unfold sSetIm
  refine ⟨?_, ?_, ?_, ?_, ?_, ?_, ?_⟩
  · rw [up2_o (by omega), up2_o (by omega), up2_o (by omega), up2_o (by omega), up2_o (by omega), up2_s]
  · rw [up2_o (by omega), up2_o (by omega), up2_o (by omega), up2_o (by omega), up2_s]
  · rw [up2_o (by omega), up2_o (by omega), up2_o (by omega), up2_s]
  · rw [up2_o (by omega), up2_o (by omega), up2_s]
  · rw [up2_o (by omega), up2_s]
  · rw [up2_s]
  · rw [up2_o (by omega), up2_o (by omega), up2_o (by omega), up2_o (by omega), up2_o (by omega), up2_o (by omega)]
    by_cases q : σ 11 i = 0
    · rw [if_pos q, if_pos q, up2_s]
    · rw [if_neg q, if_neg q]
theorem a_setImage {h N i : Nat} {fa fm fb fm' : Nat → Int32} {σ : Mem} {zb zc zd ze zf : Int32} (H : OKs h N fa fm fb σ) (hN : N + 64 < 2000000000) (hi : i < 8) (hzb : ¬ zb < 0) (g : ∀ k j, k < 8 → j < 6 → k ≠ i → fm' (6 * k + j) = fm (6 * k + j))
    (g0 : fm' (6 * i) = zb) (g1 : fm' (6 * i + 1) = zc) (g2 : fm' (6 * i + 2) = zd) (g3 : fm' (6 * i + 3) = ze) (g4 : fm' (6 * i + 4) = zf) (g5 : fm' (6 * i + 5) = if fm (6 * i) < 0 then 2 else fm (6 * i + 5)) : OKs h (N + 64) fa fm' fb (gSetImage σ (nI i) zb zc zd ze zf) := by
  obtain ⟨H1, H2, t1, t2, t3, t4, t5⟩ := H
  obtain ⟨x1, x2, x3, x4, x5, x6, x7⟩ := sSetIm_at (σ := σ) (i := i) (zb := zb) (zc := zc) (zd := zd) (ze := ze) (zf := zf)
  unfold gSetImage
  rw [ixs (by omega)]
  refine (OKs.begins (H1.set (σ' := sSetIm σ i zb zc zd ze zf) (fun r j q => up6_o (by omega)) (up6_o (by omega)) (up6_o (by omega)) (up6_o (by omega)) ⟨?_, ?_, fun k hk => ?_⟩) ⟨fun j hj => ?_, fun k hk => ?_, fun r hr => ?_, ?_, ?_⟩ hN).1
  · rw [up6_o (by omega)]; exact H1.2.2.1.1
  · rw [up6_o (by omega)]; exact H1.2.2.1.2.1
  · by_cases q : k = i
    · subst q
      intro _
      rw [x7]
      by_cases z : σ 11 k = 0
      · rw [if_pos z]; exact ⟨2, by omega, by omega, rfl⟩
      · rw [if_neg z]; exact H1.2.2.1.2.2 k hk z
    · rw [up6_o (by omega), up6_o (by omega)]; exact H1.2.2.1.2.2 k hk
  · rw [up6_o (by omega), up6_o (by omega), up6_o (by omega), up6_o (by omega)]; exact t1 j hj
  · by_cases q : k = i
    · subst q
      rw [x1, x2, x3, x4, x5, x6, x7]
      refine ⟨fun z => absurd z (by decide), fun _ => ⟨by rw [g0]; exact hzb, g0, g1, g2, g3, g4, ?_⟩⟩
      rw [g5]
      have t := t2 k hk
      by_cases z : σ 11 k = 0
      · rw [if_pos z, t.1 z, if_pos (by decide)]
      · rw [if_neg z, if_neg (t.2 z).1, (t.2 z).2.2.2.2.2.2]
    · rw [up6_o (by omega), up6_o (by omega), up6_o (by omega), up6_o (by omega), up6_o (by omega), up6_o (by omega), up6_o (by omega), show 6 * k = 6 * k + 0 from rfl, g k 0 hk (by omega) q, g k 1 hk (by omega) q, g k 2 hk (by omega) q, g k 3 hk (by omega) q, g k 4 hk (by omega) q, g k 5 hk (by omega) q]
      exact t2 k hk
  · rw [up6_o (by omega)]; exact t3 r hr
  · rw [up6_o (by omega)]; exact t4
  · rw [up6_o (by omega)]; exact t5
theorem a_setTime {h N i t : Nat} {fa fm fb fm' : Nat → Int32} {σ : Mem} (H : OKs h N fa fm fb σ) (hN : N + 64 < 2000000000) (hi : i < 8) (ht1 : 1 ≤ t) (ht2 : t ≤ 24) (hs : ¬ σ 11 i = 0) (g : ∀ x, x ≠ 6 * i + 5 → fm' x = fm x) (g5 : fm' (6 * i + 5) = nI t) : OKs h (N + 64) fa fm' fb (gSetTime σ (nI i) (nI t)) := by
  obtain ⟨H1, H2, t1, t2, t3, t4, t5⟩ := H
  unfold gSetTime
  rw [ixs (by omega)]
  refine (OKs.begins (H1.set (σ' := up2 σ 17 i (nI t)) (fun r j q => up2_o (by omega)) (up2_o (by omega)) (up2_o (by omega)) (up2_o (by omega)) ⟨?_, ?_, fun k hk => ?_⟩) ⟨fun j hj => ?_, fun k hk => ?_, fun r hr => ?_, ?_, ?_⟩ hN).1
  · rw [up2_o (by omega)]; exact H1.2.2.1.1
  · rw [up2_o (by omega)]; exact H1.2.2.1.2.1
  · by_cases q : k = i
    · subst q
      intro _
      exact ⟨t, ht1, ht2, up2_s _ _ _ _⟩
    · rw [up2_o (by omega), up2_o (by omega)]; exact H1.2.2.1.2.2 k hk
  · rw [up2_o (by omega), up2_o (by omega), up2_o (by omega), up2_o (by omega)]; exact t1 j hj
  · rw [up2_o (by omega), up2_o (by omega), up2_o (by omega), up2_o (by omega), up2_o (by omega), up2_o (by omega), g (6 * k) (by omega), g (6 * k + 1) (by omega), g (6 * k + 2) (by omega), g (6 * k + 3) (by omega), g (6 * k + 4) (by omega)]
    by_cases q : k = i
    · subst q
      have z := t2 k hk
      refine ⟨z.1, fun y => ?_⟩
      obtain ⟨z1, z2, z3, z4, z5, z6, -⟩ := z.2 y
      exact ⟨z1, z2, z3, z4, z5, z6, by rw [g5, up2_s]⟩
    · rw [up2_o (by omega), g (6 * k + 5) (by omega)]
      exact t2 k hk
  · rw [up2_o (by omega)]; exact t3 r hr
  · rw [up2_o (by omega)]; exact t4
  · rw [up2_o (by omega)]; exact t5
theorem a_drop {h N i : Nat} {fa fm fb fm' : Nat → Int32} {σ : Mem} (H : OKs h N fa fm fb σ) (hN : N + 64 < 2000000000) (hi : i < 8) (g : ∀ x, x ≠ 6 * i → x ≠ 6 * i + 5 → fm' x = fm x) (g0 : fm' (6 * i) = -1) : OKs h (N + 64) fa fm' fb (gDropImage σ (nI i)) := by
  obtain ⟨H1, H2, t1, t2, t3, t4, t5⟩ := H
  unfold gDropImage
  rw [ixs (by omega)]
  refine (OKs.begins (H1.set (σ' := up2 σ 11 i 0) (fun r j q => up2_o (by omega)) (up2_o (by omega)) (up2_o (by omega)) (up2_o (by omega)) ⟨?_, ?_, fun k hk => ?_⟩) ⟨fun j hj => ?_, fun k hk => ?_, fun r hr => ?_, ?_, ?_⟩ hN).1
  · rw [up2_o (by omega)]; exact H1.2.2.1.1
  · rw [up2_o (by omega)]; exact H1.2.2.1.2.1
  · by_cases q : k = i
    · subst q
      intro z
      exact absurd (up2_s _ _ _ _) z
    · rw [up2_o (by omega), up2_o (by omega)]; exact H1.2.2.1.2.2 k hk
  · rw [up2_o (by omega), up2_o (by omega), up2_o (by omega), up2_o (by omega)]; exact t1 j hj
  · by_cases q : k = i
    · subst q
      rw [up2_s]
      exact ⟨fun _ => g0, fun z => absurd rfl z⟩
    · rw [up2_o (by omega), up2_o (by omega), up2_o (by omega), up2_o (by omega), up2_o (by omega), up2_o (by omega), up2_o (by omega), g (6 * k) (by omega) (by omega), g (6 * k + 1) (by omega) (by omega), g (6 * k + 2) (by omega) (by omega), g (6 * k + 3) (by omega) (by omega), g (6 * k + 4) (by omega) (by omega), g (6 * k + 5) (by omega) (by omega)]
      exact t2 k hk
  · rw [up2_o (by omega)]; exact t3 r hr
  · rw [up2_o (by omega)]; exact t4
  · rw [up2_o (by omega)]; exact t5
/-- an image that isn't set: no call takes it, and the law's row may tell any time of it -/
theorem a_unset {h N i : Nat} {fa fm fb fm' : Nat → Int32} {σ : Mem} (H : OKs h N fa fm fb σ) (hi : i < 8) (hs : σ 11 i = 0) (g : ∀ x, x ≠ 6 * i → x ≠ 6 * i + 5 → fm' x = fm x) (g0 : fm' (6 * i) = -1) : OKs h N fa fm' fb σ := by
  obtain ⟨H1, H2, t1, t2, t3, t4, t5⟩ := H
  refine ⟨H1, H2, t1, fun k hk => ?_, t3, t4, t5⟩
  by_cases q : k = i
  · subst q
    exact ⟨fun _ => g0, fun z => absurd hs z⟩
  · rw [g (6 * k) (by omega) (by omega), g (6 * k + 1) (by omega) (by omega), g (6 * k + 2) (by omega) (by omega), g (6 * k + 3) (by omega) (by omega), g (6 * k + 4) (by omega) (by omega), g (6 * k + 5) (by omega) (by omega)]
    exact t2 k hk
theorem a_setBatch {h N r : Nat} {v : Int32} {fa fm fb fb' : Nat → Int32} {σ : Mem} (H : OKs h N fa fm fb σ) (hN : N + 64 < 2000000000) (hr : r < 4) (g : ∀ x, x ≠ r → fb' x = fb x) (g0 : fb' r = v) : OKs h (N + 64) fa fm fb' (gSetBatch σ (nI r) v) := by
  obtain ⟨H1, H2, t1, t2, t3, t4, t5⟩ := H
  unfold gSetBatch
  rw [ixs (by omega)]
  refine (OKs.begins (H1.set (σ' := up2 σ 21 r v) (fun r j q => up2_o (by omega)) (up2_o (by omega)) (up2_o (by omega)) (up2_o (by omega)) ⟨?_, ?_, fun k hk => ?_⟩) ⟨fun j hj => ?_, fun k hk => ?_, fun q hq => ?_, ?_, ?_⟩ hN).1
  · rw [up2_o (by omega)]; exact H1.2.2.1.1
  · rw [up2_o (by omega)]; exact H1.2.2.1.2.1
  · rw [up2_o (by omega), up2_o (by omega)]; exact H1.2.2.1.2.2 k hk
  · rw [up2_o (by omega), up2_o (by omega), up2_o (by omega), up2_o (by omega)]; exact t1 j hj
  · rw [up2_o (by omega), up2_o (by omega), up2_o (by omega), up2_o (by omega), up2_o (by omega), up2_o (by omega), up2_o (by omega)]; exact t2 k hk
  · by_cases z : q = r
    · rw [z, up2_s, g0]
    · rw [up2_o (by omega), g q z]; exact t3 q hq
  · rw [up2_o (by omega), g 4 (by omega)]; exact t4
  · rw [up2_o (by omega), g 5 (by omega)]; exact t5
theorem a_setRetries {h N f q : Nat} {fa fm fb fb' : Nat → Int32} {σ : Mem} (H : OKs h N fa fm fb σ) (hN : N + 64 < 2000000000) (f1 : 1 ≤ f) (f2 : f ≤ 24) (q1 : 1 ≤ q) (q2 : q ≤ 9) (g : ∀ x, x < 4 → fb' x = fb x) (g4 : fb' 4 = nI f) (g5 : fb' 5 = nI q) : OKs h (N + 64) fa fm fb' (gSetRetries σ (nI f) (nI q)) := by
  obtain ⟨H1, H2, t1, t2, t3, t4, t5⟩ := H
  have e4 : up2 (up2 σ 20 4 (nI f)) 20 5 (nI q) 20 4 = nI f := (up2_o (by omega)).trans (up2_s _ _ _ _)
  have o : ∀ a b, ¬ (a = 20 ∧ (b = 4 ∨ b = 5)) → up2 (up2 σ 20 4 (nI f)) 20 5 (nI q) a b = σ a b := fun a b z => (up2_o (by omega)).trans (up2_o (by omega))
  unfold gSetRetries
  refine (OKs.begins (H1.set (σ' := up2 (up2 σ 20 4 (nI f)) 20 5 (nI q)) (fun r j q => o r j (by omega)) (o 20 6 (by omega)) (o 20 8 (by omega)) (o 20 9 (by omega)) ⟨⟨f, f1, f2, e4⟩, ⟨q, q1, q2, up2_s _ _ _ _⟩, fun k hk => ?_⟩) ⟨fun j hj => ?_, fun k hk => ?_, fun z hz => ?_, g4.trans e4.symm, g5.trans (up2_s _ _ _ _).symm⟩ hN).1
  · rw [o 11 k (by omega), o 17 k (by omega)]; exact H1.2.2.1.2.2 k hk
  · rw [o 2 j (by omega), o 3 j (by omega), o 4 j (by omega), o 5 j (by omega)]; exact t1 j hj
  · rw [o 11 k (by omega), o 12 k (by omega), o 13 k (by omega), o 14 k (by omega), o 15 k (by omega), o 16 k (by omega), o 17 k (by omega)]; exact t2 k hk
  · rw [o 21 z (by omega), g z hz]; exact t3 z hz
/-- a step of machine i, then beginnings -/
theorem OKs.step {h N i : Nat} {fa fm fb : Nat → Int32} {σ1 : Mem} (H : Inv PN h (N + 1) σ1) (T : Tell fa fm fb σ1) (hN : N + 200 < 2000000000) : OKs h (N + 65) fa fm fb (sBegins σ1) ∧ (¬ σ1 1 i = 2 → sBegins σ1 1 i = σ1 1 i) ∧ sBegins σ1 6 i = σ1 6 i ∧ sBegins σ1 20 7 = σ1 20 7 ∧ (σ1 1 i = 2 → sBegins σ1 1 i = 2 ∨ sBegins σ1 1 i = 3 ∨ (sBegins σ1 1 i = 1 ∧ sBst σ1 i = none)) := by
  obtain ⟨a, b⟩ := OKs.begins H T (by omega)
  exact ⟨a, fun q => (b.2.2.1 i q).1, b.1 6 i (by omega), b.2.1 7 (by decide), b.2.2.2 i⟩
theorem Inv.st {P : Nat → Nat → Prop} {h N i : Nat} {σ : Mem} (H : Inv P h N σ) (hi : i < 16) : ∃ s n, s ≤ 7 ∧ σ 1 i = nI s ∧ σ 6 i = nI n ∧ n ≤ 9 ∧ (s ≠ 7 → n ≤ 8) ∧ (s = 0 ∨ s = 5 ∨ s = 6 → n = 0) ∧ (s = 4 ∨ s = 7 → 0 < n) := by
  obtain ⟨s, r, n, a1, a2, a3, a4, a5, a6, a7, a8, a9, -⟩ := H.2.1 i hi
  exact ⟨s, n, a1, a2, a5, a6, a7, a8, a9⟩
theorem a_order {h N i : Nat} {fa fm fb : Nat → Int32} {σ : Mem} (H : OKs h N fa fm fb σ) (hN : N + 200 < 2000000000) (hi : i < 16) (hs : σ 1 i = 1) (hm : (sBst σ i).isSome = true) : OKs h (N + 65) fa fm fb (gOrder σ (nI i)) ∧ (gOrder σ (nI i) 1 i = 2 ∨ gOrder σ (nI i) 1 i = 3) := by
  obtain ⟨H1, H2, T⟩ := H
  unfold gOrder
  rw [ixs hi]
  obtain ⟨e1, -⟩ := H1.enq (P' := PN) hi (by omega) (Or.inl hs) (fun _ _ _ z => z)
  obtain ⟨a, b, c, d, e⟩ := OKs.step (i := i) e1 (T.kp KP.enq) hN
  refine ⟨a, ?_⟩
  have q : sEnq σ i 1 i = 2 := sC_1i
  have e2 : sBst (sEnq σ i) i = sBst σ i := sBst_cong (fun r j z => KP.enq.1 r j (by omega)) (by rw [q, hs]; decide)
  rcases e q with z | z | ⟨z, y⟩
  · exact Or.inl z
  · exact Or.inr z
  · rw [e2] at y
    rw [y] at hm
    cases hm
theorem a_cancel {h N i : Nat} {fa fm fb : Nat → Int32} {σ : Mem} (H : OKs h N fa fm fb σ) (hN : N + 200 < 2000000000) (hi : i < 16) (hs : σ 1 i = 2 ∨ σ 1 i = 4) : OKs h (N + 65) fa fm fb (gCancel σ (nI i)) ∧ gCancel σ (nI i) 1 i = 1 := by
  obtain ⟨H1, H2, T⟩ := H
  unfold gCancel
  rw [ixs hi]
  obtain ⟨s, n, a1, a2, a5, a6, a7, -, -⟩ := H1.st hi
  have hn : n ≤ 8 := by
    refine a7 (fun z => ?_)
    subst z
    rw [a2] at hs
    rcases hs with y | y <;> exact absurd y (by decide)
  obtain ⟨e1, -⟩ := H1.idle (P' := PN) hi (by omega) As.rf (hs.elim (fun z => Or.inr (Or.inl z)) (fun z => Or.inr (Or.inr (Or.inl z)))) a5 hn rfl (fun _ _ _ z => z)
  obtain ⟨a, b, c, d, e⟩ := OKs.step (i := i) e1 (T.kp (KP.chg As.rf)) hN
  exact ⟨a, (b (by rw [sC_1i]; decide)).trans sC_1i⟩
theorem a_good {h N i : Nat} {fa fm fb : Nat → Int32} {σ : Mem} (H : OKs h N fa fm fb σ) (hN : N + 200 < 2000000000) (hi : i < 16) (hs : σ 1 i = 3) : OKs h (N + 65) fa fm fb (gFinish σ (nI i) true) ∧ gFinish σ (nI i) true 1 i = 5 ∧ gFinish σ (nI i) true 6 i = 0 := by
  obtain ⟨H1, H2, T⟩ := H
  unfold gFinish
  rw [ixs hi, if_pos rfl]
  obtain ⟨s, r, n, a1, a2, a3, a4, a5, a6, a7, a8, a9, a10, a11⟩ := H1.2.1 i hi
  have es : s = 3 := (nS a1 (c := 3) (by omega)).mp (by rw [← a2]; exact hs)
  subst es
  have A : As i σ (up2 σ 6 i 0) := As.rf.up (by omega)
  have e6 : sChg (up2 σ 6 i 0) i 5 6 i = 0 := by rw [sC_r (by decide) (by decide) (by decide) (by decide), up2_s]
  obtain ⟨e1, -⟩ := H1.chg (P' := PN) hi (by omega) A a2 (st := 5) (t := 5) rfl (by unfold can; omega) (fun _ _ _ z => z) (Or.inl ⟨by decide, up2_o (by omega)⟩)
    ⟨5, r, 0, by omega, sC_1i, a3, (sC_r (by decide) (by decide) (by decide) (by decide) i).trans ((A.1 2 i (by omega)).trans a4), e6, by omega, fun _ => by omega, fun _ => rfl, fun q => absurd q (by omega), fun _ => by
      obtain ⟨k, b1, b2⟩ := a10 (by omega)
      exact ⟨k, b1, (sC_r (by decide) (by decide) (by decide) (by decide) i).trans ((up2_o (by omega)).trans b2)⟩, fun q => absurd q (by omega)⟩
  obtain ⟨a, b, c, d, e⟩ := OKs.step (i := i) e1 (T.kp (KP.chg A)) hN
  exact ⟨a, (b (by rw [sC_1i]; decide)).trans sC_1i, c.trans e6⟩
theorem a_bad {h N i : Nat} {fa fm fb : Nat → Int32} {σ : Mem} (H : OKs h N fa fm fb σ) (hN : N + 200 < 2000000000) (hi : i < 16) (hs : σ 1 i = 3) : OKs h (N + 65) fa fm fb (sBegins (sFail σ i)) ∧ sBegins (sFail σ i) 1 i = (if σ 20 5 ≤ σ 6 i + 1 then 7 else 4) ∧ sBegins (sFail σ i) 6 i = σ 6 i + 1 := by
  obtain ⟨H1, H2, T⟩ := H
  obtain ⟨⟨e1, -⟩, e2, e3⟩ := H1.fail (P' := PN) hi (by omega) hs (fun _ _ _ z => z)
  obtain ⟨a, b, c, d, e⟩ := OKs.step (i := i) e1 (T.kp KP.fail) hN
  refine ⟨a, (b ?_).trans e3, c.trans e2⟩
  rw [e3]
  by_cases q : σ 20 5 ≤ σ 6 i + 1
  · rw [if_pos q]; decide
  · rw [if_neg q]; decide
theorem a_finBad {h N i : Nat} {fa fm fb : Nat → Int32} {σ : Mem} (H : OKs h N fa fm fb σ) (hN : N + 200 < 2000000000) (hi : i < 16) (hs : σ 1 i = 3) : OKs h (N + 65) fa fm fb (gFinish σ (nI i) false) ∧ gFinish σ (nI i) false 1 i = (if σ 20 5 ≤ σ 6 i + 1 then 7 else 4) ∧ gFinish σ (nI i) false 6 i = σ 6 i + 1 := by
  unfold gFinish
  rw [ixs hi, if_neg (by decide)]
  exact a_bad H hN hi hs
theorem a_wipe {h N i : Nat} {fa fm fb : Nat → Int32} {σ : Mem} (H : OKs h N fa fm fb σ) (hN : N + 200 < 2000000000) (hi : i < 16) (hs : σ 1 i = 5) : OKs h (N + 65) fa fm fb (gRetire σ (nI i) 0) ∧ gRetire σ (nI i) 0 1 i = 1 ∧ gRetire σ (nI i) 0 20 7 = σ 20 7 + 1 := by
  obtain ⟨H1, H2, T⟩ := H
  unfold gRetire
  rw [ixs hi, if_pos rfl]
  obtain ⟨e1, -⟩ := H1.wipe (P' := PN) hi (by omega) (Or.inl hs) (fun _ _ _ z => z)
  obtain ⟨a, b, c, d, e⟩ := OKs.step (i := i) e1 (T.kp KP.wipe) hN
  have q : sWipe σ i 1 i = 1 := sC_1i
  exact ⟨a, (b (by rw [q]; decide)).trans q, d.trans ((sC_20 (by decide)).trans (up2_s _ _ _ _))⟩
theorem a_drain {h N i d : Nat} {fa fm fb : Nat → Int32} {σ : Mem} (H : OKs h N fa fm fb σ) (hN : N + 200 < 2000000000) (hi : i < 16) (hs : σ 1 i = 5) (d1 : 0 < d) (d2 : d ≤ 48) : OKs h (N + 65) fa fm fb (gRetire σ (nI i) (nI d)) ∧ gRetire σ (nI i) (nI d) 1 i = 6 ∧ gRetire σ (nI i) (nI d) 20 7 = σ 20 7 := by
  obtain ⟨H1, H2, T⟩ := H
  unfold gRetire
  rw [ixs hi, if_neg (nI_ne0 d1 (by omega))]
  obtain ⟨s, r, n, a1, a2, a3, a4, a5, a6, a7, a8, a9, a10, a11⟩ := H1.2.1 i hi
  have es : s = 5 := (nS a1 (c := 5) (by omega)).mp (by rw [← a2]; exact hs)
  subst es
  have hn : n = 0 := a8 (by omega)
  have A : As i σ (up2 σ 8 i (σ 20 6 + nI d)) := As.rf.up (by omega)
  obtain ⟨e1, -⟩ := H1.chg (P' := PN) hi (by omega) A a2 (st := 6) (t := 6) rfl (by unfold can; omega) (fun _ _ _ z => z) (Or.inl ⟨by decide, up2_o (by omega)⟩)
    ⟨6, r, n, by omega, sC_1i, a3, (sC_r (by decide) (by decide) (by decide) (by decide) i).trans ((A.1 2 i (by omega)).trans a4), (sC_r (by decide) (by decide) (by decide) (by decide) i).trans ((up2_o (by omega)).trans a5), a6, fun _ => by omega, fun _ => hn, fun q => absurd q (by omega), fun _ => by
      obtain ⟨k, b1, b2⟩ := a10 (by omega)
      exact ⟨k, b1, (sC_r (by decide) (by decide) (by decide) (by decide) i).trans ((up2_o (by omega)).trans b2)⟩, fun _ => ⟨h + d, by rw [sC_r (by decide) (by decide) (by decide) (by decide), up2_s, H1.1, nI_add], by omega, by omega, fun _ => by omega, fun z => absurd z (by omega)⟩⟩
  obtain ⟨a, b, c, d, e⟩ := OKs.step (i := i) e1 (T.kp (KP.chg A)) hN
  exact ⟨a, (b (by rw [sC_1i]; decide)).trans sC_1i, d.trans ((sC_20 (by decide)).trans (up2_o (by omega)))⟩
theorem a_keep {h N i : Nat} {fa fm fb : Nat → Int32} {σ : Mem} (H : OKs h N fa fm fb σ) (hN : N + 200 < 2000000000) (hi : i < 16) (hs : σ 1 i = 6) : OKs h (N + 65) fa fm fb (gKeep σ (nI i)) ∧ gKeep σ (nI i) 1 i = 5 ∧ gKeep σ (nI i) 6 i = 0 := by
  obtain ⟨H1, H2, T⟩ := H
  unfold gKeep
  rw [ixs hi]
  obtain ⟨s, r, n, a1, a2, a3, a4, a5, a6, a7, a8, a9, a10, a11⟩ := H1.2.1 i hi
  have es : s = 6 := (nS a1 (c := 6) (by omega)).mp (by rw [← a2]; exact hs)
  subst es
  have hn : n = 0 := a8 (by omega)
  have e6 : sChg σ i 5 6 i = 0 := by rw [sC_r (by decide) (by decide) (by decide) (by decide), a5, hn]; rfl
  obtain ⟨e1, -⟩ := H1.chg (P' := PN) hi (by omega) As.rf a2 (st := 5) (t := 5) rfl (by unfold can; omega) (fun _ _ _ z => z) (Or.inl ⟨by decide, rfl⟩)
    ⟨5, r, 0, by omega, sC_1i, a3, (sC_r (by decide) (by decide) (by decide) (by decide) i).trans a4, e6, by omega, fun _ => by omega, fun _ => rfl, fun q => absurd q (by omega), fun _ => by
      obtain ⟨k, b1, b2⟩ := a10 (by omega)
      exact ⟨k, b1, (sC_r (by decide) (by decide) (by decide) (by decide) i).trans b2⟩, fun q => absurd q (by omega)⟩
  obtain ⟨a, b, c, d, e⟩ := OKs.step (i := i) e1 (T.kp (KP.chg As.rf)) hN
  exact ⟨a, (b (by rw [sC_1i]; decide)).trans sC_1i, c.trans e6⟩
theorem a_release {h N i : Nat} {fa fm fb : Nat → Int32} {σ : Mem} (H : OKs h N fa fm fb σ) (hN : N + 200 < 2000000000) (hi : i < 16) (hs : σ 1 i = 7) : OKs h (N + 65) fa fm fb (gRelease σ (nI i)) ∧ gRelease σ (nI i) 1 i = 1 ∧ gRelease σ (nI i) 6 i = 0 := by
  obtain ⟨H1, H2, T⟩ := H
  unfold gRelease
  rw [ixs hi]
  have A : As i σ (up2 σ 6 i 0) := As.rf.up (by omega)
  have e6 : sChg (up2 σ 6 i 0) i 1 6 i = 0 := by rw [sC_r (by decide) (by decide) (by decide) (by decide), up2_s]
  obtain ⟨e1, -⟩ := H1.idle (P' := PN) (n := 0) hi (by omega) A (Or.inr (Or.inr (Or.inr (Or.inr (Or.inr hs))))) (up2_s _ _ _ _) (by omega) (up2_o (by omega)) (fun _ _ _ z => z)
  obtain ⟨a, b, c, d, e⟩ := OKs.step (i := i) e1 (T.kp (KP.chg A)) hN
  exact ⟨a, (b (by rw [sC_1i]; decide)).trans sC_1i, c.trans e6⟩
/-- what is known of machine i is told anew -/
abbrev sKn (σ : Mem) (i : Nat) (zb zc zd ze : Int32) : Mem := up2 (up2 (up2 (up2 σ 2 i zb) 3 i zc) 4 i zd) 5 i ze
theorem kn_o {σ : Mem} {i a b : Nat} {zb zc zd ze : Int32} (h : ¬ (2 ≤ a ∧ a ≤ 5 ∧ b = i)) : sKn σ i zb zc zd ze a b = σ a b := (up2_o (by omega)).trans ((up2_o (by omega)).trans ((up2_o (by omega)).trans (up2_o (by omega))))
theorem a_known {h N i r : Nat} {fa fm fb fa' : Nat → Int32} {σ : Mem} {zc zd ze : Int32} (H : OKs h N fa fm fb σ) (hi : i < 16) (hr : r < 4) (g : ∀ k j, k < 16 → j < 4 → k ≠ i → fa' (4 * k + j) = fa (4 * k + j)) (g0 : fa' (4 * i) = nI r) (g1 : fa' (4 * i + 1) = zc) (g2 : fa' (4 * i + 2) = zd) (g3 : fa' (4 * i + 3) = ze) : Inv PN h N (sKn σ i (nI r) zc zd ze) ∧ Tell fa' fm fb (sKn σ i (nI r) zc zd ze) := by
  obtain ⟨H1, H2, t1, t2, t3, t4, t5⟩ := H
  have x2 : sKn σ i (nI r) zc zd ze 2 i = nI r := (up2_o (by omega)).trans ((up2_o (by omega)).trans ((up2_o (by omega)).trans (up2_s _ _ _ _)))
  have x3 : sKn σ i (nI r) zc zd ze 3 i = zc := (up2_o (by omega)).trans ((up2_o (by omega)).trans (up2_s _ _ _ _))
  have x4 : sKn σ i (nI r) zc zd ze 4 i = zd := (up2_o (by omega)).trans (up2_s _ _ _ _)
  have x5 : sKn σ i (nI r) zc zd ze 5 i = ze := up2_s _ _ _ _
  refine ⟨⟨(kn_o (by omega)).trans H1.1, fun j hj => ?_, H1.2.2.1.cong (kn_o (by omega)) (kn_o (by omega)) (fun k => ⟨kn_o (by omega), kn_o (by omega)⟩), H1.2.2.2.1.same (Nat.le_refl N) (kn_o (by omega)) (fun j => ⟨kn_o (by omega), kn_o (by omega)⟩), H1.2.2.2.2.cong (Nat.le_refl N) (fun j => kn_o (by omega)) (fun j => kn_o (by omega)) (fun j => kn_o (by omega)) (kn_o (by omega))⟩, fun k hk => ?_, fun k hk => ?_, fun q hq => ?_, ?_, ?_⟩
  · by_cases q : j = i
    · subst q
      obtain ⟨s, r9, n, a1, a2, a3, a4, a5, a6, a7, a8, a9, a10, a11⟩ := H1.2.1 j hj
      refine ⟨s, r, n, a1, (kn_o (by omega)).trans a2, hr, x2, (kn_o (by omega)).trans a5, a6, a7, a8, a9, fun y => ?_, fun y => ?_⟩
      · rw [kn_o (by omega)]; exact a10 y
      · rw [kn_o (by omega)]; exact a11 y
    · exact (H1.2.1 j hj).cong (kn_o (by omega)) (kn_o (by omega)) (kn_o (by omega)) (kn_o (by omega)) (kn_o (by omega)) (fun _ z => z)
  · by_cases q : k = i
    · subst q
      rw [x2, x3, x4, x5]
      exact ⟨g0, g1, g2, g3⟩
    · rw [kn_o (by omega), kn_o (by omega), kn_o (by omega), kn_o (by omega), show 4 * k = 4 * k + 0 from rfl, g k 0 hk (by omega) q, g k 1 hk (by omega) q, g k 2 hk (by omega) q, g k 3 hk (by omega) q]
      exact t1 k hk
  · rw [kn_o (by omega), kn_o (by omega), kn_o (by omega), kn_o (by omega), kn_o (by omega), kn_o (by omega), kn_o (by omega)]
    exact t2 k hk
  · rw [kn_o (by omega)]; exact t3 q hq
  · rw [kn_o (by omega)]; exact t4
  · rw [kn_o (by omega)]; exact t5
theorem a_report {h N i r : Nat} {fa fm fb fa' : Nat → Int32} {σ : Mem} {zc zd ze : Int32} (H : OKs h N fa fm fb σ) (hN : N + 200 < 2000000000) (hi : i < 16) (hr : r < 4) (g : ∀ k j, k < 16 → j < 4 → k ≠ i → fa' (4 * k + j) = fa (4 * k + j)) (g0 : fa' (4 * i) = nI r) (g1 : fa' (4 * i + 1) = zc) (g2 : fa' (4 * i + 2) = zd) (g3 : fa' (4 * i + 3) = ze) :
    OKs h (N + 65) fa' fm fb (gReport σ (nI i) (nI r) zc zd ze) ∧ (σ 1 i = 0 → gReport σ (nI i) (nI r) zc zd ze 1 i = 1) ∧ (σ 1 i = 3 → gReport σ (nI i) (nI r) zc zd ze 1 i = (if σ 20 5 ≤ σ 6 i + 1 then 7 else 4) ∧ gReport σ (nI i) (nI r) zc zd ze 6 i = σ 6 i + 1)
    ∧ (σ 1 i = 2 → gReport σ (nI i) (nI r) zc zd ze 1 i = 1 ∨ gReport σ (nI i) (nI r) zc zd ze 1 i = 2 ∨ gReport σ (nI i) (nI r) zc zd ze 1 i = 3) ∧ (¬ σ 1 i = 0 → ¬ σ 1 i = 2 → ¬ σ 1 i = 3 → gReport σ (nI i) (nI r) zc zd ze 1 i = σ 1 i) := by
  obtain ⟨H1, T1⟩ := a_known H hi hr g g0 g1 g2 g3
  unfold gReport
  rw [ixs hi]
  show OKs h (N + 65) fa' fm fb (sBegins (sAns (sKn σ i (nI r) zc zd ze) i (!decide (σ 2 i = nI r)))) ∧ (σ 1 i = 0 → sBegins (sAns (sKn σ i (nI r) zc zd ze) i (!decide (σ 2 i = nI r))) 1 i = 1) ∧ (σ 1 i = 3 → sBegins (sAns (sKn σ i (nI r) zc zd ze) i (!decide (σ 2 i = nI r))) 1 i = (if σ 20 5 ≤ σ 6 i + 1 then 7 else 4) ∧ sBegins (sAns (sKn σ i (nI r) zc zd ze) i (!decide (σ 2 i = nI r))) 6 i = σ 6 i + 1)
    ∧ (σ 1 i = 2 → sBegins (sAns (sKn σ i (nI r) zc zd ze) i (!decide (σ 2 i = nI r))) 1 i = 1 ∨ sBegins (sAns (sKn σ i (nI r) zc zd ze) i (!decide (σ 2 i = nI r))) 1 i = 2 ∨ sBegins (sAns (sKn σ i (nI r) zc zd ze) i (!decide (σ 2 i = nI r))) 1 i = 3) ∧ (¬ σ 1 i = 0 → ¬ σ 1 i = 2 → ¬ σ 1 i = 3 → sBegins (sAns (sKn σ i (nI r) zc zd ze) i (!decide (σ 2 i = nI r))) 1 i = σ 1 i)
  generalize (!decide (σ 2 i = nI r)) = mv
  have e1 : sKn σ i (nI r) zc zd ze 1 i = σ 1 i := kn_o (by omega)
  have e6 : sKn σ i (nI r) zc zd ze 6 i = σ 6 i := kn_o (by omega)
  have e5 : sKn σ i (nI r) zc zd ze 20 5 = σ 20 5 := kn_o (by omega)
  generalize sKn σ i (nI r) zc zd ze = σk at *
  rw [← e1, ← e6, ← e5]
  by_cases q0 : σk 1 i = 0
  · have ea : sAns σk i mv = sChg σk i 1 := by unfold sAns; rw [if_pos q0]
    rw [ea]
    obtain ⟨s, n, a1, a2, a5, a6, a7, a8, -⟩ := H1.st hi
    have hs : s = 0 := (nS a1 (c := 0) (by omega)).mp (by rw [← a2]; exact q0)
    obtain ⟨f1, -⟩ := H1.idle (P' := PN) hi (by omega) As.rf (Or.inl q0) a5 (a7 (by omega)) rfl (fun _ _ _ z => z)
    obtain ⟨a, b, c, d, e⟩ := OKs.step (i := i) f1 (T1.kp (KP.chg As.rf)) hN
    refine ⟨a, fun _ => (b (by rw [sC_1i]; decide)).trans sC_1i, fun z => ?_, fun z => ?_, fun z => absurd q0 z⟩
    · rw [q0] at z; exact absurd z (by decide)
    · rw [q0] at z; exact absurd z (by decide)
  · by_cases q3 : σk 1 i = 3
    · have ea : sAns σk i mv = sFail σk i := by unfold sAns; rw [if_neg q0, if_pos q3]
      rw [ea]
      obtain ⟨⟨f1, -⟩, f2, f3⟩ := H1.fail (P' := PN) hi (by omega) q3 (fun _ _ _ z => z)
      obtain ⟨a, b, c, d, e⟩ := OKs.step (i := i) f1 (T1.kp KP.fail) hN
      refine ⟨a, fun z => absurd z q0, fun _ => ⟨(b ?_).trans f3, c.trans f2⟩, fun z => ?_, fun _ _ z => absurd q3 z⟩
      · rw [f3]
        by_cases q : σk 20 5 ≤ σk 6 i + 1
        · rw [if_pos q]; decide
        · rw [if_neg q]; decide
      · rw [q3] at z; exact absurd z (by decide)
    · by_cases q2 : σk 1 i = 2
      · have hg : ∀ τ : Mem, Inv PN h (N + 1) τ → Tell fa' fm fb τ → τ 1 i = 2 → OKs h (N + 65) fa' fm fb (sBegins τ) ∧ (sBegins τ 1 i = 1 ∨ sBegins τ 1 i = 2 ∨ sBegins τ 1 i = 3) := by
          intro τ i1 i2 i3
          obtain ⟨a, b, c, d, e⟩ := OKs.step (i := i) i1 i2 hN
          refine ⟨a, ?_⟩
          rcases e i3 with z | z | ⟨z, -⟩
          · exact Or.inr (Or.inl z)
          · exact Or.inr (Or.inr z)
          · exact Or.inl z
        have done : OKs h (N + 65) fa' fm fb (sBegins (sAns σk i mv)) ∧ (sBegins (sAns σk i mv) 1 i = 1 ∨ sBegins (sAns σk i mv) 1 i = 2 ∨ sBegins (sAns σk i mv) 1 i = 3) := by
          by_cases qm : mv = true
          · have ea : sAns σk i mv = up2 (sDraw σk) 9 i (σk 20 8 + 1) := by unfold sAns; rw [if_neg q0, if_neg q3, if_pos ⟨q2, qm⟩]
            rw [ea]
            have o : ∀ a b, ¬ (a = 20 ∧ b = 8) → ¬ (a = 9 ∧ b = i) → up2 (sDraw σk) 9 i (σk 20 8 + 1) a b = σk a b := fun a b y z => (up2_o (by omega)).trans (up2_o (by omega))
            refine hg _ ⟨(o 20 6 (by omega) (by omega)).trans H1.1, fun j hj => (H1.2.1 j hj).cong (o 1 j (by omega) (by omega)) (o 2 j (by omega) (by omega)) (o 6 j (by omega) (by omega)) (o 7 j (by omega) (by omega)) (o 8 j (by omega) (by omega)) (fun _ z => z), H1.2.2.1.cong (o 20 4 (by omega) (by omega)) (o 20 5 (by omega) (by omega)) (fun k => ⟨o 11 k (by omega) (by omega), o 17 k (by omega) (by omega)⟩), H1.2.2.2.1.inn (i := i) (by omega) ((up2_o (by omega)).trans (up2_s _ _ _ _)) (up2_s _ _ _ _) (fun j hj => ⟨o 1 j (by omega) (by omega), o 9 j (by omega) (by omega)⟩), H1.2.2.2.2.cong (by omega) (fun j => o 1 j (by omega) (by omega)) (fun j => o 22 j (by omega) (by omega)) (fun j => o 23 j (by omega) (by omega)) (o 20 9 (by omega) (by omega))⟩ (T1.kp ⟨fun a b z => o a b (by omega) (by omega), o 20 4 (by omega) (by omega), o 20 5 (by omega) (by omega)⟩) ((o 1 i (by omega) (by omega)).trans q2)
          · have ea : sAns σk i mv = σk := by unfold sAns; rw [if_neg q0, if_neg q3, if_neg (fun z => qm z.2)]
            rw [ea]
            exact hg _ (H1.mono (fun _ _ _ z => z) (by omega)) T1 q2
        exact ⟨done.1, fun z => absurd z q0, fun z => absurd z q3, fun _ => done.2, fun _ z _ => absurd q2 z⟩
      · have ea : sAns σk i mv = σk := by unfold sAns; rw [if_neg q0, if_neg q3, if_neg (fun z => q2 z.1)]
        rw [ea]
        obtain ⟨a, b, c, d, e⟩ := OKs.step (i := i) (H1.mono (fun _ _ _ z => z) (Nat.le_succ N)) T1 hN
        exact ⟨a, fun z => absurd z q0, fun z => absurd z q3, fun z => absurd z q2, fun _ _ _ => b q2⟩
