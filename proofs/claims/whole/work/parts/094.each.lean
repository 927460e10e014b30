/-! the twenty-seven calls -/
theorem cal_r {n : Nat} {σ τ : Mem} {a b c : Bool} {k : Int32} (hL : LI (n + 1) σ τ) (hk : k = gC a b c) : tGo τ a b c 0 25 = k ∧ LI n σ (tGo τ a b c) := ⟨by rw [tGo_25, hk], (hL.go a b c).le⟩
theorem Rel.add {b : Nat} {σ τ : Mem} (h : Rel b σ τ) : σ 20 9 = τ 0 22 := by
  obtain ⟨-, -, -, -, -, -, ⟨w, h7, h8⟩, -⟩ := h
  rw [h8.1, h8.2.1]
theorem Rel.kept {b : Nat} {σ τ : Mem} (h : Rel b σ τ) : sKept σ = tKept τ := by
  obtain ⟨-, -, -, -, -, -, ⟨w, h7, h8⟩, -⟩ := h
  rw [tKept_nI h8.2.1 (by omega)]
  unfold sKept
  rw [h8.1]
  by_cases q : 40 < w
  · rw [if_pos (show (40 : Int32) < nI w from (nI_ltI (a := 40) (by omega) (by omega)).mpr q), if_neg (by omega)]; rfl
  · rw [if_neg (show ¬ (40 : Int32) < nI w from fun z => q ((nI_ltI (a := 40) (by omega) (by omega)).mp z))]
    by_cases q2 : w < 40
    · rw [if_pos q2]
    · rw [if_neg q2, show w = 40 by omega]
theorem ent_ma {τ : Mem} {w : Nat} {za : Int32} (hw : τ 0 22 = nI w) (hb : w < 2147483648) : bMa τ za = (!decide (za < 0) && decide (za < tKept τ)) := by
  unfold bMa
  rw [tKept_nI hw hb]
  generalize hm : (if w < 40 then w else 40) = m
  have hm40 : m ≤ 40 := by rw [← hm]; split <;> omega
  by_cases h0 : za < 0
  · have : ¬ (0 : Int32) ≤ za := Int32.not_le.mpr h0
    simp [inB, h0, this]
  · obtain ⟨j, hj, rfl⟩ := nI_of h0
    cases m with
    | zero =>
      have : ¬ nI j < nI 0 := nI_pos hj
      simp [inB, this]
      intro _
      rw [Int32.lt_iff_toInt_lt, nI_toInt (by omega)]
      have : ((nI 0 : Int32) - 1).toInt = -1 := by decide
      omega
    | succ m =>
      have h1 : (0 : Int32) ≤ nI j := nI_pos' hj
      rw [nI_pred]
      simp only [inB, h0, h1]
      have e : (nI j ≤ nI m) ↔ (nI j < nI (m + 1)) := by rw [nI_leI (by omega) (by omega), nI_ltI (by omega) (by omega)]; omega
      simp [e]
theorem k_setImage {n : Nat} {σ τ : Mem} (h : LI (n + 1) σ τ) (za zb zc zd ze zf : Int32) : (hSetImage τ za zb zc zd ze zf) 0 25 = kSetImage za zb zc zd ze zf ∧ LI n (if kSetImage za zb zc zd ze zf = 0 then gSetImage σ za zb zc zd ze zf else σ) (hSetImage τ za zb zc zd ze zf) := by
  have hk : kSetImage za zb zc zd ze zf = gC (inB za 0 7) (bSetImage zb zc zd ze zf) (true) := by
    simp only [kSetImage, bSetImage, gC]
    generalize inB za 0 7 = x0
    generalize inB zb 0 9 = x1
    generalize inB zc 0 99 = x2
    generalize inB zd 0 15 = x3
    generalize inB ze 0 15 = x4
    generalize inB zf 0 15 = x5
    cases x0 <;> cases x1 <;> cases x2 <;> cases x3 <;> cases x4 <;> cases x5 <;> simp
  have hw := cal_w (g := gSetImage σ za zb zc zd ze zf) (h' := hSetImage τ za zb zc zd ze zf) h hk (fun q => by
    unfold hSetImage
    rw [if_neg (fun z => q ⟨z.1, z.2, rfl⟩)]) (fun t ht9 hT hR ha hb hc => by
    obtain ⟨i, hi, rfl⟩ := of_7 ha
    refine ⟨sSetIm σ i zb zc zd ze zf, tSetIm (tGo τ (inB (nI i) 0 7) (bSetImage zb zc zd ze zf) true) i zb zc zd ze zf, ?_, ?_, (hR.setIm hi zb zc zd ze zf).le (by omega), hT.setIm zb zc zd ze zf, by simp [tSetIm, up2]⟩
    · unfold gSetImage; rw [ix_nI (by omega)]
    · unfold hSetImage; rw [if_pos ⟨ha, hb⟩, ix_nI (by omega)])
  exact hw
theorem k_setTime {n : Nat} {σ τ : Mem} (h : LI (n + 1) σ τ) (za zb : Int32) : (hSetTime τ za zb) 0 25 = kSetTime σ za zb ∧ ((kSetTime σ za zb) = 0 → rSetTime σ za = qSetTime τ za zb) ∧ LI n (if kSetTime σ za zb = 0 then gSetTime σ za zb else σ) (hSetTime τ za zb) := by
  have hk : kSetTime σ za zb = gC (bIm τ za) (inB zb 1 24) (true) := by
    by_cases ha : inB za 0 7 = true
    · obtain ⟨i, hi, rfl⟩ := of_7 ha
      simp only [kSetTime, bIm, gC, ix_nI (show i < 2147483648 by omega), ha, (h.1.2.2.2.2.1 i hi).1]
      by_cases q : τ 14 i = 0 <;> cases inB zb 1 24 <;> simp [q]
    · simp [kSetTime, bIm, gC, ha]
  have hw := cal_w (g := gSetTime σ za zb) (h' := hSetTime τ za zb) h hk (fun q => by
    unfold hSetTime
    rw [if_neg (fun z => q ⟨z.1, z.2, rfl⟩)]) (fun t ht9 hT hR ha hb hc => by
    have ha7 : inB za 0 7 = true := by unfold bIm at ha; simp at ha; exact ha.1
    obtain ⟨i, hi, rfl⟩ := of_7 ha7
    obtain ⟨t9, t1, t2, rfl⟩ := of_lo 1 24 (by decide) (by decide) hb
    refine ⟨up2 σ 17 i (nI t9), up2 (tGo τ (bIm τ (nI i)) (inB (nI t9) 1 24) true) 20 i (nI t9), ?_, ?_, (hR.setT _).le (by omega), hT.setT t1 t2, by simp [up2]⟩
    · unfold gSetTime; rw [ix_nI (by omega)]
    · unfold hSetTime; rw [if_pos ⟨ha, hb⟩, ix_nI (by omega)])
  refine ⟨hw.1, fun h0 => ?_, hw.2⟩
  have hq := gC_0.mp (hk.symm.trans h0)
  have hL := hw.2
  rw [if_pos h0] at hL
  have ha := hq.1
  unfold bIm at ha
  simp at ha
  obtain ⟨i, hi, rfl⟩ := of_7 ha.1
  unfold rSetTime qSetTime
  rw [if_pos ⟨hq.1, hq.2.1⟩, tGo_r _ _ _ _ (by decide), ix_nI (by omega)]
  rw [ix_nI (by omega)] at ha
  exact (h.1.2.2.2.2.1 i hi).2.2.2.2.2.2 ha.2
theorem k_dropImage {n : Nat} {σ τ : Mem} (h : LI (n + 1) σ τ) (za : Int32) : (hDropImage τ za) 0 25 = kDropImage σ za ∧ LI n (if kDropImage σ za = 0 then gDropImage σ za else σ) (hDropImage τ za) := by
  have hk : kDropImage σ za = gC (bIm τ za) (true) (true) := by
    by_cases ha : inB za 0 7 = true
    · obtain ⟨i, hi, rfl⟩ := of_7 ha
      simp only [kDropImage, bIm, gC, ix_nI (show i < 2147483648 by omega), ha, (h.1.2.2.2.2.1 i hi).1]
      by_cases q : τ 14 i = 0 <;> simp [q]
    · simp [kDropImage, bIm, gC, ha]
  have hw := cal_w (g := gDropImage σ za) (h' := hDropImage τ za) h hk (fun q => by
    unfold hDropImage
    rw [if_neg (fun z => q ⟨z, rfl, rfl⟩)]) (fun t ht9 hT hR ha hb hc => by
    have ha7 : inB za 0 7 = true := by unfold bIm at ha; simp at ha; exact ha.1
    obtain ⟨i, hi, rfl⟩ := of_7 ha7
    refine ⟨up2 σ 11 i 0, up2 (tGo τ (bIm τ (nI i)) true true) 14 i 0, ?_, ?_, hR.drop.le (by omega), hT.drop, by simp [up2]⟩
    · unfold gDropImage; rw [ix_nI (by omega)]
    · unfold hDropImage; rw [if_pos ha, ix_nI (by omega)])
  exact hw
theorem k_setBatch {n : Nat} {σ τ : Mem} (h : LI (n + 1) σ τ) (za zb : Int32) : (hSetBatch τ za zb) 0 25 = kSetBatch za zb ∧ ((kSetBatch za zb) = 0 → rSetBatch σ za = qSetBatch τ za zb) ∧ LI n (if kSetBatch za zb = 0 then gSetBatch σ za zb else σ) (hSetBatch τ za zb) := by
  have hk : kSetBatch za zb = gC (inB za 0 3) (inB zb 0 4) (true) := by
    simp only [kSetBatch, gC]
    generalize inB za 0 3 = x0
    generalize inB zb 0 4 = x1
    cases x0 <;> cases x1 <;> simp
  have hw := cal_w (g := gSetBatch σ za zb) (h' := hSetBatch τ za zb) h hk (fun q => by
    unfold hSetBatch
    rw [if_neg (fun z => q ⟨z.1, z.2, rfl⟩)]) (fun t ht9 hT hR ha hb hc => by
    obtain ⟨i, hi, rfl⟩ := of_3 ha
    refine ⟨up2 σ 21 i zb, up2 (tGo τ (inB (nI i) 0 3) (inB zb 0 4) true) 21 i zb, ?_, ?_, (hR.batch _).le (by omega), hT.batch _, by simp [up2]⟩
    · unfold gSetBatch; rw [ix_nI (by omega)]
    · unfold hSetBatch; rw [if_pos ⟨ha, hb⟩, ix_nI (by omega)])
  refine ⟨hw.1, fun h0 => ?_, hw.2⟩
  have hq := gC_0.mp (hk.symm.trans h0)
  have hL := hw.2
  rw [if_pos h0] at hL
  obtain ⟨i, hi, rfl⟩ := of_3 hq.1
  unfold rSetBatch qSetBatch
  rw [if_pos ⟨hq.1, hq.2.1⟩, tGo_r _ _ _ _ (by decide), ix_nI (by omega)]
  exact h.1.2.2.2.2.2.1 i hi
theorem k_setRetries {n : Nat} {σ τ : Mem} (h : LI (n + 1) σ τ) (za zb : Int32) : (hSetRetries τ za zb) 0 25 = kSetRetries za zb ∧ LI n (if kSetRetries za zb = 0 then gSetRetries σ za zb else σ) (hSetRetries τ za zb) := by
  have hk : kSetRetries za zb = gC (bRt za zb) (true) (true) := by
    simp only [kSetRetries, bRt, gC]
    generalize inB za 1 24 = x0
    generalize inB zb 1 9 = x1
    cases x0 <;> cases x1 <;> simp
  have hw := cal_w (g := gSetRetries σ za zb) (h' := hSetRetries τ za zb) h hk (fun q => by
    unfold hSetRetries
    rw [if_neg (fun z => q ⟨z, rfl, rfl⟩)]) (fun t ht9 hT hR ha hb hc => by
    have ha9 := ha
    unfold bRt at ha9
    simp at ha9
    obtain ⟨f9, f1, f2, rfl⟩ := of_lo 1 24 (by decide) (by decide) ha9.1
    obtain ⟨g9, g1, g2, rfl⟩ := of_lo 1 9 (by decide) (by decide) ha9.2
    refine ⟨up2 (up2 σ 20 4 (nI f9)) 20 5 (nI g9), up2 (up2 (tGo τ (bRt (nI f9) (nI g9)) true true) 0 1 (nI f9)) 0 2 (nI g9), rfl, ?_, (hR.retr _ _).le (by omega), hT.retr f1 f2 g2, by simp [up2]⟩
    unfold hSetRetries; rw [if_pos ha])
  exact hw
theorem k_report {n : Nat} {σ τ : Mem} (h : LI (n + 1) σ τ) (za zb zc zd ze : Int32) : (hReport τ za zb zc zd ze) 0 25 = kReport za zb zc zd ze ∧ ((kReport za zb zc zd ze) = 0 → rReport σ za zb zc zd ze = qReport τ za zb zc zd ze) ∧ LI n (if kReport za zb zc zd ze = 0 then gReport σ za zb zc zd ze else σ) (hReport τ za zb zc zd ze) := by
  have hk : kReport za zb zc zd ze = gC (bRp1 za zb) (bRp2 zc zd ze) (true) := by
    simp only [kReport, bRp1, bRp2, gC]
    generalize inB za 0 15 = x0
    generalize inB zb 0 3 = x1
    generalize inB zc 0 99 = x2
    generalize inB zd 0 3 = x3
    generalize inB ze 0 15 = x4
    cases x0 <;> cases x1 <;> cases x2 <;> cases x3 <;> cases x4 <;> simp
  have hw := cal_w (g := gReport σ za zb zc zd ze) (h' := hReport τ za zb zc zd ze) h hk (fun q => by
    unfold hReport
    rw [if_neg (fun z => q ⟨z.1, z.2, rfl⟩)]
    rfl) (fun t ht9 hT hR ha hb hc => by
    have ha9 := ha
    unfold bRp1 at ha9
    simp at ha9
    obtain ⟨i, hi, rfl⟩ := of_15 ha9.1
    refine ⟨sAns (up2 (up2 (up2 (up2 σ 2 i zb) 3 i zc) 4 i zd) 5 i ze) i (!decide (σ 2 i = zb)), tAns (tRep (tGo τ (bRp1 (nI i) zb) (bRp2 zc zd ze) true) i zb zc zd ze) i (!decide (σ 2 i = zb)), ?_, ?_, Rel.ans (b := 30000 * n + 64) ((hR.rep zb zc zd ze).le (by omega)) (hT.rep zb zc zd ze).2.2 hi _, (hT.rep zb zc zd ze).ans hi _, ?_⟩
    · unfold gReport; rw [ix_nI (by omega)]
    · unfold hReport; rw [if_pos ⟨ha, hb⟩, ix_nI (by omega)]; unfold tGoRp; rw [tGo_r _ _ _ _ (by decide), (h.1.2.1 i hi).2.1]
    · rw [KP.ans.2.1]; simp [tRep, up2])
  refine ⟨hw.1, fun h0 => ?_, hw.2⟩
  have hq := gC_0.mp (hk.symm.trans h0)
  have hL := hw.2
  rw [if_pos h0] at hL
  have ha9 := hq.1
  unfold bRp1 at ha9
  simp at ha9
  obtain ⟨i, hi, rfl⟩ := of_15 ha9.1
  unfold rReport qReport
  rw [if_pos ⟨hq.1, hq.2.1⟩, ix_nI (by omega)]
  exact hL.1.st hi
theorem k_order {n : Nat} {σ τ : Mem} (h : LI (n + 1) σ τ) (za : Int32) : (hOrder τ za) 0 25 = kOrder σ za ∧ ((kOrder σ za) = 0 → rOrder σ za = qOrder τ za) ∧ LI n (if kOrder σ za = 0 then gOrder σ za else σ) (hOrder τ za) := by
  have hk : kOrder σ za = gC (inB za 0 15) (bOr τ za) (true) := by
    by_cases ha : inB za 0 15 = true
    · obtain ⟨i, hi, rfl⟩ := of_15 ha
      simp only [kOrder, bOr, gC, ix_nI (show i < 2147483648 by omega), ha, h.1.st hi, h.1.bst hi]
      by_cases q1 : τ 5 i = 1 <;> cases q2 : (tBst τ i).isSome <;> simp [q1]
    · simp [kOrder, bOr, gC, ha]
  have hw := cal_w (g := gOrder σ za) (h' := hOrder τ za) h hk (fun q => by
    unfold hOrder
    rw [if_neg (fun z => q ⟨by unfold bOr at z; simp at z; exact z.1, z, rfl⟩)]) (fun t ht9 hT hR ha hb hc => by
    have ha9 := hb
    unfold bOr at ha9
    obtain ⟨i, hi, rfl⟩ := of_15 ha
    rw [ix_nI (by omega)] at ha9
    simp at ha9
    have g5 : ∀ j, tGo τ (inB (nI i) 0 15) (bOr τ (nI i)) true 5 j = τ 5 j := fun j => tGo_r _ _ _ _ (by decide) j
    refine ⟨sEnq σ i, tQueue (tGo τ (inB (nI i) 0 15) (bOr τ (nI i)) true) i, ?_, ?_, (Rel.queue (hR.le (c := 30000 * n + 64 + 2) (by omega)) hi), hT.queue (by rw [g5, ha9.2.1]; decide) (fun _ _ _ s => s), KP.queue.2.1⟩
    · unfold gOrder; rw [ix_nI (by omega)]
    · unfold hOrder; rw [if_pos hb, ix_nI (by omega)])
  refine ⟨hw.1, fun h0 => ?_, hw.2⟩
  have hq := gC_0.mp (hk.symm.trans h0)
  have hL := hw.2
  rw [if_pos h0] at hL
  have ha9 := hq.2.1
  unfold bOr at ha9
  simp at ha9
  obtain ⟨i, hi, rfl⟩ := of_15 ha9.1
  unfold rOrder qOrder
  rw [if_pos hq.2.1, ix_nI (by omega)]
  exact hL.1.st hi
theorem k_cancel {n : Nat} {σ τ : Mem} (h : LI (n + 1) σ τ) (za : Int32) : (hCancel τ za) 0 25 = kCancel σ za ∧ LI n (if kCancel σ za = 0 then gCancel σ za else σ) (hCancel τ za) := by
  have hk : kCancel σ za = gC (inB za 0 15) (bCa τ za) (true) := by
    by_cases ha : inB za 0 15 = true
    · obtain ⟨i, hi, rfl⟩ := of_15 ha
      simp only [kCancel, bCa, gC, ix_nI (show i < 2147483648 by omega), ha, h.1.st hi, h.1.bst hi]
      by_cases q1 : τ 5 i = 2 <;> by_cases q2 : τ 5 i = 4 <;> simp [q1, q2]
    · simp [kCancel, bCa, gC, ha]
  have hw := cal_w (g := gCancel σ za) (h' := hCancel τ za) h hk (fun q => by
    unfold hCancel
    rw [if_neg (fun z => q ⟨by unfold bCa at z; simp at z; exact z.1, z, rfl⟩)]) (fun t ht9 hT hR ha hb hc => by
    have ha9 := hb
    unfold bCa at ha9
    obtain ⟨i, hi, rfl⟩ := of_15 ha
    rw [ix_nI (by omega)] at ha9
    simp at ha9
    have g5 : ∀ j, tGo τ (inB (nI i) 0 15) (bCa τ (nI i)) true 5 j = τ 5 j := fun j => tGo_r _ _ _ _ (by decide) j
    refine ⟨sChg σ i 1, tTurn (tGo τ (inB (nI i) 0 15) (bCa τ (nI i)) true) i 1, ?_, ?_, (Rel.chg1 (hR.le (c := 30000 * n + 64 + 1) (by omega)) hi (by decide) (fun q => by rcases q with q | q | q <;> exact absurd q (by decide)) (fun q => by rcases q with q | q | q <;> exact absurd q (by decide))), hT.turn (by rw [g5]; rcases ha9.2 with z | z <;> rw [z] <;> decide) (fun _ _ _ s => s) (by decide) (by decide) (by decide), KP.turn.2.1⟩
    · unfold gCancel; rw [ix_nI (by omega)]
    · unfold hCancel; rw [if_pos hb, ix_nI (by omega)])
  exact hw
theorem k_finish {n : Nat} {σ τ : Mem} (h : LI (n + 1) σ τ) (za : Int32) (gd : Bool) : (hFinish τ za gd) 0 25 = kFinish σ za ∧ ((kFinish σ za) = 0 → rFinish σ za gd = qFinish τ za gd) ∧ LI n (if kFinish σ za = 0 then gFinish σ za gd else σ) (hFinish τ za gd) := by
  have hk : kFinish σ za = gC (inB za 0 15) (bSt τ za 3) (true) := by
    by_cases ha : inB za 0 15 = true
    · obtain ⟨i, hi, rfl⟩ := of_15 ha
      simp only [kFinish, bSt, gC, ix_nI (show i < 2147483648 by omega), ha, h.1.st hi, h.1.bst hi]
      by_cases q1 : τ 5 i = 3 <;> simp [q1]
    · simp [kFinish, bSt, gC, ha]
  have hw := cal_w (g := gFinish σ za gd) (h' := hFinish τ za gd) h hk (fun q => by
    unfold hFinish
    rw [if_neg (fun z => q ⟨by unfold bSt at z; simp at z; exact z.1, z, rfl⟩)]) (fun t ht9 hT hR ha hb hc => by
    have ha9 := hb
    unfold bSt at ha9
    obtain ⟨i, hi, rfl⟩ := of_15 ha
    rw [ix_nI (by omega)] at ha9
    simp at ha9
    have g5 : ∀ j, tGo τ (inB (nI i) 0 15) (bSt τ (nI i) 3) true 5 j = τ 5 j := fun j => tGo_r _ _ _ _ (by decide) j
    cases gd with
    | true =>
      refine ⟨sChg (up2 σ 6 i 0) i 5, up2 (tTurn (tGo τ (inB (nI i) 0 15) (bSt τ (nI i) 3) true) i 5) 13 i 0, ?_, ?_, Rel.back (hR.le (c := 30000 * n + 64 + 1) (by omega)) hi (by decide) (fun _ => hR.2.2.1 i hi (by omega) (Or.inl (by rw [g5]; exact ha9.2))) (fun q => by rcases q with q | q | q <;> exact absurd q (by decide)), hT.back (by decide) (by decide) (by decide), by simp [up2, tTurn]⟩
      · unfold gFinish; rw [ix_nI (by omega), if_pos rfl]
      · unfold hFinish; rw [if_pos hb, ix_nI (by omega), if_pos rfl]
    | false =>
      refine ⟨sFail σ i, tFail (tGo τ (inB (nI i) 0 15) (bSt τ (nI i) 3) true) i, ?_, ?_, Rel.fail (hR.le (c := 30000 * n + 64 + 1) (by omega)) hT.2.2 hi (by rw [g5, ha9.2]; decide), hT.fail hi (by rw [g5, ha9.2]; decide) (fun _ _ _ s => s), KP.fail.2.1⟩
      · unfold gFinish; rw [ix_nI (by omega), if_neg (by decide)]
      · unfold hFinish; rw [if_pos hb, ix_nI (by omega), if_neg (by decide)])
  refine ⟨hw.1, fun h0 => ?_, hw.2⟩
  have hq := gC_0.mp (hk.symm.trans h0)
  have hL := hw.2
  rw [if_pos h0] at hL
  have ha9 := hq.2.1
  unfold bSt at ha9
  simp at ha9
  obtain ⟨i, hi, rfl⟩ := of_15 ha9.1
  unfold rFinish qFinish
  rw [if_pos hq.2.1, ix_nI (by omega)]
  exact hL.1.st hi
theorem k_retire {n : Nat} {σ τ : Mem} (h : LI (n + 1) σ τ) (za zb : Int32) : (hRetire τ za zb) 0 25 = kRetire σ za zb ∧ LI n (if kRetire σ za zb = 0 then gRetire σ za zb else σ) (hRetire τ za zb) := by
  have hk : kRetire σ za zb = gC (inB za 0 15) (inB zb 0 48) (bSt τ za 5) := by
    by_cases ha : inB za 0 15 = true
    · obtain ⟨i, hi, rfl⟩ := of_15 ha
      simp only [kRetire, bSt, gC, ix_nI (show i < 2147483648 by omega), ha, h.1.st hi, h.1.bst hi]
      by_cases q1 : τ 5 i = 5 <;> cases inB zb 0 48 <;> simp [q1]
    · simp [kRetire, bSt, gC, ha]
  have hw := cal_w (g := gRetire σ za zb) (h' := hRetire τ za zb) h hk (fun q => by
    unfold hRetire
    rw [if_neg (fun z => q ⟨by have z2 := z.2; unfold bSt at z2; simp at z2; exact z2.1, z.1, z.2⟩)]
    rfl) (fun t ht9 hT hR ha hb hc => by
    have ha9 := hc
    unfold bSt at ha9
    obtain ⟨i, hi, rfl⟩ := of_15 ha
    rw [ix_nI (by omega)] at ha9
    simp at ha9
    have g5 : ∀ j, tGo τ (inB (nI i) 0 15) (inB zb 0 48) (bSt τ (nI i) 5) 5 j = τ 5 j := fun j => tGo_r _ _ _ _ (by decide) j
    by_cases h0 : zb = 0
    · refine ⟨sWipe σ i, tWiped (tGo τ (inB (nI i) 0 15) (inB zb 0 48) (bSt τ (nI i) 5)) i, ?_, ?_, Rel.wiped (hR.le (c := 30000 * n + 64 + 1) (by omega)) hi, hT.wiped (by rw [g5, ha9.2]; decide) (fun _ _ _ s => s), KP.wiped.2.1⟩
      · unfold gRetire; rw [ix_nI (by omega), if_pos h0]
      · unfold hRetire; rw [if_pos ⟨hb, hc⟩, ix_nI (by omega), if_pos h0]; rfl
    · obtain ⟨t9, t1, t2, rfl⟩ := of_lo 0 48 (by decide) (by decide) hb
      have t3 : 1 ≤ t9 := by
        rcases Nat.eq_zero_or_pos t9 with z | z
        · exact absurd (by rw [z]; rfl) h0
        · exact z
      refine ⟨sChg (up2 σ 8 i (σ 20 6 + nI t9)) i 6, tDrain (tGo τ (inB (nI i) 0 15) (inB (nI t9) 0 48) (bSt τ (nI i) 5)) i (nI t9), ?_, ?_, Rel.drain (hR.le (c := 30000 * n + 64 + 1) (by omega)) hi (by rw [g5]; exact ha9.2) _, hT.drain (by rw [g5, ha9.2]; decide) t3 t2, by simp [tDrain, tTurn, up2]⟩
      · unfold gRetire; rw [ix_nI (by omega), if_neg h0]
      · unfold hRetire; rw [if_pos ⟨hb, hc⟩, ix_nI (by omega), if_neg h0]; rfl)
  exact hw
theorem k_keep {n : Nat} {σ τ : Mem} (h : LI (n + 1) σ τ) (za : Int32) : (hKeep τ za) 0 25 = kKeep σ za ∧ LI n (if kKeep σ za = 0 then gKeep σ za else σ) (hKeep τ za) := by
  have hk : kKeep σ za = gC (inB za 0 15) (bSt τ za 6) (true) := by
    by_cases ha : inB za 0 15 = true
    · obtain ⟨i, hi, rfl⟩ := of_15 ha
      simp only [kKeep, bSt, gC, ix_nI (show i < 2147483648 by omega), ha, h.1.st hi, h.1.bst hi]
      by_cases q1 : τ 5 i = 6 <;> simp [q1]
    · simp [kKeep, bSt, gC, ha]
  have hw := cal_w (g := gKeep σ za) (h' := hKeep τ za) h hk (fun q => by
    unfold hKeep
    rw [if_neg (fun z => q ⟨by unfold bSt at z; simp at z; exact z.1, z, rfl⟩)]) (fun t ht9 hT hR ha hb hc => by
    have ha9 := hb
    unfold bSt at ha9
    obtain ⟨i, hi, rfl⟩ := of_15 ha
    rw [ix_nI (by omega)] at ha9
    simp at ha9
    have g5 : ∀ j, tGo τ (inB (nI i) 0 15) (bSt τ (nI i) 6) true 5 j = τ 5 j := fun j => tGo_r _ _ _ _ (by decide) j
    refine ⟨sChg σ i 5, tTurn (tGo τ (inB (nI i) 0 15) (bSt τ (nI i) 6) true) i 5, ?_, ?_, (Rel.chg1 (hR.le (c := 30000 * n + 64 + 1) (by omega)) hi (by decide) (fun _ => hR.2.2.1 i hi (by omega) (Or.inr (Or.inr (by rw [g5]; exact ha9.2)))) (fun q => by rcases q with q | q | q <;> exact absurd q (by decide))), hT.turn (by rw [g5, ha9.2]; decide) (fun _ _ _ s => s) (by decide) (by decide) (by decide), KP.turn.2.1⟩
    · unfold gKeep; rw [ix_nI (by omega)]
    · unfold hKeep; rw [if_pos hb, ix_nI (by omega)])
  exact hw
theorem k_release {n : Nat} {σ τ : Mem} (h : LI (n + 1) σ τ) (za : Int32) : (hRelease τ za) 0 25 = kRelease σ za ∧ LI n (if kRelease σ za = 0 then gRelease σ za else σ) (hRelease τ za) := by
  have hk : kRelease σ za = gC (inB za 0 15) (bSt τ za 7) (true) := by
    by_cases ha : inB za 0 15 = true
    · obtain ⟨i, hi, rfl⟩ := of_15 ha
      simp only [kRelease, bSt, gC, ix_nI (show i < 2147483648 by omega), ha, h.1.st hi, h.1.bst hi]
      by_cases q1 : τ 5 i = 7 <;> simp [q1]
    · simp [kRelease, bSt, gC, ha]
  have hw := cal_w (g := gRelease σ za) (h' := hRelease τ za) h hk (fun q => by
    unfold hRelease
    rw [if_neg (fun z => q ⟨by unfold bSt at z; simp at z; exact z.1, z, rfl⟩)]) (fun t ht9 hT hR ha hb hc => by
    have ha9 := hb
    unfold bSt at ha9
    obtain ⟨i, hi, rfl⟩ := of_15 ha
    rw [ix_nI (by omega)] at ha9
    simp at ha9
    refine ⟨sChg (up2 σ 6 i 0) i 1, up2 (tTurn (tGo τ (inB (nI i) 0 15) (bSt τ (nI i) 7) true) i 1) 13 i 0, ?_, ?_, Rel.back (hR.le (c := 30000 * n + 64 + 1) (by omega)) hi (by decide) (fun q => by rcases q with q | q | q <;> exact absurd q (by decide)) (fun q => by rcases q with q | q | q <;> exact absurd q (by decide)), hT.back (by decide) (by decide) (by decide), by simp [up2, tTurn]⟩
    · unfold gRelease; rw [ix_nI (by omega)]
    · unfold hRelease; rw [if_pos hb, ix_nI (by omega)])
  exact hw
theorem k_advance {n : Nat} {σ τ : Mem} (h : LI (n + 1) σ τ) (za : Int32) : (hAdvance τ za) 0 25 = kAdvance za ∧ (kAdvance za = 0 → rAdvance σ za = qAdvance τ za) ∧ LI n (if kAdvance za = 0 then gAdvance σ za else σ) (hAdvance τ za) := by
  have hk : kAdvance za = gC (inB za 1 200) true true := by
    simp only [kAdvance, gC]
    generalize inB za 1 200 = x0
    cases x0 <;> simp
  by_cases q : inB za 1 200 = true
  · have h0 : kAdvance za = 0 := by rw [hk]; exact gC_0.mpr ⟨q, rfl, rfl⟩
    obtain ⟨m, m1, m2, rfl⟩ := of_lo 1 200 (by decide) (by decide) q
    have eh : hAdvance τ (nI m) = tAdv (tGo τ (inB (nI m) 1 200) true true) m := by unfold hAdvance; rw [if_pos q, ix_nI (by omega)]
    have eg : gAdvance σ (nI m) = sAdv σ m := by unfold gAdvance; rw [ix_nI (by omega)]
    obtain ⟨h1, t, h2, h3⟩ := h.go (inB (nI m) 1 200) true true
    have r : Rel (30000 * n) (sAdv σ m) (tAdv (tGo τ (inB (nI m) 1 200) true true) m) := (Rel.adv (b := 30000 * n) (n := m) (h1.le (by omega)) h3.2.2 m (Nat.le_refl m)).le (by omega)
    rw [if_pos h0, eh, eg]
    refine ⟨(KP.adv m).2.1.trans (by rw [tGo_25, hk]), fun _ => ?_, r, t + m, by omega, TT.adv h3 (by omega) m (Nat.le_refl m)⟩
    unfold rAdvance qAdvance
    rw [if_pos q, eh, eg, r.add, tGo_0 _ _ _ _ (by decide), h.1.add]
  · have h0 : ¬ kAdvance za = 0 := by rw [hk]; exact fun z => q (gC_0.mp z).1
    have eh : hAdvance τ za = tGo τ (inB za 1 200) true true := by unfold hAdvance; rw [if_neg q]
    rw [if_neg h0, eh]
    exact ⟨by rw [tGo_25, hk], fun z => absurd z h0, (h.go _ _ _).le⟩
theorem k_stateOf {n : Nat} {σ τ : Mem} (h : LI (n + 1) σ τ) (za : Int32) : (hM τ za) 0 25 = kM za ∧ (kM za = 0 → rStateOf σ za = qM τ za (τ 5 (ix za))) ∧ LI n σ (hM τ za) := by
  have hk : kM za = gC (inB za 0 15) (true) (true) := by
    simp only [kM, gC]
    generalize inB za 0 15 = x0
    cases x0 <;> simp
  have hw := cal_r h hk
  refine ⟨hw.1, fun h0 => ?_, hw.2⟩
  have hq := gC_0.mp (hk.symm.trans h0)
  obtain ⟨i, hi, rfl⟩ := of_15 hq.1
  unfold rStateOf qM
  rw [if_pos hq.1, ix_nI (by omega)]
  exact h.1.st hi
theorem k_failuresOf {n : Nat} {σ τ : Mem} (h : LI (n + 1) σ τ) (za : Int32) : (hM τ za) 0 25 = kM za ∧ (kM za = 0 → rFailuresOf σ za = qM τ za (τ 13 (ix za))) ∧ LI n σ (hM τ za) := by
  have hk : kM za = gC (inB za 0 15) (true) (true) := by
    simp only [kM, gC]
    generalize inB za 0 15 = x0
    cases x0 <;> simp
  have hw := cal_r h hk
  refine ⟨hw.1, fun h0 => ?_, hw.2⟩
  have hq := gC_0.mp (hk.symm.trans h0)
  obtain ⟨i, hi, rfl⟩ := of_15 hq.1
  unfold rFailuresOf qM
  rw [if_pos hq.1, ix_nI (by omega)]
  exact (h.1.2.1 i hi).2.2.2.2.2
theorem k_matchOf {n : Nat} {σ τ : Mem} (h : LI (n + 1) σ τ) (za : Int32) : (hM τ za) 0 25 = kM za ∧ (kM za = 0 → rMatchOf σ za = qM τ za (oI (tBst τ (ix za)))) ∧ LI n σ (hM τ za) := by
  have hk : kM za = gC (inB za 0 15) (true) (true) := by
    simp only [kM, gC]
    generalize inB za 0 15 = x0
    cases x0 <;> simp
  have hw := cal_r h hk
  refine ⟨hw.1, fun h0 => ?_, hw.2⟩
  have hq := gC_0.mp (hk.symm.trans h0)
  obtain ⟨i, hi, rfl⟩ := of_15 hq.1
  unfold rMatchOf qM
  rw [if_pos hq.1, ix_nI (by omega)]
  rw [h.1.bst hi]
theorem k_reason {n : Nat} {σ τ : Mem} (h : LI (n + 1) σ τ) (za : Int32) : (hM τ za) 0 25 = kM za ∧ (kM za = 0 → rReason σ za = qM τ za (tWhy τ (ix za))) ∧ LI n σ (hM τ za) := by
  have hk : kM za = gC (inB za 0 15) (true) (true) := by
    simp only [kM, gC]
    generalize inB za 0 15 = x0
    cases x0 <;> simp
  have hw := cal_r h hk
  refine ⟨hw.1, fun h0 => ?_, hw.2⟩
  have hq := gC_0.mp (hk.symm.trans h0)
  obtain ⟨i, hi, rfl⟩ := of_15 hq.1
  unfold rReason qM tWhy sRs
  rw [if_pos hq.1, ix_nI (by omega)]
  rw [h.1.st hi, h.1.bst hi]
  by_cases c0 : τ 5 i = 0
  · simp [c0]
  · by_cases c1 : τ 5 i = 1
    · cases (tBst τ i).isSome <;> simp [c1]
    · by_cases c2 : τ 5 i = 2
      · cases (tBst τ i).isSome <;> simp [c2]
      · simp [c0, c1, c2]
theorem k_imageOf {n : Nat} {σ τ : Mem} (h : LI (n + 1) σ τ) (za : Int32) : (hM τ za) 0 25 = kM za ∧ (kM za = 0 → rImageOf σ za = qImageOf τ za) ∧ LI n σ (hM τ za) := by
  have hk : kM za = gC (inB za 0 15) (true) (true) := by
    simp only [kM, gC]
    generalize inB za 0 15 = x0
    cases x0 <;> simp
  have hw := cal_r h hk
  refine ⟨hw.1, fun h0 => ?_, hw.2⟩
  have hq := gC_0.mp (hk.symm.trans h0)
  obtain ⟨i, hi, rfl⟩ := of_15 hq.1
  unfold rImageOf qImageOf hM
  rw [if_pos hq.1, ix_nI (by omega)]
  rw [tGo_r _ _ _ _ (by decide), tGo_r _ _ _ _ (by decide)]
  unfold sBears
  rw [h.1.st hi]
  by_cases c : τ 5 i = 3 ∨ τ 5 i = 5 ∨ τ 5 i = 6
  · rw [if_pos c, if_pos (by simpa [or_assoc] using c)]
    exact h.1.2.2.1 i hi (by omega) c
  · rw [if_neg c, if_neg (by simpa [or_assoc] using c)]
theorem k_endOf {n : Nat} {σ τ : Mem} (h : LI (n + 1) σ τ) (za : Int32) : (hM τ za) 0 25 = kM za ∧ (kM za = 0 → rEndOf σ za = qEndOf τ za) ∧ LI n σ (hM τ za) := by
  have hk : kM za = gC (inB za 0 15) (true) (true) := by
    simp only [kM, gC]
    generalize inB za 0 15 = x0
    cases x0 <;> simp
  have hw := cal_r h hk
  refine ⟨hw.1, fun h0 => ?_, hw.2⟩
  have hq := gC_0.mp (hk.symm.trans h0)
  obtain ⟨i, hi, rfl⟩ := of_15 hq.1
  unfold rEndOf qEndOf hM
  rw [if_pos hq.1, ix_nI (by omega)]
  rw [tGo_r _ _ _ _ (by decide)]
  have he : sEnds σ i = tEnds τ i := by unfold sEnds tEnds; rw [h.1.st hi]
  rw [he]
  by_cases c : tEnds τ i = true
  · rw [if_pos c, if_pos c]
    refine h.1.2.2.2.1 i hi (by omega) ?_
    simpa [tEnds, or_assoc] using c
  · rw [if_neg c, if_neg c]
theorem k_installing {n : Nat} {σ τ : Mem} (h : LI (n + 1) σ τ) (za : Int32) : (hR τ za) 0 25 = kR za ∧ (kR za = 0 → rInstalling σ za = qInstalling τ za) ∧ LI n σ (hR τ za) := by
  have hk : kR za = gC (inB za 0 3) (true) (true) := by
    simp only [kR, gC]
    generalize inB za 0 3 = x0
    cases x0 <;> simp
  have hw := cal_r h hk
  refine ⟨hw.1, fun h0 => ?_, hw.2⟩
  have hq := gC_0.mp (hk.symm.trans h0)
  unfold rInstalling qInstalling
  rw [if_pos hq.1]
  exact h.1.work za
theorem k_queueAt {n : Nat} {σ τ : Mem} (h : LI (n + 1) σ τ) (za zb : Int32) : (hQueueAt τ za zb) 0 25 = kQueueAt za zb ∧ (kQueueAt za zb = 0 → rQueueAt σ za zb = qQueueAt τ za zb) ∧ LI n σ (hQueueAt τ za zb) := by
  have hk : kQueueAt za zb = gC (bQa za zb) (true) (true) := by
    simp only [kQueueAt, bQa, gC]
    generalize inB za 0 3 = x0
    by_cases q : zb < 0 <;> cases x0 <;> simp [q]
  have hw := cal_r h hk
  refine ⟨hw.1, fun h0 => ?_, hw.2⟩
  have hq := gC_0.mp (hk.symm.trans h0)
  unfold rQueueAt qQueueAt
  rw [if_pos hq.1]
  exact (h.1.queued za zb).symm
theorem k_machineAt {n : Nat} {σ τ : Mem} (h : LI (n + 1) σ τ) (za : Int32) : (hMachineAt τ za) 0 25 = kMachineAt σ za ∧ (kMachineAt σ za = 0 → rMachineAt σ za = qMachineAt τ za) ∧ LI n σ (hMachineAt τ za) := by
  have hk : kMachineAt σ za = gC (bMa τ za) (true) (true) := by
    obtain ⟨w, w1, w2⟩ := h.wb
    rw [ent_ma w1 (by omega)]
    unfold kMachineAt gC
    rw [h.1.kept]
    by_cases q : za < 0 <;> by_cases q2 : za < tKept τ <;> simp [q, q2]
  have hw := cal_r h hk
  refine ⟨hw.1, fun h0 => ?_, hw.2⟩
  have hq := gC_0.mp (hk.symm.trans h0)
  obtain ⟨-, -, -, -, -, -, ⟨w, h7, h8a, h8b, h8c⟩, -⟩ := h.1
  obtain ⟨e, e1, e2, rfl⟩ := ma_of h8b (by omega) hq.1
  unfold rMachineAt qMachineAt hMachineAt
  rw [if_pos hq.1, tGo_r _ _ _ _ (by decide), ix_nI (by omega), h8b, ix_nI (by omega)]
  exact (h8c e e1 e2).1
theorem k_stateBefore {n : Nat} {σ τ : Mem} (h : LI (n + 1) σ τ) (za zb : Int32) : (hStateBefore τ za zb) 0 25 = kStateBefore σ za zb ∧ (kStateBefore σ za zb = 0 → rStateBefore σ za zb = qStateBefore τ za zb) ∧ LI n σ (hStateBefore τ za zb) := by
  have hk : kStateBefore σ za zb = gC (inB za 0 15) (bSb τ zb) (true) := by
    unfold kStateBefore bSb gC
    rw [h.1.kept]
    generalize inB za 0 15 = x0
    generalize inB zb 0 (tKept τ) = x1
    cases x0 <;> cases x1 <;> simp
  have hw := cal_r h hk
  refine ⟨hw.1, fun h0 => ?_, hw.2⟩
  have hq := gC_0.mp (hk.symm.trans h0)
  obtain ⟨w, w1, w2⟩ := h.wb
  obtain ⟨i, hi, rfl⟩ := of_15 hq.1
  obtain ⟨e, e1, e2, rfl⟩ := sb_of w1 (by omega) hq.2.1
  unfold rStateBefore qStateBefore
  rw [if_pos ⟨hq.1, hq.2.1⟩, ix_nI (by omega), ix_nI (by omega), w1, ix_nI (by omega)]
  exact h.1.sb hi w1 (by omega) e e1 e2
theorem k_now {n : Nat} {σ τ : Mem} (h : LI (n + 1) σ τ) : σ 20 6 = τ 0 0 ∧ LI n σ (tTold τ) := ⟨h.1.1.2.2.1, h.told.le⟩
theorem k_wipes {n : Nat} {σ τ : Mem} (h : LI (n + 1) σ τ) : σ 20 7 = τ 0 4 ∧ LI n σ (tTold τ) := ⟨h.1.1.2.2.2, h.told.le⟩
theorem k_entries {n : Nat} {σ τ : Mem} (h : LI (n + 1) σ τ) : sKept σ = tKept τ ∧ LI n σ (tTold τ) := ⟨h.1.kept, h.told.le⟩
theorem k_nextChange {n : Nat} {σ τ : Mem} (h : LI (n + 1) σ τ) : rNextChange σ = tNx (tTold τ) 16 ∧ LI n σ (tTold τ) := by
  refine ⟨?_, h.told.le⟩
  obtain ⟨h1, t, h2, h3⟩ := h.told
  unfold rNextChange
  rcases Rel.next h1 h3.1 (by omega) 16 (by omega) with ⟨a1, a2⟩ | ⟨e, a1, a2, a3, a4⟩
  · rw [a1, a2, if_pos rfl]
  · rw [a3, a4, if_neg (nI_ne_m1 (by omega)), h1.1.2.2.1, h3.1.1, pk_sub (by omega)]
theorem LI.start : LI 512 σ0 τ0 := by
  refine ⟨⟨⟨rfl, rfl, rfl, rfl⟩, fun i _ => ⟨rfl, rfl, rfl, rfl, rfl, rfl⟩, fun i _ _ q => ?_, fun i _ _ q => ?_, fun k _ => ⟨rfl, rfl, rfl, rfl, rfl, rfl, fun q => absurd rfl q⟩, fun k _ => rfl, ⟨0, by omega, rfl, rfl, fun e _ q => absurd q (Nat.not_lt_zero e)⟩, 0, by omega, rfl, rfl, fun i _ _ q => absurd (show (0 : Int32) = 2 from q) (by decide), fun i j _ _ _ _ q => absurd (show (0 : Int32) = 2 from q) (by decide)⟩, 0, by omega, ⟨rfl, fun i _ q => ?_⟩, ⟨⟨1, by omega, by omega, rfl⟩, fun k _ q => absurd rfl q⟩, fun i _ => ⟨0, by omega, rfl, Or.inl (by omega)⟩, 3, by omega, rfl⟩
  · rcases q with q | q | q <;> exact absurd (show (0 : Int32) = _ from q) (by decide)
  · rcases q with q | q | q <;> exact absurd (show (0 : Int32) = _ from q) (by decide)
  · exact absurd (show (decide ((0 : Int32) = 3) || decide ((0 : Int32) = 4) || decide ((0 : Int32) = 6)) = true from q) (by decide)
