/-! WHAT EACH METHOD OF THE CLASS DOES, on the numbers of its state -/
def inB (v lo hi : Int32) : Bool := decide (lo ≤ v) && decide (v ≤ hi)
def ix (v : Int32) : Nat := v.toNatClampNeg
theorem ix_nI {i : Nat} (h : i < 2147483648) : ix (nI i) = i := nI_clamp (by omega)
theorem in_of {v : Int32} (n : Nat) (hn : n < 2147483648) (h0 : ¬ v < 0) (h1 : v < nI n) : ∃ i, i < n ∧ v = nI i := by
  obtain ⟨j, hj, rfl⟩ := nI_of h0
  exact ⟨j, (nI_ltI (by omega) (by omega)).mp h1, rfl⟩
theorem inB_of {v : Int32} (n : Nat) (hn : n < 2147483647) (h : inB v 0 (nI n) = true) : ∃ i, i < n + 1 ∧ v = nI i := by
  simp only [inB, Bool.and_eq_true, decide_eq_true_eq] at h
  obtain ⟨j, hj, rfl⟩ := nI_of (Int32.not_lt.mpr h.1)
  exact ⟨j, by have := (nI_leI (a := j) (b := n) (by omega) (by omega)).mp h.2; omega, rfl⟩
theorem inB_nI {i n : Nat} (hn : n < 2147483647) (h : i < n + 1) : inB (nI i) 0 (nI n) = true := by
  simp only [inB, Bool.and_eq_true, decide_eq_true_eq]
  exact ⟨nI_pos' (by omega), (nI_leI (by omega) (by omega)).mpr (by omega)⟩
theorem inB_15 {i : Nat} (h : i < 16) : inB (nI i) 0 15 = true := inB_nI (n := 15) (by decide) h
theorem inB_7 {i : Nat} (h : i < 8) : inB (nI i) 0 7 = true := inB_nI (n := 7) (by decide) h
theorem inB_3 {i : Nat} (h : i < 4) : inB (nI i) 0 3 = true := inB_nI (n := 3) (by decide) h
theorem of_15 {v : Int32} (h : inB v 0 15 = true) : ∃ i, i < 16 ∧ v = nI i := inB_of 15 (by decide) h
theorem of_7 {v : Int32} (h : inB v 0 7 = true) : ∃ i, i < 8 ∧ v = nI i := inB_of 7 (by decide) h
theorem of_3 {v : Int32} (h : inB v 0 3 = true) : ∃ i, i < 4 ∧ v = nI i := inB_of 3 (by decide) h
/-- out of range, as the class asks: below 0, or not below n -/
theorem out_n {v : Int32} (n : Nat) (hn : n < 2147483647) (h : v < 0 ∨ ¬ v < nI (n + 1)) : inB v 0 (nI n) = false := by
  cases hb : inB v 0 (nI n) with
  | false => rfl
  | true =>
    obtain ⟨i, hi, rfl⟩ := inB_of n hn hb
    rcases h with h | h
    · exact absurd h (nI_pos (by omega))
    · exact absurd (nI_lt hi (by omega)) h
/-- how many below n -/
def ct (p : Nat → Bool) : Nat → Nat
  | 0 => 0
  | n + 1 => ct p n + (if p n then 1 else 0)
theorem ct_le (p : Nat → Bool) : ∀ n, ct p n ≤ n
  | 0 => Nat.le_refl 0
  | n + 1 => by
    have h := ct_le p n
    simp only [ct]
    split <;> omega
theorem ct_y {p : Nat → Bool} {n : Nat} (h : p n = true) : ct p (n + 1) = ct p n + 1 := by simp [ct, h]
theorem ct_n {p : Nat → Bool} {n : Nat} (h : p n = false) : ct p (n + 1) = ct p n := by simp [ct, h]
theorem ct_cong {p q : Nat → Bool} : ∀ {n : Nat}, (∀ k, k < n → p k = q k) → ct p n = ct q n
  | 0, _ => rfl
  | n + 1, h => by simp only [ct]; rw [ct_cong (fun k hk => h k (by omega)), h n (by omega)]
/-- the first below n -/
def fnd (p : Nat → Bool) : Nat → Option Nat
  | 0 => none
  | n + 1 => match fnd p n with
    | some i => some i
    | none => if p n then some n else none
theorem fnd_no {p : Nat → Bool} : ∀ {n : Nat}, (∀ j, j < n → p j = false) → fnd p n = none
  | 0, _ => rfl
  | n + 1, h => by
    have e : fnd p n = none := fnd_no (fun j hj => h j (by omega))
    simp [fnd, e, h n (by omega)]
theorem fnd_at {p : Nat → Bool} {k : Nat} (hp : p k = true) (h : ∀ j, j < k → p j = false) : ∀ {n : Nat}, k < n → fnd p n = some k
  | 0, hk => absurd hk (Nat.not_lt_zero k)
  | n + 1, hk => by
    rcases Nat.lt_or_ge k n with q | q
    · have e : fnd p n = some k := fnd_at hp h q
      simp [fnd, e]
    · have e : k = n := by omega
      subst e
      have e9 : fnd p k = none := fnd_no h
      simp [fnd, e9, hp]
theorem fnd_some {p : Nat → Bool} : ∀ {n i : Nat}, fnd p n = some i → i < n ∧ p i = true
  | 0, i, h => by simp [fnd] at h
  | n + 1, i, h => by
    simp only [fnd] at h
    cases hf : fnd p n with
    | some j =>
      rw [hf] at h
      cases h
      have := fnd_some hf
      exact ⟨by omega, this.2⟩
    | none =>
      rw [hf] at h
      by_cases hp : p n = true
      · simp [hp] at h
        subst h
        exact ⟨by omega, hp⟩
      · simp [hp] at h
theorem fnd_cong {p q : Nat → Bool} : ∀ {n : Nat}, (∀ k, k < n → p k = q k) → fnd p n = fnd q n
  | 0, _ => rfl
  | n + 1, h => by simp only [fnd]; rw [fnd_cong (fun k hk => h k (by omega)), h n (by omega)]
/-- the best below n: of those that match, the first with the greatest priority -/
def bst (mt : Nat → Bool) (pr : Nat → Int32) : Nat → Option Nat
  | 0 => none
  | n + 1 => match bst mt pr n with
    | none => if mt n then some n else none
    | some b => if mt n && decide (pr b < pr n) then some n else some b
theorem bst_lt {mt : Nat → Bool} {pr : Nat → Int32} : ∀ {n b : Nat}, bst mt pr n = some b → b < n
  | 0, b, h => by simp [bst] at h
  | n + 1, b, h => by
    simp only [bst] at h
    cases hf : bst mt pr n with
    | none =>
      rw [hf] at h
      by_cases hp : mt n = true
      · simp [hp] at h; omega
      · simp [hp] at h
    | some j =>
      rw [hf] at h
      have := bst_lt hf
      by_cases hp : (mt n && decide (pr j < pr n)) = true
      · simp only [hp] at h; simp at h; omega
      · simp only [hp] at h; simp at h; omega
theorem bst_cong {mt mt' : Nat → Bool} {pr pr' : Nat → Int32} : ∀ {n : Nat}, (∀ k, k < n → mt k = mt' k) → (∀ k, k < n → pr k = pr' k) → bst mt pr n = bst mt' pr' n
  | 0, _, _ => rfl
  | n + 1, h, h2 => by
    simp only [bst]
    rw [bst_cong (fun k hk => h k (by omega)) (fun k hk => h2 k (by omega)), h n (by omega)]
    cases hf : bst mt' pr' n with
    | none => rfl
    | some b =>
      have hb := bst_lt hf
      simp only [h2 b (by omega), h2 n (by omega)]
def rfM (ad : Nat → Nat) (o : Option Nat) : Option Nat := o.map (fun i => ad (i + 7))
def rfI (ad : Nat → Nat) (o : Option Nat) : Option Nat := o.map (fun i => ad (i + 23))
-- the small reads
def sQ (σ : Mem) (i : Nat) (r : Int32) : Bool := decide (σ 1 i = 2) && decide (σ 2 i = r)
def sBears (σ : Mem) (i : Nat) : Bool := decide (σ 1 i = 3) || decide (σ 1 i = 5) || decide (σ 1 i = 6)
def sEnds (σ : Mem) (i : Nat) : Bool := decide (σ 1 i = 3) || decide (σ 1 i = 4) || decide (σ 1 i = 6)
def sOv (σ : Mem) (i : Nat) (st h : Int32) : Bool := decide (σ 1 i = st) && decide (σ 8 i ≤ h)
def sKept (σ : Mem) : Int32 := if 40 < σ 20 9 then 40 else σ 20 9
def sMt (σ : Mem) (k i : Nat) : Bool := !decide (σ 11 k = 0) && !decide (σ 1 i = 0) && decide (σ 13 k ≤ σ 3 i) && decide ((σ 14 k >>> (σ 4 i &&& 31)) &&& 1 = 1) && decide (σ 5 i &&& σ 15 k = σ 15 k) && decide (σ 5 i &&& σ 16 k = 0)
def sBst (σ : Mem) (i : Nat) : Option Nat := bst (fun k => sMt σ k i) (σ 12) 8
def sInP (σ : Mem) (r : Int32) (i : Nat) : Bool := decide (σ 1 i = 3) && decide (σ 2 i = r)
def sIn (σ : Mem) (r : Int32) : Int32 := nI (ct (sInP σ r) 16)
def sAhP (σ : Mem) (i j : Nat) : Bool := sQ σ j (σ 2 i) && decide (σ 9 j < σ 9 i)
def sAh (σ : Mem) (i : Nat) : Int32 := nI (ct (sAhP σ i) 16)
def sQAP (σ : Mem) (r pl : Int32) (i : Nat) : Bool := sQ σ i r && decide (sAh σ i = pl)
def sQA (σ : Mem) (r pl : Int32) : Option Nat := fnd (sQAP σ r pl) 16
def sRs (st : Int32) : Int32 := if st = 0 then 1 else if st = 1 then 3 else if st = 2 then 4 else if st = 3 then 5 else if st = 4 then 6 else if st = 6 then 7 else if st = 7 then 8 else 0
-- the journal, a change
def sh (σ : Mem) (k : Nat) : Mem := fun a b => if a = 22 ∨ a = 23 then (if k ≤ b ∧ b < 40 then σ a (b - 1) else σ a b) else σ a b
theorem sh_40 (σ : Mem) : sh σ 40 = σ := by
  funext a b
  simp only [sh]
  split
  · rw [if_neg (by omega)]
  · rfl
theorem sh_step (σ : Mem) {i : Nat} (h1 : 0 < i) (h2 : i < 40) : up2 (up2 (sh σ (i + 1)) 22 i (sh σ (i + 1) 22 (i - 1))) 23 i (up2 (sh σ (i + 1)) 22 i (sh σ (i + 1) 22 (i - 1)) 23 (i - 1)) = sh σ i := by
  funext a b
  simp only [sh, up2]
  by_cases ha : a = 22
  · subst ha
    simp
    by_cases hb : b = i
    · subst hb
      simp
      rw [if_neg (by omega), if_pos (by omega)]
    · simp [hb]
      by_cases hc : i + 1 ≤ b ∧ b < 40
      · rw [if_pos hc, if_pos (by omega)]
      · rw [if_neg hc, if_neg (by omega)]
  · by_cases ha3 : a = 23
    · subst ha3
      simp
      by_cases hb : b = i
      · subst hb
        simp
        rw [if_neg (by omega), if_pos (by omega)]
      · simp [hb]
        by_cases hc : i + 1 ≤ b ∧ b < 40
        · rw [if_pos hc, if_pos (by omega)]
        · rw [if_neg hc, if_neg (by omega)]
    · simp [ha, ha3]
def sAdd (σ : Mem) (n st : Int32) : Mem := up2 (up2 (up2 (sh σ 1) 22 0 n) 23 0 st) 20 9 (σ 20 9 + 1)
def sChg (σ : Mem) (i : Nat) (st : Int32) : Mem := up2 (sAdd σ (nI i) (σ 1 i)) 1 i st
def sDraw (σ : Mem) : Mem := up2 σ 20 8 (σ 20 8 + 1)
def sEnq (σ : Mem) (i : Nat) : Mem := sChg (up2 (sDraw σ) 9 i (σ 20 8 + 1)) i 2
def sFail (σ : Mem) (i : Nat) : Mem := if σ 20 5 ≤ σ 6 i + 1 then sChg (up2 σ 6 i (σ 6 i + 1)) i 7 else sChg (up2 (up2 σ 6 i (σ 6 i + 1)) 8 i (σ 20 6 + (σ 20 4 <<< ((σ 6 i + 1 - 1) &&& 31)))) i 4
def sWipe (σ : Mem) (i : Nat) : Mem := sChg (up2 σ 20 7 (σ 20 7 + 1)) i 1
def sBeg (σ : Mem) (i : Nat) : Mem := match sBst σ i with
  | none => sChg σ i 1
  | some k => sChg (up2 (up2 σ 7 i (nI k)) 8 i (σ 20 6 + σ 17 k)) i 3
theorem sBeg_none {σ : Mem} {i : Nat} (h : sBst σ i = none) : sBeg σ i = sChg σ i 1 := by unfold sBeg; rw [h]
theorem sBeg_some {σ : Mem} {i k : Nat} (h : sBst σ i = some k) : sBeg σ i = sChg (up2 (up2 σ 7 i (nI k)) 8 i (σ 20 6 + σ 17 k)) i 3 := by unfold sBeg; rw [h]
def sAns (σ : Mem) (i : Nat) (mv : Bool) : Mem := if σ 1 i = 0 then sChg σ i 1 else if σ 1 i = 3 then sFail σ i else if σ 1 i = 2 ∧ mv = true then up2 (sDraw σ) 9 i (σ 20 8 + 1) else σ
-- installations begin
def sFill (r b : Int32) : Nat → Mem → Mem
  | 0, σ => σ
  | n + 1, σ => match sQA σ r 0 with
    | none => σ
    | some i => if b ≤ sIn σ r then σ else sFill r b n (sBeg σ i)
theorem sFill_0 (r b : Int32) (σ : Mem) : sFill r b 0 σ = σ := rfl
theorem sFill_none {r b : Int32} {σ : Mem} (n : Nat) (h : sQA σ r 0 = none) : sFill r b (n + 1) σ = σ := by
  show (match sQA σ r 0 with | none => σ | some i => if b ≤ sIn σ r then σ else sFill r b n (sBeg σ i)) = _
  rw [h]
theorem sFill_full {r b : Int32} {σ : Mem} (n : Nat) (hb : b ≤ sIn σ r) : sFill r b (n + 1) σ = σ := by
  show (match sQA σ r 0 with | none => σ | some i => if b ≤ sIn σ r then σ else sFill r b n (sBeg σ i)) = _
  rcases sQA σ r 0 with _ | i
  · rfl
  · exact if_pos hb
theorem sFill_go {r b : Int32} {σ : Mem} {i : Nat} (n : Nat) (h : sQA σ r 0 = some i) (hb : ¬ b ≤ sIn σ r) : sFill r b (n + 1) σ = sFill r b n (sBeg σ i) := by
  show (match sQA σ r 0 with | none => σ | some i => if b ≤ sIn σ r then σ else sFill r b n (sBeg σ i)) = _
  rw [h]
  exact if_neg hb
def sBI (σ : Mem) : Nat → Mem
  | 0 => σ
  | k + 1 => sFill (nI k) (sBI σ k 21 k) 16 (sBI σ k)
def sBegins (σ : Mem) : Mem := sBI σ 4
-- the hours
def sFO (σ : Mem) : Nat → Mem
  | 0 => σ
  | k + 1 => if sOv (sFO σ k) k 3 (sFO σ k 20 6) then sFail (sFO σ k) k else sFO σ k
def sWD (σ : Mem) : Nat → Mem
  | 0 => σ
  | k + 1 => if sOv (sWD σ k) k 6 (sWD σ k 20 6) then sWipe (sWD σ k) k else sWD σ k
def sER (σ : Mem) : Nat → Mem
  | 0 => σ
  | k + 1 => if sOv (sER σ k) k 4 (sER σ k 20 6) then sEnq (sER σ k) k else sER σ k
def sPass (σ : Mem) : Mem := sBegins (sER (sWD (sFO (up2 σ 20 6 (σ 20 6 + 1)) 16) 16) 16)
def sAdv (σ : Mem) : Nat → Mem
  | 0 => σ
  | k + 1 => sPass (sAdv σ k)
-- the next change, and the journal's look back
def sNx (σ : Mem) : Nat → Int32
  | 0 => -1
  | k + 1 => if sEnds σ k && (decide (sNx σ k = -1) || decide (σ 8 k < sNx σ k)) then σ 8 k else sNx σ k
def sSB (σ : Mem) (i : Nat) : Nat → Int32
  | 0 => σ 1 i
  | k + 1 => if σ 22 k = nI i then σ 23 k else sSB σ i k
-- the public calls: what is thrown (0: nothing), what is answered, the state behind
theorem i32_lt_le {a b c : Int32} (h : a < b) (h2 : b ≤ c) : a < c := by
  rw [Int32.lt_iff_toInt_lt] at h ⊢
  rw [Int32.le_iff_toInt_le] at h2
  omega
theorem i32_le_le {a b c : Int32} (h : a ≤ b) (h2 : b ≤ c) : a ≤ c := by
  rw [Int32.le_iff_toInt_le] at h h2 ⊢
  omega
theorem inB_le {v lo hi : Int32} (n : Nat) (hn : n < 2147483648) (h0 : 0 ≤ lo) (hh : hi ≤ nI n) (h : inB v lo hi = true) : ∃ c, c ≤ n ∧ v = nI c := by
  simp only [inB, Bool.and_eq_true, decide_eq_true_eq] at h
  obtain ⟨j, hj, rfl⟩ := nI_of (Int32.not_lt.mpr (i32_le_le h0 h.1))
  exact ⟨j, (nI_leI (by omega) (by omega)).mp (i32_le_le h.2 hh), rfl⟩
theorem sKept_le (σ : Mem) : sKept σ ≤ 40 := by
  unfold sKept
  by_cases h : 40 < σ 20 9
  · rw [if_pos h]; exact Int32.le_refl 40
  · rw [if_neg h]; exact Int32.not_lt.mp h
theorem kept_ix {σ : Mem} {v : Int32} (h0 : ¬ v < 0) (h : v < sKept σ) : ∃ i, i < 40 ∧ v = nI i := in_of 40 (by decide) h0 (i32_lt_le h (sKept_le σ))
theorem sw8 {x : Int32} (h0 : ¬ x = 0) (h1 : ¬ x = 1) (h2 : ¬ x = 2) (h3 : ¬ x = 3) (h4 : ¬ x = 4) (h5 : ¬ x = 5) (h6 : ¬ x = 6) (h7 : ¬ x = 7) : x.toInt < 0 ∨ 7 < x.toInt := by
  have k : ∀ n : Int32, ¬ x = n → x.toInt ≠ n.toInt := fun n h q => h (Int32.toInt_inj.mp q)
  have e0 := k 0 h0
  have e1 := k 1 h1
  have e2 := k 2 h2
  have e3 := k 3 h3
  have e4 := k 4 h4
  have e5 := k 5 h5
  have e6 := k 6 h6
  have e7 := k 7 h7
  have t0 : (0 : Int32).toInt = 0 := by decide
  have t1 : (1 : Int32).toInt = 1 := by decide
  have t2 : (2 : Int32).toInt = 2 := by decide
  have t3 : (3 : Int32).toInt = 3 := by decide
  have t4 : (4 : Int32).toInt = 4 := by decide
  have t5 : (5 : Int32).toInt = 5 := by decide
  have t6 : (6 : Int32).toInt = 6 := by decide
  have t7 : (7 : Int32).toInt = 7 := by decide
  omega
def oI (o : Option Nat) : Int32 := match o with
  | none => -1
  | some i => nI i
def kM (za : Int32) : Int32 := if inB za 0 15 = true then 0 else 1
def kR (za : Int32) : Int32 := if inB za 0 3 = true then 0 else 1
def kSetImage (za zb zc zd ze zf : Int32) : Int32 := if inB za 0 7 = true then (if inB zb 0 9 = true ∧ inB zc 0 99 = true ∧ inB zd 0 15 = true ∧ inB ze 0 15 = true ∧ inB zf 0 15 = true then 0 else 2) else 1
def sSetIm (σ : Mem) (i : Nat) (zb zc zd ze zf : Int32) : Mem := up2 (up2 (up2 (up2 (up2 (up2 (if σ 11 i = 0 then up2 σ 17 i 2 else σ) 11 i 1) 12 i zb) 13 i zc) 14 i zd) 15 i ze) 16 i zf
def gSetImage (σ : Mem) (za zb zc zd ze zf : Int32) : Mem := sBegins (sSetIm σ (ix za) zb zc zd ze zf)
def kSetTime (σ : Mem) (za zb : Int32) : Int32 := if inB za 0 7 = true ∧ ¬ σ 11 (ix za) = 0 then (if inB zb 1 24 = true then 0 else 2) else 1
def rSetTime (σ : Mem) (za : Int32) : Int32 := σ 17 (ix za)
def gSetTime (σ : Mem) (za zb : Int32) : Mem := sBegins (up2 σ 17 (ix za) zb)
def kDropImage (σ : Mem) (za : Int32) : Int32 := if inB za 0 7 = true ∧ ¬ σ 11 (ix za) = 0 then 0 else 1
def gDropImage (σ : Mem) (za : Int32) : Mem := sBegins (up2 σ 11 (ix za) 0)
def kSetBatch (za zb : Int32) : Int32 := if inB za 0 3 = true then (if inB zb 0 4 = true then 0 else 2) else 1
def rSetBatch (σ : Mem) (za : Int32) : Int32 := σ 21 (ix za)
def gSetBatch (σ : Mem) (za zb : Int32) : Mem := sBegins (up2 σ 21 (ix za) zb)
def kSetRetries (za zb : Int32) : Int32 := if inB za 1 24 = true ∧ inB zb 1 9 = true then 0 else 1
def gSetRetries (σ : Mem) (za zb : Int32) : Mem := sBegins (up2 (up2 σ 20 4 za) 20 5 zb)
def kReport (za zb zc zd ze : Int32) : Int32 := if inB za 0 15 = true ∧ inB zb 0 3 = true then (if inB zc 0 99 = true ∧ inB zd 0 3 = true ∧ inB ze 0 15 = true then 0 else 2) else 1
def gReport (σ : Mem) (za zb zc zd ze : Int32) : Mem := sBegins (sAns (up2 (up2 (up2 (up2 σ 2 (ix za) zb) 3 (ix za) zc) 4 (ix za) zd) 5 (ix za) ze) (ix za) (!decide (σ 2 (ix za) = zb)))
def rReport (σ : Mem) (za zb zc zd ze : Int32) : Int32 := gReport σ za zb zc zd ze 1 (ix za)
def kOrder (σ : Mem) (za : Int32) : Int32 := if inB za 0 15 = true then (if σ 1 (ix za) = 1 ∧ (sBst σ (ix za)).isSome = true then 0 else 2) else 1
def gOrder (σ : Mem) (za : Int32) : Mem := sBegins (sEnq σ (ix za))
def rOrder (σ : Mem) (za : Int32) : Int32 := gOrder σ za 1 (ix za)
def kCancel (σ : Mem) (za : Int32) : Int32 := if inB za 0 15 = true then (if σ 1 (ix za) = 2 ∨ σ 1 (ix za) = 4 then 0 else 2) else 1
def gCancel (σ : Mem) (za : Int32) : Mem := sBegins (sChg σ (ix za) 1)
def kFinish (σ : Mem) (za : Int32) : Int32 := if inB za 0 15 = true then (if σ 1 (ix za) = 3 then 0 else 2) else 1
def gFinish (σ : Mem) (za : Int32) (gd : Bool) : Mem := sBegins (if gd = true then sChg (up2 σ 6 (ix za) 0) (ix za) 5 else sFail σ (ix za))
def rFinish (σ : Mem) (za : Int32) (gd : Bool) : Int32 := gFinish σ za gd 1 (ix za)
def kRetire (σ : Mem) (za zb : Int32) : Int32 := if inB za 0 15 = true then (if inB zb 0 48 = true then (if σ 1 (ix za) = 5 then 0 else 3) else 2) else 1
def gRetire (σ : Mem) (za zb : Int32) : Mem := sBegins (if zb = 0 then sWipe σ (ix za) else sChg (up2 σ 8 (ix za) (σ 20 6 + zb)) (ix za) 6)
def kKeep (σ : Mem) (za : Int32) : Int32 := if inB za 0 15 = true then (if σ 1 (ix za) = 6 then 0 else 2) else 1
def gKeep (σ : Mem) (za : Int32) : Mem := sBegins (sChg σ (ix za) 5)
def kRelease (σ : Mem) (za : Int32) : Int32 := if inB za 0 15 = true then (if σ 1 (ix za) = 7 then 0 else 2) else 1
def gRelease (σ : Mem) (za : Int32) : Mem := sBegins (sChg (up2 σ 6 (ix za) 0) (ix za) 1)
def kAdvance (za : Int32) : Int32 := if inB za 1 200 = true then 0 else 1
def gAdvance (σ : Mem) (za : Int32) : Mem := sAdv σ (ix za)
def rAdvance (σ : Mem) (za : Int32) : Int32 := gAdvance σ za 20 9 - σ 20 9
def rStateOf (σ : Mem) (za : Int32) : Int32 := σ 1 (ix za)
def rReason (σ : Mem) (za : Int32) : Int32 := if (σ 1 (ix za) = 1 ∨ σ 1 (ix za) = 2) ∧ (sBst σ (ix za)).isSome = false then 2 else sRs (σ 1 (ix za))
def rMatchOf (σ : Mem) (za : Int32) : Int32 := oI (sBst σ (ix za))
def rImageOf (σ : Mem) (za : Int32) : Int32 := if sBears σ (ix za) = true then σ 7 (ix za) else -1
def rEndOf (σ : Mem) (za : Int32) : Int32 := if sEnds σ (ix za) = true then σ 8 (ix za) else -1
def rFailuresOf (σ : Mem) (za : Int32) : Int32 := σ 6 (ix za)
def rInstalling (σ : Mem) (za : Int32) : Int32 := sIn σ za
def kQueueAt (za zb : Int32) : Int32 := if inB za 0 3 = true ∧ ¬ zb < 0 then 0 else 1
def rQueueAt (σ : Mem) (za zb : Int32) : Int32 := oI (sQA σ za zb)
def rNextChange (σ : Mem) : Int32 := if sNx σ 16 = -1 then -1 else sNx σ 16 - σ 20 6
def kMachineAt (σ : Mem) (za : Int32) : Int32 := if ¬ za < 0 ∧ za < sKept σ then 0 else 1
def rMachineAt (σ : Mem) (za : Int32) : Int32 := σ 22 (ix za)
def kStateBefore (σ : Mem) (za zb : Int32) : Int32 := if inB za 0 15 = true then (if inB zb 0 (sKept σ) = true then 0 else 2) else 1
def rStateBefore (σ : Mem) (za zb : Int32) : Int32 := sSB σ (ix za) (ix zb)
