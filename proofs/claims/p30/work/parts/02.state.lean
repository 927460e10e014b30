/-! THE STATE: all numbers that the class (or the reference) holds, by region and place; the worlds are read off it -/
abbrev Mem : Type := Nat → Nat → Int32
def up2 (σ : Mem) (r k : Nat) (v : Int32) : Mem := fun a b => if a = r then (if b = k then v else σ a b) else σ a b
theorem up2_s (σ : Mem) (r k : Nat) (v : Int32) : up2 σ r k v r k = v := by simp [up2]
theorem up2_r {σ : Mem} {r k a : Nat} {v : Int32} (h : a ≠ r) (b : Nat) : up2 σ r k v a b = σ a b := by simp [up2, h]
theorem up2_k {σ : Mem} {r k a b : Nat} {v : Int32} (h : b ≠ k) : up2 σ r k v a b = σ a b := by simp [up2, h]
theorem up2_row (σ : Mem) (r k : Nat) (v : Int32) : up2 σ r k v r = upd (σ r) k v := by funext b; simp [up2, upd]
theorem up2_rowne {σ : Mem} {r k a : Nat} {v : Int32} (h : a ≠ r) : up2 σ r k v a = σ a := by funext b; simp [up2, h]
def b2i (b : Bool) : Int32 := if b then 1 else 0
theorem b2i_0 {b : Bool} : b2i b = 0 ↔ b = false := by cases b <;> simp [b2i]
theorem b2i_n0 {b : Bool} : ¬ b2i b = 0 ↔ b = true := by cases b <;> simp [b2i]
theorem b2i_t : b2i true = 1 := rfl
theorem b2i_f : b2i false = 0 := rfl
abbrev tyC (cy : Nat → ClassId) : List (ClassId × FieldType) := [(cy 0, .int), (cy 0, .int), (cy 2, .object "MachineFoundry$Image"), (cy 3, .object "MachineFoundry$Machine"), (cy 0, .int)]
abbrev ecM (σ : Mem) (i : Nat) : va_E := .inr (2, [.int (nI i), .int (σ 1 i), .int (σ 2 i), .int (σ 3 i), .int (σ 4 i), .int (σ 5 i), .int (σ 6 i), .int (σ 7 i), .int (σ 8 i), .int (σ 9 i)])
abbrev ecI (σ : Mem) (i : Nat) : va_E := .inr (0, [.int (nI i), .int (σ 11 i), .int (σ 12 i), .int (σ 13 i), .int (σ 14 i), .int (σ 15 i), .int (σ 16 i), .int (σ 17 i)])
abbrev ecF (ad : Nat → Nat) (σ : Mem) : va_E := .inr (3, [.ref (ad 1), .ref (ad 2), .ref (ad 3), .ref (ad 4), .int (σ 20 4), .int (σ 20 5), .int (σ 20 6), .int (σ 20 7), .int (σ 20 8)])
def ec (cy : Nat → ClassId) (ad : Nat → Nat) (σ : Mem) (k : Nat) : va_E := match k with
  | 0 => ecF ad σ
  | 1 => .inl (cy 3, 16, .inr (.inr (.inr (.inr (fun i => some (ad (i + 7)))))))
  | 2 => .inl (cy 2, 8, .inr (.inr (.inr (.inr (fun i => some (ad (i + 23)))))))
  | 3 => .inl (cy 0, 4, .inl (σ 21))
  | 4 => .inr (1, [.ref (ad 5), .ref (ad 6), .int (σ 20 9)])
  | 5 => .inl (cy 0, 40, .inl (σ 22))
  | 6 => .inl (cy 0, 40, .inl (σ 23))
  | j + 7 => if j < 16 then ecM σ j else ecI σ (j - 16)
def wC (cy : Nat → ClassId) (ad : Nat → Nat) (σ : Mem) : va_W := (List.range 31).map (fun k => (ad k, ec cy ad σ k))
theorem wC_len (cy : Nat → ClassId) (ad : Nat → Nat) (σ : Mem) : (wC cy ad σ).length = 31 := by simp [wC]
theorem wC_at {cy : Nat → ClassId} {ad : Nat → Nat} {σ : Mem} {k : Nat} (h : k < 31) : (wC cy ad σ)[k]? = some (ad k, ec cy ad σ k) := by
  simp [wC, List.getElem?_map, List.getElem?_range h]
theorem wC_M {cy : Nat → ClassId} {ad : Nat → Nat} {σ : Mem} {i : Nat} (h : i < 16) : (wC cy ad σ)[i + 7]? = some (ad (i + 7), ecM σ i) := by
  rw [wC_at (by omega)]
  show some (ad (i + 7), if i < 16 then ecM σ i else ecI σ (i - 16)) = _
  rw [if_pos h]
theorem wC_I {cy : Nat → ClassId} {ad : Nat → Nat} {σ : Mem} {i : Nat} (h : i < 8) : (wC cy ad σ)[i + 23]? = some (ad (i + 23), ecI σ i) := by
  rw [wC_at (by omega)]
  show some (ad (i + 23), if i + 16 < 16 then ecM σ (i + 16) else ecI σ (i + 16 - 16)) = _
  rw [if_neg (by omega), Nat.add_sub_cancel]
theorem wC_set {cy : Nat → ClassId} {ad : Nat → Nat} {σ σ' : Mem} {k : Nat} {e : va_E} (hk : k < 31) (h1 : ec cy ad σ' k = e) (h2 : ∀ j, j < 31 → j ≠ k → ec cy ad σ' j = ec cy ad σ j) : (wC cy ad σ).set k (ad k, e) = wC cy ad σ' := by
  apply List.ext_getElem?
  intro j
  by_cases hj : j = k
  · subst hj
    rw [List.getElem?_set_self (by rw [wC_len]; exact hk), wC_at hk, h1]
  · rw [List.getElem?_set_ne (Ne.symm hj)]
    by_cases hl : j < 31
    · rw [wC_at hl, wC_at hl, h2 j hl hj]
    · rw [List.getElem?_eq_none (by rw [wC_len]; omega), List.getElem?_eq_none (by rw [wC_len]; omega)]
/-- the addresses that a method of the class may write -/
def AC (ad : Nat → Nat) : Nat → Prop := fun q => ∃ k, k < 31 ∧ q = ad k
def inj31 (ad : Nat → Nat) : Prop := ∀ i j, i < 31 → j < 31 → ad i = ad j → i = j
theorem wC_get {cy : Nat → ClassId} {ad : Nat → Nat} {σ : Mem} {k : Nat} {q : Nat × va_E} (h : (wC cy ad σ)[k]? = some q) : k < 31 ∧ q = (ad k, ec cy ad σ k) := by
  have hl : k < 31 := by
    have := (List.getElem?_eq_some_iff.mp h).1
    rw [wC_len] at this
    exact this
  rw [wC_at hl] at h
  exact ⟨hl, (Option.some.inj h).symm⟩
theorem wC_D {cy : Nat → ClassId} {ad : Nat → Nat} (hj : inj31 ad) (σ : Mem) : va_D (AC ad) (wC cy ad σ) := by
  refine ⟨fun i j p q hp hq h => ?_, fun k q hq => ?_⟩
  · obtain ⟨h1, rfl⟩ := wC_get hp
    obtain ⟨h2, rfl⟩ := wC_get hq
    exact hj i j h1 h2 h
  · obtain ⟨h1, rfl⟩ := wC_get hq
    exact ⟨k, h1, rfl⟩
theorem wC_setM1 {cy : Nat → ClassId} {ad : Nat → Nat} {σ : Mem} {i : Nat} (h : i < 16) (v : Int32) : (wC cy ad σ).set (i + 7) (ad (i + 7), .inr (2, [.int (nI i), .int v, .int (σ 2 i), .int (σ 3 i), .int (σ 4 i), .int (σ 5 i), .int (σ 6 i), .int (σ 7 i), .int (σ 8 i), .int (σ 9 i)])) = wC cy ad (up2 σ 1 i v) := by
  refine wC_set (by omega) ?_ (fun j hj hne => ?_)
  · show (if i < 16 then ecM (up2 σ 1 i v) i else _) = _
    rw [if_pos h]
    simp [ecM, ecI, up2]
  · rcases Nat.lt_or_ge j 7 with h7 | h7
    · have h8 : j = 0 ∨ j = 1 ∨ j = 2 ∨ j = 3 ∨ j = 4 ∨ j = 5 ∨ j = 6 := by omega
      rcases h8 with rfl | rfl | rfl | rfl | rfl | rfl | rfl <;> simp [ec, up2_rowne, up2]
    obtain ⟨j, rfl⟩ : ∃ j', j = j' + 7 := ⟨j - 7, by omega⟩
    show (if j < 16 then ecM (up2 σ 1 i v) j else ecI (up2 σ 1 i v) (j - 16)) = (if j < 16 then ecM σ j else ecI σ (j - 16))
    have hji : j ≠ i := fun q => hne (by rw [q])
    simp [ecM, ecI, up2, hji]
theorem wC_setM2 {cy : Nat → ClassId} {ad : Nat → Nat} {σ : Mem} {i : Nat} (h : i < 16) (v : Int32) : (wC cy ad σ).set (i + 7) (ad (i + 7), .inr (2, [.int (nI i), .int (σ 1 i), .int v, .int (σ 3 i), .int (σ 4 i), .int (σ 5 i), .int (σ 6 i), .int (σ 7 i), .int (σ 8 i), .int (σ 9 i)])) = wC cy ad (up2 σ 2 i v) := by
  refine wC_set (by omega) ?_ (fun j hj hne => ?_)
  · show (if i < 16 then ecM (up2 σ 2 i v) i else _) = _
    rw [if_pos h]
    simp [ecM, ecI, up2]
  · rcases Nat.lt_or_ge j 7 with h7 | h7
    · have h8 : j = 0 ∨ j = 1 ∨ j = 2 ∨ j = 3 ∨ j = 4 ∨ j = 5 ∨ j = 6 := by omega
      rcases h8 with rfl | rfl | rfl | rfl | rfl | rfl | rfl <;> simp [ec, up2_rowne, up2]
    obtain ⟨j, rfl⟩ : ∃ j', j = j' + 7 := ⟨j - 7, by omega⟩
    show (if j < 16 then ecM (up2 σ 2 i v) j else ecI (up2 σ 2 i v) (j - 16)) = (if j < 16 then ecM σ j else ecI σ (j - 16))
    have hji : j ≠ i := fun q => hne (by rw [q])
    simp [ecM, ecI, up2, hji]
theorem wC_setM3 {cy : Nat → ClassId} {ad : Nat → Nat} {σ : Mem} {i : Nat} (h : i < 16) (v : Int32) : (wC cy ad σ).set (i + 7) (ad (i + 7), .inr (2, [.int (nI i), .int (σ 1 i), .int (σ 2 i), .int v, .int (σ 4 i), .int (σ 5 i), .int (σ 6 i), .int (σ 7 i), .int (σ 8 i), .int (σ 9 i)])) = wC cy ad (up2 σ 3 i v) := by
  refine wC_set (by omega) ?_ (fun j hj hne => ?_)
  · show (if i < 16 then ecM (up2 σ 3 i v) i else _) = _
    rw [if_pos h]
    simp [ecM, ecI, up2]
  · rcases Nat.lt_or_ge j 7 with h7 | h7
    · have h8 : j = 0 ∨ j = 1 ∨ j = 2 ∨ j = 3 ∨ j = 4 ∨ j = 5 ∨ j = 6 := by omega
      rcases h8 with rfl | rfl | rfl | rfl | rfl | rfl | rfl <;> simp [ec, up2_rowne, up2]
    obtain ⟨j, rfl⟩ : ∃ j', j = j' + 7 := ⟨j - 7, by omega⟩
    show (if j < 16 then ecM (up2 σ 3 i v) j else ecI (up2 σ 3 i v) (j - 16)) = (if j < 16 then ecM σ j else ecI σ (j - 16))
    have hji : j ≠ i := fun q => hne (by rw [q])
    simp [ecM, ecI, up2, hji]
theorem wC_setM4 {cy : Nat → ClassId} {ad : Nat → Nat} {σ : Mem} {i : Nat} (h : i < 16) (v : Int32) : (wC cy ad σ).set (i + 7) (ad (i + 7), .inr (2, [.int (nI i), .int (σ 1 i), .int (σ 2 i), .int (σ 3 i), .int v, .int (σ 5 i), .int (σ 6 i), .int (σ 7 i), .int (σ 8 i), .int (σ 9 i)])) = wC cy ad (up2 σ 4 i v) := by
  refine wC_set (by omega) ?_ (fun j hj hne => ?_)
  · show (if i < 16 then ecM (up2 σ 4 i v) i else _) = _
    rw [if_pos h]
    simp [ecM, ecI, up2]
  · rcases Nat.lt_or_ge j 7 with h7 | h7
    · have h8 : j = 0 ∨ j = 1 ∨ j = 2 ∨ j = 3 ∨ j = 4 ∨ j = 5 ∨ j = 6 := by omega
      rcases h8 with rfl | rfl | rfl | rfl | rfl | rfl | rfl <;> simp [ec, up2_rowne, up2]
    obtain ⟨j, rfl⟩ : ∃ j', j = j' + 7 := ⟨j - 7, by omega⟩
    show (if j < 16 then ecM (up2 σ 4 i v) j else ecI (up2 σ 4 i v) (j - 16)) = (if j < 16 then ecM σ j else ecI σ (j - 16))
    have hji : j ≠ i := fun q => hne (by rw [q])
    simp [ecM, ecI, up2, hji]
theorem wC_setM5 {cy : Nat → ClassId} {ad : Nat → Nat} {σ : Mem} {i : Nat} (h : i < 16) (v : Int32) : (wC cy ad σ).set (i + 7) (ad (i + 7), .inr (2, [.int (nI i), .int (σ 1 i), .int (σ 2 i), .int (σ 3 i), .int (σ 4 i), .int v, .int (σ 6 i), .int (σ 7 i), .int (σ 8 i), .int (σ 9 i)])) = wC cy ad (up2 σ 5 i v) := by
  refine wC_set (by omega) ?_ (fun j hj hne => ?_)
  · show (if i < 16 then ecM (up2 σ 5 i v) i else _) = _
    rw [if_pos h]
    simp [ecM, ecI, up2]
  · rcases Nat.lt_or_ge j 7 with h7 | h7
    · have h8 : j = 0 ∨ j = 1 ∨ j = 2 ∨ j = 3 ∨ j = 4 ∨ j = 5 ∨ j = 6 := by omega
      rcases h8 with rfl | rfl | rfl | rfl | rfl | rfl | rfl <;> simp [ec, up2_rowne, up2]
    obtain ⟨j, rfl⟩ : ∃ j', j = j' + 7 := ⟨j - 7, by omega⟩
    show (if j < 16 then ecM (up2 σ 5 i v) j else ecI (up2 σ 5 i v) (j - 16)) = (if j < 16 then ecM σ j else ecI σ (j - 16))
    have hji : j ≠ i := fun q => hne (by rw [q])
    simp [ecM, ecI, up2, hji]
theorem wC_setM6 {cy : Nat → ClassId} {ad : Nat → Nat} {σ : Mem} {i : Nat} (h : i < 16) (v : Int32) : (wC cy ad σ).set (i + 7) (ad (i + 7), .inr (2, [.int (nI i), .int (σ 1 i), .int (σ 2 i), .int (σ 3 i), .int (σ 4 i), .int (σ 5 i), .int v, .int (σ 7 i), .int (σ 8 i), .int (σ 9 i)])) = wC cy ad (up2 σ 6 i v) := by
  refine wC_set (by omega) ?_ (fun j hj hne => ?_)
  · show (if i < 16 then ecM (up2 σ 6 i v) i else _) = _
    rw [if_pos h]
    simp [ecM, ecI, up2]
  · rcases Nat.lt_or_ge j 7 with h7 | h7
    · have h8 : j = 0 ∨ j = 1 ∨ j = 2 ∨ j = 3 ∨ j = 4 ∨ j = 5 ∨ j = 6 := by omega
      rcases h8 with rfl | rfl | rfl | rfl | rfl | rfl | rfl <;> simp [ec, up2_rowne, up2]
    obtain ⟨j, rfl⟩ : ∃ j', j = j' + 7 := ⟨j - 7, by omega⟩
    show (if j < 16 then ecM (up2 σ 6 i v) j else ecI (up2 σ 6 i v) (j - 16)) = (if j < 16 then ecM σ j else ecI σ (j - 16))
    have hji : j ≠ i := fun q => hne (by rw [q])
    simp [ecM, ecI, up2, hji]
theorem wC_setM7 {cy : Nat → ClassId} {ad : Nat → Nat} {σ : Mem} {i : Nat} (h : i < 16) (v : Int32) : (wC cy ad σ).set (i + 7) (ad (i + 7), .inr (2, [.int (nI i), .int (σ 1 i), .int (σ 2 i), .int (σ 3 i), .int (σ 4 i), .int (σ 5 i), .int (σ 6 i), .int v, .int (σ 8 i), .int (σ 9 i)])) = wC cy ad (up2 σ 7 i v) := by
  refine wC_set (by omega) ?_ (fun j hj hne => ?_)
  · show (if i < 16 then ecM (up2 σ 7 i v) i else _) = _
    rw [if_pos h]
    simp [ecM, ecI, up2]
  · rcases Nat.lt_or_ge j 7 with h7 | h7
    · have h8 : j = 0 ∨ j = 1 ∨ j = 2 ∨ j = 3 ∨ j = 4 ∨ j = 5 ∨ j = 6 := by omega
      rcases h8 with rfl | rfl | rfl | rfl | rfl | rfl | rfl <;> simp [ec, up2_rowne, up2]
    obtain ⟨j, rfl⟩ : ∃ j', j = j' + 7 := ⟨j - 7, by omega⟩
    show (if j < 16 then ecM (up2 σ 7 i v) j else ecI (up2 σ 7 i v) (j - 16)) = (if j < 16 then ecM σ j else ecI σ (j - 16))
    have hji : j ≠ i := fun q => hne (by rw [q])
    simp [ecM, ecI, up2, hji]
theorem wC_setM8 {cy : Nat → ClassId} {ad : Nat → Nat} {σ : Mem} {i : Nat} (h : i < 16) (v : Int32) : (wC cy ad σ).set (i + 7) (ad (i + 7), .inr (2, [.int (nI i), .int (σ 1 i), .int (σ 2 i), .int (σ 3 i), .int (σ 4 i), .int (σ 5 i), .int (σ 6 i), .int (σ 7 i), .int v, .int (σ 9 i)])) = wC cy ad (up2 σ 8 i v) := by
  refine wC_set (by omega) ?_ (fun j hj hne => ?_)
  · show (if i < 16 then ecM (up2 σ 8 i v) i else _) = _
    rw [if_pos h]
    simp [ecM, ecI, up2]
  · rcases Nat.lt_or_ge j 7 with h7 | h7
    · have h8 : j = 0 ∨ j = 1 ∨ j = 2 ∨ j = 3 ∨ j = 4 ∨ j = 5 ∨ j = 6 := by omega
      rcases h8 with rfl | rfl | rfl | rfl | rfl | rfl | rfl <;> simp [ec, up2_rowne, up2]
    obtain ⟨j, rfl⟩ : ∃ j', j = j' + 7 := ⟨j - 7, by omega⟩
    show (if j < 16 then ecM (up2 σ 8 i v) j else ecI (up2 σ 8 i v) (j - 16)) = (if j < 16 then ecM σ j else ecI σ (j - 16))
    have hji : j ≠ i := fun q => hne (by rw [q])
    simp [ecM, ecI, up2, hji]
theorem wC_setM9 {cy : Nat → ClassId} {ad : Nat → Nat} {σ : Mem} {i : Nat} (h : i < 16) (v : Int32) : (wC cy ad σ).set (i + 7) (ad (i + 7), .inr (2, [.int (nI i), .int (σ 1 i), .int (σ 2 i), .int (σ 3 i), .int (σ 4 i), .int (σ 5 i), .int (σ 6 i), .int (σ 7 i), .int (σ 8 i), .int v])) = wC cy ad (up2 σ 9 i v) := by
  refine wC_set (by omega) ?_ (fun j hj hne => ?_)
  · show (if i < 16 then ecM (up2 σ 9 i v) i else _) = _
    rw [if_pos h]
    simp [ecM, ecI, up2]
  · rcases Nat.lt_or_ge j 7 with h7 | h7
    · have h8 : j = 0 ∨ j = 1 ∨ j = 2 ∨ j = 3 ∨ j = 4 ∨ j = 5 ∨ j = 6 := by omega
      rcases h8 with rfl | rfl | rfl | rfl | rfl | rfl | rfl <;> simp [ec, up2_rowne, up2]
    obtain ⟨j, rfl⟩ : ∃ j', j = j' + 7 := ⟨j - 7, by omega⟩
    show (if j < 16 then ecM (up2 σ 9 i v) j else ecI (up2 σ 9 i v) (j - 16)) = (if j < 16 then ecM σ j else ecI σ (j - 16))
    have hji : j ≠ i := fun q => hne (by rw [q])
    simp [ecM, ecI, up2, hji]
theorem wC_setI1 {cy : Nat → ClassId} {ad : Nat → Nat} {σ : Mem} {i : Nat} (h : i < 8) (v : Int32) : (wC cy ad σ).set (i + 23) (ad (i + 23), .inr (0, [.int (nI i), .int v, .int (σ 12 i), .int (σ 13 i), .int (σ 14 i), .int (σ 15 i), .int (σ 16 i), .int (σ 17 i)])) = wC cy ad (up2 σ 11 i v) := by
  refine wC_set (by omega) ?_ (fun j hj hne => ?_)
  · show (if i + 16 < 16 then ecM (up2 σ 11 i v) (i + 16) else ecI (up2 σ 11 i v) (i + 16 - 16)) = _
    rw [if_neg (by omega), Nat.add_sub_cancel]
    simp [ecM, ecI, up2]
  · rcases Nat.lt_or_ge j 7 with h7 | h7
    · have h8 : j = 0 ∨ j = 1 ∨ j = 2 ∨ j = 3 ∨ j = 4 ∨ j = 5 ∨ j = 6 := by omega
      rcases h8 with rfl | rfl | rfl | rfl | rfl | rfl | rfl <;> simp [ec, up2_rowne, up2]
    obtain ⟨j, rfl⟩ : ∃ j', j = j' + 7 := ⟨j - 7, by omega⟩
    show (if j < 16 then ecM (up2 σ 11 i v) j else ecI (up2 σ 11 i v) (j - 16)) = (if j < 16 then ecM σ j else ecI σ (j - 16))
    by_cases hj16 : j < 16
    · rw [if_pos hj16, if_pos hj16]
      simp [ecM, up2]
    · rw [if_neg hj16, if_neg hj16]
      have hji : j - 16 ≠ i := fun q => hne (by omega)
      simp [ecM, ecI, up2, hji]
theorem wC_setI2 {cy : Nat → ClassId} {ad : Nat → Nat} {σ : Mem} {i : Nat} (h : i < 8) (v : Int32) : (wC cy ad σ).set (i + 23) (ad (i + 23), .inr (0, [.int (nI i), .int (σ 11 i), .int v, .int (σ 13 i), .int (σ 14 i), .int (σ 15 i), .int (σ 16 i), .int (σ 17 i)])) = wC cy ad (up2 σ 12 i v) := by
  refine wC_set (by omega) ?_ (fun j hj hne => ?_)
  · show (if i + 16 < 16 then ecM (up2 σ 12 i v) (i + 16) else ecI (up2 σ 12 i v) (i + 16 - 16)) = _
    rw [if_neg (by omega), Nat.add_sub_cancel]
    simp [ecM, ecI, up2]
  · rcases Nat.lt_or_ge j 7 with h7 | h7
    · have h8 : j = 0 ∨ j = 1 ∨ j = 2 ∨ j = 3 ∨ j = 4 ∨ j = 5 ∨ j = 6 := by omega
      rcases h8 with rfl | rfl | rfl | rfl | rfl | rfl | rfl <;> simp [ec, up2_rowne, up2]
    obtain ⟨j, rfl⟩ : ∃ j', j = j' + 7 := ⟨j - 7, by omega⟩
    show (if j < 16 then ecM (up2 σ 12 i v) j else ecI (up2 σ 12 i v) (j - 16)) = (if j < 16 then ecM σ j else ecI σ (j - 16))
    by_cases hj16 : j < 16
    · rw [if_pos hj16, if_pos hj16]
      simp [ecM, up2]
    · rw [if_neg hj16, if_neg hj16]
      have hji : j - 16 ≠ i := fun q => hne (by omega)
      simp [ecM, ecI, up2, hji]
theorem wC_setI3 {cy : Nat → ClassId} {ad : Nat → Nat} {σ : Mem} {i : Nat} (h : i < 8) (v : Int32) : (wC cy ad σ).set (i + 23) (ad (i + 23), .inr (0, [.int (nI i), .int (σ 11 i), .int (σ 12 i), .int v, .int (σ 14 i), .int (σ 15 i), .int (σ 16 i), .int (σ 17 i)])) = wC cy ad (up2 σ 13 i v) := by
  refine wC_set (by omega) ?_ (fun j hj hne => ?_)
  · show (if i + 16 < 16 then ecM (up2 σ 13 i v) (i + 16) else ecI (up2 σ 13 i v) (i + 16 - 16)) = _
    rw [if_neg (by omega), Nat.add_sub_cancel]
    simp [ecM, ecI, up2]
  · rcases Nat.lt_or_ge j 7 with h7 | h7
    · have h8 : j = 0 ∨ j = 1 ∨ j = 2 ∨ j = 3 ∨ j = 4 ∨ j = 5 ∨ j = 6 := by omega
      rcases h8 with rfl | rfl | rfl | rfl | rfl | rfl | rfl <;> simp [ec, up2_rowne, up2]
    obtain ⟨j, rfl⟩ : ∃ j', j = j' + 7 := ⟨j - 7, by omega⟩
    show (if j < 16 then ecM (up2 σ 13 i v) j else ecI (up2 σ 13 i v) (j - 16)) = (if j < 16 then ecM σ j else ecI σ (j - 16))
    by_cases hj16 : j < 16
    · rw [if_pos hj16, if_pos hj16]
      simp [ecM, up2]
    · rw [if_neg hj16, if_neg hj16]
      have hji : j - 16 ≠ i := fun q => hne (by omega)
      simp [ecM, ecI, up2, hji]
theorem wC_setI4 {cy : Nat → ClassId} {ad : Nat → Nat} {σ : Mem} {i : Nat} (h : i < 8) (v : Int32) : (wC cy ad σ).set (i + 23) (ad (i + 23), .inr (0, [.int (nI i), .int (σ 11 i), .int (σ 12 i), .int (σ 13 i), .int v, .int (σ 15 i), .int (σ 16 i), .int (σ 17 i)])) = wC cy ad (up2 σ 14 i v) := by
  refine wC_set (by omega) ?_ (fun j hj hne => ?_)
  · show (if i + 16 < 16 then ecM (up2 σ 14 i v) (i + 16) else ecI (up2 σ 14 i v) (i + 16 - 16)) = _
    rw [if_neg (by omega), Nat.add_sub_cancel]
    simp [ecM, ecI, up2]
  · rcases Nat.lt_or_ge j 7 with h7 | h7
    · have h8 : j = 0 ∨ j = 1 ∨ j = 2 ∨ j = 3 ∨ j = 4 ∨ j = 5 ∨ j = 6 := by omega
      rcases h8 with rfl | rfl | rfl | rfl | rfl | rfl | rfl <;> simp [ec, up2_rowne, up2]
    obtain ⟨j, rfl⟩ : ∃ j', j = j' + 7 := ⟨j - 7, by omega⟩
    show (if j < 16 then ecM (up2 σ 14 i v) j else ecI (up2 σ 14 i v) (j - 16)) = (if j < 16 then ecM σ j else ecI σ (j - 16))
    by_cases hj16 : j < 16
    · rw [if_pos hj16, if_pos hj16]
      simp [ecM, up2]
    · rw [if_neg hj16, if_neg hj16]
      have hji : j - 16 ≠ i := fun q => hne (by omega)
      simp [ecM, ecI, up2, hji]
theorem wC_setI5 {cy : Nat → ClassId} {ad : Nat → Nat} {σ : Mem} {i : Nat} (h : i < 8) (v : Int32) : (wC cy ad σ).set (i + 23) (ad (i + 23), .inr (0, [.int (nI i), .int (σ 11 i), .int (σ 12 i), .int (σ 13 i), .int (σ 14 i), .int v, .int (σ 16 i), .int (σ 17 i)])) = wC cy ad (up2 σ 15 i v) := by
  refine wC_set (by omega) ?_ (fun j hj hne => ?_)
  · show (if i + 16 < 16 then ecM (up2 σ 15 i v) (i + 16) else ecI (up2 σ 15 i v) (i + 16 - 16)) = _
    rw [if_neg (by omega), Nat.add_sub_cancel]
    simp [ecM, ecI, up2]
  · rcases Nat.lt_or_ge j 7 with h7 | h7
    · have h8 : j = 0 ∨ j = 1 ∨ j = 2 ∨ j = 3 ∨ j = 4 ∨ j = 5 ∨ j = 6 := by omega
      rcases h8 with rfl | rfl | rfl | rfl | rfl | rfl | rfl <;> simp [ec, up2_rowne, up2]
    obtain ⟨j, rfl⟩ : ∃ j', j = j' + 7 := ⟨j - 7, by omega⟩
    show (if j < 16 then ecM (up2 σ 15 i v) j else ecI (up2 σ 15 i v) (j - 16)) = (if j < 16 then ecM σ j else ecI σ (j - 16))
    by_cases hj16 : j < 16
    · rw [if_pos hj16, if_pos hj16]
      simp [ecM, up2]
    · rw [if_neg hj16, if_neg hj16]
      have hji : j - 16 ≠ i := fun q => hne (by omega)
      simp [ecM, ecI, up2, hji]
theorem wC_setI6 {cy : Nat → ClassId} {ad : Nat → Nat} {σ : Mem} {i : Nat} (h : i < 8) (v : Int32) : (wC cy ad σ).set (i + 23) (ad (i + 23), .inr (0, [.int (nI i), .int (σ 11 i), .int (σ 12 i), .int (σ 13 i), .int (σ 14 i), .int (σ 15 i), .int v, .int (σ 17 i)])) = wC cy ad (up2 σ 16 i v) := by
  refine wC_set (by omega) ?_ (fun j hj hne => ?_)
  · show (if i + 16 < 16 then ecM (up2 σ 16 i v) (i + 16) else ecI (up2 σ 16 i v) (i + 16 - 16)) = _
    rw [if_neg (by omega), Nat.add_sub_cancel]
    simp [ecM, ecI, up2]
  · rcases Nat.lt_or_ge j 7 with h7 | h7
    · have h8 : j = 0 ∨ j = 1 ∨ j = 2 ∨ j = 3 ∨ j = 4 ∨ j = 5 ∨ j = 6 := by omega
      rcases h8 with rfl | rfl | rfl | rfl | rfl | rfl | rfl <;> simp [ec, up2_rowne, up2]
    obtain ⟨j, rfl⟩ : ∃ j', j = j' + 7 := ⟨j - 7, by omega⟩
    show (if j < 16 then ecM (up2 σ 16 i v) j else ecI (up2 σ 16 i v) (j - 16)) = (if j < 16 then ecM σ j else ecI σ (j - 16))
    by_cases hj16 : j < 16
    · rw [if_pos hj16, if_pos hj16]
      simp [ecM, up2]
    · rw [if_neg hj16, if_neg hj16]
      have hji : j - 16 ≠ i := fun q => hne (by omega)
      simp [ecM, ecI, up2, hji]
theorem wC_setI7 {cy : Nat → ClassId} {ad : Nat → Nat} {σ : Mem} {i : Nat} (h : i < 8) (v : Int32) : (wC cy ad σ).set (i + 23) (ad (i + 23), .inr (0, [.int (nI i), .int (σ 11 i), .int (σ 12 i), .int (σ 13 i), .int (σ 14 i), .int (σ 15 i), .int (σ 16 i), .int v])) = wC cy ad (up2 σ 17 i v) := by
  refine wC_set (by omega) ?_ (fun j hj hne => ?_)
  · show (if i + 16 < 16 then ecM (up2 σ 17 i v) (i + 16) else ecI (up2 σ 17 i v) (i + 16 - 16)) = _
    rw [if_neg (by omega), Nat.add_sub_cancel]
    simp [ecM, ecI, up2]
  · rcases Nat.lt_or_ge j 7 with h7 | h7
    · have h8 : j = 0 ∨ j = 1 ∨ j = 2 ∨ j = 3 ∨ j = 4 ∨ j = 5 ∨ j = 6 := by omega
      rcases h8 with rfl | rfl | rfl | rfl | rfl | rfl | rfl <;> simp [ec, up2_rowne, up2]
    obtain ⟨j, rfl⟩ : ∃ j', j = j' + 7 := ⟨j - 7, by omega⟩
    show (if j < 16 then ecM (up2 σ 17 i v) j else ecI (up2 σ 17 i v) (j - 16)) = (if j < 16 then ecM σ j else ecI σ (j - 16))
    by_cases hj16 : j < 16
    · rw [if_pos hj16, if_pos hj16]
      simp [ecM, up2]
    · rw [if_neg hj16, if_neg hj16]
      have hji : j - 16 ≠ i := fun q => hne (by omega)
      simp [ecM, ecI, up2, hji]
theorem wC_setF4 {cy : Nat → ClassId} {ad : Nat → Nat} {σ : Mem} (v : Int32) : (wC cy ad σ).set 0 (ad 0, .inr (3, [.ref (ad 1), .ref (ad 2), .ref (ad 3), .ref (ad 4), .int v, .int (σ 20 5), .int (σ 20 6), .int (σ 20 7), .int (σ 20 8)])) = wC cy ad (up2 σ 20 4 v) := by
  refine wC_set (by omega) ?_ (fun j hj hne => ?_)
  · show ec cy ad _ 0 = _
    simp [ec, up2]
  · rcases Nat.lt_or_ge j 7 with h7 | h7
    · have h8 : j = 0 ∨ j = 1 ∨ j = 2 ∨ j = 3 ∨ j = 4 ∨ j = 5 ∨ j = 6 := by omega
      rcases h8 with rfl | rfl | rfl | rfl | rfl | rfl | rfl <;> first | exact absurd rfl hne | simp [ec, up2_rowne, up2]
    obtain ⟨j, rfl⟩ : ∃ j', j = j' + 7 := ⟨j - 7, by omega⟩
    show (if j < 16 then ecM (up2 σ 20 4 v) j else ecI (up2 σ 20 4 v) (j - 16)) = (if j < 16 then ecM σ j else ecI σ (j - 16))
    simp [ecM, ecI, up2]
theorem wC_setF5 {cy : Nat → ClassId} {ad : Nat → Nat} {σ : Mem} (v : Int32) : (wC cy ad σ).set 0 (ad 0, .inr (3, [.ref (ad 1), .ref (ad 2), .ref (ad 3), .ref (ad 4), .int (σ 20 4), .int v, .int (σ 20 6), .int (σ 20 7), .int (σ 20 8)])) = wC cy ad (up2 σ 20 5 v) := by
  refine wC_set (by omega) ?_ (fun j hj hne => ?_)
  · show ec cy ad _ 0 = _
    simp [ec, up2]
  · rcases Nat.lt_or_ge j 7 with h7 | h7
    · have h8 : j = 0 ∨ j = 1 ∨ j = 2 ∨ j = 3 ∨ j = 4 ∨ j = 5 ∨ j = 6 := by omega
      rcases h8 with rfl | rfl | rfl | rfl | rfl | rfl | rfl <;> first | exact absurd rfl hne | simp [ec, up2_rowne, up2]
    obtain ⟨j, rfl⟩ : ∃ j', j = j' + 7 := ⟨j - 7, by omega⟩
    show (if j < 16 then ecM (up2 σ 20 5 v) j else ecI (up2 σ 20 5 v) (j - 16)) = (if j < 16 then ecM σ j else ecI σ (j - 16))
    simp [ecM, ecI, up2]
theorem wC_setF6 {cy : Nat → ClassId} {ad : Nat → Nat} {σ : Mem} (v : Int32) : (wC cy ad σ).set 0 (ad 0, .inr (3, [.ref (ad 1), .ref (ad 2), .ref (ad 3), .ref (ad 4), .int (σ 20 4), .int (σ 20 5), .int v, .int (σ 20 7), .int (σ 20 8)])) = wC cy ad (up2 σ 20 6 v) := by
  refine wC_set (by omega) ?_ (fun j hj hne => ?_)
  · show ec cy ad _ 0 = _
    simp [ec, up2]
  · rcases Nat.lt_or_ge j 7 with h7 | h7
    · have h8 : j = 0 ∨ j = 1 ∨ j = 2 ∨ j = 3 ∨ j = 4 ∨ j = 5 ∨ j = 6 := by omega
      rcases h8 with rfl | rfl | rfl | rfl | rfl | rfl | rfl <;> first | exact absurd rfl hne | simp [ec, up2_rowne, up2]
    obtain ⟨j, rfl⟩ : ∃ j', j = j' + 7 := ⟨j - 7, by omega⟩
    show (if j < 16 then ecM (up2 σ 20 6 v) j else ecI (up2 σ 20 6 v) (j - 16)) = (if j < 16 then ecM σ j else ecI σ (j - 16))
    simp [ecM, ecI, up2]
theorem wC_setF7 {cy : Nat → ClassId} {ad : Nat → Nat} {σ : Mem} (v : Int32) : (wC cy ad σ).set 0 (ad 0, .inr (3, [.ref (ad 1), .ref (ad 2), .ref (ad 3), .ref (ad 4), .int (σ 20 4), .int (σ 20 5), .int (σ 20 6), .int v, .int (σ 20 8)])) = wC cy ad (up2 σ 20 7 v) := by
  refine wC_set (by omega) ?_ (fun j hj hne => ?_)
  · show ec cy ad _ 0 = _
    simp [ec, up2]
  · rcases Nat.lt_or_ge j 7 with h7 | h7
    · have h8 : j = 0 ∨ j = 1 ∨ j = 2 ∨ j = 3 ∨ j = 4 ∨ j = 5 ∨ j = 6 := by omega
      rcases h8 with rfl | rfl | rfl | rfl | rfl | rfl | rfl <;> first | exact absurd rfl hne | simp [ec, up2_rowne, up2]
    obtain ⟨j, rfl⟩ : ∃ j', j = j' + 7 := ⟨j - 7, by omega⟩
    show (if j < 16 then ecM (up2 σ 20 7 v) j else ecI (up2 σ 20 7 v) (j - 16)) = (if j < 16 then ecM σ j else ecI σ (j - 16))
    simp [ecM, ecI, up2]
theorem wC_setF8 {cy : Nat → ClassId} {ad : Nat → Nat} {σ : Mem} (v : Int32) : (wC cy ad σ).set 0 (ad 0, .inr (3, [.ref (ad 1), .ref (ad 2), .ref (ad 3), .ref (ad 4), .int (σ 20 4), .int (σ 20 5), .int (σ 20 6), .int (σ 20 7), .int v])) = wC cy ad (up2 σ 20 8 v) := by
  refine wC_set (by omega) ?_ (fun j hj hne => ?_)
  · show ec cy ad _ 0 = _
    simp [ec, up2]
  · rcases Nat.lt_or_ge j 7 with h7 | h7
    · have h8 : j = 0 ∨ j = 1 ∨ j = 2 ∨ j = 3 ∨ j = 4 ∨ j = 5 ∨ j = 6 := by omega
      rcases h8 with rfl | rfl | rfl | rfl | rfl | rfl | rfl <;> first | exact absurd rfl hne | simp [ec, up2_rowne, up2]
    obtain ⟨j, rfl⟩ : ∃ j', j = j' + 7 := ⟨j - 7, by omega⟩
    show (if j < 16 then ecM (up2 σ 20 8 v) j else ecI (up2 σ 20 8 v) (j - 16)) = (if j < 16 then ecM σ j else ecI σ (j - 16))
    simp [ecM, ecI, up2]
theorem wC_setJ {cy : Nat → ClassId} {ad : Nat → Nat} {σ : Mem} (v : Int32) : (wC cy ad σ).set 4 (ad 4, .inr (1, [.ref (ad 5), .ref (ad 6), .int v])) = wC cy ad (up2 σ 20 9 v) := by
  refine wC_set (by omega) ?_ (fun j hj hne => ?_)
  · show ec cy ad _ 4 = _
    simp [ec, up2]
  · rcases Nat.lt_or_ge j 7 with h7 | h7
    · have h8 : j = 0 ∨ j = 1 ∨ j = 2 ∨ j = 3 ∨ j = 4 ∨ j = 5 ∨ j = 6 := by omega
      rcases h8 with rfl | rfl | rfl | rfl | rfl | rfl | rfl <;> first | exact absurd rfl hne | simp [ec, up2_rowne, up2]
    obtain ⟨j, rfl⟩ : ∃ j', j = j' + 7 := ⟨j - 7, by omega⟩
    show (if j < 16 then ecM (up2 σ 20 9 v) j else ecI (up2 σ 20 9 v) (j - 16)) = (if j < 16 then ecM σ j else ecI σ (j - 16))
    simp [ecM, ecI, up2]
theorem wC_setB {cy : Nat → ClassId} {ad : Nat → Nat} {σ : Mem} (i : Nat) (v : Int32) : (wC cy ad σ).set 3 (ad 3, .inl (cy 0, 4, .inl (upd (σ 21) i v))) = wC cy ad (up2 σ 21 i v) := by
  refine wC_set (by omega) ?_ (fun j hj hne => ?_)
  · show ec cy ad _ 3 = _
    simp [ec, up2_row]
  · rcases Nat.lt_or_ge j 7 with h7 | h7
    · have h8 : j = 0 ∨ j = 1 ∨ j = 2 ∨ j = 3 ∨ j = 4 ∨ j = 5 ∨ j = 6 := by omega
      rcases h8 with rfl | rfl | rfl | rfl | rfl | rfl | rfl <;> first | exact absurd rfl hne | simp [ec, up2_rowne, up2]
    obtain ⟨j, rfl⟩ : ∃ j', j = j' + 7 := ⟨j - 7, by omega⟩
    show (if j < 16 then ecM (up2 σ 21 i v) j else ecI (up2 σ 21 i v) (j - 16)) = (if j < 16 then ecM σ j else ecI σ (j - 16))
    simp [ecM, ecI, up2]
theorem wC_setN {cy : Nat → ClassId} {ad : Nat → Nat} {σ : Mem} (i : Nat) (v : Int32) : (wC cy ad σ).set 5 (ad 5, .inl (cy 0, 40, .inl (upd (σ 22) i v))) = wC cy ad (up2 σ 22 i v) := by
  refine wC_set (by omega) ?_ (fun j hj hne => ?_)
  · show ec cy ad _ 5 = _
    simp [ec, up2_row]
  · rcases Nat.lt_or_ge j 7 with h7 | h7
    · have h8 : j = 0 ∨ j = 1 ∨ j = 2 ∨ j = 3 ∨ j = 4 ∨ j = 5 ∨ j = 6 := by omega
      rcases h8 with rfl | rfl | rfl | rfl | rfl | rfl | rfl <;> first | exact absurd rfl hne | simp [ec, up2_rowne, up2]
    obtain ⟨j, rfl⟩ : ∃ j', j = j' + 7 := ⟨j - 7, by omega⟩
    show (if j < 16 then ecM (up2 σ 22 i v) j else ecI (up2 σ 22 i v) (j - 16)) = (if j < 16 then ecM σ j else ecI σ (j - 16))
    simp [ecM, ecI, up2]
theorem wC_setS {cy : Nat → ClassId} {ad : Nat → Nat} {σ : Mem} (i : Nat) (v : Int32) : (wC cy ad σ).set 6 (ad 6, .inl (cy 0, 40, .inl (upd (σ 23) i v))) = wC cy ad (up2 σ 23 i v) := by
  refine wC_set (by omega) ?_ (fun j hj hne => ?_)
  · show ec cy ad _ 6 = _
    simp [ec, up2_row]
  · rcases Nat.lt_or_ge j 7 with h7 | h7
    · have h8 : j = 0 ∨ j = 1 ∨ j = 2 ∨ j = 3 ∨ j = 4 ∨ j = 5 ∨ j = 6 := by omega
      rcases h8 with rfl | rfl | rfl | rfl | rfl | rfl | rfl <;> first | exact absurd rfl hne | simp [ec, up2_rowne, up2]
    obtain ⟨j, rfl⟩ : ∃ j', j = j' + 7 := ⟨j - 7, by omega⟩
    show (if j < 16 then ecM (up2 σ 23 i v) j else ecI (up2 σ 23 i v) (j - 16)) = (if j < 16 then ecM σ j else ecI σ (j - 16))
    simp [ecM, ecI, up2]
/-! ROWS: a field or a place of an array, read or written, over these worlds -/
section RG
variable {p : Program} {l : Launch} {e : Env} {R : Room} {s : State} {m : MethodId} {args : Array Value} {below : List Frame} {meth : Method} {c : Code} {H : Heap} {locs : List Loc} {cells slots : Nat} {Q : State → Prop}
variable {cc : ByteArray} {pc : Nat} {ls : Array Slot} {rest : List Value} {D : va_G} {A : Nat → Prop} {H0 : Heap} {cy : Nat → ClassId} {ad bd : Nat → Nat} {σ τ : Mem} {own : String} {index : Nat}
theorem rgM0 (hx : p.tables.exec = Jvm.exec) (hb : c.code = cc) (hf : ∀ w ∈ wsX20, w.before args s = true) (hown : s.vm.findClass own = some m.cls) (hK : va_K D vwCl (tyC cy) s) (hP : va_P D vwCl (wC cy ad σ) H) {i : Nat} (hi : i < 16) (hlink : (Cond.fieldLink own index "MachineFoundry$Machine" "number" "I").before args s = true) (hdg : decode cc pc = .ok (.getfield index, 3)) (kk : W p l e R s m args below meth c H locs cells slots Q (F0 m (pc + 3) ls (.int (nI i) :: rest))) : W p l e R s m args below meth c H locs cells slots Q (F0 m pc ls (.ref (ad (i + 7)) :: rest)) :=
  va_get (ci := 2) (C := RX2) (T := TX2) (N := 10) hx hb hf (fun _ h => h) hown hK hP (i + 7) (wC_M hi) rfl 0 (by decide) hlink (fun _ h => h) (v := .int (nI i)) rfl hdg kk
theorem rgM1 (hx : p.tables.exec = Jvm.exec) (hb : c.code = cc) (hf : ∀ w ∈ wsX20, w.before args s = true) (hown : s.vm.findClass own = some m.cls) (hK : va_K D vwCl (tyC cy) s) (hP : va_P D vwCl (wC cy ad σ) H) {i : Nat} (hi : i < 16) (hlink : (Cond.fieldLink own index "MachineFoundry$Machine" "state" "I").before args s = true) {x : Int32} (hv : (σ 1 i) = x) (hdg : decode cc pc = .ok (.getfield index, 3)) (kk : W p l e R s m args below meth c H locs cells slots Q (F0 m (pc + 3) ls (.int x :: rest))) : W p l e R s m args below meth c H locs cells slots Q (F0 m pc ls (.ref (ad (i + 7)) :: rest)) :=
  va_get (ci := 2) (C := RX2) (T := TX2) (N := 10) hx hb hf (fun _ h => h) hown hK hP (i + 7) (wC_M hi) rfl 1 (by decide) hlink (fun _ h => h) (v := .int (σ 1 i)) rfl hdg (by rw [hv]; exact kk)
theorem rpM1 (hx : p.tables.exec = Jvm.exec) (hb : c.code = cc) (hf : ∀ w ∈ wsX20, w.before args s = true) (hown : s.vm.findClass own = some m.cls) (hK : va_K D vwCl (tyC cy) s) (hP : va_P D vwCl (wC cy ad σ) H) (hD : ∀ σ, va_D A (wC cy ad σ)) (hS : va_S A H0 H locs) {i : Nat} (hi : i < 16) (hlink : (Cond.fieldLink own index "MachineFoundry$Machine" "state" "I").before args s = true) {v : Int32} (hdg : decode cc pc = .ok (.putfield index, 3)) (kk : ∀ (H1 : Heap) (locs1 : List Loc), va_P D vwCl (wC cy ad (up2 σ 1 i v)) H1 → va_S A H0 H1 locs1 → W p l e R s m args below meth c H1 locs1 cells slots Q (F0 m (pc + 3) ls rest)) : W p l e R s m args below meth c H locs cells slots Q (F0 m pc ls (.int v :: .ref (ad (i + 7)) :: rest)) :=
  va_put (ty := .int) (v := .int v) (ci := 2) (C := RX2) (T := TX2) (N := 10) hx hb hf (fun _ h => h) tyX2 tyX2_ok nmX2 hown hK hP (hD _) hS (i + 7) (wC_M hi) rfl 1 (by decide) hlink (fun _ h => h) rfl (by decide +kernel) rfl rfl (by decide : 1 < 10) hdg (fun H1 locs1 h1 _ h3 => kk H1 locs1 (by rw [← wC_setM1 hi]; exact h1) h3)
theorem rgM2 (hx : p.tables.exec = Jvm.exec) (hb : c.code = cc) (hf : ∀ w ∈ wsX20, w.before args s = true) (hown : s.vm.findClass own = some m.cls) (hK : va_K D vwCl (tyC cy) s) (hP : va_P D vwCl (wC cy ad σ) H) {i : Nat} (hi : i < 16) (hlink : (Cond.fieldLink own index "MachineFoundry$Machine" "rack" "I").before args s = true) {x : Int32} (hv : (σ 2 i) = x) (hdg : decode cc pc = .ok (.getfield index, 3)) (kk : W p l e R s m args below meth c H locs cells slots Q (F0 m (pc + 3) ls (.int x :: rest))) : W p l e R s m args below meth c H locs cells slots Q (F0 m pc ls (.ref (ad (i + 7)) :: rest)) :=
  va_get (ci := 2) (C := RX2) (T := TX2) (N := 10) hx hb hf (fun _ h => h) hown hK hP (i + 7) (wC_M hi) rfl 2 (by decide) hlink (fun _ h => h) (v := .int (σ 2 i)) rfl hdg (by rw [hv]; exact kk)
theorem rpM2 (hx : p.tables.exec = Jvm.exec) (hb : c.code = cc) (hf : ∀ w ∈ wsX20, w.before args s = true) (hown : s.vm.findClass own = some m.cls) (hK : va_K D vwCl (tyC cy) s) (hP : va_P D vwCl (wC cy ad σ) H) (hD : ∀ σ, va_D A (wC cy ad σ)) (hS : va_S A H0 H locs) {i : Nat} (hi : i < 16) (hlink : (Cond.fieldLink own index "MachineFoundry$Machine" "rack" "I").before args s = true) {v : Int32} (hdg : decode cc pc = .ok (.putfield index, 3)) (kk : ∀ (H1 : Heap) (locs1 : List Loc), va_P D vwCl (wC cy ad (up2 σ 2 i v)) H1 → va_S A H0 H1 locs1 → W p l e R s m args below meth c H1 locs1 cells slots Q (F0 m (pc + 3) ls rest)) : W p l e R s m args below meth c H locs cells slots Q (F0 m pc ls (.int v :: .ref (ad (i + 7)) :: rest)) :=
  va_put (ty := .int) (v := .int v) (ci := 2) (C := RX2) (T := TX2) (N := 10) hx hb hf (fun _ h => h) tyX2 tyX2_ok nmX2 hown hK hP (hD _) hS (i + 7) (wC_M hi) rfl 2 (by decide) hlink (fun _ h => h) rfl (by decide +kernel) rfl rfl (by decide : 2 < 10) hdg (fun H1 locs1 h1 _ h3 => kk H1 locs1 (by rw [← wC_setM2 hi]; exact h1) h3)
theorem rgM3 (hx : p.tables.exec = Jvm.exec) (hb : c.code = cc) (hf : ∀ w ∈ wsX20, w.before args s = true) (hown : s.vm.findClass own = some m.cls) (hK : va_K D vwCl (tyC cy) s) (hP : va_P D vwCl (wC cy ad σ) H) {i : Nat} (hi : i < 16) (hlink : (Cond.fieldLink own index "MachineFoundry$Machine" "memory" "I").before args s = true) {x : Int32} (hv : (σ 3 i) = x) (hdg : decode cc pc = .ok (.getfield index, 3)) (kk : W p l e R s m args below meth c H locs cells slots Q (F0 m (pc + 3) ls (.int x :: rest))) : W p l e R s m args below meth c H locs cells slots Q (F0 m pc ls (.ref (ad (i + 7)) :: rest)) :=
  va_get (ci := 2) (C := RX2) (T := TX2) (N := 10) hx hb hf (fun _ h => h) hown hK hP (i + 7) (wC_M hi) rfl 3 (by decide) hlink (fun _ h => h) (v := .int (σ 3 i)) rfl hdg (by rw [hv]; exact kk)
theorem rpM3 (hx : p.tables.exec = Jvm.exec) (hb : c.code = cc) (hf : ∀ w ∈ wsX20, w.before args s = true) (hown : s.vm.findClass own = some m.cls) (hK : va_K D vwCl (tyC cy) s) (hP : va_P D vwCl (wC cy ad σ) H) (hD : ∀ σ, va_D A (wC cy ad σ)) (hS : va_S A H0 H locs) {i : Nat} (hi : i < 16) (hlink : (Cond.fieldLink own index "MachineFoundry$Machine" "memory" "I").before args s = true) {v : Int32} (hdg : decode cc pc = .ok (.putfield index, 3)) (kk : ∀ (H1 : Heap) (locs1 : List Loc), va_P D vwCl (wC cy ad (up2 σ 3 i v)) H1 → va_S A H0 H1 locs1 → W p l e R s m args below meth c H1 locs1 cells slots Q (F0 m (pc + 3) ls rest)) : W p l e R s m args below meth c H locs cells slots Q (F0 m pc ls (.int v :: .ref (ad (i + 7)) :: rest)) :=
  va_put (ty := .int) (v := .int v) (ci := 2) (C := RX2) (T := TX2) (N := 10) hx hb hf (fun _ h => h) tyX2 tyX2_ok nmX2 hown hK hP (hD _) hS (i + 7) (wC_M hi) rfl 3 (by decide) hlink (fun _ h => h) rfl (by decide +kernel) rfl rfl (by decide : 3 < 10) hdg (fun H1 locs1 h1 _ h3 => kk H1 locs1 (by rw [← wC_setM3 hi]; exact h1) h3)
theorem rgM4 (hx : p.tables.exec = Jvm.exec) (hb : c.code = cc) (hf : ∀ w ∈ wsX20, w.before args s = true) (hown : s.vm.findClass own = some m.cls) (hK : va_K D vwCl (tyC cy) s) (hP : va_P D vwCl (wC cy ad σ) H) {i : Nat} (hi : i < 16) (hlink : (Cond.fieldLink own index "MachineFoundry$Machine" "kind" "I").before args s = true) {x : Int32} (hv : (σ 4 i) = x) (hdg : decode cc pc = .ok (.getfield index, 3)) (kk : W p l e R s m args below meth c H locs cells slots Q (F0 m (pc + 3) ls (.int x :: rest))) : W p l e R s m args below meth c H locs cells slots Q (F0 m pc ls (.ref (ad (i + 7)) :: rest)) :=
  va_get (ci := 2) (C := RX2) (T := TX2) (N := 10) hx hb hf (fun _ h => h) hown hK hP (i + 7) (wC_M hi) rfl 4 (by decide) hlink (fun _ h => h) (v := .int (σ 4 i)) rfl hdg (by rw [hv]; exact kk)
theorem rpM4 (hx : p.tables.exec = Jvm.exec) (hb : c.code = cc) (hf : ∀ w ∈ wsX20, w.before args s = true) (hown : s.vm.findClass own = some m.cls) (hK : va_K D vwCl (tyC cy) s) (hP : va_P D vwCl (wC cy ad σ) H) (hD : ∀ σ, va_D A (wC cy ad σ)) (hS : va_S A H0 H locs) {i : Nat} (hi : i < 16) (hlink : (Cond.fieldLink own index "MachineFoundry$Machine" "kind" "I").before args s = true) {v : Int32} (hdg : decode cc pc = .ok (.putfield index, 3)) (kk : ∀ (H1 : Heap) (locs1 : List Loc), va_P D vwCl (wC cy ad (up2 σ 4 i v)) H1 → va_S A H0 H1 locs1 → W p l e R s m args below meth c H1 locs1 cells slots Q (F0 m (pc + 3) ls rest)) : W p l e R s m args below meth c H locs cells slots Q (F0 m pc ls (.int v :: .ref (ad (i + 7)) :: rest)) :=
  va_put (ty := .int) (v := .int v) (ci := 2) (C := RX2) (T := TX2) (N := 10) hx hb hf (fun _ h => h) tyX2 tyX2_ok nmX2 hown hK hP (hD _) hS (i + 7) (wC_M hi) rfl 4 (by decide) hlink (fun _ h => h) rfl (by decide +kernel) rfl rfl (by decide : 4 < 10) hdg (fun H1 locs1 h1 _ h3 => kk H1 locs1 (by rw [← wC_setM4 hi]; exact h1) h3)
theorem rgM5 (hx : p.tables.exec = Jvm.exec) (hb : c.code = cc) (hf : ∀ w ∈ wsX20, w.before args s = true) (hown : s.vm.findClass own = some m.cls) (hK : va_K D vwCl (tyC cy) s) (hP : va_P D vwCl (wC cy ad σ) H) {i : Nat} (hi : i < 16) (hlink : (Cond.fieldLink own index "MachineFoundry$Machine" "tags" "I").before args s = true) {x : Int32} (hv : (σ 5 i) = x) (hdg : decode cc pc = .ok (.getfield index, 3)) (kk : W p l e R s m args below meth c H locs cells slots Q (F0 m (pc + 3) ls (.int x :: rest))) : W p l e R s m args below meth c H locs cells slots Q (F0 m pc ls (.ref (ad (i + 7)) :: rest)) :=
  va_get (ci := 2) (C := RX2) (T := TX2) (N := 10) hx hb hf (fun _ h => h) hown hK hP (i + 7) (wC_M hi) rfl 5 (by decide) hlink (fun _ h => h) (v := .int (σ 5 i)) rfl hdg (by rw [hv]; exact kk)
theorem rpM5 (hx : p.tables.exec = Jvm.exec) (hb : c.code = cc) (hf : ∀ w ∈ wsX20, w.before args s = true) (hown : s.vm.findClass own = some m.cls) (hK : va_K D vwCl (tyC cy) s) (hP : va_P D vwCl (wC cy ad σ) H) (hD : ∀ σ, va_D A (wC cy ad σ)) (hS : va_S A H0 H locs) {i : Nat} (hi : i < 16) (hlink : (Cond.fieldLink own index "MachineFoundry$Machine" "tags" "I").before args s = true) {v : Int32} (hdg : decode cc pc = .ok (.putfield index, 3)) (kk : ∀ (H1 : Heap) (locs1 : List Loc), va_P D vwCl (wC cy ad (up2 σ 5 i v)) H1 → va_S A H0 H1 locs1 → W p l e R s m args below meth c H1 locs1 cells slots Q (F0 m (pc + 3) ls rest)) : W p l e R s m args below meth c H locs cells slots Q (F0 m pc ls (.int v :: .ref (ad (i + 7)) :: rest)) :=
  va_put (ty := .int) (v := .int v) (ci := 2) (C := RX2) (T := TX2) (N := 10) hx hb hf (fun _ h => h) tyX2 tyX2_ok nmX2 hown hK hP (hD _) hS (i + 7) (wC_M hi) rfl 5 (by decide) hlink (fun _ h => h) rfl (by decide +kernel) rfl rfl (by decide : 5 < 10) hdg (fun H1 locs1 h1 _ h3 => kk H1 locs1 (by rw [← wC_setM5 hi]; exact h1) h3)
theorem rgM6 (hx : p.tables.exec = Jvm.exec) (hb : c.code = cc) (hf : ∀ w ∈ wsX20, w.before args s = true) (hown : s.vm.findClass own = some m.cls) (hK : va_K D vwCl (tyC cy) s) (hP : va_P D vwCl (wC cy ad σ) H) {i : Nat} (hi : i < 16) (hlink : (Cond.fieldLink own index "MachineFoundry$Machine" "failures" "I").before args s = true) {x : Int32} (hv : (σ 6 i) = x) (hdg : decode cc pc = .ok (.getfield index, 3)) (kk : W p l e R s m args below meth c H locs cells slots Q (F0 m (pc + 3) ls (.int x :: rest))) : W p l e R s m args below meth c H locs cells slots Q (F0 m pc ls (.ref (ad (i + 7)) :: rest)) :=
  va_get (ci := 2) (C := RX2) (T := TX2) (N := 10) hx hb hf (fun _ h => h) hown hK hP (i + 7) (wC_M hi) rfl 6 (by decide) hlink (fun _ h => h) (v := .int (σ 6 i)) rfl hdg (by rw [hv]; exact kk)
theorem rpM6 (hx : p.tables.exec = Jvm.exec) (hb : c.code = cc) (hf : ∀ w ∈ wsX20, w.before args s = true) (hown : s.vm.findClass own = some m.cls) (hK : va_K D vwCl (tyC cy) s) (hP : va_P D vwCl (wC cy ad σ) H) (hD : ∀ σ, va_D A (wC cy ad σ)) (hS : va_S A H0 H locs) {i : Nat} (hi : i < 16) (hlink : (Cond.fieldLink own index "MachineFoundry$Machine" "failures" "I").before args s = true) {v : Int32} (hdg : decode cc pc = .ok (.putfield index, 3)) (kk : ∀ (H1 : Heap) (locs1 : List Loc), va_P D vwCl (wC cy ad (up2 σ 6 i v)) H1 → va_S A H0 H1 locs1 → W p l e R s m args below meth c H1 locs1 cells slots Q (F0 m (pc + 3) ls rest)) : W p l e R s m args below meth c H locs cells slots Q (F0 m pc ls (.int v :: .ref (ad (i + 7)) :: rest)) :=
  va_put (ty := .int) (v := .int v) (ci := 2) (C := RX2) (T := TX2) (N := 10) hx hb hf (fun _ h => h) tyX2 tyX2_ok nmX2 hown hK hP (hD _) hS (i + 7) (wC_M hi) rfl 6 (by decide) hlink (fun _ h => h) rfl (by decide +kernel) rfl rfl (by decide : 6 < 10) hdg (fun H1 locs1 h1 _ h3 => kk H1 locs1 (by rw [← wC_setM6 hi]; exact h1) h3)
theorem rgM7 (hx : p.tables.exec = Jvm.exec) (hb : c.code = cc) (hf : ∀ w ∈ wsX20, w.before args s = true) (hown : s.vm.findClass own = some m.cls) (hK : va_K D vwCl (tyC cy) s) (hP : va_P D vwCl (wC cy ad σ) H) {i : Nat} (hi : i < 16) (hlink : (Cond.fieldLink own index "MachineFoundry$Machine" "image" "I").before args s = true) {x : Int32} (hv : (σ 7 i) = x) (hdg : decode cc pc = .ok (.getfield index, 3)) (kk : W p l e R s m args below meth c H locs cells slots Q (F0 m (pc + 3) ls (.int x :: rest))) : W p l e R s m args below meth c H locs cells slots Q (F0 m pc ls (.ref (ad (i + 7)) :: rest)) :=
  va_get (ci := 2) (C := RX2) (T := TX2) (N := 10) hx hb hf (fun _ h => h) hown hK hP (i + 7) (wC_M hi) rfl 7 (by decide) hlink (fun _ h => h) (v := .int (σ 7 i)) rfl hdg (by rw [hv]; exact kk)
theorem rpM7 (hx : p.tables.exec = Jvm.exec) (hb : c.code = cc) (hf : ∀ w ∈ wsX20, w.before args s = true) (hown : s.vm.findClass own = some m.cls) (hK : va_K D vwCl (tyC cy) s) (hP : va_P D vwCl (wC cy ad σ) H) (hD : ∀ σ, va_D A (wC cy ad σ)) (hS : va_S A H0 H locs) {i : Nat} (hi : i < 16) (hlink : (Cond.fieldLink own index "MachineFoundry$Machine" "image" "I").before args s = true) {v : Int32} (hdg : decode cc pc = .ok (.putfield index, 3)) (kk : ∀ (H1 : Heap) (locs1 : List Loc), va_P D vwCl (wC cy ad (up2 σ 7 i v)) H1 → va_S A H0 H1 locs1 → W p l e R s m args below meth c H1 locs1 cells slots Q (F0 m (pc + 3) ls rest)) : W p l e R s m args below meth c H locs cells slots Q (F0 m pc ls (.int v :: .ref (ad (i + 7)) :: rest)) :=
  va_put (ty := .int) (v := .int v) (ci := 2) (C := RX2) (T := TX2) (N := 10) hx hb hf (fun _ h => h) tyX2 tyX2_ok nmX2 hown hK hP (hD _) hS (i + 7) (wC_M hi) rfl 7 (by decide) hlink (fun _ h => h) rfl (by decide +kernel) rfl rfl (by decide : 7 < 10) hdg (fun H1 locs1 h1 _ h3 => kk H1 locs1 (by rw [← wC_setM7 hi]; exact h1) h3)
theorem rgM8 (hx : p.tables.exec = Jvm.exec) (hb : c.code = cc) (hf : ∀ w ∈ wsX20, w.before args s = true) (hown : s.vm.findClass own = some m.cls) (hK : va_K D vwCl (tyC cy) s) (hP : va_P D vwCl (wC cy ad σ) H) {i : Nat} (hi : i < 16) (hlink : (Cond.fieldLink own index "MachineFoundry$Machine" "end" "I").before args s = true) {x : Int32} (hv : (σ 8 i) = x) (hdg : decode cc pc = .ok (.getfield index, 3)) (kk : W p l e R s m args below meth c H locs cells slots Q (F0 m (pc + 3) ls (.int x :: rest))) : W p l e R s m args below meth c H locs cells slots Q (F0 m pc ls (.ref (ad (i + 7)) :: rest)) :=
  va_get (ci := 2) (C := RX2) (T := TX2) (N := 10) hx hb hf (fun _ h => h) hown hK hP (i + 7) (wC_M hi) rfl 8 (by decide) hlink (fun _ h => h) (v := .int (σ 8 i)) rfl hdg (by rw [hv]; exact kk)
theorem rpM8 (hx : p.tables.exec = Jvm.exec) (hb : c.code = cc) (hf : ∀ w ∈ wsX20, w.before args s = true) (hown : s.vm.findClass own = some m.cls) (hK : va_K D vwCl (tyC cy) s) (hP : va_P D vwCl (wC cy ad σ) H) (hD : ∀ σ, va_D A (wC cy ad σ)) (hS : va_S A H0 H locs) {i : Nat} (hi : i < 16) (hlink : (Cond.fieldLink own index "MachineFoundry$Machine" "end" "I").before args s = true) {v : Int32} (hdg : decode cc pc = .ok (.putfield index, 3)) (kk : ∀ (H1 : Heap) (locs1 : List Loc), va_P D vwCl (wC cy ad (up2 σ 8 i v)) H1 → va_S A H0 H1 locs1 → W p l e R s m args below meth c H1 locs1 cells slots Q (F0 m (pc + 3) ls rest)) : W p l e R s m args below meth c H locs cells slots Q (F0 m pc ls (.int v :: .ref (ad (i + 7)) :: rest)) :=
  va_put (ty := .int) (v := .int v) (ci := 2) (C := RX2) (T := TX2) (N := 10) hx hb hf (fun _ h => h) tyX2 tyX2_ok nmX2 hown hK hP (hD _) hS (i + 7) (wC_M hi) rfl 8 (by decide) hlink (fun _ h => h) rfl (by decide +kernel) rfl rfl (by decide : 8 < 10) hdg (fun H1 locs1 h1 _ h3 => kk H1 locs1 (by rw [← wC_setM8 hi]; exact h1) h3)
theorem rgM9 (hx : p.tables.exec = Jvm.exec) (hb : c.code = cc) (hf : ∀ w ∈ wsX20, w.before args s = true) (hown : s.vm.findClass own = some m.cls) (hK : va_K D vwCl (tyC cy) s) (hP : va_P D vwCl (wC cy ad σ) H) {i : Nat} (hi : i < 16) (hlink : (Cond.fieldLink own index "MachineFoundry$Machine" "ticket" "I").before args s = true) {x : Int32} (hv : (σ 9 i) = x) (hdg : decode cc pc = .ok (.getfield index, 3)) (kk : W p l e R s m args below meth c H locs cells slots Q (F0 m (pc + 3) ls (.int x :: rest))) : W p l e R s m args below meth c H locs cells slots Q (F0 m pc ls (.ref (ad (i + 7)) :: rest)) :=
  va_get (ci := 2) (C := RX2) (T := TX2) (N := 10) hx hb hf (fun _ h => h) hown hK hP (i + 7) (wC_M hi) rfl 9 (by decide) hlink (fun _ h => h) (v := .int (σ 9 i)) rfl hdg (by rw [hv]; exact kk)
theorem rpM9 (hx : p.tables.exec = Jvm.exec) (hb : c.code = cc) (hf : ∀ w ∈ wsX20, w.before args s = true) (hown : s.vm.findClass own = some m.cls) (hK : va_K D vwCl (tyC cy) s) (hP : va_P D vwCl (wC cy ad σ) H) (hD : ∀ σ, va_D A (wC cy ad σ)) (hS : va_S A H0 H locs) {i : Nat} (hi : i < 16) (hlink : (Cond.fieldLink own index "MachineFoundry$Machine" "ticket" "I").before args s = true) {v : Int32} (hdg : decode cc pc = .ok (.putfield index, 3)) (kk : ∀ (H1 : Heap) (locs1 : List Loc), va_P D vwCl (wC cy ad (up2 σ 9 i v)) H1 → va_S A H0 H1 locs1 → W p l e R s m args below meth c H1 locs1 cells slots Q (F0 m (pc + 3) ls rest)) : W p l e R s m args below meth c H locs cells slots Q (F0 m pc ls (.int v :: .ref (ad (i + 7)) :: rest)) :=
  va_put (ty := .int) (v := .int v) (ci := 2) (C := RX2) (T := TX2) (N := 10) hx hb hf (fun _ h => h) tyX2 tyX2_ok nmX2 hown hK hP (hD _) hS (i + 7) (wC_M hi) rfl 9 (by decide) hlink (fun _ h => h) rfl (by decide +kernel) rfl rfl (by decide : 9 < 10) hdg (fun H1 locs1 h1 _ h3 => kk H1 locs1 (by rw [← wC_setM9 hi]; exact h1) h3)
theorem rgI0 (hx : p.tables.exec = Jvm.exec) (hb : c.code = cc) (hf : ∀ w ∈ wsX00, w.before args s = true) (hown : s.vm.findClass own = some m.cls) (hK : va_K D vwCl (tyC cy) s) (hP : va_P D vwCl (wC cy ad σ) H) {i : Nat} (hi : i < 8) (hlink : (Cond.fieldLink own index "MachineFoundry$Image" "number" "I").before args s = true) (hdg : decode cc pc = .ok (.getfield index, 3)) (kk : W p l e R s m args below meth c H locs cells slots Q (F0 m (pc + 3) ls (.int (nI i) :: rest))) : W p l e R s m args below meth c H locs cells slots Q (F0 m pc ls (.ref (ad (i + 23)) :: rest)) :=
  va_get (ci := 0) (C := RX0) (T := TX0) (N := 8) hx hb hf (fun _ h => h) hown hK hP (i + 23) (wC_I hi) rfl 0 (by decide) hlink (fun _ h => h) (v := .int (nI i)) rfl hdg kk
theorem rgI1 (hx : p.tables.exec = Jvm.exec) (hb : c.code = cc) (hf : ∀ w ∈ wsX00, w.before args s = true) (hown : s.vm.findClass own = some m.cls) (hK : va_K D vwCl (tyC cy) s) (hP : va_P D vwCl (wC cy ad σ) H) {i : Nat} (hi : i < 8) (hlink : (Cond.fieldLink own index "MachineFoundry$Image" "isSet" "Z").before args s = true) {x : Int32} (hv : (σ 11 i) = x) (hdg : decode cc pc = .ok (.getfield index, 3)) (kk : W p l e R s m args below meth c H locs cells slots Q (F0 m (pc + 3) ls (.int x :: rest))) : W p l e R s m args below meth c H locs cells slots Q (F0 m pc ls (.ref (ad (i + 23)) :: rest)) :=
  va_get (ci := 0) (C := RX0) (T := TX0) (N := 8) hx hb hf (fun _ h => h) hown hK hP (i + 23) (wC_I hi) rfl 1 (by decide) hlink (fun _ h => h) (v := .int (σ 11 i)) rfl hdg (by rw [hv]; exact kk)
theorem rpI1 (hx : p.tables.exec = Jvm.exec) (hb : c.code = cc) (hf : ∀ w ∈ wsX00, w.before args s = true) (hown : s.vm.findClass own = some m.cls) (hK : va_K D vwCl (tyC cy) s) (hP : va_P D vwCl (wC cy ad σ) H) (hD : ∀ σ, va_D A (wC cy ad σ)) (hS : va_S A H0 H locs) {i : Nat} (hi : i < 8) (hlink : (Cond.fieldLink own index "MachineFoundry$Image" "isSet" "Z").before args s = true) {v : Int32} (hdg : decode cc pc = .ok (.putfield index, 3)) (hn : narrow .boolean (.int v) = .int v) (hfi : fits .boolean (.int v) = true) (kk : ∀ (H1 : Heap) (locs1 : List Loc), va_P D vwCl (wC cy ad (up2 σ 11 i v)) H1 → va_S A H0 H1 locs1 → W p l e R s m args below meth c H1 locs1 cells slots Q (F0 m (pc + 3) ls rest)) : W p l e R s m args below meth c H locs cells slots Q (F0 m pc ls (.int v :: .ref (ad (i + 23)) :: rest)) :=
  va_put (ty := .boolean) (v := .int v) (ci := 0) (C := RX0) (T := TX0) (N := 8) hx hb hf (fun _ h => h) tyX0 tyX0_ok nmX0 hown hK hP (hD _) hS (i + 23) (wC_I hi) rfl 1 (by decide) hlink (fun _ h => h) rfl (by decide +kernel) hn hfi (by decide : 1 < 8) hdg (fun H1 locs1 h1 _ h3 => kk H1 locs1 (by rw [← wC_setI1 hi]; exact h1) h3)
theorem rgI2 (hx : p.tables.exec = Jvm.exec) (hb : c.code = cc) (hf : ∀ w ∈ wsX00, w.before args s = true) (hown : s.vm.findClass own = some m.cls) (hK : va_K D vwCl (tyC cy) s) (hP : va_P D vwCl (wC cy ad σ) H) {i : Nat} (hi : i < 8) (hlink : (Cond.fieldLink own index "MachineFoundry$Image" "priority" "I").before args s = true) {x : Int32} (hv : (σ 12 i) = x) (hdg : decode cc pc = .ok (.getfield index, 3)) (kk : W p l e R s m args below meth c H locs cells slots Q (F0 m (pc + 3) ls (.int x :: rest))) : W p l e R s m args below meth c H locs cells slots Q (F0 m pc ls (.ref (ad (i + 23)) :: rest)) :=
  va_get (ci := 0) (C := RX0) (T := TX0) (N := 8) hx hb hf (fun _ h => h) hown hK hP (i + 23) (wC_I hi) rfl 2 (by decide) hlink (fun _ h => h) (v := .int (σ 12 i)) rfl hdg (by rw [hv]; exact kk)
theorem rpI2 (hx : p.tables.exec = Jvm.exec) (hb : c.code = cc) (hf : ∀ w ∈ wsX00, w.before args s = true) (hown : s.vm.findClass own = some m.cls) (hK : va_K D vwCl (tyC cy) s) (hP : va_P D vwCl (wC cy ad σ) H) (hD : ∀ σ, va_D A (wC cy ad σ)) (hS : va_S A H0 H locs) {i : Nat} (hi : i < 8) (hlink : (Cond.fieldLink own index "MachineFoundry$Image" "priority" "I").before args s = true) {v : Int32} (hdg : decode cc pc = .ok (.putfield index, 3)) (kk : ∀ (H1 : Heap) (locs1 : List Loc), va_P D vwCl (wC cy ad (up2 σ 12 i v)) H1 → va_S A H0 H1 locs1 → W p l e R s m args below meth c H1 locs1 cells slots Q (F0 m (pc + 3) ls rest)) : W p l e R s m args below meth c H locs cells slots Q (F0 m pc ls (.int v :: .ref (ad (i + 23)) :: rest)) :=
  va_put (ty := .int) (v := .int v) (ci := 0) (C := RX0) (T := TX0) (N := 8) hx hb hf (fun _ h => h) tyX0 tyX0_ok nmX0 hown hK hP (hD _) hS (i + 23) (wC_I hi) rfl 2 (by decide) hlink (fun _ h => h) rfl (by decide +kernel) rfl rfl (by decide : 2 < 8) hdg (fun H1 locs1 h1 _ h3 => kk H1 locs1 (by rw [← wC_setI2 hi]; exact h1) h3)
theorem rgI3 (hx : p.tables.exec = Jvm.exec) (hb : c.code = cc) (hf : ∀ w ∈ wsX00, w.before args s = true) (hown : s.vm.findClass own = some m.cls) (hK : va_K D vwCl (tyC cy) s) (hP : va_P D vwCl (wC cy ad σ) H) {i : Nat} (hi : i < 8) (hlink : (Cond.fieldLink own index "MachineFoundry$Image" "memory" "I").before args s = true) {x : Int32} (hv : (σ 13 i) = x) (hdg : decode cc pc = .ok (.getfield index, 3)) (kk : W p l e R s m args below meth c H locs cells slots Q (F0 m (pc + 3) ls (.int x :: rest))) : W p l e R s m args below meth c H locs cells slots Q (F0 m pc ls (.ref (ad (i + 23)) :: rest)) :=
  va_get (ci := 0) (C := RX0) (T := TX0) (N := 8) hx hb hf (fun _ h => h) hown hK hP (i + 23) (wC_I hi) rfl 3 (by decide) hlink (fun _ h => h) (v := .int (σ 13 i)) rfl hdg (by rw [hv]; exact kk)
theorem rpI3 (hx : p.tables.exec = Jvm.exec) (hb : c.code = cc) (hf : ∀ w ∈ wsX00, w.before args s = true) (hown : s.vm.findClass own = some m.cls) (hK : va_K D vwCl (tyC cy) s) (hP : va_P D vwCl (wC cy ad σ) H) (hD : ∀ σ, va_D A (wC cy ad σ)) (hS : va_S A H0 H locs) {i : Nat} (hi : i < 8) (hlink : (Cond.fieldLink own index "MachineFoundry$Image" "memory" "I").before args s = true) {v : Int32} (hdg : decode cc pc = .ok (.putfield index, 3)) (kk : ∀ (H1 : Heap) (locs1 : List Loc), va_P D vwCl (wC cy ad (up2 σ 13 i v)) H1 → va_S A H0 H1 locs1 → W p l e R s m args below meth c H1 locs1 cells slots Q (F0 m (pc + 3) ls rest)) : W p l e R s m args below meth c H locs cells slots Q (F0 m pc ls (.int v :: .ref (ad (i + 23)) :: rest)) :=
  va_put (ty := .int) (v := .int v) (ci := 0) (C := RX0) (T := TX0) (N := 8) hx hb hf (fun _ h => h) tyX0 tyX0_ok nmX0 hown hK hP (hD _) hS (i + 23) (wC_I hi) rfl 3 (by decide) hlink (fun _ h => h) rfl (by decide +kernel) rfl rfl (by decide : 3 < 8) hdg (fun H1 locs1 h1 _ h3 => kk H1 locs1 (by rw [← wC_setI3 hi]; exact h1) h3)
theorem rgI4 (hx : p.tables.exec = Jvm.exec) (hb : c.code = cc) (hf : ∀ w ∈ wsX00, w.before args s = true) (hown : s.vm.findClass own = some m.cls) (hK : va_K D vwCl (tyC cy) s) (hP : va_P D vwCl (wC cy ad σ) H) {i : Nat} (hi : i < 8) (hlink : (Cond.fieldLink own index "MachineFoundry$Image" "kinds" "I").before args s = true) {x : Int32} (hv : (σ 14 i) = x) (hdg : decode cc pc = .ok (.getfield index, 3)) (kk : W p l e R s m args below meth c H locs cells slots Q (F0 m (pc + 3) ls (.int x :: rest))) : W p l e R s m args below meth c H locs cells slots Q (F0 m pc ls (.ref (ad (i + 23)) :: rest)) :=
  va_get (ci := 0) (C := RX0) (T := TX0) (N := 8) hx hb hf (fun _ h => h) hown hK hP (i + 23) (wC_I hi) rfl 4 (by decide) hlink (fun _ h => h) (v := .int (σ 14 i)) rfl hdg (by rw [hv]; exact kk)
theorem rpI4 (hx : p.tables.exec = Jvm.exec) (hb : c.code = cc) (hf : ∀ w ∈ wsX00, w.before args s = true) (hown : s.vm.findClass own = some m.cls) (hK : va_K D vwCl (tyC cy) s) (hP : va_P D vwCl (wC cy ad σ) H) (hD : ∀ σ, va_D A (wC cy ad σ)) (hS : va_S A H0 H locs) {i : Nat} (hi : i < 8) (hlink : (Cond.fieldLink own index "MachineFoundry$Image" "kinds" "I").before args s = true) {v : Int32} (hdg : decode cc pc = .ok (.putfield index, 3)) (kk : ∀ (H1 : Heap) (locs1 : List Loc), va_P D vwCl (wC cy ad (up2 σ 14 i v)) H1 → va_S A H0 H1 locs1 → W p l e R s m args below meth c H1 locs1 cells slots Q (F0 m (pc + 3) ls rest)) : W p l e R s m args below meth c H locs cells slots Q (F0 m pc ls (.int v :: .ref (ad (i + 23)) :: rest)) :=
  va_put (ty := .int) (v := .int v) (ci := 0) (C := RX0) (T := TX0) (N := 8) hx hb hf (fun _ h => h) tyX0 tyX0_ok nmX0 hown hK hP (hD _) hS (i + 23) (wC_I hi) rfl 4 (by decide) hlink (fun _ h => h) rfl (by decide +kernel) rfl rfl (by decide : 4 < 8) hdg (fun H1 locs1 h1 _ h3 => kk H1 locs1 (by rw [← wC_setI4 hi]; exact h1) h3)
theorem rgI5 (hx : p.tables.exec = Jvm.exec) (hb : c.code = cc) (hf : ∀ w ∈ wsX00, w.before args s = true) (hown : s.vm.findClass own = some m.cls) (hK : va_K D vwCl (tyC cy) s) (hP : va_P D vwCl (wC cy ad σ) H) {i : Nat} (hi : i < 8) (hlink : (Cond.fieldLink own index "MachineFoundry$Image" "required" "I").before args s = true) {x : Int32} (hv : (σ 15 i) = x) (hdg : decode cc pc = .ok (.getfield index, 3)) (kk : W p l e R s m args below meth c H locs cells slots Q (F0 m (pc + 3) ls (.int x :: rest))) : W p l e R s m args below meth c H locs cells slots Q (F0 m pc ls (.ref (ad (i + 23)) :: rest)) :=
  va_get (ci := 0) (C := RX0) (T := TX0) (N := 8) hx hb hf (fun _ h => h) hown hK hP (i + 23) (wC_I hi) rfl 5 (by decide) hlink (fun _ h => h) (v := .int (σ 15 i)) rfl hdg (by rw [hv]; exact kk)
theorem rpI5 (hx : p.tables.exec = Jvm.exec) (hb : c.code = cc) (hf : ∀ w ∈ wsX00, w.before args s = true) (hown : s.vm.findClass own = some m.cls) (hK : va_K D vwCl (tyC cy) s) (hP : va_P D vwCl (wC cy ad σ) H) (hD : ∀ σ, va_D A (wC cy ad σ)) (hS : va_S A H0 H locs) {i : Nat} (hi : i < 8) (hlink : (Cond.fieldLink own index "MachineFoundry$Image" "required" "I").before args s = true) {v : Int32} (hdg : decode cc pc = .ok (.putfield index, 3)) (kk : ∀ (H1 : Heap) (locs1 : List Loc), va_P D vwCl (wC cy ad (up2 σ 15 i v)) H1 → va_S A H0 H1 locs1 → W p l e R s m args below meth c H1 locs1 cells slots Q (F0 m (pc + 3) ls rest)) : W p l e R s m args below meth c H locs cells slots Q (F0 m pc ls (.int v :: .ref (ad (i + 23)) :: rest)) :=
  va_put (ty := .int) (v := .int v) (ci := 0) (C := RX0) (T := TX0) (N := 8) hx hb hf (fun _ h => h) tyX0 tyX0_ok nmX0 hown hK hP (hD _) hS (i + 23) (wC_I hi) rfl 5 (by decide) hlink (fun _ h => h) rfl (by decide +kernel) rfl rfl (by decide : 5 < 8) hdg (fun H1 locs1 h1 _ h3 => kk H1 locs1 (by rw [← wC_setI5 hi]; exact h1) h3)
theorem rgI6 (hx : p.tables.exec = Jvm.exec) (hb : c.code = cc) (hf : ∀ w ∈ wsX00, w.before args s = true) (hown : s.vm.findClass own = some m.cls) (hK : va_K D vwCl (tyC cy) s) (hP : va_P D vwCl (wC cy ad σ) H) {i : Nat} (hi : i < 8) (hlink : (Cond.fieldLink own index "MachineFoundry$Image" "barred" "I").before args s = true) {x : Int32} (hv : (σ 16 i) = x) (hdg : decode cc pc = .ok (.getfield index, 3)) (kk : W p l e R s m args below meth c H locs cells slots Q (F0 m (pc + 3) ls (.int x :: rest))) : W p l e R s m args below meth c H locs cells slots Q (F0 m pc ls (.ref (ad (i + 23)) :: rest)) :=
  va_get (ci := 0) (C := RX0) (T := TX0) (N := 8) hx hb hf (fun _ h => h) hown hK hP (i + 23) (wC_I hi) rfl 6 (by decide) hlink (fun _ h => h) (v := .int (σ 16 i)) rfl hdg (by rw [hv]; exact kk)
theorem rpI6 (hx : p.tables.exec = Jvm.exec) (hb : c.code = cc) (hf : ∀ w ∈ wsX00, w.before args s = true) (hown : s.vm.findClass own = some m.cls) (hK : va_K D vwCl (tyC cy) s) (hP : va_P D vwCl (wC cy ad σ) H) (hD : ∀ σ, va_D A (wC cy ad σ)) (hS : va_S A H0 H locs) {i : Nat} (hi : i < 8) (hlink : (Cond.fieldLink own index "MachineFoundry$Image" "barred" "I").before args s = true) {v : Int32} (hdg : decode cc pc = .ok (.putfield index, 3)) (kk : ∀ (H1 : Heap) (locs1 : List Loc), va_P D vwCl (wC cy ad (up2 σ 16 i v)) H1 → va_S A H0 H1 locs1 → W p l e R s m args below meth c H1 locs1 cells slots Q (F0 m (pc + 3) ls rest)) : W p l e R s m args below meth c H locs cells slots Q (F0 m pc ls (.int v :: .ref (ad (i + 23)) :: rest)) :=
  va_put (ty := .int) (v := .int v) (ci := 0) (C := RX0) (T := TX0) (N := 8) hx hb hf (fun _ h => h) tyX0 tyX0_ok nmX0 hown hK hP (hD _) hS (i + 23) (wC_I hi) rfl 6 (by decide) hlink (fun _ h => h) rfl (by decide +kernel) rfl rfl (by decide : 6 < 8) hdg (fun H1 locs1 h1 _ h3 => kk H1 locs1 (by rw [← wC_setI6 hi]; exact h1) h3)
theorem rgI7 (hx : p.tables.exec = Jvm.exec) (hb : c.code = cc) (hf : ∀ w ∈ wsX00, w.before args s = true) (hown : s.vm.findClass own = some m.cls) (hK : va_K D vwCl (tyC cy) s) (hP : va_P D vwCl (wC cy ad σ) H) {i : Nat} (hi : i < 8) (hlink : (Cond.fieldLink own index "MachineFoundry$Image" "time" "I").before args s = true) {x : Int32} (hv : (σ 17 i) = x) (hdg : decode cc pc = .ok (.getfield index, 3)) (kk : W p l e R s m args below meth c H locs cells slots Q (F0 m (pc + 3) ls (.int x :: rest))) : W p l e R s m args below meth c H locs cells slots Q (F0 m pc ls (.ref (ad (i + 23)) :: rest)) :=
  va_get (ci := 0) (C := RX0) (T := TX0) (N := 8) hx hb hf (fun _ h => h) hown hK hP (i + 23) (wC_I hi) rfl 7 (by decide) hlink (fun _ h => h) (v := .int (σ 17 i)) rfl hdg (by rw [hv]; exact kk)
theorem rpI7 (hx : p.tables.exec = Jvm.exec) (hb : c.code = cc) (hf : ∀ w ∈ wsX00, w.before args s = true) (hown : s.vm.findClass own = some m.cls) (hK : va_K D vwCl (tyC cy) s) (hP : va_P D vwCl (wC cy ad σ) H) (hD : ∀ σ, va_D A (wC cy ad σ)) (hS : va_S A H0 H locs) {i : Nat} (hi : i < 8) (hlink : (Cond.fieldLink own index "MachineFoundry$Image" "time" "I").before args s = true) {v : Int32} (hdg : decode cc pc = .ok (.putfield index, 3)) (kk : ∀ (H1 : Heap) (locs1 : List Loc), va_P D vwCl (wC cy ad (up2 σ 17 i v)) H1 → va_S A H0 H1 locs1 → W p l e R s m args below meth c H1 locs1 cells slots Q (F0 m (pc + 3) ls rest)) : W p l e R s m args below meth c H locs cells slots Q (F0 m pc ls (.int v :: .ref (ad (i + 23)) :: rest)) :=
  va_put (ty := .int) (v := .int v) (ci := 0) (C := RX0) (T := TX0) (N := 8) hx hb hf (fun _ h => h) tyX0 tyX0_ok nmX0 hown hK hP (hD _) hS (i + 23) (wC_I hi) rfl 7 (by decide) hlink (fun _ h => h) rfl (by decide +kernel) rfl rfl (by decide : 7 < 8) hdg (fun H1 locs1 h1 _ h3 => kk H1 locs1 (by rw [← wC_setI7 hi]; exact h1) h3)
theorem rgF0 (hx : p.tables.exec = Jvm.exec) (hb : c.code = cc) (hf : ∀ w ∈ wsX30, w.before args s = true) (hown : s.vm.findClass own = some m.cls) (hK : va_K D vwCl (tyC cy) s) (hP : va_P D vwCl (wC cy ad σ) H) (hlink : (Cond.fieldLink own index "MachineFoundry" "machines" "[LMachineFoundry$Machine;").before args s = true) (hdg : decode cc pc = .ok (.getfield index, 3)) (kk : W p l e R s m args below meth c H locs cells slots Q (F0 m (pc + 3) ls (.ref (ad 1) :: rest))) : W p l e R s m args below meth c H locs cells slots Q (F0 m pc ls (.ref (ad 0) :: rest)) :=
  va_get (ci := 3) (C := RX3) (T := TX3) (N := 9) hx hb hf (fun _ h => h) hown hK hP 0 (wC_at (by decide)) rfl 0 (by decide) hlink (fun _ h => h) (v := .ref (ad 1)) rfl hdg kk
theorem rgF1 (hx : p.tables.exec = Jvm.exec) (hb : c.code = cc) (hf : ∀ w ∈ wsX30, w.before args s = true) (hown : s.vm.findClass own = some m.cls) (hK : va_K D vwCl (tyC cy) s) (hP : va_P D vwCl (wC cy ad σ) H) (hlink : (Cond.fieldLink own index "MachineFoundry" "images" "[LMachineFoundry$Image;").before args s = true) (hdg : decode cc pc = .ok (.getfield index, 3)) (kk : W p l e R s m args below meth c H locs cells slots Q (F0 m (pc + 3) ls (.ref (ad 2) :: rest))) : W p l e R s m args below meth c H locs cells slots Q (F0 m pc ls (.ref (ad 0) :: rest)) :=
  va_get (ci := 3) (C := RX3) (T := TX3) (N := 9) hx hb hf (fun _ h => h) hown hK hP 0 (wC_at (by decide)) rfl 1 (by decide) hlink (fun _ h => h) (v := .ref (ad 2)) rfl hdg kk
theorem rgF2 (hx : p.tables.exec = Jvm.exec) (hb : c.code = cc) (hf : ∀ w ∈ wsX30, w.before args s = true) (hown : s.vm.findClass own = some m.cls) (hK : va_K D vwCl (tyC cy) s) (hP : va_P D vwCl (wC cy ad σ) H) (hlink : (Cond.fieldLink own index "MachineFoundry" "batches" "[I").before args s = true) (hdg : decode cc pc = .ok (.getfield index, 3)) (kk : W p l e R s m args below meth c H locs cells slots Q (F0 m (pc + 3) ls (.ref (ad 3) :: rest))) : W p l e R s m args below meth c H locs cells slots Q (F0 m pc ls (.ref (ad 0) :: rest)) :=
  va_get (ci := 3) (C := RX3) (T := TX3) (N := 9) hx hb hf (fun _ h => h) hown hK hP 0 (wC_at (by decide)) rfl 2 (by decide) hlink (fun _ h => h) (v := .ref (ad 3)) rfl hdg kk
theorem rgF3 (hx : p.tables.exec = Jvm.exec) (hb : c.code = cc) (hf : ∀ w ∈ wsX30, w.before args s = true) (hown : s.vm.findClass own = some m.cls) (hK : va_K D vwCl (tyC cy) s) (hP : va_P D vwCl (wC cy ad σ) H) (hlink : (Cond.fieldLink own index "MachineFoundry" "journal" "LMachineFoundry$Journal;").before args s = true) (hdg : decode cc pc = .ok (.getfield index, 3)) (kk : W p l e R s m args below meth c H locs cells slots Q (F0 m (pc + 3) ls (.ref (ad 4) :: rest))) : W p l e R s m args below meth c H locs cells slots Q (F0 m pc ls (.ref (ad 0) :: rest)) :=
  va_get (ci := 3) (C := RX3) (T := TX3) (N := 9) hx hb hf (fun _ h => h) hown hK hP 0 (wC_at (by decide)) rfl 3 (by decide) hlink (fun _ h => h) (v := .ref (ad 4)) rfl hdg kk
theorem rgF4 (hx : p.tables.exec = Jvm.exec) (hb : c.code = cc) (hf : ∀ w ∈ wsX30, w.before args s = true) (hown : s.vm.findClass own = some m.cls) (hK : va_K D vwCl (tyC cy) s) (hP : va_P D vwCl (wC cy ad σ) H) (hlink : (Cond.fieldLink own index "MachineFoundry" "firstBackoff" "I").before args s = true) {x : Int32} (hv : (σ 20 4) = x) (hdg : decode cc pc = .ok (.getfield index, 3)) (kk : W p l e R s m args below meth c H locs cells slots Q (F0 m (pc + 3) ls (.int x :: rest))) : W p l e R s m args below meth c H locs cells slots Q (F0 m pc ls (.ref (ad 0) :: rest)) :=
  va_get (ci := 3) (C := RX3) (T := TX3) (N := 9) hx hb hf (fun _ h => h) hown hK hP 0 (wC_at (by decide)) rfl 4 (by decide) hlink (fun _ h => h) (v := .int (σ 20 4)) rfl hdg (by rw [hv]; exact kk)
theorem rpF4 (hx : p.tables.exec = Jvm.exec) (hb : c.code = cc) (hf : ∀ w ∈ wsX30, w.before args s = true) (hown : s.vm.findClass own = some m.cls) (hK : va_K D vwCl (tyC cy) s) (hP : va_P D vwCl (wC cy ad σ) H) (hD : ∀ σ, va_D A (wC cy ad σ)) (hS : va_S A H0 H locs) (hlink : (Cond.fieldLink own index "MachineFoundry" "firstBackoff" "I").before args s = true) {v : Int32} (hdg : decode cc pc = .ok (.putfield index, 3)) (kk : ∀ (H1 : Heap) (locs1 : List Loc), va_P D vwCl (wC cy ad (up2 σ 20 4 v)) H1 → va_S A H0 H1 locs1 → W p l e R s m args below meth c H1 locs1 cells slots Q (F0 m (pc + 3) ls rest)) : W p l e R s m args below meth c H locs cells slots Q (F0 m pc ls (.int v :: .ref (ad 0) :: rest)) :=
  va_put (ty := .int) (v := .int v) (ci := 3) (C := RX3) (T := TX3) (N := 9) hx hb hf (fun _ h => h) tyX3 tyX3_ok nmX3 hown hK hP (hD _) hS 0 (wC_at (by decide)) rfl 4 (by decide) hlink (fun _ h => h) rfl (by decide +kernel) rfl rfl (by decide : 4 < 9) hdg (fun H1 locs1 h1 _ h3 => kk H1 locs1 (by rw [← wC_setF4]; exact h1) h3)
theorem rgF5 (hx : p.tables.exec = Jvm.exec) (hb : c.code = cc) (hf : ∀ w ∈ wsX30, w.before args s = true) (hown : s.vm.findClass own = some m.cls) (hK : va_K D vwCl (tyC cy) s) (hP : va_P D vwCl (wC cy ad σ) H) (hlink : (Cond.fieldLink own index "MachineFoundry" "mostFailures" "I").before args s = true) {x : Int32} (hv : (σ 20 5) = x) (hdg : decode cc pc = .ok (.getfield index, 3)) (kk : W p l e R s m args below meth c H locs cells slots Q (F0 m (pc + 3) ls (.int x :: rest))) : W p l e R s m args below meth c H locs cells slots Q (F0 m pc ls (.ref (ad 0) :: rest)) :=
  va_get (ci := 3) (C := RX3) (T := TX3) (N := 9) hx hb hf (fun _ h => h) hown hK hP 0 (wC_at (by decide)) rfl 5 (by decide) hlink (fun _ h => h) (v := .int (σ 20 5)) rfl hdg (by rw [hv]; exact kk)
theorem rpF5 (hx : p.tables.exec = Jvm.exec) (hb : c.code = cc) (hf : ∀ w ∈ wsX30, w.before args s = true) (hown : s.vm.findClass own = some m.cls) (hK : va_K D vwCl (tyC cy) s) (hP : va_P D vwCl (wC cy ad σ) H) (hD : ∀ σ, va_D A (wC cy ad σ)) (hS : va_S A H0 H locs) (hlink : (Cond.fieldLink own index "MachineFoundry" "mostFailures" "I").before args s = true) {v : Int32} (hdg : decode cc pc = .ok (.putfield index, 3)) (kk : ∀ (H1 : Heap) (locs1 : List Loc), va_P D vwCl (wC cy ad (up2 σ 20 5 v)) H1 → va_S A H0 H1 locs1 → W p l e R s m args below meth c H1 locs1 cells slots Q (F0 m (pc + 3) ls rest)) : W p l e R s m args below meth c H locs cells slots Q (F0 m pc ls (.int v :: .ref (ad 0) :: rest)) :=
  va_put (ty := .int) (v := .int v) (ci := 3) (C := RX3) (T := TX3) (N := 9) hx hb hf (fun _ h => h) tyX3 tyX3_ok nmX3 hown hK hP (hD _) hS 0 (wC_at (by decide)) rfl 5 (by decide) hlink (fun _ h => h) rfl (by decide +kernel) rfl rfl (by decide : 5 < 9) hdg (fun H1 locs1 h1 _ h3 => kk H1 locs1 (by rw [← wC_setF5]; exact h1) h3)
theorem rgF6 (hx : p.tables.exec = Jvm.exec) (hb : c.code = cc) (hf : ∀ w ∈ wsX30, w.before args s = true) (hown : s.vm.findClass own = some m.cls) (hK : va_K D vwCl (tyC cy) s) (hP : va_P D vwCl (wC cy ad σ) H) (hlink : (Cond.fieldLink own index "MachineFoundry" "hour" "I").before args s = true) {x : Int32} (hv : (σ 20 6) = x) (hdg : decode cc pc = .ok (.getfield index, 3)) (kk : W p l e R s m args below meth c H locs cells slots Q (F0 m (pc + 3) ls (.int x :: rest))) : W p l e R s m args below meth c H locs cells slots Q (F0 m pc ls (.ref (ad 0) :: rest)) :=
  va_get (ci := 3) (C := RX3) (T := TX3) (N := 9) hx hb hf (fun _ h => h) hown hK hP 0 (wC_at (by decide)) rfl 6 (by decide) hlink (fun _ h => h) (v := .int (σ 20 6)) rfl hdg (by rw [hv]; exact kk)
theorem rpF6 (hx : p.tables.exec = Jvm.exec) (hb : c.code = cc) (hf : ∀ w ∈ wsX30, w.before args s = true) (hown : s.vm.findClass own = some m.cls) (hK : va_K D vwCl (tyC cy) s) (hP : va_P D vwCl (wC cy ad σ) H) (hD : ∀ σ, va_D A (wC cy ad σ)) (hS : va_S A H0 H locs) (hlink : (Cond.fieldLink own index "MachineFoundry" "hour" "I").before args s = true) {v : Int32} (hdg : decode cc pc = .ok (.putfield index, 3)) (kk : ∀ (H1 : Heap) (locs1 : List Loc), va_P D vwCl (wC cy ad (up2 σ 20 6 v)) H1 → va_S A H0 H1 locs1 → W p l e R s m args below meth c H1 locs1 cells slots Q (F0 m (pc + 3) ls rest)) : W p l e R s m args below meth c H locs cells slots Q (F0 m pc ls (.int v :: .ref (ad 0) :: rest)) :=
  va_put (ty := .int) (v := .int v) (ci := 3) (C := RX3) (T := TX3) (N := 9) hx hb hf (fun _ h => h) tyX3 tyX3_ok nmX3 hown hK hP (hD _) hS 0 (wC_at (by decide)) rfl 6 (by decide) hlink (fun _ h => h) rfl (by decide +kernel) rfl rfl (by decide : 6 < 9) hdg (fun H1 locs1 h1 _ h3 => kk H1 locs1 (by rw [← wC_setF6]; exact h1) h3)
theorem rgF7 (hx : p.tables.exec = Jvm.exec) (hb : c.code = cc) (hf : ∀ w ∈ wsX30, w.before args s = true) (hown : s.vm.findClass own = some m.cls) (hK : va_K D vwCl (tyC cy) s) (hP : va_P D vwCl (wC cy ad σ) H) (hlink : (Cond.fieldLink own index "MachineFoundry" "wipeCount" "I").before args s = true) {x : Int32} (hv : (σ 20 7) = x) (hdg : decode cc pc = .ok (.getfield index, 3)) (kk : W p l e R s m args below meth c H locs cells slots Q (F0 m (pc + 3) ls (.int x :: rest))) : W p l e R s m args below meth c H locs cells slots Q (F0 m pc ls (.ref (ad 0) :: rest)) :=
  va_get (ci := 3) (C := RX3) (T := TX3) (N := 9) hx hb hf (fun _ h => h) hown hK hP 0 (wC_at (by decide)) rfl 7 (by decide) hlink (fun _ h => h) (v := .int (σ 20 7)) rfl hdg (by rw [hv]; exact kk)
theorem rpF7 (hx : p.tables.exec = Jvm.exec) (hb : c.code = cc) (hf : ∀ w ∈ wsX30, w.before args s = true) (hown : s.vm.findClass own = some m.cls) (hK : va_K D vwCl (tyC cy) s) (hP : va_P D vwCl (wC cy ad σ) H) (hD : ∀ σ, va_D A (wC cy ad σ)) (hS : va_S A H0 H locs) (hlink : (Cond.fieldLink own index "MachineFoundry" "wipeCount" "I").before args s = true) {v : Int32} (hdg : decode cc pc = .ok (.putfield index, 3)) (kk : ∀ (H1 : Heap) (locs1 : List Loc), va_P D vwCl (wC cy ad (up2 σ 20 7 v)) H1 → va_S A H0 H1 locs1 → W p l e R s m args below meth c H1 locs1 cells slots Q (F0 m (pc + 3) ls rest)) : W p l e R s m args below meth c H locs cells slots Q (F0 m pc ls (.int v :: .ref (ad 0) :: rest)) :=
  va_put (ty := .int) (v := .int v) (ci := 3) (C := RX3) (T := TX3) (N := 9) hx hb hf (fun _ h => h) tyX3 tyX3_ok nmX3 hown hK hP (hD _) hS 0 (wC_at (by decide)) rfl 7 (by decide) hlink (fun _ h => h) rfl (by decide +kernel) rfl rfl (by decide : 7 < 9) hdg (fun H1 locs1 h1 _ h3 => kk H1 locs1 (by rw [← wC_setF7]; exact h1) h3)
theorem rgF8 (hx : p.tables.exec = Jvm.exec) (hb : c.code = cc) (hf : ∀ w ∈ wsX30, w.before args s = true) (hown : s.vm.findClass own = some m.cls) (hK : va_K D vwCl (tyC cy) s) (hP : va_P D vwCl (wC cy ad σ) H) (hlink : (Cond.fieldLink own index "MachineFoundry" "lastTicket" "I").before args s = true) {x : Int32} (hv : (σ 20 8) = x) (hdg : decode cc pc = .ok (.getfield index, 3)) (kk : W p l e R s m args below meth c H locs cells slots Q (F0 m (pc + 3) ls (.int x :: rest))) : W p l e R s m args below meth c H locs cells slots Q (F0 m pc ls (.ref (ad 0) :: rest)) :=
  va_get (ci := 3) (C := RX3) (T := TX3) (N := 9) hx hb hf (fun _ h => h) hown hK hP 0 (wC_at (by decide)) rfl 8 (by decide) hlink (fun _ h => h) (v := .int (σ 20 8)) rfl hdg (by rw [hv]; exact kk)
theorem rpF8 (hx : p.tables.exec = Jvm.exec) (hb : c.code = cc) (hf : ∀ w ∈ wsX30, w.before args s = true) (hown : s.vm.findClass own = some m.cls) (hK : va_K D vwCl (tyC cy) s) (hP : va_P D vwCl (wC cy ad σ) H) (hD : ∀ σ, va_D A (wC cy ad σ)) (hS : va_S A H0 H locs) (hlink : (Cond.fieldLink own index "MachineFoundry" "lastTicket" "I").before args s = true) {v : Int32} (hdg : decode cc pc = .ok (.putfield index, 3)) (kk : ∀ (H1 : Heap) (locs1 : List Loc), va_P D vwCl (wC cy ad (up2 σ 20 8 v)) H1 → va_S A H0 H1 locs1 → W p l e R s m args below meth c H1 locs1 cells slots Q (F0 m (pc + 3) ls rest)) : W p l e R s m args below meth c H locs cells slots Q (F0 m pc ls (.int v :: .ref (ad 0) :: rest)) :=
  va_put (ty := .int) (v := .int v) (ci := 3) (C := RX3) (T := TX3) (N := 9) hx hb hf (fun _ h => h) tyX3 tyX3_ok nmX3 hown hK hP (hD _) hS 0 (wC_at (by decide)) rfl 8 (by decide) hlink (fun _ h => h) rfl (by decide +kernel) rfl rfl (by decide : 8 < 9) hdg (fun H1 locs1 h1 _ h3 => kk H1 locs1 (by rw [← wC_setF8]; exact h1) h3)
theorem rgJ0 (hx : p.tables.exec = Jvm.exec) (hb : c.code = cc) (hf : ∀ w ∈ wsX10, w.before args s = true) (hown : s.vm.findClass own = some m.cls) (hK : va_K D vwCl (tyC cy) s) (hP : va_P D vwCl (wC cy ad σ) H) (hlink : (Cond.fieldLink own index "MachineFoundry$Journal" "numbers" "[I").before args s = true) (hdg : decode cc pc = .ok (.getfield index, 3)) (kk : W p l e R s m args below meth c H locs cells slots Q (F0 m (pc + 3) ls (.ref (ad 5) :: rest))) : W p l e R s m args below meth c H locs cells slots Q (F0 m pc ls (.ref (ad 4) :: rest)) :=
  va_get (ci := 1) (C := RX1) (T := TX1) (N := 3) hx hb hf (fun _ h => h) hown hK hP 4 (wC_at (by decide)) rfl 0 (by decide) hlink (fun _ h => h) (v := .ref (ad 5)) rfl hdg kk
theorem rgJ1 (hx : p.tables.exec = Jvm.exec) (hb : c.code = cc) (hf : ∀ w ∈ wsX10, w.before args s = true) (hown : s.vm.findClass own = some m.cls) (hK : va_K D vwCl (tyC cy) s) (hP : va_P D vwCl (wC cy ad σ) H) (hlink : (Cond.fieldLink own index "MachineFoundry$Journal" "statesBefore" "[I").before args s = true) (hdg : decode cc pc = .ok (.getfield index, 3)) (kk : W p l e R s m args below meth c H locs cells slots Q (F0 m (pc + 3) ls (.ref (ad 6) :: rest))) : W p l e R s m args below meth c H locs cells slots Q (F0 m pc ls (.ref (ad 4) :: rest)) :=
  va_get (ci := 1) (C := RX1) (T := TX1) (N := 3) hx hb hf (fun _ h => h) hown hK hP 4 (wC_at (by decide)) rfl 1 (by decide) hlink (fun _ h => h) (v := .ref (ad 6)) rfl hdg kk
theorem rgJ2 (hx : p.tables.exec = Jvm.exec) (hb : c.code = cc) (hf : ∀ w ∈ wsX10, w.before args s = true) (hown : s.vm.findClass own = some m.cls) (hK : va_K D vwCl (tyC cy) s) (hP : va_P D vwCl (wC cy ad σ) H) (hlink : (Cond.fieldLink own index "MachineFoundry$Journal" "added" "I").before args s = true) {x : Int32} (hv : (σ 20 9) = x) (hdg : decode cc pc = .ok (.getfield index, 3)) (kk : W p l e R s m args below meth c H locs cells slots Q (F0 m (pc + 3) ls (.int x :: rest))) : W p l e R s m args below meth c H locs cells slots Q (F0 m pc ls (.ref (ad 4) :: rest)) :=
  va_get (ci := 1) (C := RX1) (T := TX1) (N := 3) hx hb hf (fun _ h => h) hown hK hP 4 (wC_at (by decide)) rfl 2 (by decide) hlink (fun _ h => h) (v := .int (σ 20 9)) rfl hdg (by rw [hv]; exact kk)
theorem rpJ2 (hx : p.tables.exec = Jvm.exec) (hb : c.code = cc) (hf : ∀ w ∈ wsX10, w.before args s = true) (hown : s.vm.findClass own = some m.cls) (hK : va_K D vwCl (tyC cy) s) (hP : va_P D vwCl (wC cy ad σ) H) (hD : ∀ σ, va_D A (wC cy ad σ)) (hS : va_S A H0 H locs) (hlink : (Cond.fieldLink own index "MachineFoundry$Journal" "added" "I").before args s = true) {v : Int32} (hdg : decode cc pc = .ok (.putfield index, 3)) (kk : ∀ (H1 : Heap) (locs1 : List Loc), va_P D vwCl (wC cy ad (up2 σ 20 9 v)) H1 → va_S A H0 H1 locs1 → W p l e R s m args below meth c H1 locs1 cells slots Q (F0 m (pc + 3) ls rest)) : W p l e R s m args below meth c H locs cells slots Q (F0 m pc ls (.int v :: .ref (ad 4) :: rest)) :=
  va_put (ty := .int) (v := .int v) (ci := 1) (C := RX1) (T := TX1) (N := 3) hx hb hf (fun _ h => h) tyX1 tyX1_ok nmX1 hown hK hP (hD _) hS 4 (wC_at (by decide)) rfl 2 (by decide) hlink (fun _ h => h) rfl (by decide +kernel) rfl rfl (by decide : 2 < 3) hdg (fun H1 locs1 h1 _ h3 => kk H1 locs1 (by rw [← wC_setJ]; exact h1) h3)
theorem raM (hx : p.tables.exec = Jvm.exec) (hb : c.code = cc) (hK : va_K D vwCl (tyC cy) s) (hP : va_P D vwCl (wC cy ad σ) H) {k : Nat} (hk : k < 16) (hdg : decode cc pc = .ok (.aaload, 1)) (kk : W p l e R s m args below meth c H locs cells slots Q (F0 m (pc + 1) ls (.ref (ad (k + 7)) :: rest))) : W p l e R s m args below meth c H locs cells slots Q (F0 m pc ls (.int (nI k) :: .ref (ad 1) :: rest)) := by
  refine va_aldq hx hb hK hP 1 3 (wC_at (by decide)) rfl (vp_in_nI hk (by decide)) hdg ?_
  rw [nI_clamp (by omega)]
  exact kk
theorem raI (hx : p.tables.exec = Jvm.exec) (hb : c.code = cc) (hK : va_K D vwCl (tyC cy) s) (hP : va_P D vwCl (wC cy ad σ) H) {k : Nat} (hk : k < 8) (hdg : decode cc pc = .ok (.aaload, 1)) (kk : W p l e R s m args below meth c H locs cells slots Q (F0 m (pc + 1) ls (.ref (ad (k + 23)) :: rest))) : W p l e R s m args below meth c H locs cells slots Q (F0 m pc ls (.int (nI k) :: .ref (ad 2) :: rest)) := by
  refine va_aldq hx hb hK hP 2 2 (wC_at (by decide)) rfl (vp_in_nI hk (by decide)) hdg ?_
  rw [nI_clamp (by omega)]
  exact kk
theorem rlM (hx : p.tables.exec = Jvm.exec) (hb : c.code = cc) (hK : va_K D vwCl (tyC cy) s) (hP : va_P D vwCl (wC cy ad σ) H) (hdg : decode cc pc = .ok (.arraylength, 1)) (kk : W p l e R s m args below meth c H locs cells slots Q (F0 m (pc + 1) ls (.int 16 :: rest))) : W p l e R s m args below meth c H locs cells slots Q (F0 m pc ls (.ref (ad 1) :: rest)) :=
  va_alen hx hb hK hP 1 3 (wC_at (by decide)) rfl rfl hdg kk
theorem rlI (hx : p.tables.exec = Jvm.exec) (hb : c.code = cc) (hK : va_K D vwCl (tyC cy) s) (hP : va_P D vwCl (wC cy ad σ) H) (hdg : decode cc pc = .ok (.arraylength, 1)) (kk : W p l e R s m args below meth c H locs cells slots Q (F0 m (pc + 1) ls (.int 8 :: rest))) : W p l e R s m args below meth c H locs cells slots Q (F0 m pc ls (.ref (ad 2) :: rest)) :=
  va_alen hx hb hK hP 2 2 (wC_at (by decide)) rfl rfl hdg kk
theorem rlB (hx : p.tables.exec = Jvm.exec) (hb : c.code = cc) (hK : va_K D vwCl (tyC cy) s) (hP : va_P D vwCl (wC cy ad σ) H) (hdg : decode cc pc = .ok (.arraylength, 1)) (kk : W p l e R s m args below meth c H locs cells slots Q (F0 m (pc + 1) ls (.int 4 :: rest))) : W p l e R s m args below meth c H locs cells slots Q (F0 m pc ls (.ref (ad 3) :: rest)) :=
  va_alen hx hb hK hP 3 0 (wC_at (by decide)) rfl rfl hdg kk
theorem rlN (hx : p.tables.exec = Jvm.exec) (hb : c.code = cc) (hK : va_K D vwCl (tyC cy) s) (hP : va_P D vwCl (wC cy ad σ) H) (hdg : decode cc pc = .ok (.arraylength, 1)) (kk : W p l e R s m args below meth c H locs cells slots Q (F0 m (pc + 1) ls (.int 40 :: rest))) : W p l e R s m args below meth c H locs cells slots Q (F0 m pc ls (.ref (ad 5) :: rest)) :=
  va_alen hx hb hK hP 5 0 (wC_at (by decide)) rfl rfl hdg kk
theorem rlS (hx : p.tables.exec = Jvm.exec) (hb : c.code = cc) (hK : va_K D vwCl (tyC cy) s) (hP : va_P D vwCl (wC cy ad σ) H) (hdg : decode cc pc = .ok (.arraylength, 1)) (kk : W p l e R s m args below meth c H locs cells slots Q (F0 m (pc + 1) ls (.int 40 :: rest))) : W p l e R s m args below meth c H locs cells slots Q (F0 m pc ls (.ref (ad 6) :: rest)) :=
  va_alen hx hb hK hP 6 0 (wC_at (by decide)) rfl rfl hdg kk
theorem raB (hx : p.tables.exec = Jvm.exec) (hb : c.code = cc) (hK : va_K D vwCl (tyC cy) s) (hP : va_P D vwCl (wC cy ad σ) H) {k : Nat} (hk : k < 4) {x : Int32} (hv : σ 21 k = x) (hdg : decode cc pc = .ok (.iaload, 1)) (kk : W p l e R s m args below meth c H locs cells slots Q (F0 m (pc + 1) ls (.int x :: rest))) : W p l e R s m args below meth c H locs cells slots Q (F0 m pc ls (.int (nI k) :: .ref (ad 3) :: rest)) := by
  refine va_iald hx hb hK hP 3 0 (wC_at (by decide)) rfl (vp_in_nI hk (by decide)) hdg ?_
  rw [nI_clamp (by omega), hv]
  exact kk
theorem rsB (hx : p.tables.exec = Jvm.exec) (hb : c.code = cc) (hK : va_K D vwCl (tyC cy) s) (hP : va_P D vwCl (wC cy ad σ) H) (hD : ∀ σ, va_D A (wC cy ad σ)) (hS : va_S A H0 H locs) {k : Nat} (hk : k < 4) {v : Int32} (hdg : decode cc pc = .ok (.iastore, 1)) (kk : ∀ (H1 : Heap) (locs1 : List Loc), va_P D vwCl (wC cy ad (up2 σ 21 k v)) H1 → va_S A H0 H1 locs1 → W p l e R s m args below meth c H1 locs1 cells slots Q (F0 m (pc + 1) ls rest)) : W p l e R s m args below meth c H locs cells slots Q (F0 m pc ls (.int v :: .int (nI k) :: .ref (ad 3) :: rest)) := by
  refine va_iast hx hb hK hP (hD _) hS 3 0 (wC_at (by decide)) rfl (vp_in_nI hk (by decide)) hdg (fun H1 locs1 h1 _ h3 => kk H1 locs1 ?_ h3)
  rw [← wC_setB]
  rw [nI_clamp (by omega)] at h1
  exact h1
theorem raN (hx : p.tables.exec = Jvm.exec) (hb : c.code = cc) (hK : va_K D vwCl (tyC cy) s) (hP : va_P D vwCl (wC cy ad σ) H) {k : Nat} (hk : k < 40) {x : Int32} (hv : σ 22 k = x) (hdg : decode cc pc = .ok (.iaload, 1)) (kk : W p l e R s m args below meth c H locs cells slots Q (F0 m (pc + 1) ls (.int x :: rest))) : W p l e R s m args below meth c H locs cells slots Q (F0 m pc ls (.int (nI k) :: .ref (ad 5) :: rest)) := by
  refine va_iald hx hb hK hP 5 0 (wC_at (by decide)) rfl (vp_in_nI hk (by decide)) hdg ?_
  rw [nI_clamp (by omega), hv]
  exact kk
theorem rsN (hx : p.tables.exec = Jvm.exec) (hb : c.code = cc) (hK : va_K D vwCl (tyC cy) s) (hP : va_P D vwCl (wC cy ad σ) H) (hD : ∀ σ, va_D A (wC cy ad σ)) (hS : va_S A H0 H locs) {k : Nat} (hk : k < 40) {v : Int32} (hdg : decode cc pc = .ok (.iastore, 1)) (kk : ∀ (H1 : Heap) (locs1 : List Loc), va_P D vwCl (wC cy ad (up2 σ 22 k v)) H1 → va_S A H0 H1 locs1 → W p l e R s m args below meth c H1 locs1 cells slots Q (F0 m (pc + 1) ls rest)) : W p l e R s m args below meth c H locs cells slots Q (F0 m pc ls (.int v :: .int (nI k) :: .ref (ad 5) :: rest)) := by
  refine va_iast hx hb hK hP (hD _) hS 5 0 (wC_at (by decide)) rfl (vp_in_nI hk (by decide)) hdg (fun H1 locs1 h1 _ h3 => kk H1 locs1 ?_ h3)
  rw [← wC_setN]
  rw [nI_clamp (by omega)] at h1
  exact h1
theorem raS (hx : p.tables.exec = Jvm.exec) (hb : c.code = cc) (hK : va_K D vwCl (tyC cy) s) (hP : va_P D vwCl (wC cy ad σ) H) {k : Nat} (hk : k < 40) {x : Int32} (hv : σ 23 k = x) (hdg : decode cc pc = .ok (.iaload, 1)) (kk : W p l e R s m args below meth c H locs cells slots Q (F0 m (pc + 1) ls (.int x :: rest))) : W p l e R s m args below meth c H locs cells slots Q (F0 m pc ls (.int (nI k) :: .ref (ad 6) :: rest)) := by
  refine va_iald hx hb hK hP 6 0 (wC_at (by decide)) rfl (vp_in_nI hk (by decide)) hdg ?_
  rw [nI_clamp (by omega), hv]
  exact kk
theorem rsS (hx : p.tables.exec = Jvm.exec) (hb : c.code = cc) (hK : va_K D vwCl (tyC cy) s) (hP : va_P D vwCl (wC cy ad σ) H) (hD : ∀ σ, va_D A (wC cy ad σ)) (hS : va_S A H0 H locs) {k : Nat} (hk : k < 40) {v : Int32} (hdg : decode cc pc = .ok (.iastore, 1)) (kk : ∀ (H1 : Heap) (locs1 : List Loc), va_P D vwCl (wC cy ad (up2 σ 23 k v)) H1 → va_S A H0 H1 locs1 → W p l e R s m args below meth c H1 locs1 cells slots Q (F0 m (pc + 1) ls rest)) : W p l e R s m args below meth c H locs cells slots Q (F0 m pc ls (.int v :: .int (nI k) :: .ref (ad 6) :: rest)) := by
  refine va_iast hx hb hK hP (hD _) hS 6 0 (wC_at (by decide)) rfl (vp_in_nI hk (by decide)) hdg (fun H1 locs1 h1 _ h3 => kk H1 locs1 ?_ h3)
  rw [← wC_setS]
  rw [nI_clamp (by omega)] at h1
  exact h1
end RG
/-! a method's start: the world, and what the tables say -/
def cw (D : va_G) (cy : Nat → ClassId) (ad : Nat → Nat) (σ : Mem) (U : State) : Prop := va_P D vwCl (wC cy ad σ) U.heap ∧ va_K D vwCl (tyC cy) U
theorem cw_bl {av : List Value} {D : va_G} {cy : Nat → ClassId} {ad : Nat → Nat} {σ : Mem} : FrameBlind (va_Pc av (cw D cy ad σ)) := fun a U g mk h => ⟨h.1, h.2.1, va_K.moved (u := U) (U := U.calling g mk a) (Vm.Alike.refl U.vm) h.2.2⟩
theorem cw_at {av : List Value} {D : va_G} {cy : Nat → ClassId} {ad : Nat → Nat} {σ : Mem} {s : State} {H : Heap} (hP : va_P D vwCl (wC cy ad σ) H) (hK : va_K D vwCl (tyC cy) s) : ∀ U : State, U.heap = H → s.WarmedH U.vm → va_Pc av (cw D cy ad σ) av.toArray U := fun U hU hW => ⟨rfl, by rw [hU]; exact hP, va_K.moved hW.alike hK⟩
theorem cw_F {D : va_G} {cy : Nat → ClassId} {ad : Nat → Nat} {σ : Mem} {s : State} {H : Heap} (hP : va_P D vwCl (wC cy ad σ) H) (hK : va_K D vwCl (tyC cy) s) : ∃ cell : Cell, H[ad 0]? = some cell ∧ cell.vm.isStatics = false ∧ s.vm.findClass RX3 = some cell.cls := va_recv hK hP (ci := 3) rfl (wC_at (by decide))
theorem cw_J {D : va_G} {cy : Nat → ClassId} {ad : Nat → Nat} {σ : Mem} {s : State} {H : Heap} (hP : va_P D vwCl (wC cy ad σ) H) (hK : va_K D vwCl (tyC cy) s) : ∃ cell : Cell, H[ad 4]? = some cell ∧ cell.vm.isStatics = false ∧ s.vm.findClass RX1 = some cell.cls := va_recv hK hP (ci := 1) rfl (wC_at (by decide))
theorem cw_M {D : va_G} {cy : Nat → ClassId} {ad : Nat → Nat} {σ : Mem} {s : State} {H : Heap} (hP : va_P D vwCl (wC cy ad σ) H) (hK : va_K D vwCl (tyC cy) s) {i : Nat} (hi : i < 16) : ∃ cell : Cell, H[ad (i + 7)]? = some cell ∧ cell.vm.isStatics = false ∧ s.vm.findClass RX2 = some cell.cls := va_recv hK hP (ci := 2) rfl (wC_M hi)
theorem cw_I {D : va_G} {cy : Nat → ClassId} {ad : Nat → Nat} {σ : Mem} {s : State} {H : Heap} (hP : va_P D vwCl (wC cy ad σ) H) (hK : va_K D vwCl (tyC cy) s) {i : Nat} (hi : i < 8) : ∃ cell : Cell, H[ad (i + 23)]? = some cell ∧ cell.vm.isStatics = false ∧ s.vm.findClass RX0 = some cell.cls := va_recv hK hP (ci := 0) rfl (wC_I hi)
abbrev NoA : Nat → Prop := fun _ => False
