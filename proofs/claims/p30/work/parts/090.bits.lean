/-! BITS (the first family began as the kit's text for pasting), and what the law asks of them -/
def bt (x : Int32) (i : Nat) : Bool := x.toBitVec.getLsbD i
theorem b_ext {x y : Int32} (h : ∀ i, i < 32 → bt x i = bt y i) : x = y := Int32.toBitVec_inj.mp (BitVec.eq_of_getLsbD_eq (fun i hi => h i hi))
theorem b_or (x y : Int32) (i : Nat) : bt (x ||| y) i = (bt x i || bt y i) := by unfold bt; rw [Int32.toBitVec_or, BitVec.getLsbD_or]
theorem b_and (x y : Int32) (i : Nat) : bt (x &&& y) i = (bt x i && bt y i) := by unfold bt; rw [Int32.toBitVec_and, BitVec.getLsbD_and]
theorem b_xor (x y : Int32) (i : Nat) : bt (x ^^^ y) i = (bt x i ^^ bt y i) := by unfold bt; rw [Int32.toBitVec_xor, BitVec.getLsbD_xor]
theorem b_big {x : Int32} {i : Nat} (h : 32 ≤ i) : bt x i = false := BitVec.getLsbD_of_ge _ _ h
theorem b_m1 : ∀ i, i < 32 → bt (-1) i = true := by decide +kernel
theorem b_0 (i : Nat) : bt 0 i = false := BitVec.getLsbD_zero
theorem s_l : ∀ n, n < 32 → ((nI n &&& 31).toBitVec.smod 32).toNat = n := by decide +kernel
theorem b_shl (n : Nat) (hn : n < 32) (x : Int32) {i : Nat} (hi : i < 32) : bt (x <<< (nI n &&& 31)) i = (decide (n ≤ i) && bt x (i - n)) := by
  unfold bt
  rw [Int32.toBitVec_shiftLeft]
  show (x.toBitVec <<< ((nI n &&& 31).toBitVec.smod 32).toNat).getLsbD i = _
  rw [s_l n hn, BitVec.getLsbD_shiftLeft]
  rcases Nat.lt_or_ge i n with h | h
  · simp [h, Nat.not_le.mpr h]
  · simp [hi, h, Nat.not_lt.mpr h]
theorem b_sshr (n : Nat) (hn : n < 32) (x : Int32) {i : Nat} (hi : i < 32) : bt (x >>> (nI n &&& 31)) i = if n + i < 32 then bt x (n + i) else bt x 31 := by
  unfold bt
  rw [Int32.toBitVec_shiftRight]
  show (x.toBitVec.sshiftRight ((nI n &&& 31).toBitVec.smod 32).toNat).getLsbD i = _
  rw [s_l n hn, BitVec.getLsbD_sshiftRight, BitVec.msb_eq_getLsbD_last]
  simp [hi]
theorem mt_bits (x r : Int32) : ((x ^^^ (-1)) &&& r = 0) ↔ (x &&& r = r) := by
  constructor
  · intro h
    refine b_ext (fun i hi => ?_)
    have h1 : bt ((x ^^^ (-1)) &&& r) i = false := by rw [h]; exact b_0 i
    rw [b_and, b_xor, b_m1 i hi] at h1
    rw [b_and]
    revert h1
    cases bt x i <;> cases bt r i <;> simp
  · intro h
    refine b_ext (fun i hi => ?_)
    have h1 : bt (x &&& r) i = bt r i := by rw [h]
    rw [b_and] at h1
    rw [b_and, b_xor, b_m1 i hi, b_0]
    revert h1
    cases bt x i <;> cases bt r i <;> simp
theorem b_1 : ∀ i, i < 32 → bt 1 i = decide (i = 0) := by decide +kernel
/-- one bit, asked for as the law does -/
theorem bit_1 (x : Int32) {m : Nat} (hm : m < 32) : ((x >>> (nI m &&& 31)) &&& 1 = 1) ↔ bt x m = true := by
  have e0 : bt ((x >>> (nI m &&& 31)) &&& 1) 0 = bt x m := by
    rw [b_and, b_1 0 (by decide), b_sshr m hm x (by decide), Nat.add_zero, if_pos hm]
    simp
  constructor
  · intro h
    rw [← e0, h]
    exact b_1 0 (by decide)
  · intro h
    refine b_ext (fun i hi => ?_)
    by_cases q : i = 0
    · subst q
      rw [e0, h, b_1 0 (by decide)]
      rfl
    · rw [b_and, b_1 i hi, decide_eq_false q, Bool.and_false]
theorem bit_set (x : Int32) {m j : Nat} (hm : m < 32) (hj : j < 32) : bt (x ||| ((1 : Int32) <<< (nI m &&& 31))) j = (bt x j || decide (j = m)) := by
  rw [b_or, b_shl m hm 1 hj]
  by_cases q : j = m
  · subst q
    rw [Nat.sub_self, b_1 0 (by decide)]
    simp
  · rw [decide_eq_false q]
    by_cases q2 : m ≤ j
    · rw [b_1 (j - m) (by omega), decide_eq_false (show ¬ j - m = 0 by omega)]
      simp
    · rw [decide_eq_false q2]
      simp
