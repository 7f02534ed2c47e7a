/-! A WORD read back -/
theorem bn_hi {n : BitVec 32} (hn : n.toNat < 128) {i : Nat} (hi : 7 ≤ i) : n.getLsbD i = false := by
  rw [BitVec.getLsbD]
  have hn' : n.toNat < 2 ^ 7 := hn
  exact Nat.testBit_lt_two_pow (Nat.lt_of_lt_of_le hn' (Nat.pow_le_pow_right (by decide) hi))
theorem b128 : ∀ i, i < 32 → i ≠ 7 → (128#32).getLsbD i = false := by decide
theorem b127 : ∀ i, i < 32 → (127#32).getLsbD i = decide (i < 7) := by decide
theorem bv_128 (x n : BitVec 32) (hn : n.toNat < 128) : ((x <<< 8) ||| n) &&& 128#32 = 0#32 := by
  apply BitVec.eq_of_getLsbD_eq
  intro i hi
  rw [BitVec.getLsbD_and, BitVec.getLsbD_or, BitVec.getLsbD_shiftLeft, BitVec.getLsbD_zero]
  by_cases h : i = 7
  · subst h
    rw [bn_hi hn (Nat.le_refl _)]
    simp
  · rw [b128 i hi h, Bool.and_false]
theorem bv_127 (x n : BitVec 32) (hn : n.toNat < 128) : ((x <<< 8) ||| n) &&& 127#32 = n := by
  apply BitVec.eq_of_getLsbD_eq
  intro i hi
  rw [BitVec.getLsbD_and, BitVec.getLsbD_or, BitVec.getLsbD_shiftLeft, b127 i hi]
  by_cases h : i < 7
  · have h8 : i < 8 := by omega
    simp [h, h8]
  · rw [bn_hi hn (by omega)]
    simp [h]
theorem bv_shr (x n : BitVec 32) (hn : n.toNat < 128) (hx : ∀ i, 23 ≤ i → i < 32 → x.getLsbD i = x.getLsbD 23) : ((x <<< 8) ||| n).sshiftRight 8 = x := by
  apply BitVec.eq_of_getLsbD_eq
  intro i hi
  rw [BitVec.getLsbD_sshiftRight]
  by_cases h : 8 + i < 32
  · rw [if_pos h, BitVec.getLsbD_or, BitVec.getLsbD_shiftLeft, bn_hi hn (by omega)]
    have c1 : decide (8 + i < 32) = true := by simpa using h
    have c2 : decide (8 + i < 8) = false := by simp
    have c3 : decide (32 ≤ i) = false := by simp; omega
    rw [c1, c2, c3, show 8 + i - 8 = i by omega]
    simp
  · rw [if_neg h, BitVec.msb_eq_getLsbD_last, BitVec.getLsbD_or, BitVec.getLsbD_shiftLeft, bn_hi hn (by omega), hx i (by omega) hi]
    simp
    omega
theorem bx_sgn {x : BitVec 32} (h1 : -8388608 ≤ x.toInt) (h2 : x.toInt < 8388608) : ∀ i, 23 ≤ i → i < 32 → x.getLsbD i = x.getLsbD 23 := by
  have low : ∀ y : BitVec 32, y.toNat < 2 ^ 23 → ∀ i, 23 ≤ i → y.getLsbD i = false := by
    intro y hy i hi
    rw [BitVec.getLsbD]
    exact Nat.testBit_lt_two_pow (Nat.lt_of_lt_of_le hy (Nat.pow_le_pow_right (by omega) hi))
  have hlt := x.isLt
  rw [BitVec.toInt_eq_toNat_cond] at h1 h2
  intro i hi hi2
  by_cases c : 2 * x.toNat < 2 ^ 32
  · rw [if_pos c] at h1 h2
    have hn : x.toNat < 2 ^ 23 := by omega
    rw [low x hn i hi, low x hn 23 (by omega)]
  · rw [if_neg c] at h1 h2
    have hn : (~~~x).toNat < 2 ^ 23 := by
      rw [BitVec.toNat_not]
      omega
    have a1 := low _ hn i hi
    have a2 := low _ hn 23 (by omega)
    rw [BitVec.getLsbD_not] at a1 a2
    simp [hi2] at a1 a2
    rw [BitVec.getLsbD_eq_getElem hi2, BitVec.getLsbD_eq_getElem (by omega : 23 < 32), a1, a2]
theorem n29 {n : Int32} (h0 : ¬ n < 0) (h1 : n < 29) : ∃ j : Nat, j < 29 ∧ n = nI j := by
  obtain ⟨j, hj, rfl⟩ := nI_of h0
  exact ⟨j, (nI_ltI hj (by omega)).mp h1, rfl⟩
theorem long_n : ∀ j : Nat, j < 29 → ¬ ((128 ||| nI j) &&& 128 = 0) ∧ (128 ||| nI j) &&& 127 = nI j := by decide
theorem short_n {a n : Int32} (h0 : ¬ n < 0) (h1 : n < 29) : ((a <<< (8 &&& 31)) ||| n) &&& 128 = 0 ∧ ((a <<< (8 &&& 31)) ||| n) &&& 127 = n := by
  have hn : n.toBitVec.toNat < 128 := by
    obtain ⟨j, hj, rfl⟩ := n29 h0 h1
    revert j
    decide
  have e8 : ((8 : Int32) &&& 31) = 8 := by decide
  have e9 : (a <<< (8 : Int32)).toBitVec = a.toBitVec <<< 8 := by
    rw [Int32.toBitVec_shiftLeft]
    rfl
  constructor
  · apply Int32.toBitVec_inj.mp
    rw [e8, Int32.toBitVec_and, Int32.toBitVec_or, e9]
    exact bv_128 _ _ hn
  · apply Int32.toBitVec_inj.mp
    rw [e8, Int32.toBitVec_and, Int32.toBitVec_or, e9]
    exact bv_127 _ _ hn
theorem short_a {a n : Int32} (h0 : ¬ n < 0) (h1 : n < 29) (ha : ¬ a < -8388608 ∧ a < 8388608) : ((a <<< (8 &&& 31)) ||| n) >>> (8 &&& 31) = a := by
  have hn : n.toBitVec.toNat < 128 := by
    obtain ⟨j, hj, rfl⟩ := n29 h0 h1
    revert j
    decide
  have e8 : ((8 : Int32) &&& 31) = 8 := by decide
  have e9 : (a <<< (8 : Int32)).toBitVec = a.toBitVec <<< 8 := by
    rw [Int32.toBitVec_shiftLeft]
    rfl
  have i1 := Int32.lt_iff_toInt_lt.mp ha.2
  have i2 : ¬ a.toInt < -8388608 := fun c => ha.1 (Int32.lt_iff_toInt_lt.mpr (by simpa using c))
  have i3 : a.toInt < 8388608 := by simpa using i1
  apply Int32.toBitVec_inj.mp
  rw [e8, Int32.toBitVec_shiftRight, Int32.toBitVec_or, e9]
  exact bv_shr _ _ hn (bx_sgn (by rw [Int32.toInt_toBitVec]; omega) (by rw [Int32.toInt_toBitVec]; exact i3))
