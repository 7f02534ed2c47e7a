/-! A byte of a word: the two ways of shifting agree there -/
theorem b255 : ∀ i, i < 32 → (255#32).getLsbD i = decide (i < 8) := by decide
theorem bv_shr255 (x : BitVec 32) (s : Nat) (hs : s ≤ 24) : (x.sshiftRight s) &&& 255#32 = (x >>> s) &&& 255#32 := by
  apply BitVec.eq_of_getLsbD_eq
  intro i hi
  rw [BitVec.getLsbD_and, BitVec.getLsbD_and, BitVec.getLsbD_sshiftRight, BitVec.getLsbD_ushiftRight, b255 i hi]
  by_cases h : i < 8
  · rw [if_pos (by omega)]
    have : decide (32 ≤ i) = false := by simp; omega
    rw [this]
    simp
  · simp [h]
theorem and3 (y : Int32) : y &&& 3 = 0 ∨ y &&& 3 = 1 ∨ y &&& 3 = 2 ∨ y &&& 3 = 3 := by
  have h : (y &&& 3).toBitVec.toNat ≤ 3 := by
    rw [Int32.toBitVec_and, BitVec.toNat_and]
    exact Nat.and_le_right
  have key : ∀ n : Nat, n < 4 → (y &&& 3).toBitVec.toNat = n → (y &&& 3) = nI n := by
    intro n hn e
    apply Int32.toBitVec_inj.mp
    apply BitVec.eq_of_toNat_eq
    rw [e]
    have : ∀ n, n < 4 → n = (nI n).toBitVec.toNat := by decide
    exact this n hn
  have : (y &&& 3).toBitVec.toNat = 0 ∨ (y &&& 3).toBitVec.toNat = 1 ∨ (y &&& 3).toBitVec.toNat = 2 ∨ (y &&& 3).toBitVec.toNat = 3 := by omega
  rcases this with e | e | e | e
  · exact .inl (key 0 (by omega) e)
  · exact .inr (.inl (key 1 (by omega) e))
  · exact .inr (.inr (.inl (key 2 (by omega) e)))
  · exact .inr (.inr (.inr (key 3 (by omega) e)))
theorem fb_eq (w y : Int32) : (w >>> ((8 * (y &&& 3)) &&& 31)) &&& 255 = ((w.toUInt32 >>> ((8 * (y &&& 3)).toUInt32 &&& Int32.toUInt32 31)).toInt32) &&& 255 := by
  apply Int32.toBitVec_inj.mp
  rw [Int32.toBitVec_and, Int32.toBitVec_and, Int32.toBitVec_shiftRight]
  rcases and3 y with e | e | e | e <;> rw [e]
  · exact bv_shr255 w.toBitVec 0 (by omega)
  · exact bv_shr255 w.toBitVec 8 (by omega)
  · exact bv_shr255 w.toBitVec 16 (by omega)
  · exact bv_shr255 w.toBitVec 24 (by omega)
