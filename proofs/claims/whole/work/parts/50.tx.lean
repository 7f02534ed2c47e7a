/-! THE TRANSLATOR over instructions instead of words -/
abbrev TX : Type := List II × List Int32 × List Int32 × Int32 × Int32
def enc (i : II) : List Int32 := if ¬ i.2 < -8388608 ∧ i.2 < 8388608 then [(i.2 <<< (8 &&& 31)) ||| i.1] else [128 ||| i.1, i.2]
def encT (t : TX) : TT := (t.1.flatMap enc, t.2)
def tx_write (t : TX) (n a : Int32) : TX := (t.1 ++ [(n, a)], t.2)
def tx_row (t : TX) (d : Int32) : TX := (t.1, List.replicate d.toNatClampNeg 0, List.replicate d.toNatClampNeg 0, -1, -1)
def tx_lay (t : TX) (k d : Int32) : TX := (t.1, t.2.1 ++ [k], t.2.2.1 ++ [d], t.2.2.2.1, t.2.2.2.2)
def tx_drop (t : TX) (c : Int32) : TX := (t.1, p_c t.2.1 c, p_c t.2.2.1 c, if t.2.2.2.1 < nI (p_c t.2.1 c).length then t.2.2.2.1 else -1, if t.2.2.2.2 < nI (p_c t.2.1 c).length then t.2.2.2.2 else -1)
def tx_leave (t : TX) : TX := ((tx_lay (tx_drop t 2) 1 0).1, (tx_lay (tx_drop t 2) 1 0).2.1, (tx_lay (tx_drop t 2) 1 0).2.2.1, nI (tx_lay (tx_drop t 2) 1 0).2.1.length - 1, (tx_lay (tx_drop t 2) 1 0).2.2.2.2)
def tx_keepB (t : TX) : TX := if t.2.2.2.2 = -1 then t else ((tx_write t 5 t.2.2.2.2).1, nSet (tx_write t 5 t.2.2.2.2).2.1 t.2.2.2.2 0, (tx_write t 5 t.2.2.2.2).2.2)
def tx_load (t : TX) (p : Int32) : TX := if nAt t.2.1 p = 0 then tx_write t 3 p else tx_write t (if nAt t.2.1 p = 2 then 1 else 2) (nAt t.2.2.1 p)
def tx_toA (t : TX) (p : Int32) : TX :=
  if t.2.2.2.1 = p then t else if t.2.2.2.2 = p then ((tx_write t 6 0).1, (tx_write t 6 0).2.1, (tx_write t 6 0).2.2.1, p, (tx_write t 6 0).2.2.2.1)
  else ((tx_load (tx_keepB t) p).1, nSet (tx_load (tx_keepB t) p).2.1 p 1, (tx_load (tx_keepB t) p).2.2.1, p, (tx_load (tx_keepB t) p).2.2.2.1)
def tx_settle1 (t : TX) (p : Int32) : TX :=
  if nAt t.2.1 p = 0 then t else
  if t.2.2.2.2 = p then ((tx_write t 5 p).1, nSet (tx_write t 5 p).2.1 p 0, (tx_write t 5 p).2.2.1, (tx_write t 5 p).2.2.2.1, -1)
  else ((tx_write (tx_toA t p) 4 p).1, nSet (tx_write (tx_toA t p) 4 p).2.1 p 0, (tx_write (tx_toA t p) 4 p).2.2.1, -1, (tx_write (tx_toA t p) 4 p).2.2.2.2)
def tx_settle : Nat → Nat → TX → TX
  | 0, _, t => t
  | d + 1, i, t => tx_settle d (i + 1) (tx_settle1 t (nI i))
def tx_meet (t : TX) (m : Bool) : TX × Bool :=
  let y := nI t.2.1.length - 1
  let x := y - 1
  if t.2.2.2.1 = y ∧ t.2.2.2.2 = x then (t, false)
  else if ¬ t.2.2.2.1 = y ∧ ¬ t.2.2.2.2 = y then (tx_toA (tx_toA t x) y, false)
  else if t.2.2.2.1 = x then (if m = true then (t, true) else (tx_toA t y, false))
  else (if m = true then (tx_toA (tx_toA t y) x, true) else (tx_toA (tx_toA (tx_toA t y) x) y, false))
def tx_top (t : TX) (n : Int32) : TX := tx_write (tx_toA t (nI t.2.1.length - 1)) n 0
def tx_goIf (t : TX) (n l : Int32) : TX := tx_drop (tx_write (tx_toA (tx_settle (t.2.1.length - 1 - 0) 0 t) (nI t.2.1.length - 1)) n l) 1
def tx_case (t : TX) (k l : Int32) : TX :=
  let u := tx_write (tx_toA (tx_settle (t.2.1.length - 1 - 0) 0 t) (nI t.2.1.length - 1)) 1 k
  tx_write (u.1, u.2.1, u.2.2.1, -1, nI t.2.1.length - 1) 23 l
def tx_byte (t : TX) : TX := tx_drop (tx_write (tx_meet (tx_settle ((t.2.1.length - 3 + 1) - (t.2.1.length - 3)) (t.2.1.length - 3) t) false).1 16 (nI t.2.1.length - 3)) 3
def tx_keep (t : TX) (k : Int32) : TX :=
  let u := if (tx_meet t true).2 = true then tx_write (tx_meet t true).1 13 (a_mir k) else tx_write (tx_meet t true).1 14 k
  (u.1, u.2.1, u.2.2.1, nI u.2.1.length - 1, nI u.2.1.length - 1 - 1)
def tx_cgo (t : TX) (k c l : Int32) : TX :=
  let u := tx_meet (tx_settle (t.2.1.length - 2 - 0) 0 t) true
  let w := if u.2 = true then a_mir k else k
  tx_drop (tx_write u.1 (23 + (if c = 11 then a_opp w else w)) l) 2
def tx_sl (k : Int32) : Nat → Nat → TX → TX
  | 0, _, t => t
  | d + 1, i, t => tx_sl k d (i + 1) (if nAt t.2.1 (nI i) = 3 ∧ nAt t.2.2.1 (nI i) = k then tx_settle (i + 1 - i) i t else t)
def tx_store (t : TX) (k : Int32) : TX := tx_drop (tx_write (tx_toA (tx_sl k (t.2.1.length - 1) 0 t) (nI (t.2.1.length - 1))) 7 k) 1
theorem e_write (t : TX) (n a : Int32) : tr_write (encT t) n a = encT (tx_write t n a) := by
  unfold tr_write tx_write encT enc
  by_cases h : ¬ a < -8388608 ∧ a < 8388608
  · simp [h]
  · simp only [if_neg h, List.flatMap_append, List.flatMap_cons, List.flatMap_nil, List.append_nil, List.append_assoc]
    rfl
theorem e_row (t : TX) (d : Int32) : tr_row (encT t) d = encT (tx_row t d) := rfl
theorem e_lay (t : TX) (k d : Int32) : tr_lay (encT t) k d = encT (tx_lay t k d) := rfl
theorem e_drop (t : TX) (c : Int32) : tr_drop (encT t) c = encT (tx_drop t c) := rfl
theorem e_leave (t : TX) : tr_leave (encT t) = encT (tx_leave t) := rfl
theorem e_keepB (t : TX) : tr_keepB (encT t) = encT (tx_keepB t) := by
  have e : (encT t).2.2.2.2 = t.2.2.2.2 := rfl
  unfold tr_keepB tx_keepB
  rw [e]
  by_cases h : t.2.2.2.2 = -1
  · rw [if_pos h, if_pos h]
  · rw [if_neg h, if_neg h, e_write]; rfl
theorem e_load (t : TX) (p : Int32) : tr_load (encT t) p = encT (tx_load t p) := by
  have e1 : (encT t).2.1 = t.2.1 := rfl
  have e2 : (encT t).2.2.1 = t.2.2.1 := rfl
  unfold tr_load tx_load
  rw [e1, e2]
  by_cases h : nAt t.2.1 p = 0
  · rw [if_pos h, if_pos h, e_write]
  · rw [if_neg h, if_neg h, e_write]
theorem e_toA (t : TX) (p : Int32) : tr_toA (encT t) p = encT (tx_toA t p) := by
  have e1 : (encT t).2.2.2.1 = t.2.2.2.1 := rfl
  have e2 : (encT t).2.2.2.2 = t.2.2.2.2 := rfl
  unfold tr_toA tx_toA
  rw [e1, e2]
  by_cases h : t.2.2.2.1 = p
  · rw [if_pos h, if_pos h]
  rw [if_neg h, if_neg h]
  by_cases h : t.2.2.2.2 = p
  · rw [if_pos h, if_pos h, e_write]; rfl
  · rw [if_neg h, if_neg h, e_keepB, e_load]; rfl
theorem e_settle1 (t : TX) (p : Int32) : tr_settle1 (encT t) p = encT (tx_settle1 t p) := by
  have e1 : (encT t).2.1 = t.2.1 := rfl
  have e2 : (encT t).2.2.2.2 = t.2.2.2.2 := rfl
  unfold tr_settle1 tx_settle1
  rw [e1, e2]
  by_cases h : nAt t.2.1 p = 0
  · rw [if_pos h, if_pos h]
  rw [if_neg h, if_neg h]
  by_cases h : t.2.2.2.2 = p
  · rw [if_pos h, if_pos h, e_write]; rfl
  · rw [if_neg h, if_neg h, e_toA, e_write]; rfl
theorem e_settle (d : Nat) : ∀ (i : Nat) (t : TX), tr_settle d i (encT t) = encT (tx_settle d i t) := by
  induction d with
  | zero => intro i t; rfl
  | succ d ih => intro i t; rw [tr_settle, e_settle1, ih]; rfl
theorem e_meet (t : TX) (m : Bool) : tr_meet (encT t) m = (encT (tx_meet t m).1, (tx_meet t m).2) := by
  have e1 : (encT t).2.1 = t.2.1 := rfl
  have e2 : (encT t).2.2.2.1 = t.2.2.2.1 := rfl
  have e3 : (encT t).2.2.2.2 = t.2.2.2.2 := rfl
  unfold tr_meet tx_meet
  simp only [e1, e2, e3]
  by_cases h : t.2.2.2.1 = nI t.2.1.length - 1 ∧ t.2.2.2.2 = nI t.2.1.length - 1 - 1
  · simp only [if_pos h]
  simp only [if_neg h]
  by_cases h : ¬ t.2.2.2.1 = nI t.2.1.length - 1 ∧ ¬ t.2.2.2.2 = nI t.2.1.length - 1
  · simp only [if_pos h, e_toA]
  simp only [if_neg h]
  by_cases h : t.2.2.2.1 = nI t.2.1.length - 1 - 1
  · simp only [if_pos h]
    cases m
    · simp only [Bool.false_eq_true, if_false, e_toA]
    · simp only [if_true]
  · simp only [if_neg h]
    cases m
    · simp only [Bool.false_eq_true, if_false, e_toA]
    · simp only [if_true, e_toA]
theorem e_top (t : TX) (n : Int32) : tr_top (encT t) n = encT (tx_top t n) := by
  unfold tr_top tx_top
  rw [e_toA, e_write]; rfl
theorem e_goIf (t : TX) (n l : Int32) : tr_goIf (encT t) n l = encT (tx_goIf t n l) := by
  unfold tr_goIf tx_goIf
  rw [e_settle, e_toA, e_write, e_drop]; rfl
theorem e_case (t : TX) (k l : Int32) : tr_case (encT t) k l = encT (tx_case t k l) := by
  have e1 : (encT t).2.1 = t.2.1 := rfl
  unfold tr_case tx_case
  simp only [e1]
  rw [e_settle, e_toA, e_write]
  generalize tx_write (tx_toA (tx_settle (t.2.1.length - 1 - 0) 0 t) (nI t.2.1.length - 1)) 1 k = u
  exact e_write (u.1, u.2.1, u.2.2.1, -1, nI t.2.1.length - 1) 23 l
theorem e_byte (t : TX) : tr_byte (encT t) = encT (tx_byte t) := by
  unfold tr_byte tx_byte
  rw [e_settle, e_meet, e_write, e_drop]; rfl
theorem e_keep (t : TX) (k : Int32) : tr_keep (encT t) k = encT (tx_keep t k) := by
  unfold tr_keep tx_keep
  rw [e_meet]
  simp only
  by_cases h : (tx_meet t true).2 = true
  · simp only [if_pos h, e_write]; rfl
  · simp only [if_neg h, e_write]; rfl
theorem e_cgo (t : TX) (k c l : Int32) : tr_cgo (encT t) k c l = encT (tx_cgo t k c l) := by
  have e1 : (encT t).2.1 = t.2.1 := rfl
  unfold tr_cgo tx_cgo
  simp only [e1, e_settle, e_meet, e_write, e_drop]
theorem e_sl (k : Int32) (d : Nat) : ∀ (i : Nat) (t : TX), tr_sl k d i (encT t) = encT (tx_sl k d i t) := by
  induction d with
  | zero => intro i t; rfl
  | succ d ih =>
    intro i t
    have e1 : (encT t).2.1 = t.2.1 := rfl
    have e2 : (encT t).2.2.1 = t.2.2.1 := rfl
    rw [tr_sl, tx_sl, e1, e2]
    by_cases h : nAt t.2.1 (nI i) = 3 ∧ nAt t.2.2.1 (nI i) = k
    · rw [if_pos h, if_pos h, e_settle, ih]
    · rw [if_neg h, if_neg h, ih]
theorem e_store (t : TX) (k : Int32) : tr_store (encT t) k = encT (tx_store t k) := by
  unfold tr_store tx_store
  rw [e_sl, e_toA, e_write, e_drop]; rfl
def tx_one (dl : Int32 → Int32) (t : TX) (i : II) : TX :=
  if i.1 = 0 then tx_lay t 2 i.2 else if i.1 = 1 then tx_lay t 3 i.2 else if i.1 = 2 then tx_store t i.2 else if i.1 = 3 then tx_top t 8
  else if i.1 = 4 then tx_drop (tx_write (tx_meet t false).1 9 0) 2 else if i.1 = 5 then tx_top t 10 else if i.1 = 6 then tx_top t 11
  else if i.1 = 7 then tx_leave (tx_write (tx_meet t (a_commutes i.2)).1 12 i.2)
  else if i.1 = 8 then tx_leave (tx_write (tx_meet t true).1 13 (if (tx_meet t true).2 = true then a_mir i.2 else i.2))
  else if i.1 = 9 then tx_keep t i.2 else if i.1 = 10 then tx_row (tx_write (tx_settle (t.2.1.length - 0) 0 t) 20 i.2) 0
  else if i.1 = 11 then tx_goIf t 21 i.2 else if i.1 = 12 then tx_goIf t 22 i.2
  else if i.1 = 13 then tx_row (tx_write (tx_settle (t.2.1.length - 0) 0 t) 0 i.2) (dl i.2)
  else if i.1 = 14 then tx_drop t 1 else if i.1 = 15 then tx_write t 17 0 else if i.1 = 16 then tx_row (tx_write (tx_toA t (nI t.2.1.length - 1)) 18 0) 0
  else if i.1 = 17 then tx_row (tx_write t 19 0) 0 else if i.1 = 19 then tx_leave (tx_write (tx_meet t false).1 15 0) else if i.1 = 20 then tx_byte t else t
theorem e_one (dl : Int32 → Int32) (t : TX) (i : II) : tr_one dl (encT t) i = encT (tx_one dl t i) := by
  have e1 : (encT t).2.1 = t.2.1 := rfl
  unfold tr_one tx_one
  simp only [e_lay, e_store, e_top, e_meet, e_write, e_drop, e_leave, e_keep, e_settle, e_row, e_goIf, e_toA, e_byte, e1, apply_ite encT]
