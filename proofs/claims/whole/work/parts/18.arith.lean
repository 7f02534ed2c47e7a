/-! SMALL METHODS WITHOUT STATE (walks by wip/gen18.py) -/
def bI (b : Bool) : Int32 := if b = true then 1 else 0
def a_divides (k : Int32) : Bool := decide (k = 3 ∨ k = 4)
def a_sh (y : Int32) : Bool := decide (y < 0 ∨ 31 < y)
def a_calc (k x y : Int32) : Int32 :=
  if k = 0 then x + y else if k = 1 then x - y else if k = 2 then x * y else if k = 3 then (if y = 0 then 0 else x / y) else if k = 4 then (if y = 0 then 0 else x - x / y * y)
  else if k = 5 then x &&& y else if k = 6 then x ||| y else if k = 7 then (x ^^^ y) ^^^ (-1) else if k = 8 then x ^^^ y else if k = 9 then (if a_sh y = true then 0 else x <<< (y &&& 31))
  else (if a_sh y = true then 0 else (x.toUInt32 >>> (y.toUInt32 &&& Int32.toUInt32 31)).toInt32)
def a_commutes (k : Int32) : Bool := decide (k = 0 ∨ k = 2 ∨ (¬ k < 5 ∧ ¬ 8 < k))
def a_alone (k y : Int32) : Bool := if k = 2 ∨ k = 3 then decide (y = 1) else if k = 4 then false else if k = 5 ∨ k = 7 then decide (y = -1) else decide (y = 0)
def a_holds (k x y : Int32) : Bool := if k = 0 then decide (x = y) else if k = 1 then decide (¬ x = y) else if k = 2 then decide (x < y) else if k = 3 then decide (¬ y < x) else if k = 4 then decide (y < x) else decide (¬ x < y)
def a_compare (k x y : Int32) : Int32 := if a_holds k x y = true then -1 else 0
def a_opp (k : Int32) : Int32 := if k < 2 then 1 - k else 7 - k
def a_mir (k : Int32) : Int32 := if k < 2 then k else if k < 4 then k + 2 else k - 2
section XA
variable {z : Nat} {NK : List Nat} {g : mx_G} {S : xS} {P : Option Value → xS → Prop}
theorem xw.div {mi pc n : Nat} {lv : mx_L} {st : List Value} {f : Int32 → Int32 → Int32} {x y : Int32} (hM : mx_M mi pc = some (.inl (sx_div f n))) (hy : ¬ y = 0) (go : xw z NK g mi n lv (.int (f x y) :: st) S P) : xw z NK g mi pc lv (.int y :: .int x :: st) S P := by
  intro c h hI
  obtain ⟨v, h', S', a1, a2, a3⟩ := go c h hI
  exact ⟨v, h', S', mx_to.step hM (by simp only [sx_div, if_neg hy]) a1, a2, a3⟩
set_option maxHeartbeats 1000000 in
/-- RowCode$Arithmetic.divides(I)Z -/
theorem c_divides {k : Int32} (hP : P (some (.int (bI (a_divides k)))) S) : xw z NK g 9 0 [(0, .int k)] [] S P := by
  refine xw.steps 2 (fun _ => rfl) ?_
  refine xw.icmp rfl (fun c1 => ?_) (fun c1 => ?_)
  · have c1 := of_decide_eq_true c1
    refine xw.steps 2 (fun _ => rfl) ?_
    refine xw.ret rfl (fun _ => rfl) ?_
    show P (some (.int 1)) S
    simpa [bI, a_divides, c1] using hP
  · have c1 := of_decide_eq_false c1
    refine xw.steps 2 (fun _ => rfl) ?_
    refine xw.icmp rfl (fun c2 => ?_) (fun c2 => ?_)
    · have c2 := of_decide_eq_true c2
      refine xw.steps 1 (fun _ => rfl) ?_
      refine xw.ret rfl (fun _ => rfl) ?_
      show P (some (.int 0)) S
      simpa [bI, a_divides, c1, c2] using hP
    · have c2 := Decidable.not_not.mp (of_decide_eq_false c2)
      refine xw.steps 2 (fun _ => rfl) ?_
      refine xw.ret rfl (fun _ => rfl) ?_
      show P (some (.int 1)) S
      simpa [bI, a_divides, c1, c2] using hP
set_option maxHeartbeats 1000000 in
/-- RowCode$Arithmetic.calculate(III)I -/
theorem c_calculate {k x y : Int32} (hP : P (some (.int (a_calc k x y))) S) : xw z NK g 10 0 [(0, .int k), (1, .int x), (2, .int y)] [] S P := by
  refine xw.steps 1 (fun _ => rfl) ?_
  refine xw.table rfl (fun c1 => ?_) ⟨fun c1 => ?_, fun c1 => ?_, fun c1 => ?_, fun c1 => ?_, fun c1 => ?_, fun c1 => ?_, fun c1 => ?_, fun c1 => ?_, fun c1 => ?_, fun c1 => ?_, trivial⟩
  · skip
    have c1_0 : ¬ k = 0 := fun e => by rw [e] at c1; revert c1; decide
    have c1_1 : ¬ k = 1 := fun e => by rw [e] at c1; revert c1; decide
    have c1_2 : ¬ k = 2 := fun e => by rw [e] at c1; revert c1; decide
    have c1_3 : ¬ k = 3 := fun e => by rw [e] at c1; revert c1; decide
    have c1_4 : ¬ k = 4 := fun e => by rw [e] at c1; revert c1; decide
    have c1_5 : ¬ k = 5 := fun e => by rw [e] at c1; revert c1; decide
    have c1_6 : ¬ k = 6 := fun e => by rw [e] at c1; revert c1; decide
    have c1_7 : ¬ k = 7 := fun e => by rw [e] at c1; revert c1; decide
    have c1_8 : ¬ k = 8 := fun e => by rw [e] at c1; revert c1; decide
    have c1_9 : ¬ k = 9 := fun e => by rw [e] at c1; revert c1; decide
    refine xw.steps 1 (fun _ => rfl) ?_
    refine xw.if_ rfl (fun c2 => ?_) (fun c2 => ?_)
    · have c2 := of_decide_eq_true c2
      refine xw.steps 2 (fun _ => rfl) ?_
      refine xw.ret rfl (fun _ => rfl) ?_
      show P (some (.int 0)) S
      simpa [a_calc, a_sh, c1_0, c1_1, c1_2, c1_3, c1_4, c1_5, c1_6, c1_7, c1_8, c1_9, c2] using hP
    · have c2 := of_decide_eq_false c2
      refine xw.steps 2 (fun _ => rfl) ?_
      refine xw.icmp rfl (fun c3 => ?_) (fun c3 => ?_)
      · have c3 := Int32.not_lt.mpr (of_decide_eq_true c3)
        refine xw.steps 3 (fun _ => rfl) ?_
        refine xw.ret rfl (fun _ => rfl) ?_
        show P (some (.int ((x.toUInt32 >>> (y.toUInt32 &&& Int32.toUInt32 31)).toInt32))) S
        simpa [a_calc, a_sh, c1_0, c1_1, c1_2, c1_3, c1_4, c1_5, c1_6, c1_7, c1_8, c1_9, c2, c3] using hP
      · have c3 := Int32.not_le.mp (of_decide_eq_false c3)
        refine xw.steps 2 (fun _ => rfl) ?_
        refine xw.ret rfl (fun _ => rfl) ?_
        show P (some (.int 0)) S
        simpa [a_calc, a_sh, c1_0, c1_1, c1_2, c1_3, c1_4, c1_5, c1_6, c1_7, c1_8, c1_9, c2, c3] using hP
  · have c1 : k = 0 := c1
    refine xw.steps 3 (fun _ => rfl) ?_
    refine xw.ret rfl (fun _ => rfl) ?_
    show P (some (.int (x + y))) S
    simpa [a_calc, a_sh, c1] using hP
  · have c1 : k = 1 := c1
    refine xw.steps 3 (fun _ => rfl) ?_
    refine xw.ret rfl (fun _ => rfl) ?_
    show P (some (.int (x - y))) S
    simpa [a_calc, a_sh, c1] using hP
  · have c1 : k = 2 := c1
    refine xw.steps 3 (fun _ => rfl) ?_
    refine xw.ret rfl (fun _ => rfl) ?_
    show P (some (.int (x * y))) S
    simpa [a_calc, a_sh, c1] using hP
  · have c1 : k = 3 := c1
    refine xw.steps 1 (fun _ => rfl) ?_
    refine xw.if_ rfl (fun c4 => ?_) (fun c4 => ?_)
    · have c4 := of_decide_eq_true c4
      refine xw.steps 2 (fun _ => rfl) ?_
      refine xw.div rfl (by assumption) ?_
      refine xw.ret rfl (fun _ => rfl) ?_
      show P (some (.int (x / y))) S
      simpa [a_calc, a_sh, c1, c4] using hP
    · have c4 := Decidable.not_not.mp (of_decide_eq_false c4)
      refine xw.steps 2 (fun _ => rfl) ?_
      refine xw.ret rfl (fun _ => rfl) ?_
      show P (some (.int 0)) S
      simpa [a_calc, a_sh, c1, c4] using hP
  · have c1 : k = 4 := c1
    refine xw.steps 1 (fun _ => rfl) ?_
    refine xw.if_ rfl (fun c5 => ?_) (fun c5 => ?_)
    · have c5 := of_decide_eq_true c5
      refine xw.steps 2 (fun _ => rfl) ?_
      refine xw.div rfl (by assumption) ?_
      refine xw.ret rfl (fun _ => rfl) ?_
      show P (some (.int (x - x / y * y))) S
      simpa [a_calc, a_sh, c1, c5] using hP
    · have c5 := Decidable.not_not.mp (of_decide_eq_false c5)
      refine xw.steps 2 (fun _ => rfl) ?_
      refine xw.ret rfl (fun _ => rfl) ?_
      show P (some (.int 0)) S
      simpa [a_calc, a_sh, c1, c5] using hP
  · have c1 : k = 5 := c1
    refine xw.steps 3 (fun _ => rfl) ?_
    refine xw.ret rfl (fun _ => rfl) ?_
    show P (some (.int (x &&& y))) S
    simpa [a_calc, a_sh, c1] using hP
  · have c1 : k = 6 := c1
    refine xw.steps 3 (fun _ => rfl) ?_
    refine xw.ret rfl (fun _ => rfl) ?_
    show P (some (.int (x ||| y))) S
    simpa [a_calc, a_sh, c1] using hP
  · have c1 : k = 7 := c1
    refine xw.steps 5 (fun _ => rfl) ?_
    refine xw.ret rfl (fun _ => rfl) ?_
    show P (some (.int ((x ^^^ y) ^^^ (-1)))) S
    simpa [a_calc, a_sh, c1] using hP
  · have c1 : k = 8 := c1
    refine xw.steps 3 (fun _ => rfl) ?_
    refine xw.ret rfl (fun _ => rfl) ?_
    show P (some (.int (x ^^^ y))) S
    simpa [a_calc, a_sh, c1] using hP
  · have c1 : k = 9 := c1
    refine xw.steps 1 (fun _ => rfl) ?_
    refine xw.if_ rfl (fun c6 => ?_) (fun c6 => ?_)
    · have c6 := of_decide_eq_true c6
      refine xw.steps 2 (fun _ => rfl) ?_
      refine xw.ret rfl (fun _ => rfl) ?_
      show P (some (.int 0)) S
      simpa [a_calc, a_sh, c1, c6] using hP
    · have c6 := of_decide_eq_false c6
      refine xw.steps 2 (fun _ => rfl) ?_
      refine xw.icmp rfl (fun c7 => ?_) (fun c7 => ?_)
      · have c7 := Int32.not_lt.mpr (of_decide_eq_true c7)
        refine xw.steps 3 (fun _ => rfl) ?_
        refine xw.ret rfl (fun _ => rfl) ?_
        show P (some (.int (x <<< (y &&& 31)))) S
        simpa [a_calc, a_sh, c1, c6, c7] using hP
      · have c7 := Int32.not_le.mp (of_decide_eq_false c7)
        refine xw.steps 2 (fun _ => rfl) ?_
        refine xw.ret rfl (fun _ => rfl) ?_
        show P (some (.int 0)) S
        simpa [a_calc, a_sh, c1, c6, c7] using hP
set_option maxHeartbeats 1000000 in
/-- RowCode$Arithmetic.commutes(I)Z -/
theorem c_commutes {k : Int32} (hP : P (some (.int (bI (a_commutes k)))) S) : xw z NK g 11 0 [(0, .int k)] [] S P := by
  refine xw.steps 1 (fun _ => rfl) ?_
  refine xw.if_ rfl (fun c1 => ?_) (fun c1 => ?_)
  · have c1 := of_decide_eq_true c1
    refine xw.steps 2 (fun _ => rfl) ?_
    refine xw.ret rfl (fun _ => rfl) ?_
    show P (some (.int 1)) S
    simpa [bI, a_commutes, c1] using hP
  · have c1 := of_decide_eq_false c1
    refine xw.steps 2 (fun _ => rfl) ?_
    refine xw.icmp rfl (fun c2 => ?_) (fun c2 => ?_)
    · have c2 := of_decide_eq_true c2
      refine xw.steps 2 (fun _ => rfl) ?_
      refine xw.ret rfl (fun _ => rfl) ?_
      show P (some (.int 1)) S
      simpa [bI, a_commutes, c1, c2] using hP
    · have c2 := of_decide_eq_false c2
      refine xw.steps 2 (fun _ => rfl) ?_
      refine xw.icmp rfl (fun c3 => ?_) (fun c3 => ?_)
      · have c3 := of_decide_eq_true c3
        refine xw.steps 1 (fun _ => rfl) ?_
        refine xw.ret rfl (fun _ => rfl) ?_
        show P (some (.int 0)) S
        simpa [bI, a_commutes, c1, c2, c3] using hP
      · have c3 := of_decide_eq_false c3
        refine xw.steps 2 (fun _ => rfl) ?_
        refine xw.icmp rfl (fun c4 => ?_) (fun c4 => ?_)
        · have c4 := of_decide_eq_true c4
          refine xw.steps 1 (fun _ => rfl) ?_
          refine xw.ret rfl (fun _ => rfl) ?_
          show P (some (.int 0)) S
          simpa [bI, a_commutes, c1, c2, c3, c4] using hP
        · have c4 := of_decide_eq_false c4
          refine xw.steps 2 (fun _ => rfl) ?_
          refine xw.ret rfl (fun _ => rfl) ?_
          show P (some (.int 1)) S
          simpa [bI, a_commutes, c1, c2, c3, c4] using hP
set_option maxHeartbeats 1000000 in
/-- RowCode$Arithmetic.leavesAlone(II)Z -/
theorem c_leavesAlone {k y : Int32} (hP : P (some (.int (bI (a_alone k y)))) S) : xw z NK g 12 0 [(0, .int k), (1, .int y)] [] S P := by
  refine xw.steps 1 (fun _ => rfl) ?_
  refine xw.table rfl (fun c1 => ?_) ⟨fun c1 => ?_, fun c1 => ?_, fun c1 => ?_, fun c1 => ?_, fun c1 => ?_, fun c1 => ?_, trivial⟩
  · skip
    have c1_0 : ¬ k = 2 := fun e => by rw [e] at c1; revert c1; decide
    have c1_1 : ¬ k = 3 := fun e => by rw [e] at c1; revert c1; decide
    have c1_2 : ¬ k = 4 := fun e => by rw [e] at c1; revert c1; decide
    have c1_3 : ¬ k = 5 := fun e => by rw [e] at c1; revert c1; decide
    have c1_4 : ¬ k = 6 := fun e => by rw [e] at c1; revert c1; decide
    have c1_5 : ¬ k = 7 := fun e => by rw [e] at c1; revert c1; decide
    refine xw.steps 1 (fun _ => rfl) ?_
    refine xw.if_ rfl (fun c2 => ?_) (fun c2 => ?_)
    · have c2 := of_decide_eq_true c2
      refine xw.steps 1 (fun _ => rfl) ?_
      refine xw.ret rfl (fun _ => rfl) ?_
      show P (some (.int 0)) S
      simpa [bI, a_alone, c1_0, c1_1, c1_2, c1_3, c1_4, c1_5, c2] using hP
    · have c2 := Decidable.not_not.mp (of_decide_eq_false c2)
      refine xw.steps 2 (fun _ => rfl) ?_
      refine xw.ret rfl (fun _ => rfl) ?_
      show P (some (.int 1)) S
      simpa [bI, a_alone, c1_0, c1_1, c1_2, c1_3, c1_4, c1_5, c2] using hP
  · have c1 : k = 2 := c1
    refine xw.steps 2 (fun _ => rfl) ?_
    refine xw.icmp rfl (fun c3 => ?_) (fun c3 => ?_)
    · have c3 := of_decide_eq_true c3
      refine xw.steps 1 (fun _ => rfl) ?_
      refine xw.ret rfl (fun _ => rfl) ?_
      show P (some (.int 0)) S
      simpa [bI, a_alone, c1, c3] using hP
    · have c3 := Decidable.not_not.mp (of_decide_eq_false c3)
      refine xw.steps 2 (fun _ => rfl) ?_
      refine xw.ret rfl (fun _ => rfl) ?_
      show P (some (.int 1)) S
      simpa [bI, a_alone, c1, c3] using hP
  · have c1 : k = 3 := c1
    refine xw.steps 2 (fun _ => rfl) ?_
    refine xw.icmp rfl (fun c4 => ?_) (fun c4 => ?_)
    · have c4 := of_decide_eq_true c4
      refine xw.steps 1 (fun _ => rfl) ?_
      refine xw.ret rfl (fun _ => rfl) ?_
      show P (some (.int 0)) S
      simpa [bI, a_alone, c1, c4] using hP
    · have c4 := Decidable.not_not.mp (of_decide_eq_false c4)
      refine xw.steps 2 (fun _ => rfl) ?_
      refine xw.ret rfl (fun _ => rfl) ?_
      show P (some (.int 1)) S
      simpa [bI, a_alone, c1, c4] using hP
  · have c1 : k = 4 := c1
    refine xw.steps 1 (fun _ => rfl) ?_
    refine xw.ret rfl (fun _ => rfl) ?_
    show P (some (.int 0)) S
    simpa [bI, a_alone, c1] using hP
  · have c1 : k = 5 := c1
    refine xw.steps 2 (fun _ => rfl) ?_
    refine xw.icmp rfl (fun c5 => ?_) (fun c5 => ?_)
    · have c5 := of_decide_eq_true c5
      refine xw.steps 1 (fun _ => rfl) ?_
      refine xw.ret rfl (fun _ => rfl) ?_
      show P (some (.int 0)) S
      simpa [bI, a_alone, c1, c5] using hP
    · have c5 := Decidable.not_not.mp (of_decide_eq_false c5)
      refine xw.steps 2 (fun _ => rfl) ?_
      refine xw.ret rfl (fun _ => rfl) ?_
      show P (some (.int 1)) S
      simpa [bI, a_alone, c1, c5] using hP
  · have c1 : k = 6 := c1
    refine xw.steps 1 (fun _ => rfl) ?_
    refine xw.if_ rfl (fun c6 => ?_) (fun c6 => ?_)
    · have c6 := of_decide_eq_true c6
      refine xw.steps 1 (fun _ => rfl) ?_
      refine xw.ret rfl (fun _ => rfl) ?_
      show P (some (.int 0)) S
      simpa [bI, a_alone, c1, c6] using hP
    · have c6 := Decidable.not_not.mp (of_decide_eq_false c6)
      refine xw.steps 2 (fun _ => rfl) ?_
      refine xw.ret rfl (fun _ => rfl) ?_
      show P (some (.int 1)) S
      simpa [bI, a_alone, c1, c6] using hP
  · have c1 : k = 7 := c1
    refine xw.steps 2 (fun _ => rfl) ?_
    refine xw.icmp rfl (fun c7 => ?_) (fun c7 => ?_)
    · have c7 := of_decide_eq_true c7
      refine xw.steps 1 (fun _ => rfl) ?_
      refine xw.ret rfl (fun _ => rfl) ?_
      show P (some (.int 0)) S
      simpa [bI, a_alone, c1, c7] using hP
    · have c7 := Decidable.not_not.mp (of_decide_eq_false c7)
      refine xw.steps 2 (fun _ => rfl) ?_
      refine xw.ret rfl (fun _ => rfl) ?_
      show P (some (.int 1)) S
      simpa [bI, a_alone, c1, c7] using hP
set_option maxHeartbeats 1000000 in
/-- RowCode$Arithmetic.holds(III)Z -/
theorem c_holds {k x y : Int32} (hP : P (some (.int (bI (a_holds k x y)))) S) : xw z NK g 13 0 [(0, .int k), (1, .int x), (2, .int y)] [] S P := by
  refine xw.steps 1 (fun _ => rfl) ?_
  refine xw.table rfl (fun c1 => ?_) ⟨fun c1 => ?_, fun c1 => ?_, fun c1 => ?_, fun c1 => ?_, fun c1 => ?_, trivial⟩
  · skip
    have c1_0 : ¬ k = 0 := fun e => by rw [e] at c1; revert c1; decide
    have c1_1 : ¬ k = 1 := fun e => by rw [e] at c1; revert c1; decide
    have c1_2 : ¬ k = 2 := fun e => by rw [e] at c1; revert c1; decide
    have c1_3 : ¬ k = 3 := fun e => by rw [e] at c1; revert c1; decide
    have c1_4 : ¬ k = 4 := fun e => by rw [e] at c1; revert c1; decide
    refine xw.steps 2 (fun _ => rfl) ?_
    refine xw.icmp rfl (fun c2 => ?_) (fun c2 => ?_)
    · have c2 := of_decide_eq_true c2
      refine xw.steps 1 (fun _ => rfl) ?_
      refine xw.ret rfl (fun _ => rfl) ?_
      show P (some (.int 0)) S
      simpa [bI, a_holds, c1_0, c1_1, c1_2, c1_3, c1_4, c2] using hP
    · have c2 := of_decide_eq_false c2
      refine xw.steps 2 (fun _ => rfl) ?_
      refine xw.ret rfl (fun _ => rfl) ?_
      show P (some (.int 1)) S
      simpa [bI, a_holds, c1_0, c1_1, c1_2, c1_3, c1_4, c2] using hP
  · have c1 : k = 0 := c1
    refine xw.steps 2 (fun _ => rfl) ?_
    refine xw.icmp rfl (fun c3 => ?_) (fun c3 => ?_)
    · have c3 := of_decide_eq_true c3
      refine xw.steps 1 (fun _ => rfl) ?_
      refine xw.ret rfl (fun _ => rfl) ?_
      show P (some (.int 0)) S
      simpa [bI, a_holds, c1, c3] using hP
    · have c3 := Decidable.not_not.mp (of_decide_eq_false c3)
      refine xw.steps 2 (fun _ => rfl) ?_
      refine xw.ret rfl (fun _ => rfl) ?_
      show P (some (.int 1)) S
      simpa [bI, a_holds, c1, c3] using hP
  · have c1 : k = 1 := c1
    refine xw.steps 2 (fun _ => rfl) ?_
    refine xw.icmp rfl (fun c4 => ?_) (fun c4 => ?_)
    · have c4 := of_decide_eq_true c4
      refine xw.steps 1 (fun _ => rfl) ?_
      refine xw.ret rfl (fun _ => rfl) ?_
      show P (some (.int 0)) S
      simpa [bI, a_holds, c1, c4] using hP
    · have c4 := of_decide_eq_false c4
      refine xw.steps 2 (fun _ => rfl) ?_
      refine xw.ret rfl (fun _ => rfl) ?_
      show P (some (.int 1)) S
      simpa [bI, a_holds, c1, c4] using hP
  · have c1 : k = 2 := c1
    refine xw.steps 2 (fun _ => rfl) ?_
    refine xw.icmp rfl (fun c5 => ?_) (fun c5 => ?_)
    · have c5 := Int32.not_lt.mpr (of_decide_eq_true c5)
      refine xw.steps 1 (fun _ => rfl) ?_
      refine xw.ret rfl (fun _ => rfl) ?_
      show P (some (.int 0)) S
      simpa [bI, a_holds, c1, c5] using hP
    · have c5 := Int32.not_le.mp (of_decide_eq_false c5)
      refine xw.steps 2 (fun _ => rfl) ?_
      refine xw.ret rfl (fun _ => rfl) ?_
      show P (some (.int 1)) S
      simpa [bI, a_holds, c1, c5] using hP
  · have c1 : k = 3 := c1
    refine xw.steps 2 (fun _ => rfl) ?_
    refine xw.icmp rfl (fun c6 => ?_) (fun c6 => ?_)
    · have c6 := of_decide_eq_true c6
      refine xw.steps 1 (fun _ => rfl) ?_
      refine xw.ret rfl (fun _ => rfl) ?_
      show P (some (.int 0)) S
      simpa [bI, a_holds, c1, c6] using hP
    · have c6 := of_decide_eq_false c6
      refine xw.steps 2 (fun _ => rfl) ?_
      refine xw.ret rfl (fun _ => rfl) ?_
      show P (some (.int 1)) S
      simpa [bI, a_holds, c1, c6] using hP
  · have c1 : k = 4 := c1
    refine xw.steps 2 (fun _ => rfl) ?_
    refine xw.icmp rfl (fun c7 => ?_) (fun c7 => ?_)
    · have c7 := Int32.not_lt.mpr (of_decide_eq_true c7)
      refine xw.steps 1 (fun _ => rfl) ?_
      refine xw.ret rfl (fun _ => rfl) ?_
      show P (some (.int 0)) S
      simpa [bI, a_holds, c1, c7] using hP
    · have c7 := Int32.not_le.mp (of_decide_eq_false c7)
      refine xw.steps 2 (fun _ => rfl) ?_
      refine xw.ret rfl (fun _ => rfl) ?_
      show P (some (.int 1)) S
      simpa [bI, a_holds, c1, c7] using hP
set_option maxHeartbeats 1000000 in
/-- RowCode$Arithmetic.compare(III)I -/
theorem c_compare {k x y : Int32} (hP : P (some (.int (a_compare k x y))) S) : xw z NK g 14 0 [(0, .int k), (1, .int x), (2, .int y)] [] S P := by
  refine xw.steps 3 (fun _ => rfl) ?_
  show xw z NK g 14 3 [(0, .int k), (1, .int x), (2, .int y)] [.int y, .int x, .int k] S P
  refine xw.callS rfl rfl rfl rfl rfl (c_holds ?_)
  show xw z NK g 14 6 [(0, .int k), (1, .int x), (2, .int y)] [.int (bI (a_holds k x y))] S P
  refine xw.if_ rfl (fun c1 => ?_) (fun c1 => ?_)
  · have c1 := of_decide_eq_true c1
    refine xw.steps 1 (fun _ => rfl) ?_
    refine xw.ret rfl (fun _ => rfl) ?_
    show P (some (.int 0)) S
    cases hh : a_holds k x y <;> simp [bI, a_compare, hh] at c1 hP ⊢ <;> exact hP
  · have c1 := of_decide_eq_false c1
    refine xw.steps 2 (fun _ => rfl) ?_
    refine xw.ret rfl (fun _ => rfl) ?_
    show P (some (.int (-1))) S
    cases hh : a_holds k x y <;> simp [bI, a_compare, hh] at c1 hP ⊢ <;> exact hP
set_option maxHeartbeats 1000000 in
/-- RowCode$Arithmetic.opposite(I)I -/
theorem c_opposite {k : Int32} (hP : P (some (.int (a_opp k))) S) : xw z NK g 15 0 [(0, .int k)] [] S P := by
  refine xw.steps 2 (fun _ => rfl) ?_
  refine xw.icmp rfl (fun c1 => ?_) (fun c1 => ?_)
  · have c1 := Int32.not_lt.mpr (of_decide_eq_true c1)
    refine xw.steps 3 (fun _ => rfl) ?_
    refine xw.ret rfl (fun _ => rfl) ?_
    show P (some (.int (7 - k))) S
    simpa [a_opp, c1] using hP
  · have c1 := Int32.not_le.mp (of_decide_eq_false c1)
    refine xw.steps 4 (fun _ => rfl) ?_
    refine xw.ret rfl (fun _ => rfl) ?_
    show P (some (.int (1 - k))) S
    simpa [a_opp, c1] using hP
set_option maxHeartbeats 1000000 in
/-- RowCode$Arithmetic.mirrored(I)I -/
theorem c_mirrored {k : Int32} (hP : P (some (.int (a_mir k))) S) : xw z NK g 16 0 [(0, .int k)] [] S P := by
  refine xw.steps 2 (fun _ => rfl) ?_
  refine xw.icmp rfl (fun c1 => ?_) (fun c1 => ?_)
  · have c1 := Int32.not_lt.mpr (of_decide_eq_true c1)
    refine xw.steps 2 (fun _ => rfl) ?_
    refine xw.icmp rfl (fun c2 => ?_) (fun c2 => ?_)
    · have c2 := Int32.not_lt.mpr (of_decide_eq_true c2)
      refine xw.steps 3 (fun _ => rfl) ?_
      refine xw.ret rfl (fun _ => rfl) ?_
      show P (some (.int (k - 2))) S
      simpa [a_mir, c1, c2] using hP
    · have c2 := Int32.not_le.mp (of_decide_eq_false c2)
      refine xw.steps 4 (fun _ => rfl) ?_
      refine xw.ret rfl (fun _ => rfl) ?_
      show P (some (.int (k + 2))) S
      simpa [a_mir, c1, c2] using hP
  · have c1 := Int32.not_le.mp (of_decide_eq_false c1)
    refine xw.steps 1 (fun _ => rfl) ?_
    refine xw.ret rfl (fun _ => rfl) ?_
    show P (some (.int k)) S
    simpa [a_mir, c1] using hP
end XA
