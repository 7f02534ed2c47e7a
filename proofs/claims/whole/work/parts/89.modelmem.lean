/-! THE REFERENCE: made, wordOf, locals and words (walks by wip/gen89.py) -/
theorem hasW_iff {i : Int32} : m_hasW i.toInt64 = decide (¬ i < 0 ∧ ¬ 63 < i) := by
  unfold m_hasW
  refine decide_eq_decide.mpr ?_
  rw [lg_cmp_lt, lg_cmp_lt, Int64.lt_iff_toInt_lt, Int64.lt_iff_toInt_lt, Int32.toInt_toInt64, Int32.lt_iff_toInt_lt, Int32.lt_iff_toInt_lt]
  simp
  omega
theorem hasW_long {a : Int64} : m_hasW a = decide (¬ lg_cmp a 0 < 0 ∧ ¬ 0 < lg_cmp a 63) := by
  unfold m_hasW
  refine decide_eq_decide.mpr ?_
  rw [lg_cmp_lt, lg_cmp_lt, lg_cmp_gt, Int64.lt_iff_toInt_lt, Int64.lt_iff_toInt_lt, Int64.lt_iff_toInt_lt]
  simp
  omega
theorem hasL_iff {i : Int32} : m_hasL i = decide (¬ i < 0 ∧ ¬ 15 < i) := by
  unfold m_hasL
  refine decide_eq_decide.mpr ?_
  rw [Int32.lt_iff_toInt_lt, Int32.lt_iff_toInt_lt, Int32.lt_iff_toInt_lt]
  simp
  omega
theorem in_bound {i : Int32} {N : Nat} {m : Int32} (hm : m = nI N) (hN : N < 2 ^ 30) (h : decide (¬ i < 0 ∧ ¬ m < i) = true) : ¬ (i < 0 ∨ N + 1 ≤ i.toNatClampNeg) := by
  have h := of_decide_eq_true h
  obtain ⟨x, hx, rfl⟩ := nI_of h.1
  rw [nI_clamp hx]
  rintro (w | w)
  · exact h.1 w
  · exact h.2 (by rw [hm]; exact nI_lt (by omega) hx)
theorem div_m1 (x : Int32) : x / (-1) = -x := by
  apply Int32.toInt_inj.mp
  rw [Int32.toInt_div, show (-1 : Int32).toInt = -1 from by decide, Int.tdiv_neg, Int.tdiv_one, Int32.toInt_neg]
theorem rem_m1 (x : Int32) : x - -x * -1 = 0 := by
  rw [show (-1 : Int32) = -(1 : Int32) from rfl, Int32.mul_neg, Int32.mul_one, Int32.neg_neg, Int32.sub_self]
section MO4
variable {Bk : xS} {z : Nat} {NK : List Nat} {g : mx_G} {S : xS} {P : Option Value → xS → Prop} {th sz va fu hg : Int32} {nu ag lo wo he go ro : Nat → Int32} {c : List II}
set_option maxHeartbeats 1000000 in
/-- RowCodeModel.wordOf(II)I -/
theorem c_wordOf {x y : Int32} (hP : P (some (.int (if m_hasW (m_ba y x) = true then (m_ba y x).toInt32 else -1))) S) : xw z NK g 135 0 [(0, .int x), (1, .int y)] [] S P := by
  refine xw.steps 11 (fun _ => rfl) ?_
  refine xw.if_ rfl (fun c1 => ?_) (fun c1 => ?_)
  · have c1 := of_decide_eq_true c1
    refine xw.steps 2 (fun _ => rfl) ?_
    refine xw.ret rfl (fun _ => rfl) ?_
    show P (some (.int (-1))) S
    have e9 : m_hasW (m_ba y x) = false := by rw [hasW_long]; exact decide_eq_false (fun w => w.1 c1)
    rw [e9] at hP
    exact hP
  · have c1 := of_decide_eq_false c1
    refine xw.steps 3 (fun _ => rfl) ?_
    refine xw.if_ rfl (fun c2 => ?_) (fun c2 => ?_)
    · have c2 := Int32.not_lt.mpr (of_decide_eq_true c2)
      refine xw.steps 2 (fun _ => rfl) ?_
      refine xw.ret rfl (fun _ => rfl) ?_
      show P (some (.int (x.toInt64 + (y >>> (2 &&& 31)).toInt64).toInt32)) S
      have e9 : m_hasW (m_ba y x) = true := by rw [hasW_long]; exact decide_eq_true ⟨c1, c2⟩
      rw [e9] at hP
      exact hP
    · have c2 := Int32.not_le.mp (of_decide_eq_false c2)
      refine xw.steps 2 (fun _ => rfl) ?_
      refine xw.ret rfl (fun _ => rfl) ?_
      show P (some (.int (-1))) S
      have e9 : m_hasW (m_ba y x) = false := by rw [hasW_long]; exact decide_eq_false (fun w => w.2 c2)
      rw [e9] at hP
      exact hP
set_option maxHeartbeats 1000000 in
/-- RowCodeModel.made(III)I -/
theorem c_made {k x y : Int32} (hz : ¬ (y = 0 ∧ a_divides k = true)) (hP : P (some (.int (a_calc k x y))) S) : xw z NK g 133 0 [(0, .int k), (1, .int x), (2, .int y)] [] S P := by
  refine xw.steps 1 (fun _ => rfl) ?_
  refine xw.if_ rfl (fun c1 => ?_) (fun c1 => ?_)
  · have c1 := of_decide_eq_true c1
    show xw z NK g 133 10 [(0, .int k), (1, .int x), (2, .int y)] [] S P
    refine xw.steps 4 (fun _ => rfl) ?_
    refine xw.table rfl (fun c2 => ?_) ⟨fun c2 => ?_, fun c2 => ?_, fun c2 => ?_, fun c2 => ?_, fun c2 => ?_, fun c2 => ?_, fun c2 => ?_, fun c2 => ?_, fun c2 => ?_, fun c2 => ?_, trivial⟩
    · skip
      have c2_0 : ¬ k = 0 := fun e => by rw [e] at c2; revert c2; decide
      have c2_1 : ¬ k = 1 := fun e => by rw [e] at c2; revert c2; decide
      have c2_2 : ¬ k = 2 := fun e => by rw [e] at c2; revert c2; decide
      have c2_3 : ¬ k = 3 := fun e => by rw [e] at c2; revert c2; decide
      have c2_4 : ¬ k = 4 := fun e => by rw [e] at c2; revert c2; decide
      have c2_5 : ¬ k = 5 := fun e => by rw [e] at c2; revert c2; decide
      have c2_6 : ¬ k = 6 := fun e => by rw [e] at c2; revert c2; decide
      have c2_7 : ¬ k = 7 := fun e => by rw [e] at c2; revert c2; decide
      have c2_8 : ¬ k = 8 := fun e => by rw [e] at c2; revert c2; decide
      have c2_9 : ¬ k = 9 := fun e => by rw [e] at c2; revert c2; decide
      refine xw.steps 1 (fun _ => rfl) ?_
      refine xw.steps 1 (pc' := 145) (fun _ => rfl) ?_
      refine xw.steps 2 (fun _ => rfl) ?_
      refine xw.ret rfl (fun _ => rfl) ?_
      show P (some (.int 0)) S
      have e9 : a_calc k x y = 0 := by clear hP; unfold a_calc; first | (simp_all [a_divides, div_m1, rem_m1]; done) | (simp_all [a_sh, a_divides, div_m1, rem_m1]; done) | (simp_all [a_sh, a_divides, div_m1, Int32.not_lt]; done)
      rw [e9] at hP
      exact hP
    · have c2 : k = 0 := c2
      refine xw.steps 3 (fun _ => rfl) ?_
      refine xw.ret rfl (fun _ => rfl) ?_
      show P (some (.int (x + y))) S
      have e9 : a_calc k x y = (x + y) := by clear hP; unfold a_calc; first | (simp_all [a_divides, div_m1, rem_m1]; done) | (simp_all [a_sh, a_divides, div_m1, rem_m1]; done) | (simp_all [a_sh, a_divides, div_m1, Int32.not_lt]; done)
      rw [e9] at hP
      exact hP
    · have c2 : k = 1 := c2
      refine xw.steps 3 (fun _ => rfl) ?_
      refine xw.ret rfl (fun _ => rfl) ?_
      show P (some (.int (x - y))) S
      have e9 : a_calc k x y = (x - y) := by clear hP; unfold a_calc; first | (simp_all [a_divides, div_m1, rem_m1]; done) | (simp_all [a_sh, a_divides, div_m1, rem_m1]; done) | (simp_all [a_sh, a_divides, div_m1, Int32.not_lt]; done)
      rw [e9] at hP
      exact hP
    · have c2 : k = 2 := c2
      refine xw.steps 3 (fun _ => rfl) ?_
      refine xw.ret rfl (fun _ => rfl) ?_
      show P (some (.int (x * y))) S
      have e9 : a_calc k x y = (x * y) := by clear hP; unfold a_calc; first | (simp_all [a_divides, div_m1, rem_m1]; done) | (simp_all [a_sh, a_divides, div_m1, rem_m1]; done) | (simp_all [a_sh, a_divides, div_m1, Int32.not_lt]; done)
      rw [e9] at hP
      exact hP
    · have c2 : k = 3 := c2
      refine xw.steps 2 (fun _ => rfl) ?_
      refine xw.icmp rfl (fun c3 => ?_) (fun c3 => ?_)
      · have c3 := of_decide_eq_true c3
        refine xw.steps 2 (fun _ => rfl) ?_
        refine xw.div rfl (fun e => hz ⟨e, by simp_all [a_divides]⟩) ?_
        refine xw.ret rfl (fun _ => rfl) ?_
        show P (some (.int (x / y))) S
        have e9 : a_calc k x y = (x / y) := by clear hP; unfold a_calc; first | (simp_all [a_divides, div_m1, rem_m1]; done) | (simp_all [a_sh, a_divides, div_m1, rem_m1]; done) | (simp_all [a_sh, a_divides, div_m1, Int32.not_lt]; done)
        rw [e9] at hP
        exact hP
      · have c3 := Decidable.not_not.mp (of_decide_eq_false c3)
        refine xw.steps 3 (fun _ => rfl) ?_
        refine xw.ret rfl (fun _ => rfl) ?_
        show P (some (.int (-x))) S
        have e9 : a_calc k x y = (-x) := by clear hP; unfold a_calc; first | (simp_all [a_divides, div_m1, rem_m1]; done) | (simp_all [a_sh, a_divides, div_m1, rem_m1]; done) | (simp_all [a_sh, a_divides, div_m1, Int32.not_lt]; done)
        rw [e9] at hP
        exact hP
    · have c2 : k = 4 := c2
      refine xw.steps 2 (fun _ => rfl) ?_
      refine xw.icmp rfl (fun c4 => ?_) (fun c4 => ?_)
      · have c4 := of_decide_eq_true c4
        refine xw.steps 2 (fun _ => rfl) ?_
        refine xw.div rfl (fun e => hz ⟨e, by simp_all [a_divides]⟩) ?_
        refine xw.ret rfl (fun _ => rfl) ?_
        show P (some (.int (x - x / y * y))) S
        have e9 : a_calc k x y = (x - x / y * y) := by clear hP; unfold a_calc; first | (simp_all [a_divides, div_m1, rem_m1]; done) | (simp_all [a_sh, a_divides, div_m1, rem_m1]; done) | (simp_all [a_sh, a_divides, div_m1, Int32.not_lt]; done)
        rw [e9] at hP
        exact hP
      · have c4 := Decidable.not_not.mp (of_decide_eq_false c4)
        refine xw.steps 2 (fun _ => rfl) ?_
        refine xw.ret rfl (fun _ => rfl) ?_
        show P (some (.int 0)) S
        have e9 : a_calc k x y = 0 := by clear hP; unfold a_calc; first | (simp_all [a_divides, div_m1, rem_m1]; done) | (simp_all [a_sh, a_divides, div_m1, rem_m1]; done) | (simp_all [a_sh, a_divides, div_m1, Int32.not_lt]; done)
        rw [e9] at hP
        exact hP
    · have c2 : k = 5 := c2
      refine xw.steps 3 (fun _ => rfl) ?_
      refine xw.ret rfl (fun _ => rfl) ?_
      show P (some (.int (x &&& y))) S
      have e9 : a_calc k x y = (x &&& y) := by clear hP; unfold a_calc; first | (simp_all [a_divides, div_m1, rem_m1]; done) | (simp_all [a_sh, a_divides, div_m1, rem_m1]; done) | (simp_all [a_sh, a_divides, div_m1, Int32.not_lt]; done)
      rw [e9] at hP
      exact hP
    · have c2 : k = 6 := c2
      refine xw.steps 3 (fun _ => rfl) ?_
      refine xw.ret rfl (fun _ => rfl) ?_
      show P (some (.int (x ||| y))) S
      have e9 : a_calc k x y = (x ||| y) := by clear hP; unfold a_calc; first | (simp_all [a_divides, div_m1, rem_m1]; done) | (simp_all [a_sh, a_divides, div_m1, rem_m1]; done) | (simp_all [a_sh, a_divides, div_m1, Int32.not_lt]; done)
      rw [e9] at hP
      exact hP
    · have c2 : k = 7 := c2
      refine xw.steps 5 (fun _ => rfl) ?_
      refine xw.ret rfl (fun _ => rfl) ?_
      show P (some (.int ((x ^^^ y) ^^^ (-1)))) S
      have e9 : a_calc k x y = ((x ^^^ y) ^^^ (-1)) := by clear hP; unfold a_calc; first | (simp_all [a_divides, div_m1, rem_m1]; done) | (simp_all [a_sh, a_divides, div_m1, rem_m1]; done) | (simp_all [a_sh, a_divides, div_m1, Int32.not_lt]; done)
      rw [e9] at hP
      exact hP
    · have c2 : k = 8 := c2
      refine xw.steps 3 (fun _ => rfl) ?_
      refine xw.ret rfl (fun _ => rfl) ?_
      show P (some (.int (x ^^^ y))) S
      have e9 : a_calc k x y = (x ^^^ y) := by clear hP; unfold a_calc; first | (simp_all [a_divides, div_m1, rem_m1]; done) | (simp_all [a_sh, a_divides, div_m1, rem_m1]; done) | (simp_all [a_sh, a_divides, div_m1, Int32.not_lt]; done)
      rw [e9] at hP
      exact hP
    · have c2 : k = 9 := c2
      refine xw.steps 1 (fun _ => rfl) ?_
      refine xw.steps 1 (pc' := 133) (fun _ => rfl) ?_
      refine xw.steps 2 (fun _ => rfl) ?_
      refine xw.ret rfl (fun _ => rfl) ?_
      show P (some (.int 0)) S
      have e9 : a_calc k x y = 0 := by clear hP; unfold a_calc; first | (simp_all [a_divides, div_m1, rem_m1]; done) | (simp_all [a_sh, a_divides, div_m1, rem_m1]; done) | (simp_all [a_sh, a_divides, div_m1, Int32.not_lt]; done)
      rw [e9] at hP
      exact hP
  · have c1 := of_decide_eq_false c1
    refine xw.steps 2 (fun _ => rfl) ?_
    refine xw.icmp rfl (fun c5 => ?_) (fun c5 => ?_)
    · have c5 := Int32.not_lt.mpr (of_decide_eq_true c5)
      show xw z NK g 133 14 [(0, .int k), (1, .int x), (2, .int y)] [] S P
      refine xw.steps 3 (fun _ => rfl) ?_
      refine xw.table rfl (fun c6 => ?_) ⟨fun c6 => ?_, fun c6 => ?_, fun c6 => ?_, fun c6 => ?_, fun c6 => ?_, fun c6 => ?_, fun c6 => ?_, fun c6 => ?_, fun c6 => ?_, fun c6 => ?_, trivial⟩
      · skip
        have c6_0 : ¬ k = 0 := fun e => by rw [e] at c6; revert c6; decide
        have c6_1 : ¬ k = 1 := fun e => by rw [e] at c6; revert c6; decide
        have c6_2 : ¬ k = 2 := fun e => by rw [e] at c6; revert c6; decide
        have c6_3 : ¬ k = 3 := fun e => by rw [e] at c6; revert c6; decide
        have c6_4 : ¬ k = 4 := fun e => by rw [e] at c6; revert c6; decide
        have c6_5 : ¬ k = 5 := fun e => by rw [e] at c6; revert c6; decide
        have c6_6 : ¬ k = 6 := fun e => by rw [e] at c6; revert c6; decide
        have c6_7 : ¬ k = 7 := fun e => by rw [e] at c6; revert c6; decide
        have c6_8 : ¬ k = 8 := fun e => by rw [e] at c6; revert c6; decide
        have c6_9 : ¬ k = 9 := fun e => by rw [e] at c6; revert c6; decide
        refine xw.steps 1 (fun _ => rfl) ?_
        refine xw.steps 1 (pc' := 149) (fun _ => rfl) ?_
        refine xw.steps 3 (fun _ => rfl) ?_
        refine xw.ret rfl (fun _ => rfl) ?_
        show P (some (.int ((x.toUInt32 >>> (y.toUInt32 &&& Int32.toUInt32 31)).toInt32))) S
        have es : a_sh y = false := decide_eq_false (by rintro (w | w); exact c1 w; exact c5 w)
        have e9 : a_calc k x y = ((x.toUInt32 >>> (y.toUInt32 &&& Int32.toUInt32 31)).toInt32) := by clear hP; unfold a_calc; first | (simp_all [a_divides, div_m1, rem_m1]; done) | (simp_all [a_sh, a_divides, div_m1, rem_m1]; done) | (simp_all [a_sh, a_divides, div_m1, Int32.not_lt]; done)
        rw [e9] at hP
        exact hP
      · have c6 : k = 0 := c6
        refine xw.steps 3 (fun _ => rfl) ?_
        refine xw.ret rfl (fun _ => rfl) ?_
        show P (some (.int (x + y))) S
        have es : a_sh y = false := decide_eq_false (by rintro (w | w); exact c1 w; exact c5 w)
        have e9 : a_calc k x y = (x + y) := by clear hP; unfold a_calc; first | (simp_all [a_divides, div_m1, rem_m1]; done) | (simp_all [a_sh, a_divides, div_m1, rem_m1]; done) | (simp_all [a_sh, a_divides, div_m1, Int32.not_lt]; done)
        rw [e9] at hP
        exact hP
      · have c6 : k = 1 := c6
        refine xw.steps 3 (fun _ => rfl) ?_
        refine xw.ret rfl (fun _ => rfl) ?_
        show P (some (.int (x - y))) S
        have es : a_sh y = false := decide_eq_false (by rintro (w | w); exact c1 w; exact c5 w)
        have e9 : a_calc k x y = (x - y) := by clear hP; unfold a_calc; first | (simp_all [a_divides, div_m1, rem_m1]; done) | (simp_all [a_sh, a_divides, div_m1, rem_m1]; done) | (simp_all [a_sh, a_divides, div_m1, Int32.not_lt]; done)
        rw [e9] at hP
        exact hP
      · have c6 : k = 2 := c6
        refine xw.steps 3 (fun _ => rfl) ?_
        refine xw.ret rfl (fun _ => rfl) ?_
        show P (some (.int (x * y))) S
        have es : a_sh y = false := decide_eq_false (by rintro (w | w); exact c1 w; exact c5 w)
        have e9 : a_calc k x y = (x * y) := by clear hP; unfold a_calc; first | (simp_all [a_divides, div_m1, rem_m1]; done) | (simp_all [a_sh, a_divides, div_m1, rem_m1]; done) | (simp_all [a_sh, a_divides, div_m1, Int32.not_lt]; done)
        rw [e9] at hP
        exact hP
      · have c6 : k = 3 := c6
        refine xw.steps 2 (fun _ => rfl) ?_
        refine xw.icmp rfl (fun c7 => ?_) (fun c7 => ?_)
        · have c7 := of_decide_eq_true c7
          refine xw.steps 2 (fun _ => rfl) ?_
          refine xw.div rfl (fun e => hz ⟨e, by simp_all [a_divides]⟩) ?_
          refine xw.ret rfl (fun _ => rfl) ?_
          show P (some (.int (x / y))) S
          have es : a_sh y = false := decide_eq_false (by rintro (w | w); exact c1 w; exact c5 w)
          have e9 : a_calc k x y = (x / y) := by clear hP; unfold a_calc; first | (simp_all [a_divides, div_m1, rem_m1]; done) | (simp_all [a_sh, a_divides, div_m1, rem_m1]; done) | (simp_all [a_sh, a_divides, div_m1, Int32.not_lt]; done)
          rw [e9] at hP
          exact hP
        · have c7 := Decidable.not_not.mp (of_decide_eq_false c7)
          refine xw.steps 3 (fun _ => rfl) ?_
          refine xw.ret rfl (fun _ => rfl) ?_
          show P (some (.int (-x))) S
          have es : a_sh y = false := decide_eq_false (by rintro (w | w); exact c1 w; exact c5 w)
          have e9 : a_calc k x y = (-x) := by clear hP; unfold a_calc; first | (simp_all [a_divides, div_m1, rem_m1]; done) | (simp_all [a_sh, a_divides, div_m1, rem_m1]; done) | (simp_all [a_sh, a_divides, div_m1, Int32.not_lt]; done)
          rw [e9] at hP
          exact hP
      · have c6 : k = 4 := c6
        refine xw.steps 2 (fun _ => rfl) ?_
        refine xw.icmp rfl (fun c8 => ?_) (fun c8 => ?_)
        · have c8 := of_decide_eq_true c8
          refine xw.steps 2 (fun _ => rfl) ?_
          refine xw.div rfl (fun e => hz ⟨e, by simp_all [a_divides]⟩) ?_
          refine xw.ret rfl (fun _ => rfl) ?_
          show P (some (.int (x - x / y * y))) S
          have es : a_sh y = false := decide_eq_false (by rintro (w | w); exact c1 w; exact c5 w)
          have e9 : a_calc k x y = (x - x / y * y) := by clear hP; unfold a_calc; first | (simp_all [a_divides, div_m1, rem_m1]; done) | (simp_all [a_sh, a_divides, div_m1, rem_m1]; done) | (simp_all [a_sh, a_divides, div_m1, Int32.not_lt]; done)
          rw [e9] at hP
          exact hP
        · have c8 := Decidable.not_not.mp (of_decide_eq_false c8)
          refine xw.steps 2 (fun _ => rfl) ?_
          refine xw.ret rfl (fun _ => rfl) ?_
          show P (some (.int 0)) S
          have es : a_sh y = false := decide_eq_false (by rintro (w | w); exact c1 w; exact c5 w)
          have e9 : a_calc k x y = 0 := by clear hP; unfold a_calc; first | (simp_all [a_divides, div_m1, rem_m1]; done) | (simp_all [a_sh, a_divides, div_m1, rem_m1]; done) | (simp_all [a_sh, a_divides, div_m1, Int32.not_lt]; done)
          rw [e9] at hP
          exact hP
      · have c6 : k = 5 := c6
        refine xw.steps 3 (fun _ => rfl) ?_
        refine xw.ret rfl (fun _ => rfl) ?_
        show P (some (.int (x &&& y))) S
        have es : a_sh y = false := decide_eq_false (by rintro (w | w); exact c1 w; exact c5 w)
        have e9 : a_calc k x y = (x &&& y) := by clear hP; unfold a_calc; first | (simp_all [a_divides, div_m1, rem_m1]; done) | (simp_all [a_sh, a_divides, div_m1, rem_m1]; done) | (simp_all [a_sh, a_divides, div_m1, Int32.not_lt]; done)
        rw [e9] at hP
        exact hP
      · have c6 : k = 6 := c6
        refine xw.steps 3 (fun _ => rfl) ?_
        refine xw.ret rfl (fun _ => rfl) ?_
        show P (some (.int (x ||| y))) S
        have es : a_sh y = false := decide_eq_false (by rintro (w | w); exact c1 w; exact c5 w)
        have e9 : a_calc k x y = (x ||| y) := by clear hP; unfold a_calc; first | (simp_all [a_divides, div_m1, rem_m1]; done) | (simp_all [a_sh, a_divides, div_m1, rem_m1]; done) | (simp_all [a_sh, a_divides, div_m1, Int32.not_lt]; done)
        rw [e9] at hP
        exact hP
      · have c6 : k = 7 := c6
        refine xw.steps 5 (fun _ => rfl) ?_
        refine xw.ret rfl (fun _ => rfl) ?_
        show P (some (.int ((x ^^^ y) ^^^ (-1)))) S
        have es : a_sh y = false := decide_eq_false (by rintro (w | w); exact c1 w; exact c5 w)
        have e9 : a_calc k x y = ((x ^^^ y) ^^^ (-1)) := by clear hP; unfold a_calc; first | (simp_all [a_divides, div_m1, rem_m1]; done) | (simp_all [a_sh, a_divides, div_m1, rem_m1]; done) | (simp_all [a_sh, a_divides, div_m1, Int32.not_lt]; done)
        rw [e9] at hP
        exact hP
      · have c6 : k = 8 := c6
        refine xw.steps 3 (fun _ => rfl) ?_
        refine xw.ret rfl (fun _ => rfl) ?_
        show P (some (.int (x ^^^ y))) S
        have es : a_sh y = false := decide_eq_false (by rintro (w | w); exact c1 w; exact c5 w)
        have e9 : a_calc k x y = (x ^^^ y) := by clear hP; unfold a_calc; first | (simp_all [a_divides, div_m1, rem_m1]; done) | (simp_all [a_sh, a_divides, div_m1, rem_m1]; done) | (simp_all [a_sh, a_divides, div_m1, Int32.not_lt]; done)
        rw [e9] at hP
        exact hP
      · have c6 : k = 9 := c6
        refine xw.steps 1 (fun _ => rfl) ?_
        refine xw.steps 1 (pc' := 137) (fun _ => rfl) ?_
        refine xw.steps 3 (fun _ => rfl) ?_
        refine xw.ret rfl (fun _ => rfl) ?_
        show P (some (.int (x <<< (y &&& 31)))) S
        have es : a_sh y = false := decide_eq_false (by rintro (w | w); exact c1 w; exact c5 w)
        have e9 : a_calc k x y = (x <<< (y &&& 31)) := by clear hP; unfold a_calc; first | (simp_all [a_divides, div_m1, rem_m1]; done) | (simp_all [a_sh, a_divides, div_m1, rem_m1]; done) | (simp_all [a_sh, a_divides, div_m1, Int32.not_lt]; done)
        rw [e9] at hP
        exact hP
    · have c5 := Int32.not_le.mp (of_decide_eq_false c5)
      show xw z NK g 133 10 [(0, .int k), (1, .int x), (2, .int y)] [] S P
      refine xw.steps 4 (fun _ => rfl) ?_
      refine xw.table rfl (fun c9 => ?_) ⟨fun c9 => ?_, fun c9 => ?_, fun c9 => ?_, fun c9 => ?_, fun c9 => ?_, fun c9 => ?_, fun c9 => ?_, fun c9 => ?_, fun c9 => ?_, fun c9 => ?_, trivial⟩
      · skip
        have c9_0 : ¬ k = 0 := fun e => by rw [e] at c9; revert c9; decide
        have c9_1 : ¬ k = 1 := fun e => by rw [e] at c9; revert c9; decide
        have c9_2 : ¬ k = 2 := fun e => by rw [e] at c9; revert c9; decide
        have c9_3 : ¬ k = 3 := fun e => by rw [e] at c9; revert c9; decide
        have c9_4 : ¬ k = 4 := fun e => by rw [e] at c9; revert c9; decide
        have c9_5 : ¬ k = 5 := fun e => by rw [e] at c9; revert c9; decide
        have c9_6 : ¬ k = 6 := fun e => by rw [e] at c9; revert c9; decide
        have c9_7 : ¬ k = 7 := fun e => by rw [e] at c9; revert c9; decide
        have c9_8 : ¬ k = 8 := fun e => by rw [e] at c9; revert c9; decide
        have c9_9 : ¬ k = 9 := fun e => by rw [e] at c9; revert c9; decide
        refine xw.steps 1 (fun _ => rfl) ?_
        refine xw.steps 1 (pc' := 145) (fun _ => rfl) ?_
        refine xw.steps 2 (fun _ => rfl) ?_
        refine xw.ret rfl (fun _ => rfl) ?_
        show P (some (.int 0)) S
        have e9 : a_calc k x y = 0 := by clear hP; unfold a_calc; first | (simp_all [a_divides, div_m1, rem_m1]; done) | (simp_all [a_sh, a_divides, div_m1, rem_m1]; done) | (simp_all [a_sh, a_divides, div_m1, Int32.not_lt]; done)
        rw [e9] at hP
        exact hP
      · have c9 : k = 0 := c9
        refine xw.steps 3 (fun _ => rfl) ?_
        refine xw.ret rfl (fun _ => rfl) ?_
        show P (some (.int (x + y))) S
        have e9 : a_calc k x y = (x + y) := by clear hP; unfold a_calc; first | (simp_all [a_divides, div_m1, rem_m1]; done) | (simp_all [a_sh, a_divides, div_m1, rem_m1]; done) | (simp_all [a_sh, a_divides, div_m1, Int32.not_lt]; done)
        rw [e9] at hP
        exact hP
      · have c9 : k = 1 := c9
        refine xw.steps 3 (fun _ => rfl) ?_
        refine xw.ret rfl (fun _ => rfl) ?_
        show P (some (.int (x - y))) S
        have e9 : a_calc k x y = (x - y) := by clear hP; unfold a_calc; first | (simp_all [a_divides, div_m1, rem_m1]; done) | (simp_all [a_sh, a_divides, div_m1, rem_m1]; done) | (simp_all [a_sh, a_divides, div_m1, Int32.not_lt]; done)
        rw [e9] at hP
        exact hP
      · have c9 : k = 2 := c9
        refine xw.steps 3 (fun _ => rfl) ?_
        refine xw.ret rfl (fun _ => rfl) ?_
        show P (some (.int (x * y))) S
        have e9 : a_calc k x y = (x * y) := by clear hP; unfold a_calc; first | (simp_all [a_divides, div_m1, rem_m1]; done) | (simp_all [a_sh, a_divides, div_m1, rem_m1]; done) | (simp_all [a_sh, a_divides, div_m1, Int32.not_lt]; done)
        rw [e9] at hP
        exact hP
      · have c9 : k = 3 := c9
        refine xw.steps 2 (fun _ => rfl) ?_
        refine xw.icmp rfl (fun c10 => ?_) (fun c10 => ?_)
        · have c10 := of_decide_eq_true c10
          refine xw.steps 2 (fun _ => rfl) ?_
          refine xw.div rfl (fun e => hz ⟨e, by simp_all [a_divides]⟩) ?_
          refine xw.ret rfl (fun _ => rfl) ?_
          show P (some (.int (x / y))) S
          have e9 : a_calc k x y = (x / y) := by clear hP; unfold a_calc; first | (simp_all [a_divides, div_m1, rem_m1]; done) | (simp_all [a_sh, a_divides, div_m1, rem_m1]; done) | (simp_all [a_sh, a_divides, div_m1, Int32.not_lt]; done)
          rw [e9] at hP
          exact hP
        · have c10 := Decidable.not_not.mp (of_decide_eq_false c10)
          refine xw.steps 3 (fun _ => rfl) ?_
          refine xw.ret rfl (fun _ => rfl) ?_
          show P (some (.int (-x))) S
          have e9 : a_calc k x y = (-x) := by clear hP; unfold a_calc; first | (simp_all [a_divides, div_m1, rem_m1]; done) | (simp_all [a_sh, a_divides, div_m1, rem_m1]; done) | (simp_all [a_sh, a_divides, div_m1, Int32.not_lt]; done)
          rw [e9] at hP
          exact hP
      · have c9 : k = 4 := c9
        refine xw.steps 2 (fun _ => rfl) ?_
        refine xw.icmp rfl (fun c11 => ?_) (fun c11 => ?_)
        · have c11 := of_decide_eq_true c11
          refine xw.steps 2 (fun _ => rfl) ?_
          refine xw.div rfl (fun e => hz ⟨e, by simp_all [a_divides]⟩) ?_
          refine xw.ret rfl (fun _ => rfl) ?_
          show P (some (.int (x - x / y * y))) S
          have e9 : a_calc k x y = (x - x / y * y) := by clear hP; unfold a_calc; first | (simp_all [a_divides, div_m1, rem_m1]; done) | (simp_all [a_sh, a_divides, div_m1, rem_m1]; done) | (simp_all [a_sh, a_divides, div_m1, Int32.not_lt]; done)
          rw [e9] at hP
          exact hP
        · have c11 := Decidable.not_not.mp (of_decide_eq_false c11)
          refine xw.steps 2 (fun _ => rfl) ?_
          refine xw.ret rfl (fun _ => rfl) ?_
          show P (some (.int 0)) S
          have e9 : a_calc k x y = 0 := by clear hP; unfold a_calc; first | (simp_all [a_divides, div_m1, rem_m1]; done) | (simp_all [a_sh, a_divides, div_m1, rem_m1]; done) | (simp_all [a_sh, a_divides, div_m1, Int32.not_lt]; done)
          rw [e9] at hP
          exact hP
      · have c9 : k = 5 := c9
        refine xw.steps 3 (fun _ => rfl) ?_
        refine xw.ret rfl (fun _ => rfl) ?_
        show P (some (.int (x &&& y))) S
        have e9 : a_calc k x y = (x &&& y) := by clear hP; unfold a_calc; first | (simp_all [a_divides, div_m1, rem_m1]; done) | (simp_all [a_sh, a_divides, div_m1, rem_m1]; done) | (simp_all [a_sh, a_divides, div_m1, Int32.not_lt]; done)
        rw [e9] at hP
        exact hP
      · have c9 : k = 6 := c9
        refine xw.steps 3 (fun _ => rfl) ?_
        refine xw.ret rfl (fun _ => rfl) ?_
        show P (some (.int (x ||| y))) S
        have e9 : a_calc k x y = (x ||| y) := by clear hP; unfold a_calc; first | (simp_all [a_divides, div_m1, rem_m1]; done) | (simp_all [a_sh, a_divides, div_m1, rem_m1]; done) | (simp_all [a_sh, a_divides, div_m1, Int32.not_lt]; done)
        rw [e9] at hP
        exact hP
      · have c9 : k = 7 := c9
        refine xw.steps 5 (fun _ => rfl) ?_
        refine xw.ret rfl (fun _ => rfl) ?_
        show P (some (.int ((x ^^^ y) ^^^ (-1)))) S
        have e9 : a_calc k x y = ((x ^^^ y) ^^^ (-1)) := by clear hP; unfold a_calc; first | (simp_all [a_divides, div_m1, rem_m1]; done) | (simp_all [a_sh, a_divides, div_m1, rem_m1]; done) | (simp_all [a_sh, a_divides, div_m1, Int32.not_lt]; done)
        rw [e9] at hP
        exact hP
      · have c9 : k = 8 := c9
        refine xw.steps 3 (fun _ => rfl) ?_
        refine xw.ret rfl (fun _ => rfl) ?_
        show P (some (.int (x ^^^ y))) S
        have e9 : a_calc k x y = (x ^^^ y) := by clear hP; unfold a_calc; first | (simp_all [a_divides, div_m1, rem_m1]; done) | (simp_all [a_sh, a_divides, div_m1, rem_m1]; done) | (simp_all [a_sh, a_divides, div_m1, Int32.not_lt]; done)
        rw [e9] at hP
        exact hP
      · have c9 : k = 9 := c9
        refine xw.steps 1 (fun _ => rfl) ?_
        refine xw.steps 1 (pc' := 133) (fun _ => rfl) ?_
        refine xw.steps 2 (fun _ => rfl) ?_
        refine xw.ret rfl (fun _ => rfl) ?_
        show P (some (.int 0)) S
        have e9 : a_calc k x y = 0 := by clear hP; unfold a_calc; first | (simp_all [a_divides, div_m1, rem_m1]; done) | (simp_all [a_sh, a_divides, div_m1, rem_m1]; done) | (simp_all [a_sh, a_divides, div_m1, Int32.not_lt]; done)
        rw [e9] at hP
        exact hP
set_option maxHeartbeats 1000000 in
/-- RowCodeModel.set(II)I -/
theorem c_mset (hM : MO Bk z S th sz va fu hg nu ag lo wo he go ro) {i v : Int32} (hP : ∀ S', MO Bk z S' 0 sz va fu hg nu ag (mL lo i v) wo he go ro → P (some (.int (mLa lo i))) S') : xw z NK g 142 0 [(0, .ref (z + 52)), (1, .int i), (2, .int v)] [] S P := by
  obtain ⟨q52, q53, q54, q55, q56, q57, q58, q59, qB⟩ := id hM
  refine xw.steps 2 (fun _ => rfl) ?_
  refine xw.putf (o := 52) (fs' := [.int 0, .int sz, .ref (z + 53), .ref (z + 54), .ref (z + 55), .ref (z + 56), .int va, .int fu, .ref (z + 57), .ref (z + 58), .ref (z + 59), .int hg]) rfl q52 (Nat.le_of_ble_eq_true rfl) rfl rfl rfl ?_
  show xw z NK g 142 5 [(0, .ref (z + 52)), (1, .int i), (2, .int v)] [] (xu S 52 (.inr (.inr (10, [.int 0, .int sz, .ref (z + 53), .ref (z + 54), .ref (z + 55), .ref (z + 56), .int va, .int fu, .ref (z + 57), .ref (z + 58), .ref (z + 59), .int hg])))) P
  refine xw.steps 3 (fun _ => rfl) ?_
  show xw z NK g 142 9 [(0, .ref (z + 52)), (1, .int i), (2, .int v)] [.int 15, .int 0, .int i] (xu S 52 (.inr (.inr (10, [.int 0, .int sz, .ref (z + 53), .ref (z + 54), .ref (z + 55), .ref (z + 56), .int va, .int fu, .ref (z + 57), .ref (z + 58), .ref (z + 59), .int hg])))) P
  refine xw.callS rfl rfl rfl rfl rfl (c_in ?_)
  show xw z NK g 142 12 [(0, .ref (z + 52)), (1, .int i), (2, .int v)] [.int (bI (decide (¬ i < 0 ∧ ¬ 15 < i)))] (xu S 52 (.inr (.inr (10, [.int 0, .int sz, .ref (z + 53), .ref (z + 54), .ref (z + 55), .ref (z + 56), .int va, .int fu, .ref (z + 57), .ref (z + 58), .ref (z + 59), .int hg])))) P
  refine xw.if_ rfl (fun c1 => ?_) (fun c1 => ?_)
  · have c1 := bI_ne0 (of_decide_eq_true c1)
    refine xw.steps 1 (fun _ => rfl) ?_
    refine xw.getf (o := 52) rfl (xu_self _ _ _) rfl ?_
    refine xw.steps 1 (fun _ => rfl) ?_
    refine xw.ald (o := 55) rfl ((xu_ne _ _ (by decide)).trans q55) (in_bound (N := 15) rfl (by omega) c1) ?_
    refine xw.steps 2 (fun _ => rfl) ?_
    refine xw.getf (o := 52) rfl (xu_self _ _ _) rfl ?_
    refine xw.steps 2 (fun _ => rfl) ?_
    refine xw.ast (o := 55) rfl ((xu_ne _ _ (by decide)).trans q55) (in_bound (N := 15) rfl (by omega) c1) ?_
    show xw z NK g 142 31 [(0, .ref (z + 52)), (1, .int i), (2, .int v), (3, .int (lo i.toNatClampNeg))] [] (xu (xu S 52 (.inr (.inr (10, [.int 0, .int sz, .ref (z + 53), .ref (z + 54), .ref (z + 55), .ref (z + 56), .int va, .int fu, .ref (z + 57), .ref (z + 58), .ref (z + 59), .int hg])))) 55 (.inr (.inl (false, 16, (upd lo i.toNatClampNeg v))))) P
    refine xw.steps 1 (fun _ => rfl) ?_
    refine xw.ret rfl (fun _ => rfl) ?_
    show P (some (.int (lo i.toNatClampNeg))) (xu (xu S 52 (.inr (.inr (10, [.int 0, .int sz, .ref (z + 53), .ref (z + 54), .ref (z + 55), .ref (z + 56), .int va, .int fu, .ref (z + 57), .ref (z + 58), .ref (z + 59), .int hg])))) 55 (.inr (.inl (false, 16, (upd lo i.toNatClampNeg v)))))
    have eh : m_hasL i = true := by rw [hasL_iff]; exact c1
    simp only [mLa, mL, mVa, mV, eh, if_true, if_false, Bool.false_eq_true] at hP
    refine hP _ ⟨?_, ?_, ?_, ?_, ?_, ?_, ?_, ?_, ?_⟩
    all_goals first
      | (intro q hq; repeat rw [xu_ne _ _ (by omega)]
         exact qB q hq)
      | (simp only [xu]; simp; try assumption)
  · have c1 := bI_eq0 (Decidable.not_not.mp (of_decide_eq_false c1))
    refine xw.steps 1 (fun _ => rfl) ?_
    refine xw.ret rfl (fun _ => rfl) ?_
    show P (some (.int 0)) (xu S 52 (.inr (.inr (10, [.int 0, .int sz, .ref (z + 53), .ref (z + 54), .ref (z + 55), .ref (z + 56), .int va, .int fu, .ref (z + 57), .ref (z + 58), .ref (z + 59), .int hg]))))
    have eh : m_hasL i = false := by rw [hasL_iff]; exact c1
    simp only [mLa, mL, mVa, mV, eh, if_true, if_false, Bool.false_eq_true] at hP
    refine hP _ ⟨?_, ?_, ?_, ?_, ?_, ?_, ?_, ?_, ?_⟩
    all_goals first
      | (intro q hq; repeat rw [xu_ne _ _ (by omega)]
         exact qB q hq)
      | (simp only [xu]; simp; try assumption)
set_option maxHeartbeats 1000000 in
/-- RowCodeModel.put(II)I -/
theorem c_mput (hM : MO Bk z S th sz va fu hg nu ag lo wo he go ro) {i v : Int32} (hP : ∀ S', MO Bk z S' 0 sz va fu hg nu ag lo (mV wo i v) he go ro → P (some (.int (mVa wo i))) S') : xw z NK g 144 0 [(0, .ref (z + 52)), (1, .int i), (2, .int v)] [] S P := by
  obtain ⟨q52, q53, q54, q55, q56, q57, q58, q59, qB⟩ := id hM
  refine xw.steps 2 (fun _ => rfl) ?_
  refine xw.putf (o := 52) (fs' := [.int 0, .int sz, .ref (z + 53), .ref (z + 54), .ref (z + 55), .ref (z + 56), .int va, .int fu, .ref (z + 57), .ref (z + 58), .ref (z + 59), .int hg]) rfl q52 (Nat.le_of_ble_eq_true rfl) rfl rfl rfl ?_
  show xw z NK g 144 5 [(0, .ref (z + 52)), (1, .int i), (2, .int v)] [] (xu S 52 (.inr (.inr (10, [.int 0, .int sz, .ref (z + 53), .ref (z + 54), .ref (z + 55), .ref (z + 56), .int va, .int fu, .ref (z + 57), .ref (z + 58), .ref (z + 59), .int hg])))) P
  refine xw.steps 3 (fun _ => rfl) ?_
  show xw z NK g 144 9 [(0, .ref (z + 52)), (1, .int i), (2, .int v)] [.int 63, .int 0, .int i] (xu S 52 (.inr (.inr (10, [.int 0, .int sz, .ref (z + 53), .ref (z + 54), .ref (z + 55), .ref (z + 56), .int va, .int fu, .ref (z + 57), .ref (z + 58), .ref (z + 59), .int hg])))) P
  refine xw.callS rfl rfl rfl rfl rfl (c_in ?_)
  show xw z NK g 144 12 [(0, .ref (z + 52)), (1, .int i), (2, .int v)] [.int (bI (decide (¬ i < 0 ∧ ¬ 63 < i)))] (xu S 52 (.inr (.inr (10, [.int 0, .int sz, .ref (z + 53), .ref (z + 54), .ref (z + 55), .ref (z + 56), .int va, .int fu, .ref (z + 57), .ref (z + 58), .ref (z + 59), .int hg])))) P
  refine xw.if_ rfl (fun c1 => ?_) (fun c1 => ?_)
  · have c1 := bI_ne0 (of_decide_eq_true c1)
    refine xw.steps 1 (fun _ => rfl) ?_
    refine xw.getf (o := 52) rfl (xu_self _ _ _) rfl ?_
    refine xw.steps 1 (fun _ => rfl) ?_
    refine xw.ald (o := 56) rfl ((xu_ne _ _ (by decide)).trans q56) (in_bound (N := 63) rfl (by omega) c1) ?_
    refine xw.steps 2 (fun _ => rfl) ?_
    refine xw.getf (o := 52) rfl (xu_self _ _ _) rfl ?_
    refine xw.steps 2 (fun _ => rfl) ?_
    refine xw.ast (o := 56) rfl ((xu_ne _ _ (by decide)).trans q56) (in_bound (N := 63) rfl (by omega) c1) ?_
    show xw z NK g 144 31 [(0, .ref (z + 52)), (1, .int i), (2, .int v), (3, .int (wo i.toNatClampNeg))] [] (xu (xu S 52 (.inr (.inr (10, [.int 0, .int sz, .ref (z + 53), .ref (z + 54), .ref (z + 55), .ref (z + 56), .int va, .int fu, .ref (z + 57), .ref (z + 58), .ref (z + 59), .int hg])))) 56 (.inr (.inl (false, 64, (upd wo i.toNatClampNeg v))))) P
    refine xw.steps 1 (fun _ => rfl) ?_
    refine xw.ret rfl (fun _ => rfl) ?_
    show P (some (.int (wo i.toNatClampNeg))) (xu (xu S 52 (.inr (.inr (10, [.int 0, .int sz, .ref (z + 53), .ref (z + 54), .ref (z + 55), .ref (z + 56), .int va, .int fu, .ref (z + 57), .ref (z + 58), .ref (z + 59), .int hg])))) 56 (.inr (.inl (false, 64, (upd wo i.toNatClampNeg v)))))
    have eh : m_hasW i.toInt64 = true := by rw [hasW_iff]; exact c1
    simp only [mLa, mL, mVa, mV, eh, if_true, if_false, Bool.false_eq_true] at hP
    refine hP _ ⟨?_, ?_, ?_, ?_, ?_, ?_, ?_, ?_, ?_⟩
    all_goals first
      | (intro q hq; repeat rw [xu_ne _ _ (by omega)]
         exact qB q hq)
      | (simp only [xu]; simp; try assumption)
  · have c1 := bI_eq0 (Decidable.not_not.mp (of_decide_eq_false c1))
    refine xw.steps 1 (fun _ => rfl) ?_
    refine xw.ret rfl (fun _ => rfl) ?_
    show P (some (.int 0)) (xu S 52 (.inr (.inr (10, [.int 0, .int sz, .ref (z + 53), .ref (z + 54), .ref (z + 55), .ref (z + 56), .int va, .int fu, .ref (z + 57), .ref (z + 58), .ref (z + 59), .int hg]))))
    have eh : m_hasW i.toInt64 = false := by rw [hasW_iff]; exact c1
    simp only [mLa, mL, mVa, mV, eh, if_true, if_false, Bool.false_eq_true] at hP
    refine hP _ ⟨?_, ?_, ?_, ?_, ?_, ?_, ?_, ?_, ?_⟩
    all_goals first
      | (intro q hq; repeat rw [xu_ne _ _ (by omega)]
         exact qB q hq)
      | (simp only [xu]; simp; try assumption)
set_option maxHeartbeats 1000000 in
/-- RowCodeModel.local(I)I -/
theorem c_mlocal (hM : MO Bk z S th sz va fu hg nu ag lo wo he go ro) {i : Int32} (hP : ∀ S', MO Bk z S' (if m_hasL i = true then 0 else 1) sz va fu hg nu ag lo wo he go ro → P (some (.int (mLa lo i))) S') : xw z NK g 143 0 [(0, .ref (z + 52)), (1, .int i)] [] S P := by
  obtain ⟨q52, q53, q54, q55, q56, q57, q58, q59, qB⟩ := id hM
  refine xw.steps 4 (fun _ => rfl) ?_
  show xw z NK g 143 5 [(0, .ref (z + 52)), (1, .int i)] [.int 15, .int 0, .int i, .ref (z + 52)] S P
  refine xw.callS rfl rfl rfl rfl rfl (c_in ?_)
  show xw z NK g 143 8 [(0, .ref (z + 52)), (1, .int i)] [.int (bI (decide (¬ i < 0 ∧ ¬ 15 < i))), .ref (z + 52)] S P
  refine xw.if_ rfl (fun c1 => ?_) (fun c1 => ?_)
  · have c1 := bI_eq0 (of_decide_eq_true c1)
    refine xw.steps 1 (fun _ => rfl) ?_
    refine xw.putf (o := 52) (fs' := [.int 1, .int sz, .ref (z + 53), .ref (z + 54), .ref (z + 55), .ref (z + 56), .int va, .int fu, .ref (z + 57), .ref (z + 58), .ref (z + 59), .int hg]) rfl q52 (Nat.le_of_ble_eq_true rfl) rfl rfl rfl ?_
    show xw z NK g 143 19 [(0, .ref (z + 52)), (1, .int i)] [] (xu S 52 (.inr (.inr (10, [.int 1, .int sz, .ref (z + 53), .ref (z + 54), .ref (z + 55), .ref (z + 56), .int va, .int fu, .ref (z + 57), .ref (z + 58), .ref (z + 59), .int hg])))) P
    refine xw.steps 1 (fun _ => rfl) ?_
    refine xw.getf (o := 52) rfl (xu_self _ _ _) rfl ?_
    refine xw.steps 1 (pc' := 35) (fun _ => rfl) ?_
    refine xw.steps 1 (fun _ => rfl) ?_
    refine xw.ret rfl (fun _ => rfl) ?_
    show P (some (.int 0)) (xu S 52 (.inr (.inr (10, [.int 1, .int sz, .ref (z + 53), .ref (z + 54), .ref (z + 55), .ref (z + 56), .int va, .int fu, .ref (z + 57), .ref (z + 58), .ref (z + 59), .int hg]))))
    have eh : m_hasL i = false := by rw [hasL_iff]; exact c1
    simp only [mLa, mVa, eh, if_true, if_false, Bool.false_eq_true] at hP
    refine hP _ ⟨?_, ?_, ?_, ?_, ?_, ?_, ?_, ?_, ?_⟩
    all_goals first
      | (intro q hq; repeat rw [xu_ne _ _ (by omega)]
         exact qB q hq)
      | (simp only [xu]; simp; try assumption)
  · have c1 := bI_ne0 (of_decide_eq_false c1)
    refine xw.steps 2 (fun _ => rfl) ?_
    refine xw.putf (o := 52) (fs' := [.int 0, .int sz, .ref (z + 53), .ref (z + 54), .ref (z + 55), .ref (z + 56), .int va, .int fu, .ref (z + 57), .ref (z + 58), .ref (z + 59), .int hg]) rfl q52 (Nat.le_of_ble_eq_true rfl) rfl rfl rfl ?_
    show xw z NK g 143 19 [(0, .ref (z + 52)), (1, .int i)] [] (xu S 52 (.inr (.inr (10, [.int 0, .int sz, .ref (z + 53), .ref (z + 54), .ref (z + 55), .ref (z + 56), .int va, .int fu, .ref (z + 57), .ref (z + 58), .ref (z + 59), .int hg])))) P
    refine xw.steps 1 (fun _ => rfl) ?_
    refine xw.getf (o := 52) rfl (xu_self _ _ _) rfl ?_
    refine xw.steps 1 (pc' := 26) (fun _ => rfl) ?_
    refine xw.steps 1 (fun _ => rfl) ?_
    refine xw.getf (o := 52) rfl (xu_self _ _ _) rfl ?_
    refine xw.steps 1 (fun _ => rfl) ?_
    refine xw.ald (o := 55) rfl ((xu_ne _ _ (by decide)).trans q55) (in_bound (N := 15) rfl (by omega) c1) ?_
    refine xw.steps 1 (fun _ => rfl) ?_
    refine xw.ret rfl (fun _ => rfl) ?_
    show P (some (.int (lo i.toNatClampNeg))) (xu S 52 (.inr (.inr (10, [.int 0, .int sz, .ref (z + 53), .ref (z + 54), .ref (z + 55), .ref (z + 56), .int va, .int fu, .ref (z + 57), .ref (z + 58), .ref (z + 59), .int hg]))))
    have eh : m_hasL i = true := by rw [hasL_iff]; exact c1
    simp only [mLa, mVa, eh, if_true, if_false, Bool.false_eq_true] at hP
    refine hP _ ⟨?_, ?_, ?_, ?_, ?_, ?_, ?_, ?_, ?_⟩
    all_goals first
      | (intro q hq; repeat rw [xu_ne _ _ (by omega)]
         exact qB q hq)
      | (simp only [xu]; simp; try assumption)
set_option maxHeartbeats 1000000 in
/-- RowCodeModel.word(I)I -/
theorem c_mword (hM : MO Bk z S th sz va fu hg nu ag lo wo he go ro) {i : Int32} (hP : ∀ S', MO Bk z S' (if m_hasW i.toInt64 = true then 0 else 1) sz va fu hg nu ag lo wo he go ro → P (some (.int (mVa wo i))) S') : xw z NK g 145 0 [(0, .ref (z + 52)), (1, .int i)] [] S P := by
  obtain ⟨q52, q53, q54, q55, q56, q57, q58, q59, qB⟩ := id hM
  refine xw.steps 4 (fun _ => rfl) ?_
  show xw z NK g 145 5 [(0, .ref (z + 52)), (1, .int i)] [.int 63, .int 0, .int i, .ref (z + 52)] S P
  refine xw.callS rfl rfl rfl rfl rfl (c_in ?_)
  show xw z NK g 145 8 [(0, .ref (z + 52)), (1, .int i)] [.int (bI (decide (¬ i < 0 ∧ ¬ 63 < i))), .ref (z + 52)] S P
  refine xw.if_ rfl (fun c1 => ?_) (fun c1 => ?_)
  · have c1 := bI_eq0 (of_decide_eq_true c1)
    refine xw.steps 1 (fun _ => rfl) ?_
    refine xw.putf (o := 52) (fs' := [.int 1, .int sz, .ref (z + 53), .ref (z + 54), .ref (z + 55), .ref (z + 56), .int va, .int fu, .ref (z + 57), .ref (z + 58), .ref (z + 59), .int hg]) rfl q52 (Nat.le_of_ble_eq_true rfl) rfl rfl rfl ?_
    show xw z NK g 145 19 [(0, .ref (z + 52)), (1, .int i)] [] (xu S 52 (.inr (.inr (10, [.int 1, .int sz, .ref (z + 53), .ref (z + 54), .ref (z + 55), .ref (z + 56), .int va, .int fu, .ref (z + 57), .ref (z + 58), .ref (z + 59), .int hg])))) P
    refine xw.steps 1 (fun _ => rfl) ?_
    refine xw.getf (o := 52) rfl (xu_self _ _ _) rfl ?_
    refine xw.steps 1 (pc' := 35) (fun _ => rfl) ?_
    refine xw.steps 1 (fun _ => rfl) ?_
    refine xw.ret rfl (fun _ => rfl) ?_
    show P (some (.int 0)) (xu S 52 (.inr (.inr (10, [.int 1, .int sz, .ref (z + 53), .ref (z + 54), .ref (z + 55), .ref (z + 56), .int va, .int fu, .ref (z + 57), .ref (z + 58), .ref (z + 59), .int hg]))))
    have eh : m_hasW i.toInt64 = false := by rw [hasW_iff]; exact c1
    simp only [mLa, mVa, eh, if_true, if_false, Bool.false_eq_true] at hP
    refine hP _ ⟨?_, ?_, ?_, ?_, ?_, ?_, ?_, ?_, ?_⟩
    all_goals first
      | (intro q hq; repeat rw [xu_ne _ _ (by omega)]
         exact qB q hq)
      | (simp only [xu]; simp; try assumption)
  · have c1 := bI_ne0 (of_decide_eq_false c1)
    refine xw.steps 2 (fun _ => rfl) ?_
    refine xw.putf (o := 52) (fs' := [.int 0, .int sz, .ref (z + 53), .ref (z + 54), .ref (z + 55), .ref (z + 56), .int va, .int fu, .ref (z + 57), .ref (z + 58), .ref (z + 59), .int hg]) rfl q52 (Nat.le_of_ble_eq_true rfl) rfl rfl rfl ?_
    show xw z NK g 145 19 [(0, .ref (z + 52)), (1, .int i)] [] (xu S 52 (.inr (.inr (10, [.int 0, .int sz, .ref (z + 53), .ref (z + 54), .ref (z + 55), .ref (z + 56), .int va, .int fu, .ref (z + 57), .ref (z + 58), .ref (z + 59), .int hg])))) P
    refine xw.steps 1 (fun _ => rfl) ?_
    refine xw.getf (o := 52) rfl (xu_self _ _ _) rfl ?_
    refine xw.steps 1 (pc' := 26) (fun _ => rfl) ?_
    refine xw.steps 1 (fun _ => rfl) ?_
    refine xw.getf (o := 52) rfl (xu_self _ _ _) rfl ?_
    refine xw.steps 1 (fun _ => rfl) ?_
    refine xw.ald (o := 56) rfl ((xu_ne _ _ (by decide)).trans q56) (in_bound (N := 63) rfl (by omega) c1) ?_
    refine xw.steps 1 (fun _ => rfl) ?_
    refine xw.ret rfl (fun _ => rfl) ?_
    show P (some (.int (wo i.toNatClampNeg))) (xu S 52 (.inr (.inr (10, [.int 0, .int sz, .ref (z + 53), .ref (z + 54), .ref (z + 55), .ref (z + 56), .int va, .int fu, .ref (z + 57), .ref (z + 58), .ref (z + 59), .int hg]))))
    have eh : m_hasW i.toInt64 = true := by rw [hasW_iff]; exact c1
    simp only [mLa, mVa, eh, if_true, if_false, Bool.false_eq_true] at hP
    refine hP _ ⟨?_, ?_, ?_, ?_, ?_, ?_, ?_, ?_, ?_⟩
    all_goals first
      | (intro q hq; repeat rw [xu_ne _ _ (by omega)]
         exact qB q hq)
      | (simp only [xu]; simp; try assumption)
end MO4
