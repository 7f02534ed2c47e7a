/-! IMPROVER: the folds (walks by wip/gen24.py). ns, as: the code made so far (into) -/
def p_l (c : List Int32) (b : Int32) : Int32 := nAt c (nI c.length - 1 - b)
def p_c (c : List Int32) (n : Int32) : List Int32 := nCut c (nI c.length - n)
def p_other (n : Int32) : Int32 := if n = 11 then 12 else 11
def p_one (ns as : List Int32) (n : Int32) : List Int32 × List Int32 × Bool :=
  if p_l ns 0 = 0 then (p_c ns 1 ++ [0], p_c as 1 ++ [if n = 5 then -p_l as 0 else p_l as 0 ^^^ (-1)], true)
  else if p_l ns 0 = n then (ns.dropLast, as.dropLast, true)
  else if p_l ns 0 = 8 ∧ n = 6 then (p_c ns 1 ++ [8], p_c as 1 ++ [a_opp (p_l as 0)], true) else (ns, as, false)
def p_calc (ns as : List Int32) (k : Int32) : List Int32 × List Int32 × Bool :=
  if ¬ p_l ns 0 = 0 then (ns, as, false) else if a_alone k (p_l as 0) = true then (ns.dropLast, as.dropLast, true)
  else if ¬ p_l ns 1 = 0 ∨ (p_l as 0 = 0 ∧ a_divides k = true) then (ns, as, false) else (p_c ns 2 ++ [0], p_c as 2 ++ [a_calc k (p_l as 1) (p_l as 0)], true)
def p_comp (ns as : List Int32) (k : Int32) : List Int32 × List Int32 × Bool :=
  if ¬ p_l ns 0 = 0 then (ns, as, false) else if p_l ns 1 = 0 then (p_c ns 2 ++ [0], p_c as 2 ++ [a_compare k (p_l as 1) (p_l as 0)], true)
  else if p_l ns 1 = 8 ∧ p_l as 0 = 0 ∧ k < 2 then (p_c ns 2 ++ [8], p_c as 2 ++ [if k = 0 then a_opp (p_l as 1) else p_l as 1], true) else (ns, as, false)
def p_drop (ns as : List Int32) : List Int32 × List Int32 × Bool :=
  if p_l ns 0 = 5 ∨ p_l ns 0 = 6 then (ns.dropLast, as.dropLast, false) else if p_l ns 0 = 0 ∨ p_l ns 0 = 1 then (ns.dropLast, as.dropLast, true) else (ns, as, false)
def p_cond (ns as : List Int32) (n k : Int32) : List Int32 × List Int32 × Bool :=
  if p_l ns 0 = 0 then (if (p_l as 0 = 0 ↔ n = 11) then (ns.dropLast ++ [10], as.dropLast ++ [k], true) else (ns.dropLast, as.dropLast, true))
  else if p_l ns 0 = 5 then (ns.dropLast, as.dropLast, false)
  else if p_l ns 0 = 8 ∧ p_l as 0 < 2 ∧ p_l ns 1 = 0 ∧ p_l as 1 = 0 then (p_c ns 2 ++ [if p_l as 0 = 0 then p_other n else n], p_c as 2 ++ [k], true) else (ns, as, false)
def p_short (ns as : List Int32) (k : Int32) : List Int32 × List Int32 :=
  if p_l ns 0 = 10 then
    (if p_l as 0 = k then (ns.dropLast, as.dropLast) else
     if t_cond (p_l ns 1) = true ∧ p_l as 1 = k ∧ ¬ p_l ns 2 = 18 then (p_c ns 2 ++ [p_other (p_l ns 1)], p_c as 2 ++ [p_l as 0]) else (ns, as))
  else if t_cond (p_l ns 0) = true ∧ p_l as 0 = k ∧ ¬ p_l ns 1 = 18 then (p_c ns 1 ++ [14], p_c as 1 ++ [0]) else (ns, as)
def p_folds (ns as : List Int32) (n k : Int32) : List Int32 × List Int32 × Bool :=
  if n = 5 ∨ n = 6 then p_one ns as n else if n = 7 then p_calc ns as k else if n = 8 then p_comp ns as k else if n = 14 then p_drop ns as
  else if n = 11 ∨ n = 12 then p_cond ns as n k else if n = 13 then ((p_short ns as k).1, (p_short ns as k).2, false) else (ns, as, false)
/-- the improver's cells: f: where 'from' lies, t: where 'into' does -/
def iS (z : Nat) (S : xS) (f fn fa t tn ta : Nat) (pl us fs ga ns as : List Int32) : Prop :=
  S 15 = some (.inr (.inr (2, [.ref (z + 16), .ref (z + 18), .ref (z + f), .ref (z + t)]))) ∧ S 16 = some (.inl pl) ∧ S 18 = some (.inl us) ∧ S f = some (.inr (.inr (1, [.ref (z + fn), .ref (z + fa)]))) ∧ S fn = some (.inl fs) ∧ S fa = some (.inl ga) ∧ S t = some (.inr (.inr (1, [.ref (z + tn), .ref (z + ta)]))) ∧ S tn = some (.inl ns) ∧ S ta = some (.inl as)
section XP
variable {z : Nat} {NK : List Nat} {g : mx_G} {S : xS} {P : Option Value → xS → Prop} {pl us fs ga ns as : List Int32}
set_option maxHeartbeats 1000000 in
/-- RowCode$Improver.otherCondition(I)I -/
theorem c_otherCondition {n : Int32} (hP : P (some (.int (p_other n))) S) : xw z NK g 84 0 [(0, .int n)] [] S P := by
  refine xw.steps 2 (fun _ => rfl) ?_
  refine xw.icmp rfl (fun c1 => ?_) (fun c1 => ?_)
  · have c1 := of_decide_eq_true c1
    refine xw.steps 1 (fun _ => rfl) ?_
    refine xw.ret rfl (fun _ => rfl) ?_
    show P (some (.int 11)) S
    first | simpa [p_other, c1] using hP | simp_all [p_other]
  · have c1 := Decidable.not_not.mp (of_decide_eq_false c1)
    refine xw.steps 2 (fun _ => rfl) ?_
    refine xw.ret rfl (fun _ => rfl) ?_
    show P (some (.int 12)) S
    first | simpa [p_other, c1] using hP | simp_all [p_other]
set_option maxHeartbeats 4000000 in
/-- RowCode$Improver.foldsOne(I)Z -/
theorem c_one_A (hJ : iS z S 20 21 23 25 26 28 pl us fs ga ns as) (hl1 : ns.length < 131072) (hl2 : as.length < 131072) {n : Int32} (hP : P (some (.int (bI (p_one ns as n).2.2))) (xu (xu S 26 (.inl (p_one ns as n).1)) 28 (.inl (p_one ns as n).2.1))) : xw z NK g 79 0 [(0, .ref (z + 15)), (1, .int n)] [] S P := by
  obtain ⟨h15, h16, h18, hf, hfn, hfa, ht, htn, hta⟩ := id hJ
  refine xw.steps 1 (fun _ => rfl) ?_
  refine xw.getf (o := 15) rfl h15 rfl ?_
  refine xw.steps 1 (fun _ => rfl) ?_
  show xw z NK g 79 5 [(0, .ref (z + 15)), (1, .int n)] [.int 0, .ref (z + 25)] S P
  refine xw.callO (o := 25) rfl rfl rfl ht rfl rfl (c_Code_lastNumber ht htn hta (by decide) ?_)
  show xw z NK g 79 8 [(0, .ref (z + 15)), (1, .int n)] [.int (p_l ns 0)] S P
  refine xw.steps 2 (fun _ => rfl) ?_
  refine xw.if_ rfl (fun c1 => ?_) (fun c1 => ?_)
  · have c1 := of_decide_eq_true c1
    refine xw.steps 2 (fun _ => rfl) ?_
    refine xw.icmp rfl (fun c2 => ?_) (fun c2 => ?_)
    · have c2 := of_decide_eq_true c2
      refine xw.steps 2 (fun _ => rfl) ?_
      refine xw.icmp rfl (fun c3 => ?_) (fun c3 => ?_)
      · have c3 := of_decide_eq_true c3
        refine xw.steps 1 (fun _ => rfl) ?_
        refine xw.ret rfl (fun _ => rfl) ?_
        show P (some (.int 0)) S
        first | simpa [p_one, bI, xu_same htn, xu_same hta, c1, c2, c3] using hP | simp_all [p_one, bI, xu_same htn, xu_same hta]
      · have c3 := Decidable.not_not.mp (of_decide_eq_false c3)
        refine xw.steps 2 (fun _ => rfl) ?_
        refine xw.icmp rfl (fun c4 => ?_) (fun c4 => ?_)
        · have c4 := of_decide_eq_true c4
          refine xw.steps 1 (fun _ => rfl) ?_
          refine xw.ret rfl (fun _ => rfl) ?_
          show P (some (.int 0)) S
          first | simpa [p_one, bI, xu_same htn, xu_same hta, c1, c2, c3, c4] using hP | simp_all [p_one, bI, xu_same htn, xu_same hta]
        · have c4 := Decidable.not_not.mp (of_decide_eq_false c4)
          refine xw.steps 1 (fun _ => rfl) ?_
          refine xw.getf (o := 15) rfl h15 rfl ?_
          refine xw.steps 3 (fun _ => rfl) ?_
          refine xw.getf (o := 15) rfl h15 rfl ?_
          refine xw.steps 1 (fun _ => rfl) ?_
          show xw z NK g 79 84 [(0, .ref (z + 15)), (1, .int n), (2, .int (p_l ns 0))] [.int 0, .ref (z + 25), .int 8, .int 1, .ref (z + 25)] S P
          refine xw.callO (o := 25) rfl rfl rfl ht rfl rfl (c_Code_lastArgument ht htn hta (by decide) ?_)
          show xw z NK g 79 87 [(0, .ref (z + 15)), (1, .int n), (2, .int (p_l ns 0))] [.int (p_l as 0), .int 8, .int 1, .ref (z + 25)] S P
          show xw z NK g 79 87 [(0, .ref (z + 15)), (1, .int n), (2, .int (p_l ns 0))] [.int (p_l as 0), .int 8, .int 1, .ref (z + 25)] S P
          refine xw.callS rfl rfl rfl rfl rfl (c_opposite ?_)
          show xw z NK g 79 90 [(0, .ref (z + 15)), (1, .int n), (2, .int (p_l ns 0))] [.int (a_opp (p_l as 0)), .int 8, .int 1, .ref (z + 25)] S P
          show xw z NK g 79 90 [(0, .ref (z + 15)), (1, .int n), (2, .int (p_l ns 0))] [.int (a_opp (p_l as 0)), .int 8, .int 1, .ref (z + 25)] S P
          refine xw.callO (o := 25) rfl rfl rfl ht rfl rfl (c_Code_replaceLast ht htn hta (by decide) (by first | assumption | (unfold nCut; rw [List.length_take]; omega) | exact Nat.lt_of_le_of_lt (j_arrW_len _ _ _) (by omega)) (by first | assumption | (unfold nCut; rw [List.length_take]; omega) | exact Nat.lt_of_le_of_lt (j_arrW_len _ _ _) (by omega)) ?_)
          show xw z NK g 79 93 [(0, .ref (z + 15)), (1, .int n), (2, .int (p_l ns 0))] [] (xu (xu S 26 (.inl (p_c ns 1 ++ [8]))) 28 (.inl (p_c as 1 ++ [(a_opp (p_l as 0))]))) P
          refine xw.steps 1 (fun _ => rfl) ?_
          refine xw.ret rfl (fun _ => rfl) ?_
          show P (some (.int 1)) (xu (xu S 26 (.inl (p_c ns 1 ++ [8]))) 28 (.inl (p_c as 1 ++ [(a_opp (p_l as 0))])))
          first | simpa [p_one, bI, xu_same htn, xu_same hta, c1, c2, c3, c4] using hP | simp_all [p_one, bI, xu_same htn, xu_same hta]
    · have c2 := Decidable.not_not.mp (of_decide_eq_false c2)
      refine xw.steps 1 (fun _ => rfl) ?_
      refine xw.getf (o := 15) rfl h15 rfl ?_
      show xw z NK g 79 55 [(0, .ref (z + 15)), (1, .int n), (2, .int (p_l ns 0))] [.ref (z + 25)] S P
      refine xw.callO (o := 25) rfl rfl rfl ht rfl rfl (c_Code_cutLast ht htn hta (by decide) ?_)
      show xw z NK g 79 58 [(0, .ref (z + 15)), (1, .int n), (2, .int (p_l ns 0))] [] (xu (xu S 26 (.inl ns.dropLast)) 28 (.inl as.dropLast)) P
      refine xw.steps 1 (fun _ => rfl) ?_
      refine xw.ret rfl (fun _ => rfl) ?_
      show P (some (.int 1)) (xu (xu S 26 (.inl ns.dropLast)) 28 (.inl as.dropLast))
      first | simpa [p_one, bI, xu_same htn, xu_same hta, c1, c2] using hP | simp_all [p_one, bI, xu_same htn, xu_same hta]
  · have c1 := Decidable.not_not.mp (of_decide_eq_false c1)
    refine xw.steps 1 (fun _ => rfl) ?_
    refine xw.getf (o := 15) rfl h15 rfl ?_
    refine xw.steps 1 (fun _ => rfl) ?_
    show xw z NK g 79 18 [(0, .ref (z + 15)), (1, .int n), (2, .int (p_l ns 0))] [.int 0, .ref (z + 25)] S P
    refine xw.callO (o := 25) rfl rfl rfl ht rfl rfl (c_Code_lastArgument ht htn hta (by decide) ?_)
    show xw z NK g 79 21 [(0, .ref (z + 15)), (1, .int n), (2, .int (p_l ns 0))] [.int (p_l as 0)] S P
    refine xw.steps 2 (fun _ => rfl) ?_
    refine xw.getf (o := 15) rfl h15 rfl ?_
    refine xw.steps 4 (fun _ => rfl) ?_
    refine xw.icmp rfl (fun c5 => ?_) (fun c5 => ?_)
    · have c5 := of_decide_eq_true c5
      refine xw.steps 3 (fun _ => rfl) ?_
      show xw z NK g 79 41 [(0, .ref (z + 15)), (1, .int n), (2, .int (p_l ns 0)), (3, .int (p_l as 0))] [.int ((p_l as 0) ^^^ (-1)), .int 0, .int 1, .ref (z + 25)] S P
      refine xw.callO (o := 25) rfl rfl rfl ht rfl rfl (c_Code_replaceLast ht htn hta (by decide) (by first | assumption | (unfold nCut; rw [List.length_take]; omega) | exact Nat.lt_of_le_of_lt (j_arrW_len _ _ _) (by omega)) (by first | assumption | (unfold nCut; rw [List.length_take]; omega) | exact Nat.lt_of_le_of_lt (j_arrW_len _ _ _) (by omega)) ?_)
      show xw z NK g 79 44 [(0, .ref (z + 15)), (1, .int n), (2, .int (p_l ns 0)), (3, .int (p_l as 0))] [] (xu (xu S 26 (.inl (p_c ns 1 ++ [0]))) 28 (.inl (p_c as 1 ++ [((p_l as 0) ^^^ (-1))]))) P
      refine xw.steps 1 (fun _ => rfl) ?_
      refine xw.ret rfl (fun _ => rfl) ?_
      show P (some (.int 1)) (xu (xu S 26 (.inl (p_c ns 1 ++ [0]))) 28 (.inl (p_c as 1 ++ [((p_l as 0) ^^^ (-1))])))
      first | simpa [p_one, bI, xu_same htn, xu_same hta, c1, c5] using hP | simp_all [p_one, bI, xu_same htn, xu_same hta]
    · have c5 := Decidable.not_not.mp (of_decide_eq_false c5)
      refine xw.steps 3 (fun _ => rfl) ?_
      show xw z NK g 79 41 [(0, .ref (z + 15)), (1, .int n), (2, .int (p_l ns 0)), (3, .int (p_l as 0))] [.int (-(p_l as 0)), .int 0, .int 1, .ref (z + 25)] S P
      refine xw.callO (o := 25) rfl rfl rfl ht rfl rfl (c_Code_replaceLast ht htn hta (by decide) (by first | assumption | (unfold nCut; rw [List.length_take]; omega) | exact Nat.lt_of_le_of_lt (j_arrW_len _ _ _) (by omega)) (by first | assumption | (unfold nCut; rw [List.length_take]; omega) | exact Nat.lt_of_le_of_lt (j_arrW_len _ _ _) (by omega)) ?_)
      show xw z NK g 79 44 [(0, .ref (z + 15)), (1, .int n), (2, .int (p_l ns 0)), (3, .int (p_l as 0))] [] (xu (xu S 26 (.inl (p_c ns 1 ++ [0]))) 28 (.inl (p_c as 1 ++ [(-(p_l as 0))]))) P
      refine xw.steps 1 (fun _ => rfl) ?_
      refine xw.ret rfl (fun _ => rfl) ?_
      show P (some (.int 1)) (xu (xu S 26 (.inl (p_c ns 1 ++ [0]))) 28 (.inl (p_c as 1 ++ [(-(p_l as 0))])))
      first | simpa [p_one, bI, xu_same htn, xu_same hta, c1, c5] using hP | simp_all [p_one, bI, xu_same htn, xu_same hta]
set_option maxHeartbeats 4000000 in
/-- RowCode$Improver.foldsCalculation(I)Z -/
theorem c_calc_A (hJ : iS z S 20 21 23 25 26 28 pl us fs ga ns as) (hl1 : ns.length < 131072) (hl2 : as.length < 131072) {k : Int32} (hP : P (some (.int (bI (p_calc ns as k).2.2))) (xu (xu S 26 (.inl (p_calc ns as k).1)) 28 (.inl (p_calc ns as k).2.1))) : xw z NK g 80 0 [(0, .ref (z + 15)), (1, .int k)] [] S P := by
  obtain ⟨h15, h16, h18, hf, hfn, hfa, ht, htn, hta⟩ := id hJ
  refine xw.steps 1 (fun _ => rfl) ?_
  refine xw.getf (o := 15) rfl h15 rfl ?_
  refine xw.steps 1 (fun _ => rfl) ?_
  show xw z NK g 80 5 [(0, .ref (z + 15)), (1, .int k)] [.int 0, .ref (z + 25)] S P
  refine xw.callO (o := 25) rfl rfl rfl ht rfl rfl (c_Code_lastNumber ht htn hta (by decide) ?_)
  show xw z NK g 80 8 [(0, .ref (z + 15)), (1, .int k)] [.int (p_l ns 0)] S P
  refine xw.if_ rfl (fun c1 => ?_) (fun c1 => ?_)
  · have c1 := of_decide_eq_true c1
    refine xw.steps 1 (fun _ => rfl) ?_
    refine xw.getf (o := 15) rfl h15 rfl ?_
    refine xw.steps 1 (fun _ => rfl) ?_
    show xw z NK g 80 18 [(0, .ref (z + 15)), (1, .int k)] [.int 0, .ref (z + 25)] S P
    refine xw.callO (o := 25) rfl rfl rfl ht rfl rfl (c_Code_lastArgument ht htn hta (by decide) ?_)
    show xw z NK g 80 21 [(0, .ref (z + 15)), (1, .int k)] [.int (p_l as 0)] S P
    refine xw.steps 3 (fun _ => rfl) ?_
    show xw z NK g 80 24 [(0, .ref (z + 15)), (1, .int k), (2, .int (p_l as 0))] [.int (p_l as 0), .int k] S P
    refine xw.callS rfl rfl rfl rfl rfl (c_leavesAlone ?_)
    show xw z NK g 80 27 [(0, .ref (z + 15)), (1, .int k), (2, .int (p_l as 0))] [.int (bI (a_alone k (p_l as 0)))] S P
    refine xw.if_ rfl (fun c2 => ?_) (fun c2 => ?_)
    · have c2 := bI_eq0 (of_decide_eq_true c2)
      refine xw.steps 1 (fun _ => rfl) ?_
      refine xw.getf (o := 15) rfl h15 rfl ?_
      refine xw.steps 1 (fun _ => rfl) ?_
      show xw z NK g 80 44 [(0, .ref (z + 15)), (1, .int k), (2, .int (p_l as 0))] [.int 1, .ref (z + 25)] S P
      refine xw.callO (o := 25) rfl rfl rfl ht rfl rfl (c_Code_lastNumber ht htn hta (by decide) ?_)
      show xw z NK g 80 47 [(0, .ref (z + 15)), (1, .int k), (2, .int (p_l as 0))] [.int (p_l ns 1)] S P
      refine xw.if_ rfl (fun c3 => ?_) (fun c3 => ?_)
      · have c3 := of_decide_eq_true c3
        refine xw.steps 1 (fun _ => rfl) ?_
        refine xw.ret rfl (fun _ => rfl) ?_
        show P (some (.int 0)) S
        first | simpa [p_calc, bI, xu_same htn, xu_same hta, c1, c2, c3] using hP | simp_all [p_calc, bI, xu_same htn, xu_same hta]
      · have c3 := Decidable.not_not.mp (of_decide_eq_false c3)
        refine xw.steps 1 (fun _ => rfl) ?_
        refine xw.if_ rfl (fun c4 => ?_) (fun c4 => ?_)
        · have c4 := of_decide_eq_true c4
          refine xw.steps 1 (fun _ => rfl) ?_
          refine xw.getf (o := 15) rfl h15 rfl ?_
          refine xw.steps 4 (fun _ => rfl) ?_
          refine xw.getf (o := 15) rfl h15 rfl ?_
          refine xw.steps 1 (fun _ => rfl) ?_
          show xw z NK g 80 75 [(0, .ref (z + 15)), (1, .int k), (2, .int (p_l as 0))] [.int 1, .ref (z + 25), .int k, .int 0, .int 2, .ref (z + 25)] S P
          refine xw.callO (o := 25) rfl rfl rfl ht rfl rfl (c_Code_lastArgument ht htn hta (by decide) ?_)
          show xw z NK g 80 78 [(0, .ref (z + 15)), (1, .int k), (2, .int (p_l as 0))] [.int (p_l as 1), .int k, .int 0, .int 2, .ref (z + 25)] S P
          refine xw.steps 1 (fun _ => rfl) ?_
          show xw z NK g 80 79 [(0, .ref (z + 15)), (1, .int k), (2, .int (p_l as 0))] [.int (p_l as 0), .int (p_l as 1), .int k, .int 0, .int 2, .ref (z + 25)] S P
          refine xw.callS rfl rfl rfl rfl rfl (c_calculate ?_)
          show xw z NK g 80 82 [(0, .ref (z + 15)), (1, .int k), (2, .int (p_l as 0))] [.int (a_calc k (p_l as 1) (p_l as 0)), .int 0, .int 2, .ref (z + 25)] S P
          show xw z NK g 80 82 [(0, .ref (z + 15)), (1, .int k), (2, .int (p_l as 0))] [.int (a_calc k (p_l as 1) (p_l as 0)), .int 0, .int 2, .ref (z + 25)] S P
          refine xw.callO (o := 25) rfl rfl rfl ht rfl rfl (c_Code_replaceLast ht htn hta (by decide) (by first | assumption | (unfold nCut; rw [List.length_take]; omega) | exact Nat.lt_of_le_of_lt (j_arrW_len _ _ _) (by omega)) (by first | assumption | (unfold nCut; rw [List.length_take]; omega) | exact Nat.lt_of_le_of_lt (j_arrW_len _ _ _) (by omega)) ?_)
          show xw z NK g 80 85 [(0, .ref (z + 15)), (1, .int k), (2, .int (p_l as 0))] [] (xu (xu S 26 (.inl (p_c ns 2 ++ [0]))) 28 (.inl (p_c as 2 ++ [(a_calc k (p_l as 1) (p_l as 0))]))) P
          refine xw.steps 1 (fun _ => rfl) ?_
          refine xw.ret rfl (fun _ => rfl) ?_
          show P (some (.int 1)) (xu (xu S 26 (.inl (p_c ns 2 ++ [0]))) 28 (.inl (p_c as 2 ++ [(a_calc k (p_l as 1) (p_l as 0))])))
          first | simpa [p_calc, bI, xu_same htn, xu_same hta, c1, c2, c3, c4] using hP | simp_all [p_calc, bI, xu_same htn, xu_same hta]
        · have c4 := Decidable.not_not.mp (of_decide_eq_false c4)
          refine xw.steps 1 (fun _ => rfl) ?_
          show xw z NK g 80 55 [(0, .ref (z + 15)), (1, .int k), (2, .int (p_l as 0))] [.int k] S P
          refine xw.callS rfl rfl rfl rfl rfl (c_divides ?_)
          show xw z NK g 80 58 [(0, .ref (z + 15)), (1, .int k), (2, .int (p_l as 0))] [.int (bI (a_divides k))] S P
          refine xw.if_ rfl (fun c5 => ?_) (fun c5 => ?_)
          · have c5 := bI_eq0 (of_decide_eq_true c5)
            refine xw.steps 1 (fun _ => rfl) ?_
            refine xw.getf (o := 15) rfl h15 rfl ?_
            refine xw.steps 4 (fun _ => rfl) ?_
            refine xw.getf (o := 15) rfl h15 rfl ?_
            refine xw.steps 1 (fun _ => rfl) ?_
            show xw z NK g 80 75 [(0, .ref (z + 15)), (1, .int k), (2, .int (p_l as 0))] [.int 1, .ref (z + 25), .int k, .int 0, .int 2, .ref (z + 25)] S P
            refine xw.callO (o := 25) rfl rfl rfl ht rfl rfl (c_Code_lastArgument ht htn hta (by decide) ?_)
            show xw z NK g 80 78 [(0, .ref (z + 15)), (1, .int k), (2, .int (p_l as 0))] [.int (p_l as 1), .int k, .int 0, .int 2, .ref (z + 25)] S P
            refine xw.steps 1 (fun _ => rfl) ?_
            show xw z NK g 80 79 [(0, .ref (z + 15)), (1, .int k), (2, .int (p_l as 0))] [.int (p_l as 0), .int (p_l as 1), .int k, .int 0, .int 2, .ref (z + 25)] S P
            refine xw.callS rfl rfl rfl rfl rfl (c_calculate ?_)
            show xw z NK g 80 82 [(0, .ref (z + 15)), (1, .int k), (2, .int (p_l as 0))] [.int (a_calc k (p_l as 1) (p_l as 0)), .int 0, .int 2, .ref (z + 25)] S P
            show xw z NK g 80 82 [(0, .ref (z + 15)), (1, .int k), (2, .int (p_l as 0))] [.int (a_calc k (p_l as 1) (p_l as 0)), .int 0, .int 2, .ref (z + 25)] S P
            refine xw.callO (o := 25) rfl rfl rfl ht rfl rfl (c_Code_replaceLast ht htn hta (by decide) (by first | assumption | (unfold nCut; rw [List.length_take]; omega) | exact Nat.lt_of_le_of_lt (j_arrW_len _ _ _) (by omega)) (by first | assumption | (unfold nCut; rw [List.length_take]; omega) | exact Nat.lt_of_le_of_lt (j_arrW_len _ _ _) (by omega)) ?_)
            show xw z NK g 80 85 [(0, .ref (z + 15)), (1, .int k), (2, .int (p_l as 0))] [] (xu (xu S 26 (.inl (p_c ns 2 ++ [0]))) 28 (.inl (p_c as 2 ++ [(a_calc k (p_l as 1) (p_l as 0))]))) P
            refine xw.steps 1 (fun _ => rfl) ?_
            refine xw.ret rfl (fun _ => rfl) ?_
            show P (some (.int 1)) (xu (xu S 26 (.inl (p_c ns 2 ++ [0]))) 28 (.inl (p_c as 2 ++ [(a_calc k (p_l as 1) (p_l as 0))])))
            first | simpa [p_calc, bI, xu_same htn, xu_same hta, c1, c2, c3, c4, c5] using hP | simp_all [p_calc, bI, xu_same htn, xu_same hta]
          · have c5 := bI_ne0 (of_decide_eq_false c5)
            refine xw.steps 1 (fun _ => rfl) ?_
            refine xw.ret rfl (fun _ => rfl) ?_
            show P (some (.int 0)) S
            first | simpa [p_calc, bI, xu_same htn, xu_same hta, c1, c2, c3, c4, c5] using hP | simp_all [p_calc, bI, xu_same htn, xu_same hta]
    · have c2 := bI_ne0 (of_decide_eq_false c2)
      refine xw.steps 1 (fun _ => rfl) ?_
      refine xw.getf (o := 15) rfl h15 rfl ?_
      show xw z NK g 80 34 [(0, .ref (z + 15)), (1, .int k), (2, .int (p_l as 0))] [.ref (z + 25)] S P
      refine xw.callO (o := 25) rfl rfl rfl ht rfl rfl (c_Code_cutLast ht htn hta (by decide) ?_)
      show xw z NK g 80 37 [(0, .ref (z + 15)), (1, .int k), (2, .int (p_l as 0))] [] (xu (xu S 26 (.inl ns.dropLast)) 28 (.inl as.dropLast)) P
      refine xw.steps 1 (fun _ => rfl) ?_
      refine xw.ret rfl (fun _ => rfl) ?_
      show P (some (.int 1)) (xu (xu S 26 (.inl ns.dropLast)) 28 (.inl as.dropLast))
      first | simpa [p_calc, bI, xu_same htn, xu_same hta, c1, c2] using hP | simp_all [p_calc, bI, xu_same htn, xu_same hta]
  · have c1 := of_decide_eq_false c1
    refine xw.steps 1 (fun _ => rfl) ?_
    refine xw.ret rfl (fun _ => rfl) ?_
    show P (some (.int 0)) S
    first | simpa [p_calc, bI, xu_same htn, xu_same hta, c1] using hP | simp_all [p_calc, bI, xu_same htn, xu_same hta]
set_option maxHeartbeats 4000000 in
/-- RowCode$Improver.foldsComparison(I)Z -/
theorem c_comp_A (hJ : iS z S 20 21 23 25 26 28 pl us fs ga ns as) (hl1 : ns.length < 131072) (hl2 : as.length < 131072) {k : Int32} (hP : P (some (.int (bI (p_comp ns as k).2.2))) (xu (xu S 26 (.inl (p_comp ns as k).1)) 28 (.inl (p_comp ns as k).2.1))) : xw z NK g 81 0 [(0, .ref (z + 15)), (1, .int k)] [] S P := by
  obtain ⟨h15, h16, h18, hf, hfn, hfa, ht, htn, hta⟩ := id hJ
  refine xw.steps 1 (fun _ => rfl) ?_
  refine xw.getf (o := 15) rfl h15 rfl ?_
  refine xw.steps 1 (fun _ => rfl) ?_
  show xw z NK g 81 5 [(0, .ref (z + 15)), (1, .int k)] [.int 0, .ref (z + 25)] S P
  refine xw.callO (o := 25) rfl rfl rfl ht rfl rfl (c_Code_lastNumber ht htn hta (by decide) ?_)
  show xw z NK g 81 8 [(0, .ref (z + 15)), (1, .int k)] [.int (p_l ns 0)] S P
  refine xw.if_ rfl (fun c1 => ?_) (fun c1 => ?_)
  · have c1 := of_decide_eq_true c1
    refine xw.steps 1 (fun _ => rfl) ?_
    refine xw.getf (o := 15) rfl h15 rfl ?_
    refine xw.steps 1 (fun _ => rfl) ?_
    show xw z NK g 81 18 [(0, .ref (z + 15)), (1, .int k)] [.int 0, .ref (z + 25)] S P
    refine xw.callO (o := 25) rfl rfl rfl ht rfl rfl (c_Code_lastArgument ht htn hta (by decide) ?_)
    show xw z NK g 81 21 [(0, .ref (z + 15)), (1, .int k)] [.int (p_l as 0)] S P
    refine xw.steps 2 (fun _ => rfl) ?_
    refine xw.getf (o := 15) rfl h15 rfl ?_
    refine xw.steps 1 (fun _ => rfl) ?_
    show xw z NK g 81 27 [(0, .ref (z + 15)), (1, .int k), (2, .int (p_l as 0))] [.int 1, .ref (z + 25)] S P
    refine xw.callO (o := 25) rfl rfl rfl ht rfl rfl (c_Code_lastNumber ht htn hta (by decide) ?_)
    show xw z NK g 81 30 [(0, .ref (z + 15)), (1, .int k), (2, .int (p_l as 0))] [.int (p_l ns 1)] S P
    refine xw.if_ rfl (fun c2 => ?_) (fun c2 => ?_)
    · have c2 := of_decide_eq_true c2
      refine xw.steps 1 (fun _ => rfl) ?_
      refine xw.getf (o := 15) rfl h15 rfl ?_
      refine xw.steps 1 (fun _ => rfl) ?_
      show xw z NK g 81 62 [(0, .ref (z + 15)), (1, .int k), (2, .int (p_l as 0))] [.int 1, .ref (z + 25)] S P
      refine xw.callO (o := 25) rfl rfl rfl ht rfl rfl (c_Code_lastNumber ht htn hta (by decide) ?_)
      show xw z NK g 81 65 [(0, .ref (z + 15)), (1, .int k), (2, .int (p_l as 0))] [.int (p_l ns 1)] S P
      refine xw.steps 1 (fun _ => rfl) ?_
      refine xw.icmp rfl (fun c3 => ?_) (fun c3 => ?_)
      · have c3 := of_decide_eq_true c3
        refine xw.steps 1 (fun _ => rfl) ?_
        refine xw.ret rfl (fun _ => rfl) ?_
        show P (some (.int 0)) S
        first | simpa [p_comp, bI, xu_same htn, xu_same hta, c1, c2, c3] using hP | simp_all [p_comp, bI, xu_same htn, xu_same hta]
      · have c3 := Decidable.not_not.mp (of_decide_eq_false c3)
        refine xw.steps 1 (fun _ => rfl) ?_
        refine xw.if_ rfl (fun c4 => ?_) (fun c4 => ?_)
        · have c4 := of_decide_eq_true c4
          refine xw.steps 1 (fun _ => rfl) ?_
          refine xw.ret rfl (fun _ => rfl) ?_
          show P (some (.int 0)) S
          first | simpa [p_comp, bI, xu_same htn, xu_same hta, c1, c2, c3, c4] using hP | simp_all [p_comp, bI, xu_same htn, xu_same hta]
        · have c4 := Decidable.not_not.mp (of_decide_eq_false c4)
          refine xw.steps 2 (fun _ => rfl) ?_
          refine xw.icmp rfl (fun c5 => ?_) (fun c5 => ?_)
          · have c5 := Int32.not_lt.mpr (of_decide_eq_true c5)
            refine xw.steps 1 (fun _ => rfl) ?_
            refine xw.ret rfl (fun _ => rfl) ?_
            show P (some (.int 0)) S
            first | simpa [p_comp, bI, xu_same htn, xu_same hta, c1, c2, c3, c4, c5] using hP | simp_all [p_comp, bI, xu_same htn, xu_same hta]
          · have c5 := Int32.not_le.mp (of_decide_eq_false c5)
            refine xw.steps 1 (fun _ => rfl) ?_
            refine xw.getf (o := 15) rfl h15 rfl ?_
            refine xw.steps 1 (fun _ => rfl) ?_
            show xw z NK g 81 84 [(0, .ref (z + 15)), (1, .int k), (2, .int (p_l as 0))] [.int 1, .ref (z + 25)] S P
            refine xw.callO (o := 25) rfl rfl rfl ht rfl rfl (c_Code_lastArgument ht htn hta (by decide) ?_)
            show xw z NK g 81 87 [(0, .ref (z + 15)), (1, .int k), (2, .int (p_l as 0))] [.int (p_l as 1)] S P
            refine xw.steps 2 (fun _ => rfl) ?_
            refine xw.getf (o := 15) rfl h15 rfl ?_
            refine xw.steps 3 (fun _ => rfl) ?_
            refine xw.if_ rfl (fun c6 => ?_) (fun c6 => ?_)
            · have c6 := of_decide_eq_true c6
              refine xw.steps 1 (fun _ => rfl) ?_
              show xw z NK g 81 107 [(0, .ref (z + 15)), (1, .int k), (2, .int (p_l as 0)), (3, .int (p_l as 1))] [.int (p_l as 1), .int 8, .int 2, .ref (z + 25)] S P
              refine xw.callO (o := 25) rfl rfl rfl ht rfl rfl (c_Code_replaceLast ht htn hta (by decide) (by first | assumption | (unfold nCut; rw [List.length_take]; omega) | exact Nat.lt_of_le_of_lt (j_arrW_len _ _ _) (by omega)) (by first | assumption | (unfold nCut; rw [List.length_take]; omega) | exact Nat.lt_of_le_of_lt (j_arrW_len _ _ _) (by omega)) ?_)
              show xw z NK g 81 110 [(0, .ref (z + 15)), (1, .int k), (2, .int (p_l as 0)), (3, .int (p_l as 1))] [] (xu (xu S 26 (.inl (p_c ns 2 ++ [8]))) 28 (.inl (p_c as 2 ++ [(p_l as 1)]))) P
              refine xw.steps 1 (fun _ => rfl) ?_
              refine xw.ret rfl (fun _ => rfl) ?_
              show P (some (.int 1)) (xu (xu S 26 (.inl (p_c ns 2 ++ [8]))) 28 (.inl (p_c as 2 ++ [(p_l as 1)])))
              first | simpa [p_comp, bI, xu_same htn, xu_same hta, c1, c2, c3, c4, c5, c6] using hP | simp_all [p_comp, bI, xu_same htn, xu_same hta]
            · have c6 := Decidable.not_not.mp (of_decide_eq_false c6)
              refine xw.steps 1 (fun _ => rfl) ?_
              show xw z NK g 81 100 [(0, .ref (z + 15)), (1, .int k), (2, .int (p_l as 0)), (3, .int (p_l as 1))] [.int (p_l as 1), .int 8, .int 2, .ref (z + 25)] S P
              refine xw.callS rfl rfl rfl rfl rfl (c_opposite ?_)
              show xw z NK g 81 103 [(0, .ref (z + 15)), (1, .int k), (2, .int (p_l as 0)), (3, .int (p_l as 1))] [.int (a_opp (p_l as 1)), .int 8, .int 2, .ref (z + 25)] S P
              refine xw.steps 1 (fun _ => rfl) ?_
              show xw z NK g 81 107 [(0, .ref (z + 15)), (1, .int k), (2, .int (p_l as 0)), (3, .int (p_l as 1))] [.int (a_opp (p_l as 1)), .int 8, .int 2, .ref (z + 25)] S P
              refine xw.callO (o := 25) rfl rfl rfl ht rfl rfl (c_Code_replaceLast ht htn hta (by decide) (by first | assumption | (unfold nCut; rw [List.length_take]; omega) | exact Nat.lt_of_le_of_lt (j_arrW_len _ _ _) (by omega)) (by first | assumption | (unfold nCut; rw [List.length_take]; omega) | exact Nat.lt_of_le_of_lt (j_arrW_len _ _ _) (by omega)) ?_)
              show xw z NK g 81 110 [(0, .ref (z + 15)), (1, .int k), (2, .int (p_l as 0)), (3, .int (p_l as 1))] [] (xu (xu S 26 (.inl (p_c ns 2 ++ [8]))) 28 (.inl (p_c as 2 ++ [(a_opp (p_l as 1))]))) P
              refine xw.steps 1 (fun _ => rfl) ?_
              refine xw.ret rfl (fun _ => rfl) ?_
              show P (some (.int 1)) (xu (xu S 26 (.inl (p_c ns 2 ++ [8]))) 28 (.inl (p_c as 2 ++ [(a_opp (p_l as 1))])))
              first | simpa [p_comp, bI, xu_same htn, xu_same hta, c1, c2, c3, c4, c5, c6] using hP | simp_all [p_comp, bI, xu_same htn, xu_same hta]
    · have c2 := Decidable.not_not.mp (of_decide_eq_false c2)
      refine xw.steps 1 (fun _ => rfl) ?_
      refine xw.getf (o := 15) rfl h15 rfl ?_
      refine xw.steps 4 (fun _ => rfl) ?_
      refine xw.getf (o := 15) rfl h15 rfl ?_
      refine xw.steps 1 (fun _ => rfl) ?_
      show xw z NK g 81 45 [(0, .ref (z + 15)), (1, .int k), (2, .int (p_l as 0))] [.int 1, .ref (z + 25), .int k, .int 0, .int 2, .ref (z + 25)] S P
      refine xw.callO (o := 25) rfl rfl rfl ht rfl rfl (c_Code_lastArgument ht htn hta (by decide) ?_)
      show xw z NK g 81 48 [(0, .ref (z + 15)), (1, .int k), (2, .int (p_l as 0))] [.int (p_l as 1), .int k, .int 0, .int 2, .ref (z + 25)] S P
      refine xw.steps 1 (fun _ => rfl) ?_
      show xw z NK g 81 49 [(0, .ref (z + 15)), (1, .int k), (2, .int (p_l as 0))] [.int (p_l as 0), .int (p_l as 1), .int k, .int 0, .int 2, .ref (z + 25)] S P
      refine xw.callS rfl rfl rfl rfl rfl (c_compare ?_)
      show xw z NK g 81 52 [(0, .ref (z + 15)), (1, .int k), (2, .int (p_l as 0))] [.int (a_compare k (p_l as 1) (p_l as 0)), .int 0, .int 2, .ref (z + 25)] S P
      show xw z NK g 81 52 [(0, .ref (z + 15)), (1, .int k), (2, .int (p_l as 0))] [.int (a_compare k (p_l as 1) (p_l as 0)), .int 0, .int 2, .ref (z + 25)] S P
      refine xw.callO (o := 25) rfl rfl rfl ht rfl rfl (c_Code_replaceLast ht htn hta (by decide) (by first | assumption | (unfold nCut; rw [List.length_take]; omega) | exact Nat.lt_of_le_of_lt (j_arrW_len _ _ _) (by omega)) (by first | assumption | (unfold nCut; rw [List.length_take]; omega) | exact Nat.lt_of_le_of_lt (j_arrW_len _ _ _) (by omega)) ?_)
      show xw z NK g 81 55 [(0, .ref (z + 15)), (1, .int k), (2, .int (p_l as 0))] [] (xu (xu S 26 (.inl (p_c ns 2 ++ [0]))) 28 (.inl (p_c as 2 ++ [(a_compare k (p_l as 1) (p_l as 0))]))) P
      refine xw.steps 1 (fun _ => rfl) ?_
      refine xw.ret rfl (fun _ => rfl) ?_
      show P (some (.int 1)) (xu (xu S 26 (.inl (p_c ns 2 ++ [0]))) 28 (.inl (p_c as 2 ++ [(a_compare k (p_l as 1) (p_l as 0))])))
      first | simpa [p_comp, bI, xu_same htn, xu_same hta, c1, c2] using hP | simp_all [p_comp, bI, xu_same htn, xu_same hta]
  · have c1 := of_decide_eq_false c1
    refine xw.steps 1 (fun _ => rfl) ?_
    refine xw.ret rfl (fun _ => rfl) ?_
    show P (some (.int 0)) S
    first | simpa [p_comp, bI, xu_same htn, xu_same hta, c1] using hP | simp_all [p_comp, bI, xu_same htn, xu_same hta]
set_option maxHeartbeats 4000000 in
/-- RowCode$Improver.foldsDrop()Z -/
theorem c_drop_A (hJ : iS z S 20 21 23 25 26 28 pl us fs ga ns as) (hl1 : ns.length < 131072) (hl2 : as.length < 131072) (hP : P (some (.int (bI (p_drop ns as).2.2))) (xu (xu S 26 (.inl (p_drop ns as).1)) 28 (.inl (p_drop ns as).2.1))) : xw z NK g 82 0 [(0, .ref (z + 15))] [] S P := by
  obtain ⟨h15, h16, h18, hf, hfn, hfa, ht, htn, hta⟩ := id hJ
  refine xw.steps 1 (fun _ => rfl) ?_
  refine xw.getf (o := 15) rfl h15 rfl ?_
  refine xw.steps 1 (fun _ => rfl) ?_
  show xw z NK g 82 5 [(0, .ref (z + 15))] [.int 0, .ref (z + 25)] S P
  refine xw.callO (o := 25) rfl rfl rfl ht rfl rfl (c_Code_lastNumber ht htn hta (by decide) ?_)
  show xw z NK g 82 8 [(0, .ref (z + 15))] [.int (p_l ns 0)] S P
  refine xw.steps 3 (fun _ => rfl) ?_
  refine xw.icmp rfl (fun c1 => ?_) (fun c1 => ?_)
  · have c1 := of_decide_eq_true c1
    refine xw.steps 1 (fun _ => rfl) ?_
    refine xw.getf (o := 15) rfl h15 rfl ?_
    show xw z NK g 82 24 [(0, .ref (z + 15)), (1, .int (p_l ns 0))] [.ref (z + 25)] S P
    refine xw.callO (o := 25) rfl rfl rfl ht rfl rfl (c_Code_cutLast ht htn hta (by decide) ?_)
    show xw z NK g 82 27 [(0, .ref (z + 15)), (1, .int (p_l ns 0))] [] (xu (xu S 26 (.inl ns.dropLast)) 28 (.inl as.dropLast)) P
    refine xw.steps 1 (fun _ => rfl) ?_
    refine xw.ret rfl (fun _ => rfl) ?_
    show P (some (.int 0)) (xu (xu S 26 (.inl ns.dropLast)) 28 (.inl as.dropLast))
    first | simpa [p_drop, bI, xu_same htn, xu_same hta, c1] using hP | simp_all [p_drop, bI, xu_same htn, xu_same hta]
  · have c1 := of_decide_eq_false c1
    refine xw.steps 2 (fun _ => rfl) ?_
    refine xw.icmp rfl (fun c2 => ?_) (fun c2 => ?_)
    · have c2 := of_decide_eq_true c2
      refine xw.steps 1 (fun _ => rfl) ?_
      refine xw.if_ rfl (fun c3 => ?_) (fun c3 => ?_)
      · have c3 := of_decide_eq_true c3
        refine xw.steps 1 (fun _ => rfl) ?_
        refine xw.getf (o := 15) rfl h15 rfl ?_
        show xw z NK g 82 42 [(0, .ref (z + 15)), (1, .int (p_l ns 0))] [.ref (z + 25)] S P
        refine xw.callO (o := 25) rfl rfl rfl ht rfl rfl (c_Code_cutLast ht htn hta (by decide) ?_)
        show xw z NK g 82 45 [(0, .ref (z + 15)), (1, .int (p_l ns 0))] [] (xu (xu S 26 (.inl ns.dropLast)) 28 (.inl as.dropLast)) P
        refine xw.steps 1 (fun _ => rfl) ?_
        refine xw.ret rfl (fun _ => rfl) ?_
        show P (some (.int 1)) (xu (xu S 26 (.inl ns.dropLast)) 28 (.inl as.dropLast))
        first | simpa [p_drop, bI, xu_same htn, xu_same hta, c1, c2, c3] using hP | simp_all [p_drop, bI, xu_same htn, xu_same hta]
      · have c3 := of_decide_eq_false c3
        refine xw.steps 2 (fun _ => rfl) ?_
        refine xw.icmp rfl (fun c4 => ?_) (fun c4 => ?_)
        · have c4 := of_decide_eq_true c4
          refine xw.steps 1 (fun _ => rfl) ?_
          refine xw.ret rfl (fun _ => rfl) ?_
          show P (some (.int 0)) S
          first | simpa [p_drop, bI, xu_same htn, xu_same hta, c1, c2, c3, c4] using hP | simp_all [p_drop, bI, xu_same htn, xu_same hta]
        · have c4 := Decidable.not_not.mp (of_decide_eq_false c4)
          refine xw.steps 1 (fun _ => rfl) ?_
          refine xw.getf (o := 15) rfl h15 rfl ?_
          show xw z NK g 82 42 [(0, .ref (z + 15)), (1, .int (p_l ns 0))] [.ref (z + 25)] S P
          refine xw.callO (o := 25) rfl rfl rfl ht rfl rfl (c_Code_cutLast ht htn hta (by decide) ?_)
          show xw z NK g 82 45 [(0, .ref (z + 15)), (1, .int (p_l ns 0))] [] (xu (xu S 26 (.inl ns.dropLast)) 28 (.inl as.dropLast)) P
          refine xw.steps 1 (fun _ => rfl) ?_
          refine xw.ret rfl (fun _ => rfl) ?_
          show P (some (.int 1)) (xu (xu S 26 (.inl ns.dropLast)) 28 (.inl as.dropLast))
          first | simpa [p_drop, bI, xu_same htn, xu_same hta, c1, c2, c3, c4] using hP | simp_all [p_drop, bI, xu_same htn, xu_same hta]
    · have c2 := Decidable.not_not.mp (of_decide_eq_false c2)
      refine xw.steps 1 (fun _ => rfl) ?_
      refine xw.getf (o := 15) rfl h15 rfl ?_
      show xw z NK g 82 24 [(0, .ref (z + 15)), (1, .int (p_l ns 0))] [.ref (z + 25)] S P
      refine xw.callO (o := 25) rfl rfl rfl ht rfl rfl (c_Code_cutLast ht htn hta (by decide) ?_)
      show xw z NK g 82 27 [(0, .ref (z + 15)), (1, .int (p_l ns 0))] [] (xu (xu S 26 (.inl ns.dropLast)) 28 (.inl as.dropLast)) P
      refine xw.steps 1 (fun _ => rfl) ?_
      refine xw.ret rfl (fun _ => rfl) ?_
      show P (some (.int 0)) (xu (xu S 26 (.inl ns.dropLast)) 28 (.inl as.dropLast))
      first | simpa [p_drop, bI, xu_same htn, xu_same hta, c1, c2] using hP | simp_all [p_drop, bI, xu_same htn, xu_same hta]
set_option maxHeartbeats 4000000 in
/-- RowCode$Improver.foldsCondition(II)Z -/
theorem c_cond_A (hJ : iS z S 20 21 23 25 26 28 pl us fs ga ns as) (hl1 : ns.length < 131072) (hl2 : as.length < 131072) {n k : Int32} (hP : P (some (.int (bI (p_cond ns as n k).2.2))) (xu (xu S 26 (.inl (p_cond ns as n k).1)) 28 (.inl (p_cond ns as n k).2.1))) : xw z NK g 83 0 [(0, .ref (z + 15)), (1, .int n), (2, .int k)] [] S P := by
  obtain ⟨h15, h16, h18, hf, hfn, hfa, ht, htn, hta⟩ := id hJ
  refine xw.steps 1 (fun _ => rfl) ?_
  refine xw.getf (o := 15) rfl h15 rfl ?_
  refine xw.steps 1 (fun _ => rfl) ?_
  show xw z NK g 83 5 [(0, .ref (z + 15)), (1, .int n), (2, .int k)] [.int 0, .ref (z + 25)] S P
  refine xw.callO (o := 25) rfl rfl rfl ht rfl rfl (c_Code_lastNumber ht htn hta (by decide) ?_)
  show xw z NK g 83 8 [(0, .ref (z + 15)), (1, .int n), (2, .int k)] [.int (p_l ns 0)] S P
  refine xw.if_ rfl (fun c1 => ?_) (fun c1 => ?_)
  · have c1 := of_decide_eq_true c1
    refine xw.steps 1 (fun _ => rfl) ?_
    refine xw.getf (o := 15) rfl h15 rfl ?_
    refine xw.steps 1 (fun _ => rfl) ?_
    show xw z NK g 83 67 [(0, .ref (z + 15)), (1, .int n), (2, .int k)] [.int 0, .ref (z + 25)] S P
    refine xw.callO (o := 25) rfl rfl rfl ht rfl rfl (c_Code_lastNumber ht htn hta (by decide) ?_)
    show xw z NK g 83 70 [(0, .ref (z + 15)), (1, .int n), (2, .int k)] [.int (p_l ns 0)] S P
    refine xw.steps 1 (fun _ => rfl) ?_
    refine xw.icmp rfl (fun c2 => ?_) (fun c2 => ?_)
    · have c2 := of_decide_eq_true c2
      refine xw.steps 1 (fun _ => rfl) ?_
      refine xw.getf (o := 15) rfl h15 rfl ?_
      refine xw.steps 1 (fun _ => rfl) ?_
      show xw z NK g 83 88 [(0, .ref (z + 15)), (1, .int n), (2, .int k)] [.int 0, .ref (z + 25)] S P
      refine xw.callO (o := 25) rfl rfl rfl ht rfl rfl (c_Code_lastNumber ht htn hta (by decide) ?_)
      show xw z NK g 83 91 [(0, .ref (z + 15)), (1, .int n), (2, .int k)] [.int (p_l ns 0)] S P
      refine xw.steps 1 (fun _ => rfl) ?_
      refine xw.icmp rfl (fun c3 => ?_) (fun c3 => ?_)
      · have c3 := of_decide_eq_true c3
        refine xw.steps 3 (fun _ => rfl) ?_
        refine xw.steps 1 (pc' := 168) (fun _ => rfl) ?_
        refine xw.steps 1 (fun _ => rfl) ?_
        refine xw.ret rfl (fun _ => rfl) ?_
        show P (some (.int 0)) S
        first | simpa [p_cond, bI, xu_same htn, xu_same hta, c1, c2, c3] using hP | simp_all [p_cond, bI, xu_same htn, xu_same hta]
      · have c3 := Decidable.not_not.mp (of_decide_eq_false c3)
        refine xw.steps 1 (fun _ => rfl) ?_
        refine xw.getf (o := 15) rfl h15 rfl ?_
        refine xw.steps 1 (fun _ => rfl) ?_
        show xw z NK g 83 101 [(0, .ref (z + 15)), (1, .int n), (2, .int k)] [.int 0, .ref (z + 25)] S P
        refine xw.callO (o := 25) rfl rfl rfl ht rfl rfl (c_Code_lastArgument ht htn hta (by decide) ?_)
        show xw z NK g 83 104 [(0, .ref (z + 15)), (1, .int n), (2, .int k)] [.int (p_l as 0)] S P
        refine xw.steps 1 (fun _ => rfl) ?_
        refine xw.icmp rfl (fun c4 => ?_) (fun c4 => ?_)
        · have c4 := Int32.not_lt.mpr (of_decide_eq_true c4)
          refine xw.steps 3 (fun _ => rfl) ?_
          refine xw.steps 1 (pc' := 168) (fun _ => rfl) ?_
          refine xw.steps 1 (fun _ => rfl) ?_
          refine xw.ret rfl (fun _ => rfl) ?_
          show P (some (.int 0)) S
          first | simpa [p_cond, bI, xu_same htn, xu_same hta, c1, c2, c3, c4] using hP | simp_all [p_cond, bI, xu_same htn, xu_same hta]
        · have c4 := Int32.not_le.mp (of_decide_eq_false c4)
          refine xw.steps 1 (fun _ => rfl) ?_
          refine xw.getf (o := 15) rfl h15 rfl ?_
          refine xw.steps 1 (fun _ => rfl) ?_
          show xw z NK g 83 113 [(0, .ref (z + 15)), (1, .int n), (2, .int k)] [.int 1, .ref (z + 25)] S P
          refine xw.callO (o := 25) rfl rfl rfl ht rfl rfl (c_Code_lastNumber ht htn hta (by decide) ?_)
          show xw z NK g 83 116 [(0, .ref (z + 15)), (1, .int n), (2, .int k)] [.int (p_l ns 1)] S P
          refine xw.if_ rfl (fun c5 => ?_) (fun c5 => ?_)
          · have c5 := of_decide_eq_true c5
            refine xw.steps 3 (fun _ => rfl) ?_
            refine xw.steps 1 (pc' := 168) (fun _ => rfl) ?_
            refine xw.steps 1 (fun _ => rfl) ?_
            refine xw.ret rfl (fun _ => rfl) ?_
            show P (some (.int 0)) S
            first | simpa [p_cond, bI, xu_same htn, xu_same hta, c1, c2, c3, c4, c5] using hP | simp_all [p_cond, bI, xu_same htn, xu_same hta]
          · have c5 := Decidable.not_not.mp (of_decide_eq_false c5)
            refine xw.steps 1 (fun _ => rfl) ?_
            refine xw.getf (o := 15) rfl h15 rfl ?_
            refine xw.steps 1 (fun _ => rfl) ?_
            show xw z NK g 83 124 [(0, .ref (z + 15)), (1, .int n), (2, .int k)] [.int 1, .ref (z + 25)] S P
            refine xw.callO (o := 25) rfl rfl rfl ht rfl rfl (c_Code_lastArgument ht htn hta (by decide) ?_)
            show xw z NK g 83 127 [(0, .ref (z + 15)), (1, .int n), (2, .int k)] [.int (p_l as 1)] S P
            refine xw.if_ rfl (fun c6 => ?_) (fun c6 => ?_)
            · have c6 := of_decide_eq_true c6
              refine xw.steps 3 (fun _ => rfl) ?_
              refine xw.steps 1 (pc' := 168) (fun _ => rfl) ?_
              refine xw.steps 1 (fun _ => rfl) ?_
              refine xw.ret rfl (fun _ => rfl) ?_
              show P (some (.int 0)) S
              first | simpa [p_cond, bI, xu_same htn, xu_same hta, c1, c2, c3, c4, c5, c6] using hP | simp_all [p_cond, bI, xu_same htn, xu_same hta]
            · have c6 := Decidable.not_not.mp (of_decide_eq_false c6)
              refine xw.steps 4 (fun _ => rfl) ?_
              refine xw.steps 1 (pc' := 140) (fun _ => rfl) ?_
              refine xw.steps 1 (fun _ => rfl) ?_
              refine xw.getf (o := 15) rfl h15 rfl ?_
              refine xw.steps 2 (fun _ => rfl) ?_
              refine xw.getf (o := 15) rfl h15 rfl ?_
              refine xw.steps 1 (fun _ => rfl) ?_
              show xw z NK g 83 150 [(0, .ref (z + 15)), (1, .int n), (2, .int k), (3, .int 1)] [.int 0, .ref (z + 25), .int 2, .ref (z + 25)] S P
              refine xw.callO (o := 25) rfl rfl rfl ht rfl rfl (c_Code_lastArgument ht htn hta (by decide) ?_)
              show xw z NK g 83 153 [(0, .ref (z + 15)), (1, .int n), (2, .int k), (3, .int 1)] [.int (p_l as 0), .int 2, .ref (z + 25)] S P
              refine xw.if_ rfl (fun c7 => ?_) (fun c7 => ?_)
              · have c7 := of_decide_eq_true c7
                refine xw.steps 2 (fun _ => rfl) ?_
                show xw z NK g 83 165 [(0, .ref (z + 15)), (1, .int n), (2, .int k), (3, .int 1)] [.int k, .int n, .int 2, .ref (z + 25)] S P
                refine xw.callO (o := 25) rfl rfl rfl ht rfl rfl (c_Code_replaceLast ht htn hta (by decide) (by first | assumption | (unfold nCut; rw [List.length_take]; omega) | exact Nat.lt_of_le_of_lt (j_arrW_len _ _ _) (by omega)) (by first | assumption | (unfold nCut; rw [List.length_take]; omega) | exact Nat.lt_of_le_of_lt (j_arrW_len _ _ _) (by omega)) ?_)
                show xw z NK g 83 168 [(0, .ref (z + 15)), (1, .int n), (2, .int k), (3, .int 1)] [] (xu (xu S 26 (.inl (p_c ns 2 ++ [n]))) 28 (.inl (p_c as 2 ++ [k]))) P
                refine xw.steps 1 (fun _ => rfl) ?_
                refine xw.ret rfl (fun _ => rfl) ?_
                show P (some (.int 1)) (xu (xu S 26 (.inl (p_c ns 2 ++ [n]))) 28 (.inl (p_c as 2 ++ [k])))
                first | simpa [p_cond, bI, xu_same htn, xu_same hta, c1, c2, c3, c4, c5, c6, c7] using hP | simp_all [p_cond, bI, xu_same htn, xu_same hta]
              · have c7 := Decidable.not_not.mp (of_decide_eq_false c7)
                refine xw.steps 1 (fun _ => rfl) ?_
                show xw z NK g 83 157 [(0, .ref (z + 15)), (1, .int n), (2, .int k), (3, .int 1)] [.int n, .int 2, .ref (z + 25)] S P
                refine xw.callS rfl rfl rfl rfl rfl (c_otherCondition ?_)
                show xw z NK g 83 160 [(0, .ref (z + 15)), (1, .int n), (2, .int k), (3, .int 1)] [.int (p_other n), .int 2, .ref (z + 25)] S P
                refine xw.steps 2 (fun _ => rfl) ?_
                show xw z NK g 83 165 [(0, .ref (z + 15)), (1, .int n), (2, .int k), (3, .int 1)] [.int k, .int (p_other n), .int 2, .ref (z + 25)] S P
                refine xw.callO (o := 25) rfl rfl rfl ht rfl rfl (c_Code_replaceLast ht htn hta (by decide) (by first | assumption | (unfold nCut; rw [List.length_take]; omega) | exact Nat.lt_of_le_of_lt (j_arrW_len _ _ _) (by omega)) (by first | assumption | (unfold nCut; rw [List.length_take]; omega) | exact Nat.lt_of_le_of_lt (j_arrW_len _ _ _) (by omega)) ?_)
                show xw z NK g 83 168 [(0, .ref (z + 15)), (1, .int n), (2, .int k), (3, .int 1)] [] (xu (xu S 26 (.inl (p_c ns 2 ++ [(p_other n)]))) 28 (.inl (p_c as 2 ++ [k]))) P
                refine xw.steps 1 (fun _ => rfl) ?_
                refine xw.ret rfl (fun _ => rfl) ?_
                show P (some (.int 1)) (xu (xu S 26 (.inl (p_c ns 2 ++ [(p_other n)]))) 28 (.inl (p_c as 2 ++ [k])))
                first | simpa [p_cond, bI, xu_same htn, xu_same hta, c1, c2, c3, c4, c5, c6, c7] using hP | simp_all [p_cond, bI, xu_same htn, xu_same hta]
    · have c2 := Decidable.not_not.mp (of_decide_eq_false c2)
      refine xw.steps 1 (fun _ => rfl) ?_
      refine xw.getf (o := 15) rfl h15 rfl ?_
      show xw z NK g 83 78 [(0, .ref (z + 15)), (1, .int n), (2, .int k)] [.ref (z + 25)] S P
      refine xw.callO (o := 25) rfl rfl rfl ht rfl rfl (c_Code_cutLast ht htn hta (by decide) ?_)
      show xw z NK g 83 81 [(0, .ref (z + 15)), (1, .int n), (2, .int k)] [] (xu (xu S 26 (.inl ns.dropLast)) 28 (.inl as.dropLast)) P
      refine xw.steps 1 (fun _ => rfl) ?_
      refine xw.ret rfl (fun _ => rfl) ?_
      show P (some (.int 0)) (xu (xu S 26 (.inl ns.dropLast)) 28 (.inl as.dropLast))
      first | simpa [p_cond, bI, xu_same htn, xu_same hta, c1, c2] using hP | simp_all [p_cond, bI, xu_same htn, xu_same hta]
  · have c1 := Decidable.not_not.mp (of_decide_eq_false c1)
    refine xw.steps 1 (fun _ => rfl) ?_
    refine xw.getf (o := 15) rfl h15 rfl ?_
    refine xw.steps 1 (fun _ => rfl) ?_
    show xw z NK g 83 16 [(0, .ref (z + 15)), (1, .int n), (2, .int k)] [.int 0, .ref (z + 25)] S P
    refine xw.callO (o := 25) rfl rfl rfl ht rfl rfl (c_Code_lastArgument ht htn hta (by decide) ?_)
    show xw z NK g 83 19 [(0, .ref (z + 15)), (1, .int n), (2, .int k)] [.int (p_l as 0)] S P
    refine xw.if_ rfl (fun c8 => ?_) (fun c8 => ?_)
    · have c8 := of_decide_eq_true c8
      refine xw.steps 3 (fun _ => rfl) ?_
      refine xw.getf (o := 15) rfl h15 rfl ?_
      show xw z NK g 83 32 [(0, .ref (z + 15)), (1, .int n), (2, .int k), (3, .int 0)] [.ref (z + 25)] S P
      refine xw.callO (o := 25) rfl rfl rfl ht rfl rfl (c_Code_cutLast ht htn hta (by decide) ?_)
      show xw z NK g 83 35 [(0, .ref (z + 15)), (1, .int n), (2, .int k), (3, .int 0)] [] (xu (xu S 26 (.inl ns.dropLast)) 28 (.inl as.dropLast)) P
      refine xw.steps 3 (fun _ => rfl) ?_
      refine xw.icmp rfl (fun c9 => ?_) (fun c9 => ?_)
      · have c9 := of_decide_eq_true c9
        refine xw.steps 1 (fun _ => rfl) ?_
        refine xw.steps 1 (pc' := 50) (fun _ => rfl) ?_
        refine xw.steps 1 (fun _ => rfl) ?_
        refine xw.getf (o := 15) rfl ((xu_ne _ _ (by decide)).trans ((xu_ne _ _ (by decide)).trans h15)) rfl ?_
        refine xw.steps 2 (fun _ => rfl) ?_
        show xw z NK g 83 57 [(0, .ref (z + 15)), (1, .int n), (2, .int k), (3, .int 0)] [.int k, .int 10, .ref (z + 25)] (xu (xu S 26 (.inl ns.dropLast)) 28 (.inl as.dropLast)) P
        refine xw.callO (o := 25) rfl rfl rfl ((xu_ne _ _ (by decide)).trans ((xu_ne _ _ (by decide)).trans ht)) rfl rfl (c_Code_append ((xu_ne _ _ (by decide)).trans ((xu_ne _ _ (by decide)).trans ht)) ((xu_ne _ _ (by decide)).trans (xu_self _ _ _)) (xu_self _ _ _) (by decide) (by rw [List.length_dropLast]; omega) (by rw [List.length_dropLast]; omega) ?_)
        show xw z NK g 83 60 [(0, .ref (z + 15)), (1, .int n), (2, .int k), (3, .int 0)] [] (xu (xu (xu (xu S 26 (.inl ns.dropLast)) 28 (.inl as.dropLast)) 26 (.inl (ns.dropLast ++ [10]))) 28 (.inl (as.dropLast ++ [k]))) P
        rw [xu4 _ (show (26 : Nat) ≠ 28 by decide)]
        refine xw.steps 1 (fun _ => rfl) ?_
        refine xw.ret rfl (fun _ => rfl) ?_
        show P (some (.int 1)) (xu (xu S 26 (.inl (ns.dropLast ++ [10]))) 28 (.inl (as.dropLast ++ [k])))
        first | simpa [p_cond, bI, xu_same htn, xu_same hta, c1, c8, c9] using hP | simp_all [p_cond, bI, xu_same htn, xu_same hta]
      · have c9 := Decidable.not_not.mp (of_decide_eq_false c9)
        refine xw.steps 2 (fun _ => rfl) ?_
        refine xw.steps 1 (pc' := 60) (fun _ => rfl) ?_
        refine xw.steps 1 (fun _ => rfl) ?_
        refine xw.ret rfl (fun _ => rfl) ?_
        show P (some (.int 1)) (xu (xu S 26 (.inl ns.dropLast)) 28 (.inl as.dropLast))
        first | simpa [p_cond, bI, xu_same htn, xu_same hta, c1, c8, c9] using hP | simp_all [p_cond, bI, xu_same htn, xu_same hta]
    · have c8 := Decidable.not_not.mp (of_decide_eq_false c8)
      refine xw.steps 4 (fun _ => rfl) ?_
      refine xw.getf (o := 15) rfl h15 rfl ?_
      show xw z NK g 83 32 [(0, .ref (z + 15)), (1, .int n), (2, .int k), (3, .int 1)] [.ref (z + 25)] S P
      refine xw.callO (o := 25) rfl rfl rfl ht rfl rfl (c_Code_cutLast ht htn hta (by decide) ?_)
      show xw z NK g 83 35 [(0, .ref (z + 15)), (1, .int n), (2, .int k), (3, .int 1)] [] (xu (xu S 26 (.inl ns.dropLast)) 28 (.inl as.dropLast)) P
      refine xw.steps 3 (fun _ => rfl) ?_
      refine xw.icmp rfl (fun c10 => ?_) (fun c10 => ?_)
      · have c10 := of_decide_eq_true c10
        refine xw.steps 1 (fun _ => rfl) ?_
        refine xw.steps 1 (pc' := 60) (fun _ => rfl) ?_
        refine xw.steps 1 (fun _ => rfl) ?_
        refine xw.ret rfl (fun _ => rfl) ?_
        show P (some (.int 1)) (xu (xu S 26 (.inl ns.dropLast)) 28 (.inl as.dropLast))
        first | simpa [p_cond, bI, xu_same htn, xu_same hta, c1, c8, c10] using hP | simp_all [p_cond, bI, xu_same htn, xu_same hta]
      · have c10 := Decidable.not_not.mp (of_decide_eq_false c10)
        refine xw.steps 2 (fun _ => rfl) ?_
        refine xw.steps 1 (pc' := 50) (fun _ => rfl) ?_
        refine xw.steps 1 (fun _ => rfl) ?_
        refine xw.getf (o := 15) rfl ((xu_ne _ _ (by decide)).trans ((xu_ne _ _ (by decide)).trans h15)) rfl ?_
        refine xw.steps 2 (fun _ => rfl) ?_
        show xw z NK g 83 57 [(0, .ref (z + 15)), (1, .int n), (2, .int k), (3, .int 1)] [.int k, .int 10, .ref (z + 25)] (xu (xu S 26 (.inl ns.dropLast)) 28 (.inl as.dropLast)) P
        refine xw.callO (o := 25) rfl rfl rfl ((xu_ne _ _ (by decide)).trans ((xu_ne _ _ (by decide)).trans ht)) rfl rfl (c_Code_append ((xu_ne _ _ (by decide)).trans ((xu_ne _ _ (by decide)).trans ht)) ((xu_ne _ _ (by decide)).trans (xu_self _ _ _)) (xu_self _ _ _) (by decide) (by rw [List.length_dropLast]; omega) (by rw [List.length_dropLast]; omega) ?_)
        show xw z NK g 83 60 [(0, .ref (z + 15)), (1, .int n), (2, .int k), (3, .int 1)] [] (xu (xu (xu (xu S 26 (.inl ns.dropLast)) 28 (.inl as.dropLast)) 26 (.inl (ns.dropLast ++ [10]))) 28 (.inl (as.dropLast ++ [k]))) P
        rw [xu4 _ (show (26 : Nat) ≠ 28 by decide)]
        refine xw.steps 1 (fun _ => rfl) ?_
        refine xw.ret rfl (fun _ => rfl) ?_
        show P (some (.int 1)) (xu (xu S 26 (.inl (ns.dropLast ++ [10]))) 28 (.inl (as.dropLast ++ [k])))
        first | simpa [p_cond, bI, xu_same htn, xu_same hta, c1, c8, c10] using hP | simp_all [p_cond, bI, xu_same htn, xu_same hta]
set_option maxHeartbeats 4000000 in
/-- RowCode$Improver.shortenWayTo(I)V -/
theorem c_short_A (hJ : iS z S 20 21 23 25 26 28 pl us fs ga ns as) (hl1 : ns.length < 131072) (hl2 : as.length < 131072) {k : Int32} (hP : P none (xu (xu S 26 (.inl (p_short ns as k).1)) 28 (.inl (p_short ns as k).2))) : xw z NK g 85 0 [(0, .ref (z + 15)), (1, .int k)] [] S P := by
  obtain ⟨h15, h16, h18, hf, hfn, hfa, ht, htn, hta⟩ := id hJ
  refine xw.steps 1 (fun _ => rfl) ?_
  refine xw.getf (o := 15) rfl h15 rfl ?_
  refine xw.steps 1 (fun _ => rfl) ?_
  show xw z NK g 85 5 [(0, .ref (z + 15)), (1, .int k)] [.int 0, .ref (z + 25)] S P
  refine xw.callO (o := 25) rfl rfl rfl ht rfl rfl (c_Code_lastNumber ht htn hta (by decide) ?_)
  show xw z NK g 85 8 [(0, .ref (z + 15)), (1, .int k)] [.int (p_l ns 0)] S P
  refine xw.steps 1 (fun _ => rfl) ?_
  refine xw.icmp rfl (fun c1 => ?_) (fun c1 => ?_)
  · have c1 := of_decide_eq_true c1
    refine xw.steps 3 (fun _ => rfl) ?_
    refine xw.steps 1 (pc' := 27) (fun _ => rfl) ?_
    refine xw.steps 3 (fun _ => rfl) ?_
    refine xw.getf (o := 15) rfl h15 rfl ?_
    refine xw.steps 1 (fun _ => rfl) ?_
    show xw z NK g 85 34 [(0, .ref (z + 15)), (1, .int k), (2, .int 0), (3, .int 0)] [.int 0, .ref (z + 25)] S P
    refine xw.callO (o := 25) rfl rfl rfl ht rfl rfl (c_Code_lastNumber ht htn hta (by decide) ?_)
    show xw z NK g 85 37 [(0, .ref (z + 15)), (1, .int k), (2, .int 0), (3, .int 0)] [.int (p_l ns 0)] S P
    show xw z NK g 85 37 [(0, .ref (z + 15)), (1, .int k), (2, .int 0), (3, .int 0)] [.int (p_l ns 0)] S P
    refine xw.callS rfl rfl rfl rfl rfl (c_isCondition ?_)
    show xw z NK g 85 40 [(0, .ref (z + 15)), (1, .int k), (2, .int 0), (3, .int 0)] [.int (bI (t_cond (p_l ns 0)))] S P
    refine xw.if_ rfl (fun c2 => ?_) (fun c2 => ?_)
    · have c2 := bI_eq0 (of_decide_eq_true c2)
      refine xw.steps 3 (fun _ => rfl) ?_
      refine xw.steps 1 (pc' := 103) (fun _ => rfl) ?_
      refine xw.steps 1 (fun _ => rfl) ?_
      refine xw.steps 1 (pc' := 142) (fun _ => rfl) ?_
      refine xw.steps 1 (fun _ => rfl) ?_
      refine xw.steps 1 (pc' := 158) (fun _ => rfl) ?_
      refine xw.ret rfl (fun _ => rfl) ?_
      show P none S
      first | simpa [p_short, bI, xu_same htn, xu_same hta, c1, c2] using hP | simp_all [p_short, bI, xu_same htn, xu_same hta]
    · have c2 := bI_ne0 (of_decide_eq_false c2)
      refine xw.steps 1 (fun _ => rfl) ?_
      refine xw.getf (o := 15) rfl h15 rfl ?_
      refine xw.steps 1 (fun _ => rfl) ?_
      show xw z NK g 85 48 [(0, .ref (z + 15)), (1, .int k), (2, .int 0), (3, .int 0)] [.int 0, .ref (z + 25)] S P
      refine xw.callO (o := 25) rfl rfl rfl ht rfl rfl (c_Code_lastArgument ht htn hta (by decide) ?_)
      show xw z NK g 85 51 [(0, .ref (z + 15)), (1, .int k), (2, .int 0), (3, .int 0)] [.int (p_l as 0)] S P
      refine xw.steps 1 (fun _ => rfl) ?_
      refine xw.icmp rfl (fun c3 => ?_) (fun c3 => ?_)
      · have c3 := of_decide_eq_true c3
        refine xw.steps 3 (fun _ => rfl) ?_
        refine xw.steps 1 (pc' := 103) (fun _ => rfl) ?_
        refine xw.steps 1 (fun _ => rfl) ?_
        refine xw.steps 1 (pc' := 142) (fun _ => rfl) ?_
        refine xw.steps 1 (fun _ => rfl) ?_
        refine xw.steps 1 (pc' := 158) (fun _ => rfl) ?_
        refine xw.ret rfl (fun _ => rfl) ?_
        show P none S
        first | simpa [p_short, bI, xu_same htn, xu_same hta, c1, c2, c3] using hP | simp_all [p_short, bI, xu_same htn, xu_same hta]
      · have c3 := Decidable.not_not.mp (of_decide_eq_false c3)
        refine xw.steps 1 (fun _ => rfl) ?_
        refine xw.getf (o := 15) rfl h15 rfl ?_
        refine xw.steps 3 (fun _ => rfl) ?_
        show xw z NK g 85 62 [(0, .ref (z + 15)), (1, .int k), (2, .int 0), (3, .int 0)] [.int (0 + 1), .ref (z + 25)] S P
        refine xw.callO (o := 25) rfl rfl rfl ht rfl rfl (c_Code_lastNumber ht htn hta (by decide) ?_)
        show xw z NK g 85 65 [(0, .ref (z + 15)), (1, .int k), (2, .int 0), (3, .int 0)] [.int (p_l ns (0 + 1))] S P
        refine xw.steps 1 (fun _ => rfl) ?_
        refine xw.icmp rfl (fun c4 => ?_) (fun c4 => ?_)
        · have c4 := of_decide_eq_true c4
          refine xw.steps 3 (fun _ => rfl) ?_
          refine xw.steps 1 (pc' := 103) (fun _ => rfl) ?_
          refine xw.steps 1 (fun _ => rfl) ?_
          refine xw.steps 1 (pc' := 142) (fun _ => rfl) ?_
          refine xw.steps 1 (fun _ => rfl) ?_
          refine xw.steps 1 (pc' := 158) (fun _ => rfl) ?_
          refine xw.ret rfl (fun _ => rfl) ?_
          show P none S
          first | simpa [p_short, bI, xu_same htn, xu_same hta, c1, c2, c3, c4] using hP | simp_all [p_short, bI, xu_same htn, xu_same hta]
        · have c4 := of_decide_eq_false c4
          refine xw.steps 4 (fun _ => rfl) ?_
          refine xw.steps 1 (pc' := 103) (fun _ => rfl) ?_
          refine xw.steps 1 (fun _ => rfl) ?_
          refine xw.steps 1 (pc' := 142) (fun _ => rfl) ?_
          refine xw.steps 1 (fun _ => rfl) ?_
          refine xw.steps 1 (pc' := 147) (fun _ => rfl) ?_
          refine xw.steps 1 (fun _ => rfl) ?_
          refine xw.getf (o := 15) rfl h15 rfl ?_
          refine xw.steps 3 (fun _ => rfl) ?_
          show xw z NK g 85 155 [(0, .ref (z + 15)), (1, .int k), (2, .int 0), (3, .int 0), (4, .int 1)] [.int 0, .int 14, .int 1, .ref (z + 25)] S P
          refine xw.callO (o := 25) rfl rfl rfl ht rfl rfl (c_Code_replaceLast ht htn hta (by decide) (by first | assumption | (unfold nCut; rw [List.length_take]; omega) | exact Nat.lt_of_le_of_lt (j_arrW_len _ _ _) (by omega)) (by first | assumption | (unfold nCut; rw [List.length_take]; omega) | exact Nat.lt_of_le_of_lt (j_arrW_len _ _ _) (by omega)) ?_)
          show xw z NK g 85 158 [(0, .ref (z + 15)), (1, .int k), (2, .int 0), (3, .int 0), (4, .int 1)] [] (xu (xu S 26 (.inl (p_c ns 1 ++ [14]))) 28 (.inl (p_c as 1 ++ [0]))) P
          refine xw.ret rfl (fun _ => rfl) ?_
          show P none (xu (xu S 26 (.inl (p_c ns 1 ++ [14]))) 28 (.inl (p_c as 1 ++ [0])))
          first | simpa [p_short, bI, xu_same htn, xu_same hta, c1, c2, c3, c4] using hP | simp_all [p_short, bI, xu_same htn, xu_same hta]
  · have c1 := Decidable.not_not.mp (of_decide_eq_false c1)
    refine xw.steps 4 (fun _ => rfl) ?_
    refine xw.steps 1 (pc' := 23) (fun _ => rfl) ?_
    refine xw.steps 4 (fun _ => rfl) ?_
    refine xw.getf (o := 15) rfl h15 rfl ?_
    refine xw.steps 1 (fun _ => rfl) ?_
    show xw z NK g 85 34 [(0, .ref (z + 15)), (1, .int k), (2, .int 1), (3, .int 1)] [.int 1, .ref (z + 25)] S P
    refine xw.callO (o := 25) rfl rfl rfl ht rfl rfl (c_Code_lastNumber ht htn hta (by decide) ?_)
    show xw z NK g 85 37 [(0, .ref (z + 15)), (1, .int k), (2, .int 1), (3, .int 1)] [.int (p_l ns 1)] S P
    show xw z NK g 85 37 [(0, .ref (z + 15)), (1, .int k), (2, .int 1), (3, .int 1)] [.int (p_l ns 1)] S P
    refine xw.callS rfl rfl rfl rfl rfl (c_isCondition ?_)
    show xw z NK g 85 40 [(0, .ref (z + 15)), (1, .int k), (2, .int 1), (3, .int 1)] [.int (bI (t_cond (p_l ns 1)))] S P
    refine xw.if_ rfl (fun c5 => ?_) (fun c5 => ?_)
    · have c5 := bI_eq0 (of_decide_eq_true c5)
      refine xw.steps 3 (fun _ => rfl) ?_
      refine xw.steps 1 (pc' := 81) (fun _ => rfl) ?_
      refine xw.steps 1 (fun _ => rfl) ?_
      refine xw.getf (o := 15) rfl h15 rfl ?_
      refine xw.steps 1 (fun _ => rfl) ?_
      show xw z NK g 85 86 [(0, .ref (z + 15)), (1, .int k), (2, .int 1), (3, .int 1), (4, .int 0)] [.int 0, .ref (z + 25)] S P
      refine xw.callO (o := 25) rfl rfl rfl ht rfl rfl (c_Code_lastArgument ht htn hta (by decide) ?_)
      show xw z NK g 85 89 [(0, .ref (z + 15)), (1, .int k), (2, .int 1), (3, .int 1), (4, .int 0)] [.int (p_l as 0)] S P
      refine xw.steps 1 (fun _ => rfl) ?_
      refine xw.icmp rfl (fun c6 => ?_) (fun c6 => ?_)
      · have c6 := of_decide_eq_true c6
        refine xw.steps 1 (fun _ => rfl) ?_
        refine xw.steps 1 (pc' := 107) (fun _ => rfl) ?_
        refine xw.steps 1 (fun _ => rfl) ?_
        refine xw.steps 1 (pc' := 142) (fun _ => rfl) ?_
        refine xw.steps 1 (fun _ => rfl) ?_
        refine xw.steps 1 (pc' := 158) (fun _ => rfl) ?_
        refine xw.ret rfl (fun _ => rfl) ?_
        show P none S
        first | simpa [p_short, bI, xu_same htn, xu_same hta, c1, c5, c6] using hP | simp_all [p_short, bI, xu_same htn, xu_same hta]
      · have c6 := Decidable.not_not.mp (of_decide_eq_false c6)
        refine xw.steps 1 (fun _ => rfl) ?_
        refine xw.getf (o := 15) rfl h15 rfl ?_
        show xw z NK g 85 97 [(0, .ref (z + 15)), (1, .int k), (2, .int 1), (3, .int 1), (4, .int 0)] [.ref (z + 25)] S P
        refine xw.callO (o := 25) rfl rfl rfl ht rfl rfl (c_Code_cutLast ht htn hta (by decide) ?_)
        show xw z NK g 85 100 [(0, .ref (z + 15)), (1, .int k), (2, .int 1), (3, .int 1), (4, .int 0)] [] (xu (xu S 26 (.inl ns.dropLast)) 28 (.inl as.dropLast)) P
        refine xw.steps 1 (fun _ => rfl) ?_
        refine xw.ret rfl (fun _ => rfl) ?_
        show P none (xu (xu S 26 (.inl ns.dropLast)) 28 (.inl as.dropLast))
        first | simpa [p_short, bI, xu_same htn, xu_same hta, c1, c5, c6] using hP | simp_all [p_short, bI, xu_same htn, xu_same hta]
    · have c5 := bI_ne0 (of_decide_eq_false c5)
      refine xw.steps 1 (fun _ => rfl) ?_
      refine xw.getf (o := 15) rfl h15 rfl ?_
      refine xw.steps 1 (fun _ => rfl) ?_
      show xw z NK g 85 48 [(0, .ref (z + 15)), (1, .int k), (2, .int 1), (3, .int 1)] [.int 1, .ref (z + 25)] S P
      refine xw.callO (o := 25) rfl rfl rfl ht rfl rfl (c_Code_lastArgument ht htn hta (by decide) ?_)
      show xw z NK g 85 51 [(0, .ref (z + 15)), (1, .int k), (2, .int 1), (3, .int 1)] [.int (p_l as 1)] S P
      refine xw.steps 1 (fun _ => rfl) ?_
      refine xw.icmp rfl (fun c7 => ?_) (fun c7 => ?_)
      · have c7 := of_decide_eq_true c7
        refine xw.steps 3 (fun _ => rfl) ?_
        refine xw.steps 1 (pc' := 81) (fun _ => rfl) ?_
        refine xw.steps 1 (fun _ => rfl) ?_
        refine xw.getf (o := 15) rfl h15 rfl ?_
        refine xw.steps 1 (fun _ => rfl) ?_
        show xw z NK g 85 86 [(0, .ref (z + 15)), (1, .int k), (2, .int 1), (3, .int 1), (4, .int 0)] [.int 0, .ref (z + 25)] S P
        refine xw.callO (o := 25) rfl rfl rfl ht rfl rfl (c_Code_lastArgument ht htn hta (by decide) ?_)
        show xw z NK g 85 89 [(0, .ref (z + 15)), (1, .int k), (2, .int 1), (3, .int 1), (4, .int 0)] [.int (p_l as 0)] S P
        refine xw.steps 1 (fun _ => rfl) ?_
        refine xw.icmp rfl (fun c8 => ?_) (fun c8 => ?_)
        · have c8 := of_decide_eq_true c8
          refine xw.steps 1 (fun _ => rfl) ?_
          refine xw.steps 1 (pc' := 107) (fun _ => rfl) ?_
          refine xw.steps 1 (fun _ => rfl) ?_
          refine xw.steps 1 (pc' := 142) (fun _ => rfl) ?_
          refine xw.steps 1 (fun _ => rfl) ?_
          refine xw.steps 1 (pc' := 158) (fun _ => rfl) ?_
          refine xw.ret rfl (fun _ => rfl) ?_
          show P none S
          first | simpa [p_short, bI, xu_same htn, xu_same hta, c1, c5, c7, c8] using hP | simp_all [p_short, bI, xu_same htn, xu_same hta]
        · have c8 := Decidable.not_not.mp (of_decide_eq_false c8)
          refine xw.steps 1 (fun _ => rfl) ?_
          refine xw.getf (o := 15) rfl h15 rfl ?_
          show xw z NK g 85 97 [(0, .ref (z + 15)), (1, .int k), (2, .int 1), (3, .int 1), (4, .int 0)] [.ref (z + 25)] S P
          refine xw.callO (o := 25) rfl rfl rfl ht rfl rfl (c_Code_cutLast ht htn hta (by decide) ?_)
          show xw z NK g 85 100 [(0, .ref (z + 15)), (1, .int k), (2, .int 1), (3, .int 1), (4, .int 0)] [] (xu (xu S 26 (.inl ns.dropLast)) 28 (.inl as.dropLast)) P
          refine xw.steps 1 (fun _ => rfl) ?_
          refine xw.ret rfl (fun _ => rfl) ?_
          show P none (xu (xu S 26 (.inl ns.dropLast)) 28 (.inl as.dropLast))
          first | simpa [p_short, bI, xu_same htn, xu_same hta, c1, c5, c7, c8] using hP | simp_all [p_short, bI, xu_same htn, xu_same hta]
      · have c7 := Decidable.not_not.mp (of_decide_eq_false c7)
        refine xw.steps 1 (fun _ => rfl) ?_
        refine xw.getf (o := 15) rfl h15 rfl ?_
        refine xw.steps 3 (fun _ => rfl) ?_
        show xw z NK g 85 62 [(0, .ref (z + 15)), (1, .int k), (2, .int 1), (3, .int 1)] [.int (1 + 1), .ref (z + 25)] S P
        refine xw.callO (o := 25) rfl rfl rfl ht rfl rfl (c_Code_lastNumber ht htn hta (by decide) ?_)
        show xw z NK g 85 65 [(0, .ref (z + 15)), (1, .int k), (2, .int 1), (3, .int 1)] [.int (p_l ns (1 + 1))] S P
        refine xw.steps 1 (fun _ => rfl) ?_
        refine xw.icmp rfl (fun c9 => ?_) (fun c9 => ?_)
        · have c9 := of_decide_eq_true c9
          refine xw.steps 3 (fun _ => rfl) ?_
          refine xw.steps 1 (pc' := 81) (fun _ => rfl) ?_
          refine xw.steps 1 (fun _ => rfl) ?_
          refine xw.getf (o := 15) rfl h15 rfl ?_
          refine xw.steps 1 (fun _ => rfl) ?_
          show xw z NK g 85 86 [(0, .ref (z + 15)), (1, .int k), (2, .int 1), (3, .int 1), (4, .int 0)] [.int 0, .ref (z + 25)] S P
          refine xw.callO (o := 25) rfl rfl rfl ht rfl rfl (c_Code_lastArgument ht htn hta (by decide) ?_)
          show xw z NK g 85 89 [(0, .ref (z + 15)), (1, .int k), (2, .int 1), (3, .int 1), (4, .int 0)] [.int (p_l as 0)] S P
          refine xw.steps 1 (fun _ => rfl) ?_
          refine xw.icmp rfl (fun c10 => ?_) (fun c10 => ?_)
          · have c10 := of_decide_eq_true c10
            refine xw.steps 1 (fun _ => rfl) ?_
            refine xw.steps 1 (pc' := 107) (fun _ => rfl) ?_
            refine xw.steps 1 (fun _ => rfl) ?_
            refine xw.steps 1 (pc' := 142) (fun _ => rfl) ?_
            refine xw.steps 1 (fun _ => rfl) ?_
            refine xw.steps 1 (pc' := 158) (fun _ => rfl) ?_
            refine xw.ret rfl (fun _ => rfl) ?_
            show P none S
            first | simpa [p_short, bI, xu_same htn, xu_same hta, c1, c5, c7, c9, c10] using hP | simp_all [p_short, bI, xu_same htn, xu_same hta]
          · have c10 := Decidable.not_not.mp (of_decide_eq_false c10)
            refine xw.steps 1 (fun _ => rfl) ?_
            refine xw.getf (o := 15) rfl h15 rfl ?_
            show xw z NK g 85 97 [(0, .ref (z + 15)), (1, .int k), (2, .int 1), (3, .int 1), (4, .int 0)] [.ref (z + 25)] S P
            refine xw.callO (o := 25) rfl rfl rfl ht rfl rfl (c_Code_cutLast ht htn hta (by decide) ?_)
            show xw z NK g 85 100 [(0, .ref (z + 15)), (1, .int k), (2, .int 1), (3, .int 1), (4, .int 0)] [] (xu (xu S 26 (.inl ns.dropLast)) 28 (.inl as.dropLast)) P
            refine xw.steps 1 (fun _ => rfl) ?_
            refine xw.ret rfl (fun _ => rfl) ?_
            show P none (xu (xu S 26 (.inl ns.dropLast)) 28 (.inl as.dropLast))
            first | simpa [p_short, bI, xu_same htn, xu_same hta, c1, c5, c7, c9, c10] using hP | simp_all [p_short, bI, xu_same htn, xu_same hta]
        · have c9 := of_decide_eq_false c9
          refine xw.steps 4 (fun _ => rfl) ?_
          refine xw.steps 1 (pc' := 81) (fun _ => rfl) ?_
          refine xw.steps 1 (fun _ => rfl) ?_
          refine xw.getf (o := 15) rfl h15 rfl ?_
          refine xw.steps 1 (fun _ => rfl) ?_
          show xw z NK g 85 86 [(0, .ref (z + 15)), (1, .int k), (2, .int 1), (3, .int 1), (4, .int 1)] [.int 0, .ref (z + 25)] S P
          refine xw.callO (o := 25) rfl rfl rfl ht rfl rfl (c_Code_lastArgument ht htn hta (by decide) ?_)
          show xw z NK g 85 89 [(0, .ref (z + 15)), (1, .int k), (2, .int 1), (3, .int 1), (4, .int 1)] [.int (p_l as 0)] S P
          refine xw.steps 1 (fun _ => rfl) ?_
          refine xw.icmp rfl (fun c11 => ?_) (fun c11 => ?_)
          · have c11 := of_decide_eq_true c11
            refine xw.steps 1 (fun _ => rfl) ?_
            refine xw.steps 1 (pc' := 107) (fun _ => rfl) ?_
            refine xw.steps 1 (fun _ => rfl) ?_
            refine xw.steps 1 (pc' := 112) (fun _ => rfl) ?_
            refine xw.steps 1 (fun _ => rfl) ?_
            refine xw.getf (o := 15) rfl h15 rfl ?_
            refine xw.steps 2 (fun _ => rfl) ?_
            refine xw.getf (o := 15) rfl h15 rfl ?_
            refine xw.steps 1 (fun _ => rfl) ?_
            show xw z NK g 85 122 [(0, .ref (z + 15)), (1, .int k), (2, .int 1), (3, .int 1), (4, .int 1)] [.int 1, .ref (z + 25), .int 2, .ref (z + 25)] S P
            refine xw.callO (o := 25) rfl rfl rfl ht rfl rfl (c_Code_lastNumber ht htn hta (by decide) ?_)
            show xw z NK g 85 125 [(0, .ref (z + 15)), (1, .int k), (2, .int 1), (3, .int 1), (4, .int 1)] [.int (p_l ns 1), .int 2, .ref (z + 25)] S P
            show xw z NK g 85 125 [(0, .ref (z + 15)), (1, .int k), (2, .int 1), (3, .int 1), (4, .int 1)] [.int (p_l ns 1), .int 2, .ref (z + 25)] S P
            refine xw.callS rfl rfl rfl rfl rfl (c_otherCondition ?_)
            show xw z NK g 85 128 [(0, .ref (z + 15)), (1, .int k), (2, .int 1), (3, .int 1), (4, .int 1)] [.int (p_other (p_l ns 1)), .int 2, .ref (z + 25)] S P
            refine xw.steps 1 (fun _ => rfl) ?_
            refine xw.getf (o := 15) rfl h15 rfl ?_
            refine xw.steps 1 (fun _ => rfl) ?_
            show xw z NK g 85 133 [(0, .ref (z + 15)), (1, .int k), (2, .int 1), (3, .int 1), (4, .int 1)] [.int 0, .ref (z + 25), .int (p_other (p_l ns 1)), .int 2, .ref (z + 25)] S P
            refine xw.callO (o := 25) rfl rfl rfl ht rfl rfl (c_Code_lastArgument ht htn hta (by decide) ?_)
            show xw z NK g 85 136 [(0, .ref (z + 15)), (1, .int k), (2, .int 1), (3, .int 1), (4, .int 1)] [.int (p_l as 0), .int (p_other (p_l ns 1)), .int 2, .ref (z + 25)] S P
            show xw z NK g 85 136 [(0, .ref (z + 15)), (1, .int k), (2, .int 1), (3, .int 1), (4, .int 1)] [.int (p_l as 0), .int (p_other (p_l ns 1)), .int 2, .ref (z + 25)] S P
            refine xw.callO (o := 25) rfl rfl rfl ht rfl rfl (c_Code_replaceLast ht htn hta (by decide) (by first | assumption | (unfold nCut; rw [List.length_take]; omega) | exact Nat.lt_of_le_of_lt (j_arrW_len _ _ _) (by omega)) (by first | assumption | (unfold nCut; rw [List.length_take]; omega) | exact Nat.lt_of_le_of_lt (j_arrW_len _ _ _) (by omega)) ?_)
            show xw z NK g 85 139 [(0, .ref (z + 15)), (1, .int k), (2, .int 1), (3, .int 1), (4, .int 1)] [] (xu (xu S 26 (.inl (p_c ns 2 ++ [(p_other (p_l ns 1))]))) 28 (.inl (p_c as 2 ++ [(p_l as 0)]))) P
            refine xw.steps 1 (fun _ => rfl) ?_
            refine xw.ret rfl (fun _ => rfl) ?_
            show P none (xu (xu S 26 (.inl (p_c ns 2 ++ [(p_other (p_l ns 1))]))) 28 (.inl (p_c as 2 ++ [(p_l as 0)])))
            first | simpa [p_short, bI, xu_same htn, xu_same hta, c1, c5, c7, c9, c11] using hP | simp_all [p_short, bI, xu_same htn, xu_same hta]
          · have c11 := Decidable.not_not.mp (of_decide_eq_false c11)
            refine xw.steps 1 (fun _ => rfl) ?_
            refine xw.getf (o := 15) rfl h15 rfl ?_
            show xw z NK g 85 97 [(0, .ref (z + 15)), (1, .int k), (2, .int 1), (3, .int 1), (4, .int 1)] [.ref (z + 25)] S P
            refine xw.callO (o := 25) rfl rfl rfl ht rfl rfl (c_Code_cutLast ht htn hta (by decide) ?_)
            show xw z NK g 85 100 [(0, .ref (z + 15)), (1, .int k), (2, .int 1), (3, .int 1), (4, .int 1)] [] (xu (xu S 26 (.inl ns.dropLast)) 28 (.inl as.dropLast)) P
            refine xw.steps 1 (fun _ => rfl) ?_
            refine xw.ret rfl (fun _ => rfl) ?_
            show P none (xu (xu S 26 (.inl ns.dropLast)) 28 (.inl as.dropLast))
            first | simpa [p_short, bI, xu_same htn, xu_same hta, c1, c5, c7, c9, c11] using hP | simp_all [p_short, bI, xu_same htn, xu_same hta]
set_option maxHeartbeats 4000000 in
/-- RowCode$Improver.foldsOne(I)Z -/
theorem c_one_B (hJ : iS z S 25 26 28 20 21 23 pl us fs ga ns as) (hl1 : ns.length < 131072) (hl2 : as.length < 131072) {n : Int32} (hP : P (some (.int (bI (p_one ns as n).2.2))) (xu (xu S 21 (.inl (p_one ns as n).1)) 23 (.inl (p_one ns as n).2.1))) : xw z NK g 79 0 [(0, .ref (z + 15)), (1, .int n)] [] S P := by
  obtain ⟨h15, h16, h18, hf, hfn, hfa, ht, htn, hta⟩ := id hJ
  refine xw.steps 1 (fun _ => rfl) ?_
  refine xw.getf (o := 15) rfl h15 rfl ?_
  refine xw.steps 1 (fun _ => rfl) ?_
  show xw z NK g 79 5 [(0, .ref (z + 15)), (1, .int n)] [.int 0, .ref (z + 20)] S P
  refine xw.callO (o := 20) rfl rfl rfl ht rfl rfl (c_Code_lastNumber ht htn hta (by decide) ?_)
  show xw z NK g 79 8 [(0, .ref (z + 15)), (1, .int n)] [.int (p_l ns 0)] S P
  refine xw.steps 2 (fun _ => rfl) ?_
  refine xw.if_ rfl (fun c1 => ?_) (fun c1 => ?_)
  · have c1 := of_decide_eq_true c1
    refine xw.steps 2 (fun _ => rfl) ?_
    refine xw.icmp rfl (fun c2 => ?_) (fun c2 => ?_)
    · have c2 := of_decide_eq_true c2
      refine xw.steps 2 (fun _ => rfl) ?_
      refine xw.icmp rfl (fun c3 => ?_) (fun c3 => ?_)
      · have c3 := of_decide_eq_true c3
        refine xw.steps 1 (fun _ => rfl) ?_
        refine xw.ret rfl (fun _ => rfl) ?_
        show P (some (.int 0)) S
        first | simpa [p_one, bI, xu_same htn, xu_same hta, c1, c2, c3] using hP | simp_all [p_one, bI, xu_same htn, xu_same hta]
      · have c3 := Decidable.not_not.mp (of_decide_eq_false c3)
        refine xw.steps 2 (fun _ => rfl) ?_
        refine xw.icmp rfl (fun c4 => ?_) (fun c4 => ?_)
        · have c4 := of_decide_eq_true c4
          refine xw.steps 1 (fun _ => rfl) ?_
          refine xw.ret rfl (fun _ => rfl) ?_
          show P (some (.int 0)) S
          first | simpa [p_one, bI, xu_same htn, xu_same hta, c1, c2, c3, c4] using hP | simp_all [p_one, bI, xu_same htn, xu_same hta]
        · have c4 := Decidable.not_not.mp (of_decide_eq_false c4)
          refine xw.steps 1 (fun _ => rfl) ?_
          refine xw.getf (o := 15) rfl h15 rfl ?_
          refine xw.steps 3 (fun _ => rfl) ?_
          refine xw.getf (o := 15) rfl h15 rfl ?_
          refine xw.steps 1 (fun _ => rfl) ?_
          show xw z NK g 79 84 [(0, .ref (z + 15)), (1, .int n), (2, .int (p_l ns 0))] [.int 0, .ref (z + 20), .int 8, .int 1, .ref (z + 20)] S P
          refine xw.callO (o := 20) rfl rfl rfl ht rfl rfl (c_Code_lastArgument ht htn hta (by decide) ?_)
          show xw z NK g 79 87 [(0, .ref (z + 15)), (1, .int n), (2, .int (p_l ns 0))] [.int (p_l as 0), .int 8, .int 1, .ref (z + 20)] S P
          show xw z NK g 79 87 [(0, .ref (z + 15)), (1, .int n), (2, .int (p_l ns 0))] [.int (p_l as 0), .int 8, .int 1, .ref (z + 20)] S P
          refine xw.callS rfl rfl rfl rfl rfl (c_opposite ?_)
          show xw z NK g 79 90 [(0, .ref (z + 15)), (1, .int n), (2, .int (p_l ns 0))] [.int (a_opp (p_l as 0)), .int 8, .int 1, .ref (z + 20)] S P
          show xw z NK g 79 90 [(0, .ref (z + 15)), (1, .int n), (2, .int (p_l ns 0))] [.int (a_opp (p_l as 0)), .int 8, .int 1, .ref (z + 20)] S P
          refine xw.callO (o := 20) rfl rfl rfl ht rfl rfl (c_Code_replaceLast ht htn hta (by decide) (by first | assumption | (unfold nCut; rw [List.length_take]; omega) | exact Nat.lt_of_le_of_lt (j_arrW_len _ _ _) (by omega)) (by first | assumption | (unfold nCut; rw [List.length_take]; omega) | exact Nat.lt_of_le_of_lt (j_arrW_len _ _ _) (by omega)) ?_)
          show xw z NK g 79 93 [(0, .ref (z + 15)), (1, .int n), (2, .int (p_l ns 0))] [] (xu (xu S 21 (.inl (p_c ns 1 ++ [8]))) 23 (.inl (p_c as 1 ++ [(a_opp (p_l as 0))]))) P
          refine xw.steps 1 (fun _ => rfl) ?_
          refine xw.ret rfl (fun _ => rfl) ?_
          show P (some (.int 1)) (xu (xu S 21 (.inl (p_c ns 1 ++ [8]))) 23 (.inl (p_c as 1 ++ [(a_opp (p_l as 0))])))
          first | simpa [p_one, bI, xu_same htn, xu_same hta, c1, c2, c3, c4] using hP | simp_all [p_one, bI, xu_same htn, xu_same hta]
    · have c2 := Decidable.not_not.mp (of_decide_eq_false c2)
      refine xw.steps 1 (fun _ => rfl) ?_
      refine xw.getf (o := 15) rfl h15 rfl ?_
      show xw z NK g 79 55 [(0, .ref (z + 15)), (1, .int n), (2, .int (p_l ns 0))] [.ref (z + 20)] S P
      refine xw.callO (o := 20) rfl rfl rfl ht rfl rfl (c_Code_cutLast ht htn hta (by decide) ?_)
      show xw z NK g 79 58 [(0, .ref (z + 15)), (1, .int n), (2, .int (p_l ns 0))] [] (xu (xu S 21 (.inl ns.dropLast)) 23 (.inl as.dropLast)) P
      refine xw.steps 1 (fun _ => rfl) ?_
      refine xw.ret rfl (fun _ => rfl) ?_
      show P (some (.int 1)) (xu (xu S 21 (.inl ns.dropLast)) 23 (.inl as.dropLast))
      first | simpa [p_one, bI, xu_same htn, xu_same hta, c1, c2] using hP | simp_all [p_one, bI, xu_same htn, xu_same hta]
  · have c1 := Decidable.not_not.mp (of_decide_eq_false c1)
    refine xw.steps 1 (fun _ => rfl) ?_
    refine xw.getf (o := 15) rfl h15 rfl ?_
    refine xw.steps 1 (fun _ => rfl) ?_
    show xw z NK g 79 18 [(0, .ref (z + 15)), (1, .int n), (2, .int (p_l ns 0))] [.int 0, .ref (z + 20)] S P
    refine xw.callO (o := 20) rfl rfl rfl ht rfl rfl (c_Code_lastArgument ht htn hta (by decide) ?_)
    show xw z NK g 79 21 [(0, .ref (z + 15)), (1, .int n), (2, .int (p_l ns 0))] [.int (p_l as 0)] S P
    refine xw.steps 2 (fun _ => rfl) ?_
    refine xw.getf (o := 15) rfl h15 rfl ?_
    refine xw.steps 4 (fun _ => rfl) ?_
    refine xw.icmp rfl (fun c5 => ?_) (fun c5 => ?_)
    · have c5 := of_decide_eq_true c5
      refine xw.steps 3 (fun _ => rfl) ?_
      show xw z NK g 79 41 [(0, .ref (z + 15)), (1, .int n), (2, .int (p_l ns 0)), (3, .int (p_l as 0))] [.int ((p_l as 0) ^^^ (-1)), .int 0, .int 1, .ref (z + 20)] S P
      refine xw.callO (o := 20) rfl rfl rfl ht rfl rfl (c_Code_replaceLast ht htn hta (by decide) (by first | assumption | (unfold nCut; rw [List.length_take]; omega) | exact Nat.lt_of_le_of_lt (j_arrW_len _ _ _) (by omega)) (by first | assumption | (unfold nCut; rw [List.length_take]; omega) | exact Nat.lt_of_le_of_lt (j_arrW_len _ _ _) (by omega)) ?_)
      show xw z NK g 79 44 [(0, .ref (z + 15)), (1, .int n), (2, .int (p_l ns 0)), (3, .int (p_l as 0))] [] (xu (xu S 21 (.inl (p_c ns 1 ++ [0]))) 23 (.inl (p_c as 1 ++ [((p_l as 0) ^^^ (-1))]))) P
      refine xw.steps 1 (fun _ => rfl) ?_
      refine xw.ret rfl (fun _ => rfl) ?_
      show P (some (.int 1)) (xu (xu S 21 (.inl (p_c ns 1 ++ [0]))) 23 (.inl (p_c as 1 ++ [((p_l as 0) ^^^ (-1))])))
      first | simpa [p_one, bI, xu_same htn, xu_same hta, c1, c5] using hP | simp_all [p_one, bI, xu_same htn, xu_same hta]
    · have c5 := Decidable.not_not.mp (of_decide_eq_false c5)
      refine xw.steps 3 (fun _ => rfl) ?_
      show xw z NK g 79 41 [(0, .ref (z + 15)), (1, .int n), (2, .int (p_l ns 0)), (3, .int (p_l as 0))] [.int (-(p_l as 0)), .int 0, .int 1, .ref (z + 20)] S P
      refine xw.callO (o := 20) rfl rfl rfl ht rfl rfl (c_Code_replaceLast ht htn hta (by decide) (by first | assumption | (unfold nCut; rw [List.length_take]; omega) | exact Nat.lt_of_le_of_lt (j_arrW_len _ _ _) (by omega)) (by first | assumption | (unfold nCut; rw [List.length_take]; omega) | exact Nat.lt_of_le_of_lt (j_arrW_len _ _ _) (by omega)) ?_)
      show xw z NK g 79 44 [(0, .ref (z + 15)), (1, .int n), (2, .int (p_l ns 0)), (3, .int (p_l as 0))] [] (xu (xu S 21 (.inl (p_c ns 1 ++ [0]))) 23 (.inl (p_c as 1 ++ [(-(p_l as 0))]))) P
      refine xw.steps 1 (fun _ => rfl) ?_
      refine xw.ret rfl (fun _ => rfl) ?_
      show P (some (.int 1)) (xu (xu S 21 (.inl (p_c ns 1 ++ [0]))) 23 (.inl (p_c as 1 ++ [(-(p_l as 0))])))
      first | simpa [p_one, bI, xu_same htn, xu_same hta, c1, c5] using hP | simp_all [p_one, bI, xu_same htn, xu_same hta]
set_option maxHeartbeats 4000000 in
/-- RowCode$Improver.foldsCalculation(I)Z -/
theorem c_calc_B (hJ : iS z S 25 26 28 20 21 23 pl us fs ga ns as) (hl1 : ns.length < 131072) (hl2 : as.length < 131072) {k : Int32} (hP : P (some (.int (bI (p_calc ns as k).2.2))) (xu (xu S 21 (.inl (p_calc ns as k).1)) 23 (.inl (p_calc ns as k).2.1))) : xw z NK g 80 0 [(0, .ref (z + 15)), (1, .int k)] [] S P := by
  obtain ⟨h15, h16, h18, hf, hfn, hfa, ht, htn, hta⟩ := id hJ
  refine xw.steps 1 (fun _ => rfl) ?_
  refine xw.getf (o := 15) rfl h15 rfl ?_
  refine xw.steps 1 (fun _ => rfl) ?_
  show xw z NK g 80 5 [(0, .ref (z + 15)), (1, .int k)] [.int 0, .ref (z + 20)] S P
  refine xw.callO (o := 20) rfl rfl rfl ht rfl rfl (c_Code_lastNumber ht htn hta (by decide) ?_)
  show xw z NK g 80 8 [(0, .ref (z + 15)), (1, .int k)] [.int (p_l ns 0)] S P
  refine xw.if_ rfl (fun c1 => ?_) (fun c1 => ?_)
  · have c1 := of_decide_eq_true c1
    refine xw.steps 1 (fun _ => rfl) ?_
    refine xw.getf (o := 15) rfl h15 rfl ?_
    refine xw.steps 1 (fun _ => rfl) ?_
    show xw z NK g 80 18 [(0, .ref (z + 15)), (1, .int k)] [.int 0, .ref (z + 20)] S P
    refine xw.callO (o := 20) rfl rfl rfl ht rfl rfl (c_Code_lastArgument ht htn hta (by decide) ?_)
    show xw z NK g 80 21 [(0, .ref (z + 15)), (1, .int k)] [.int (p_l as 0)] S P
    refine xw.steps 3 (fun _ => rfl) ?_
    show xw z NK g 80 24 [(0, .ref (z + 15)), (1, .int k), (2, .int (p_l as 0))] [.int (p_l as 0), .int k] S P
    refine xw.callS rfl rfl rfl rfl rfl (c_leavesAlone ?_)
    show xw z NK g 80 27 [(0, .ref (z + 15)), (1, .int k), (2, .int (p_l as 0))] [.int (bI (a_alone k (p_l as 0)))] S P
    refine xw.if_ rfl (fun c2 => ?_) (fun c2 => ?_)
    · have c2 := bI_eq0 (of_decide_eq_true c2)
      refine xw.steps 1 (fun _ => rfl) ?_
      refine xw.getf (o := 15) rfl h15 rfl ?_
      refine xw.steps 1 (fun _ => rfl) ?_
      show xw z NK g 80 44 [(0, .ref (z + 15)), (1, .int k), (2, .int (p_l as 0))] [.int 1, .ref (z + 20)] S P
      refine xw.callO (o := 20) rfl rfl rfl ht rfl rfl (c_Code_lastNumber ht htn hta (by decide) ?_)
      show xw z NK g 80 47 [(0, .ref (z + 15)), (1, .int k), (2, .int (p_l as 0))] [.int (p_l ns 1)] S P
      refine xw.if_ rfl (fun c3 => ?_) (fun c3 => ?_)
      · have c3 := of_decide_eq_true c3
        refine xw.steps 1 (fun _ => rfl) ?_
        refine xw.ret rfl (fun _ => rfl) ?_
        show P (some (.int 0)) S
        first | simpa [p_calc, bI, xu_same htn, xu_same hta, c1, c2, c3] using hP | simp_all [p_calc, bI, xu_same htn, xu_same hta]
      · have c3 := Decidable.not_not.mp (of_decide_eq_false c3)
        refine xw.steps 1 (fun _ => rfl) ?_
        refine xw.if_ rfl (fun c4 => ?_) (fun c4 => ?_)
        · have c4 := of_decide_eq_true c4
          refine xw.steps 1 (fun _ => rfl) ?_
          refine xw.getf (o := 15) rfl h15 rfl ?_
          refine xw.steps 4 (fun _ => rfl) ?_
          refine xw.getf (o := 15) rfl h15 rfl ?_
          refine xw.steps 1 (fun _ => rfl) ?_
          show xw z NK g 80 75 [(0, .ref (z + 15)), (1, .int k), (2, .int (p_l as 0))] [.int 1, .ref (z + 20), .int k, .int 0, .int 2, .ref (z + 20)] S P
          refine xw.callO (o := 20) rfl rfl rfl ht rfl rfl (c_Code_lastArgument ht htn hta (by decide) ?_)
          show xw z NK g 80 78 [(0, .ref (z + 15)), (1, .int k), (2, .int (p_l as 0))] [.int (p_l as 1), .int k, .int 0, .int 2, .ref (z + 20)] S P
          refine xw.steps 1 (fun _ => rfl) ?_
          show xw z NK g 80 79 [(0, .ref (z + 15)), (1, .int k), (2, .int (p_l as 0))] [.int (p_l as 0), .int (p_l as 1), .int k, .int 0, .int 2, .ref (z + 20)] S P
          refine xw.callS rfl rfl rfl rfl rfl (c_calculate ?_)
          show xw z NK g 80 82 [(0, .ref (z + 15)), (1, .int k), (2, .int (p_l as 0))] [.int (a_calc k (p_l as 1) (p_l as 0)), .int 0, .int 2, .ref (z + 20)] S P
          show xw z NK g 80 82 [(0, .ref (z + 15)), (1, .int k), (2, .int (p_l as 0))] [.int (a_calc k (p_l as 1) (p_l as 0)), .int 0, .int 2, .ref (z + 20)] S P
          refine xw.callO (o := 20) rfl rfl rfl ht rfl rfl (c_Code_replaceLast ht htn hta (by decide) (by first | assumption | (unfold nCut; rw [List.length_take]; omega) | exact Nat.lt_of_le_of_lt (j_arrW_len _ _ _) (by omega)) (by first | assumption | (unfold nCut; rw [List.length_take]; omega) | exact Nat.lt_of_le_of_lt (j_arrW_len _ _ _) (by omega)) ?_)
          show xw z NK g 80 85 [(0, .ref (z + 15)), (1, .int k), (2, .int (p_l as 0))] [] (xu (xu S 21 (.inl (p_c ns 2 ++ [0]))) 23 (.inl (p_c as 2 ++ [(a_calc k (p_l as 1) (p_l as 0))]))) P
          refine xw.steps 1 (fun _ => rfl) ?_
          refine xw.ret rfl (fun _ => rfl) ?_
          show P (some (.int 1)) (xu (xu S 21 (.inl (p_c ns 2 ++ [0]))) 23 (.inl (p_c as 2 ++ [(a_calc k (p_l as 1) (p_l as 0))])))
          first | simpa [p_calc, bI, xu_same htn, xu_same hta, c1, c2, c3, c4] using hP | simp_all [p_calc, bI, xu_same htn, xu_same hta]
        · have c4 := Decidable.not_not.mp (of_decide_eq_false c4)
          refine xw.steps 1 (fun _ => rfl) ?_
          show xw z NK g 80 55 [(0, .ref (z + 15)), (1, .int k), (2, .int (p_l as 0))] [.int k] S P
          refine xw.callS rfl rfl rfl rfl rfl (c_divides ?_)
          show xw z NK g 80 58 [(0, .ref (z + 15)), (1, .int k), (2, .int (p_l as 0))] [.int (bI (a_divides k))] S P
          refine xw.if_ rfl (fun c5 => ?_) (fun c5 => ?_)
          · have c5 := bI_eq0 (of_decide_eq_true c5)
            refine xw.steps 1 (fun _ => rfl) ?_
            refine xw.getf (o := 15) rfl h15 rfl ?_
            refine xw.steps 4 (fun _ => rfl) ?_
            refine xw.getf (o := 15) rfl h15 rfl ?_
            refine xw.steps 1 (fun _ => rfl) ?_
            show xw z NK g 80 75 [(0, .ref (z + 15)), (1, .int k), (2, .int (p_l as 0))] [.int 1, .ref (z + 20), .int k, .int 0, .int 2, .ref (z + 20)] S P
            refine xw.callO (o := 20) rfl rfl rfl ht rfl rfl (c_Code_lastArgument ht htn hta (by decide) ?_)
            show xw z NK g 80 78 [(0, .ref (z + 15)), (1, .int k), (2, .int (p_l as 0))] [.int (p_l as 1), .int k, .int 0, .int 2, .ref (z + 20)] S P
            refine xw.steps 1 (fun _ => rfl) ?_
            show xw z NK g 80 79 [(0, .ref (z + 15)), (1, .int k), (2, .int (p_l as 0))] [.int (p_l as 0), .int (p_l as 1), .int k, .int 0, .int 2, .ref (z + 20)] S P
            refine xw.callS rfl rfl rfl rfl rfl (c_calculate ?_)
            show xw z NK g 80 82 [(0, .ref (z + 15)), (1, .int k), (2, .int (p_l as 0))] [.int (a_calc k (p_l as 1) (p_l as 0)), .int 0, .int 2, .ref (z + 20)] S P
            show xw z NK g 80 82 [(0, .ref (z + 15)), (1, .int k), (2, .int (p_l as 0))] [.int (a_calc k (p_l as 1) (p_l as 0)), .int 0, .int 2, .ref (z + 20)] S P
            refine xw.callO (o := 20) rfl rfl rfl ht rfl rfl (c_Code_replaceLast ht htn hta (by decide) (by first | assumption | (unfold nCut; rw [List.length_take]; omega) | exact Nat.lt_of_le_of_lt (j_arrW_len _ _ _) (by omega)) (by first | assumption | (unfold nCut; rw [List.length_take]; omega) | exact Nat.lt_of_le_of_lt (j_arrW_len _ _ _) (by omega)) ?_)
            show xw z NK g 80 85 [(0, .ref (z + 15)), (1, .int k), (2, .int (p_l as 0))] [] (xu (xu S 21 (.inl (p_c ns 2 ++ [0]))) 23 (.inl (p_c as 2 ++ [(a_calc k (p_l as 1) (p_l as 0))]))) P
            refine xw.steps 1 (fun _ => rfl) ?_
            refine xw.ret rfl (fun _ => rfl) ?_
            show P (some (.int 1)) (xu (xu S 21 (.inl (p_c ns 2 ++ [0]))) 23 (.inl (p_c as 2 ++ [(a_calc k (p_l as 1) (p_l as 0))])))
            first | simpa [p_calc, bI, xu_same htn, xu_same hta, c1, c2, c3, c4, c5] using hP | simp_all [p_calc, bI, xu_same htn, xu_same hta]
          · have c5 := bI_ne0 (of_decide_eq_false c5)
            refine xw.steps 1 (fun _ => rfl) ?_
            refine xw.ret rfl (fun _ => rfl) ?_
            show P (some (.int 0)) S
            first | simpa [p_calc, bI, xu_same htn, xu_same hta, c1, c2, c3, c4, c5] using hP | simp_all [p_calc, bI, xu_same htn, xu_same hta]
    · have c2 := bI_ne0 (of_decide_eq_false c2)
      refine xw.steps 1 (fun _ => rfl) ?_
      refine xw.getf (o := 15) rfl h15 rfl ?_
      show xw z NK g 80 34 [(0, .ref (z + 15)), (1, .int k), (2, .int (p_l as 0))] [.ref (z + 20)] S P
      refine xw.callO (o := 20) rfl rfl rfl ht rfl rfl (c_Code_cutLast ht htn hta (by decide) ?_)
      show xw z NK g 80 37 [(0, .ref (z + 15)), (1, .int k), (2, .int (p_l as 0))] [] (xu (xu S 21 (.inl ns.dropLast)) 23 (.inl as.dropLast)) P
      refine xw.steps 1 (fun _ => rfl) ?_
      refine xw.ret rfl (fun _ => rfl) ?_
      show P (some (.int 1)) (xu (xu S 21 (.inl ns.dropLast)) 23 (.inl as.dropLast))
      first | simpa [p_calc, bI, xu_same htn, xu_same hta, c1, c2] using hP | simp_all [p_calc, bI, xu_same htn, xu_same hta]
  · have c1 := of_decide_eq_false c1
    refine xw.steps 1 (fun _ => rfl) ?_
    refine xw.ret rfl (fun _ => rfl) ?_
    show P (some (.int 0)) S
    first | simpa [p_calc, bI, xu_same htn, xu_same hta, c1] using hP | simp_all [p_calc, bI, xu_same htn, xu_same hta]
set_option maxHeartbeats 4000000 in
/-- RowCode$Improver.foldsComparison(I)Z -/
theorem c_comp_B (hJ : iS z S 25 26 28 20 21 23 pl us fs ga ns as) (hl1 : ns.length < 131072) (hl2 : as.length < 131072) {k : Int32} (hP : P (some (.int (bI (p_comp ns as k).2.2))) (xu (xu S 21 (.inl (p_comp ns as k).1)) 23 (.inl (p_comp ns as k).2.1))) : xw z NK g 81 0 [(0, .ref (z + 15)), (1, .int k)] [] S P := by
  obtain ⟨h15, h16, h18, hf, hfn, hfa, ht, htn, hta⟩ := id hJ
  refine xw.steps 1 (fun _ => rfl) ?_
  refine xw.getf (o := 15) rfl h15 rfl ?_
  refine xw.steps 1 (fun _ => rfl) ?_
  show xw z NK g 81 5 [(0, .ref (z + 15)), (1, .int k)] [.int 0, .ref (z + 20)] S P
  refine xw.callO (o := 20) rfl rfl rfl ht rfl rfl (c_Code_lastNumber ht htn hta (by decide) ?_)
  show xw z NK g 81 8 [(0, .ref (z + 15)), (1, .int k)] [.int (p_l ns 0)] S P
  refine xw.if_ rfl (fun c1 => ?_) (fun c1 => ?_)
  · have c1 := of_decide_eq_true c1
    refine xw.steps 1 (fun _ => rfl) ?_
    refine xw.getf (o := 15) rfl h15 rfl ?_
    refine xw.steps 1 (fun _ => rfl) ?_
    show xw z NK g 81 18 [(0, .ref (z + 15)), (1, .int k)] [.int 0, .ref (z + 20)] S P
    refine xw.callO (o := 20) rfl rfl rfl ht rfl rfl (c_Code_lastArgument ht htn hta (by decide) ?_)
    show xw z NK g 81 21 [(0, .ref (z + 15)), (1, .int k)] [.int (p_l as 0)] S P
    refine xw.steps 2 (fun _ => rfl) ?_
    refine xw.getf (o := 15) rfl h15 rfl ?_
    refine xw.steps 1 (fun _ => rfl) ?_
    show xw z NK g 81 27 [(0, .ref (z + 15)), (1, .int k), (2, .int (p_l as 0))] [.int 1, .ref (z + 20)] S P
    refine xw.callO (o := 20) rfl rfl rfl ht rfl rfl (c_Code_lastNumber ht htn hta (by decide) ?_)
    show xw z NK g 81 30 [(0, .ref (z + 15)), (1, .int k), (2, .int (p_l as 0))] [.int (p_l ns 1)] S P
    refine xw.if_ rfl (fun c2 => ?_) (fun c2 => ?_)
    · have c2 := of_decide_eq_true c2
      refine xw.steps 1 (fun _ => rfl) ?_
      refine xw.getf (o := 15) rfl h15 rfl ?_
      refine xw.steps 1 (fun _ => rfl) ?_
      show xw z NK g 81 62 [(0, .ref (z + 15)), (1, .int k), (2, .int (p_l as 0))] [.int 1, .ref (z + 20)] S P
      refine xw.callO (o := 20) rfl rfl rfl ht rfl rfl (c_Code_lastNumber ht htn hta (by decide) ?_)
      show xw z NK g 81 65 [(0, .ref (z + 15)), (1, .int k), (2, .int (p_l as 0))] [.int (p_l ns 1)] S P
      refine xw.steps 1 (fun _ => rfl) ?_
      refine xw.icmp rfl (fun c3 => ?_) (fun c3 => ?_)
      · have c3 := of_decide_eq_true c3
        refine xw.steps 1 (fun _ => rfl) ?_
        refine xw.ret rfl (fun _ => rfl) ?_
        show P (some (.int 0)) S
        first | simpa [p_comp, bI, xu_same htn, xu_same hta, c1, c2, c3] using hP | simp_all [p_comp, bI, xu_same htn, xu_same hta]
      · have c3 := Decidable.not_not.mp (of_decide_eq_false c3)
        refine xw.steps 1 (fun _ => rfl) ?_
        refine xw.if_ rfl (fun c4 => ?_) (fun c4 => ?_)
        · have c4 := of_decide_eq_true c4
          refine xw.steps 1 (fun _ => rfl) ?_
          refine xw.ret rfl (fun _ => rfl) ?_
          show P (some (.int 0)) S
          first | simpa [p_comp, bI, xu_same htn, xu_same hta, c1, c2, c3, c4] using hP | simp_all [p_comp, bI, xu_same htn, xu_same hta]
        · have c4 := Decidable.not_not.mp (of_decide_eq_false c4)
          refine xw.steps 2 (fun _ => rfl) ?_
          refine xw.icmp rfl (fun c5 => ?_) (fun c5 => ?_)
          · have c5 := Int32.not_lt.mpr (of_decide_eq_true c5)
            refine xw.steps 1 (fun _ => rfl) ?_
            refine xw.ret rfl (fun _ => rfl) ?_
            show P (some (.int 0)) S
            first | simpa [p_comp, bI, xu_same htn, xu_same hta, c1, c2, c3, c4, c5] using hP | simp_all [p_comp, bI, xu_same htn, xu_same hta]
          · have c5 := Int32.not_le.mp (of_decide_eq_false c5)
            refine xw.steps 1 (fun _ => rfl) ?_
            refine xw.getf (o := 15) rfl h15 rfl ?_
            refine xw.steps 1 (fun _ => rfl) ?_
            show xw z NK g 81 84 [(0, .ref (z + 15)), (1, .int k), (2, .int (p_l as 0))] [.int 1, .ref (z + 20)] S P
            refine xw.callO (o := 20) rfl rfl rfl ht rfl rfl (c_Code_lastArgument ht htn hta (by decide) ?_)
            show xw z NK g 81 87 [(0, .ref (z + 15)), (1, .int k), (2, .int (p_l as 0))] [.int (p_l as 1)] S P
            refine xw.steps 2 (fun _ => rfl) ?_
            refine xw.getf (o := 15) rfl h15 rfl ?_
            refine xw.steps 3 (fun _ => rfl) ?_
            refine xw.if_ rfl (fun c6 => ?_) (fun c6 => ?_)
            · have c6 := of_decide_eq_true c6
              refine xw.steps 1 (fun _ => rfl) ?_
              show xw z NK g 81 107 [(0, .ref (z + 15)), (1, .int k), (2, .int (p_l as 0)), (3, .int (p_l as 1))] [.int (p_l as 1), .int 8, .int 2, .ref (z + 20)] S P
              refine xw.callO (o := 20) rfl rfl rfl ht rfl rfl (c_Code_replaceLast ht htn hta (by decide) (by first | assumption | (unfold nCut; rw [List.length_take]; omega) | exact Nat.lt_of_le_of_lt (j_arrW_len _ _ _) (by omega)) (by first | assumption | (unfold nCut; rw [List.length_take]; omega) | exact Nat.lt_of_le_of_lt (j_arrW_len _ _ _) (by omega)) ?_)
              show xw z NK g 81 110 [(0, .ref (z + 15)), (1, .int k), (2, .int (p_l as 0)), (3, .int (p_l as 1))] [] (xu (xu S 21 (.inl (p_c ns 2 ++ [8]))) 23 (.inl (p_c as 2 ++ [(p_l as 1)]))) P
              refine xw.steps 1 (fun _ => rfl) ?_
              refine xw.ret rfl (fun _ => rfl) ?_
              show P (some (.int 1)) (xu (xu S 21 (.inl (p_c ns 2 ++ [8]))) 23 (.inl (p_c as 2 ++ [(p_l as 1)])))
              first | simpa [p_comp, bI, xu_same htn, xu_same hta, c1, c2, c3, c4, c5, c6] using hP | simp_all [p_comp, bI, xu_same htn, xu_same hta]
            · have c6 := Decidable.not_not.mp (of_decide_eq_false c6)
              refine xw.steps 1 (fun _ => rfl) ?_
              show xw z NK g 81 100 [(0, .ref (z + 15)), (1, .int k), (2, .int (p_l as 0)), (3, .int (p_l as 1))] [.int (p_l as 1), .int 8, .int 2, .ref (z + 20)] S P
              refine xw.callS rfl rfl rfl rfl rfl (c_opposite ?_)
              show xw z NK g 81 103 [(0, .ref (z + 15)), (1, .int k), (2, .int (p_l as 0)), (3, .int (p_l as 1))] [.int (a_opp (p_l as 1)), .int 8, .int 2, .ref (z + 20)] S P
              refine xw.steps 1 (fun _ => rfl) ?_
              show xw z NK g 81 107 [(0, .ref (z + 15)), (1, .int k), (2, .int (p_l as 0)), (3, .int (p_l as 1))] [.int (a_opp (p_l as 1)), .int 8, .int 2, .ref (z + 20)] S P
              refine xw.callO (o := 20) rfl rfl rfl ht rfl rfl (c_Code_replaceLast ht htn hta (by decide) (by first | assumption | (unfold nCut; rw [List.length_take]; omega) | exact Nat.lt_of_le_of_lt (j_arrW_len _ _ _) (by omega)) (by first | assumption | (unfold nCut; rw [List.length_take]; omega) | exact Nat.lt_of_le_of_lt (j_arrW_len _ _ _) (by omega)) ?_)
              show xw z NK g 81 110 [(0, .ref (z + 15)), (1, .int k), (2, .int (p_l as 0)), (3, .int (p_l as 1))] [] (xu (xu S 21 (.inl (p_c ns 2 ++ [8]))) 23 (.inl (p_c as 2 ++ [(a_opp (p_l as 1))]))) P
              refine xw.steps 1 (fun _ => rfl) ?_
              refine xw.ret rfl (fun _ => rfl) ?_
              show P (some (.int 1)) (xu (xu S 21 (.inl (p_c ns 2 ++ [8]))) 23 (.inl (p_c as 2 ++ [(a_opp (p_l as 1))])))
              first | simpa [p_comp, bI, xu_same htn, xu_same hta, c1, c2, c3, c4, c5, c6] using hP | simp_all [p_comp, bI, xu_same htn, xu_same hta]
    · have c2 := Decidable.not_not.mp (of_decide_eq_false c2)
      refine xw.steps 1 (fun _ => rfl) ?_
      refine xw.getf (o := 15) rfl h15 rfl ?_
      refine xw.steps 4 (fun _ => rfl) ?_
      refine xw.getf (o := 15) rfl h15 rfl ?_
      refine xw.steps 1 (fun _ => rfl) ?_
      show xw z NK g 81 45 [(0, .ref (z + 15)), (1, .int k), (2, .int (p_l as 0))] [.int 1, .ref (z + 20), .int k, .int 0, .int 2, .ref (z + 20)] S P
      refine xw.callO (o := 20) rfl rfl rfl ht rfl rfl (c_Code_lastArgument ht htn hta (by decide) ?_)
      show xw z NK g 81 48 [(0, .ref (z + 15)), (1, .int k), (2, .int (p_l as 0))] [.int (p_l as 1), .int k, .int 0, .int 2, .ref (z + 20)] S P
      refine xw.steps 1 (fun _ => rfl) ?_
      show xw z NK g 81 49 [(0, .ref (z + 15)), (1, .int k), (2, .int (p_l as 0))] [.int (p_l as 0), .int (p_l as 1), .int k, .int 0, .int 2, .ref (z + 20)] S P
      refine xw.callS rfl rfl rfl rfl rfl (c_compare ?_)
      show xw z NK g 81 52 [(0, .ref (z + 15)), (1, .int k), (2, .int (p_l as 0))] [.int (a_compare k (p_l as 1) (p_l as 0)), .int 0, .int 2, .ref (z + 20)] S P
      show xw z NK g 81 52 [(0, .ref (z + 15)), (1, .int k), (2, .int (p_l as 0))] [.int (a_compare k (p_l as 1) (p_l as 0)), .int 0, .int 2, .ref (z + 20)] S P
      refine xw.callO (o := 20) rfl rfl rfl ht rfl rfl (c_Code_replaceLast ht htn hta (by decide) (by first | assumption | (unfold nCut; rw [List.length_take]; omega) | exact Nat.lt_of_le_of_lt (j_arrW_len _ _ _) (by omega)) (by first | assumption | (unfold nCut; rw [List.length_take]; omega) | exact Nat.lt_of_le_of_lt (j_arrW_len _ _ _) (by omega)) ?_)
      show xw z NK g 81 55 [(0, .ref (z + 15)), (1, .int k), (2, .int (p_l as 0))] [] (xu (xu S 21 (.inl (p_c ns 2 ++ [0]))) 23 (.inl (p_c as 2 ++ [(a_compare k (p_l as 1) (p_l as 0))]))) P
      refine xw.steps 1 (fun _ => rfl) ?_
      refine xw.ret rfl (fun _ => rfl) ?_
      show P (some (.int 1)) (xu (xu S 21 (.inl (p_c ns 2 ++ [0]))) 23 (.inl (p_c as 2 ++ [(a_compare k (p_l as 1) (p_l as 0))])))
      first | simpa [p_comp, bI, xu_same htn, xu_same hta, c1, c2] using hP | simp_all [p_comp, bI, xu_same htn, xu_same hta]
  · have c1 := of_decide_eq_false c1
    refine xw.steps 1 (fun _ => rfl) ?_
    refine xw.ret rfl (fun _ => rfl) ?_
    show P (some (.int 0)) S
    first | simpa [p_comp, bI, xu_same htn, xu_same hta, c1] using hP | simp_all [p_comp, bI, xu_same htn, xu_same hta]
set_option maxHeartbeats 4000000 in
/-- RowCode$Improver.foldsDrop()Z -/
theorem c_drop_B (hJ : iS z S 25 26 28 20 21 23 pl us fs ga ns as) (hl1 : ns.length < 131072) (hl2 : as.length < 131072) (hP : P (some (.int (bI (p_drop ns as).2.2))) (xu (xu S 21 (.inl (p_drop ns as).1)) 23 (.inl (p_drop ns as).2.1))) : xw z NK g 82 0 [(0, .ref (z + 15))] [] S P := by
  obtain ⟨h15, h16, h18, hf, hfn, hfa, ht, htn, hta⟩ := id hJ
  refine xw.steps 1 (fun _ => rfl) ?_
  refine xw.getf (o := 15) rfl h15 rfl ?_
  refine xw.steps 1 (fun _ => rfl) ?_
  show xw z NK g 82 5 [(0, .ref (z + 15))] [.int 0, .ref (z + 20)] S P
  refine xw.callO (o := 20) rfl rfl rfl ht rfl rfl (c_Code_lastNumber ht htn hta (by decide) ?_)
  show xw z NK g 82 8 [(0, .ref (z + 15))] [.int (p_l ns 0)] S P
  refine xw.steps 3 (fun _ => rfl) ?_
  refine xw.icmp rfl (fun c1 => ?_) (fun c1 => ?_)
  · have c1 := of_decide_eq_true c1
    refine xw.steps 1 (fun _ => rfl) ?_
    refine xw.getf (o := 15) rfl h15 rfl ?_
    show xw z NK g 82 24 [(0, .ref (z + 15)), (1, .int (p_l ns 0))] [.ref (z + 20)] S P
    refine xw.callO (o := 20) rfl rfl rfl ht rfl rfl (c_Code_cutLast ht htn hta (by decide) ?_)
    show xw z NK g 82 27 [(0, .ref (z + 15)), (1, .int (p_l ns 0))] [] (xu (xu S 21 (.inl ns.dropLast)) 23 (.inl as.dropLast)) P
    refine xw.steps 1 (fun _ => rfl) ?_
    refine xw.ret rfl (fun _ => rfl) ?_
    show P (some (.int 0)) (xu (xu S 21 (.inl ns.dropLast)) 23 (.inl as.dropLast))
    first | simpa [p_drop, bI, xu_same htn, xu_same hta, c1] using hP | simp_all [p_drop, bI, xu_same htn, xu_same hta]
  · have c1 := of_decide_eq_false c1
    refine xw.steps 2 (fun _ => rfl) ?_
    refine xw.icmp rfl (fun c2 => ?_) (fun c2 => ?_)
    · have c2 := of_decide_eq_true c2
      refine xw.steps 1 (fun _ => rfl) ?_
      refine xw.if_ rfl (fun c3 => ?_) (fun c3 => ?_)
      · have c3 := of_decide_eq_true c3
        refine xw.steps 1 (fun _ => rfl) ?_
        refine xw.getf (o := 15) rfl h15 rfl ?_
        show xw z NK g 82 42 [(0, .ref (z + 15)), (1, .int (p_l ns 0))] [.ref (z + 20)] S P
        refine xw.callO (o := 20) rfl rfl rfl ht rfl rfl (c_Code_cutLast ht htn hta (by decide) ?_)
        show xw z NK g 82 45 [(0, .ref (z + 15)), (1, .int (p_l ns 0))] [] (xu (xu S 21 (.inl ns.dropLast)) 23 (.inl as.dropLast)) P
        refine xw.steps 1 (fun _ => rfl) ?_
        refine xw.ret rfl (fun _ => rfl) ?_
        show P (some (.int 1)) (xu (xu S 21 (.inl ns.dropLast)) 23 (.inl as.dropLast))
        first | simpa [p_drop, bI, xu_same htn, xu_same hta, c1, c2, c3] using hP | simp_all [p_drop, bI, xu_same htn, xu_same hta]
      · have c3 := of_decide_eq_false c3
        refine xw.steps 2 (fun _ => rfl) ?_
        refine xw.icmp rfl (fun c4 => ?_) (fun c4 => ?_)
        · have c4 := of_decide_eq_true c4
          refine xw.steps 1 (fun _ => rfl) ?_
          refine xw.ret rfl (fun _ => rfl) ?_
          show P (some (.int 0)) S
          first | simpa [p_drop, bI, xu_same htn, xu_same hta, c1, c2, c3, c4] using hP | simp_all [p_drop, bI, xu_same htn, xu_same hta]
        · have c4 := Decidable.not_not.mp (of_decide_eq_false c4)
          refine xw.steps 1 (fun _ => rfl) ?_
          refine xw.getf (o := 15) rfl h15 rfl ?_
          show xw z NK g 82 42 [(0, .ref (z + 15)), (1, .int (p_l ns 0))] [.ref (z + 20)] S P
          refine xw.callO (o := 20) rfl rfl rfl ht rfl rfl (c_Code_cutLast ht htn hta (by decide) ?_)
          show xw z NK g 82 45 [(0, .ref (z + 15)), (1, .int (p_l ns 0))] [] (xu (xu S 21 (.inl ns.dropLast)) 23 (.inl as.dropLast)) P
          refine xw.steps 1 (fun _ => rfl) ?_
          refine xw.ret rfl (fun _ => rfl) ?_
          show P (some (.int 1)) (xu (xu S 21 (.inl ns.dropLast)) 23 (.inl as.dropLast))
          first | simpa [p_drop, bI, xu_same htn, xu_same hta, c1, c2, c3, c4] using hP | simp_all [p_drop, bI, xu_same htn, xu_same hta]
    · have c2 := Decidable.not_not.mp (of_decide_eq_false c2)
      refine xw.steps 1 (fun _ => rfl) ?_
      refine xw.getf (o := 15) rfl h15 rfl ?_
      show xw z NK g 82 24 [(0, .ref (z + 15)), (1, .int (p_l ns 0))] [.ref (z + 20)] S P
      refine xw.callO (o := 20) rfl rfl rfl ht rfl rfl (c_Code_cutLast ht htn hta (by decide) ?_)
      show xw z NK g 82 27 [(0, .ref (z + 15)), (1, .int (p_l ns 0))] [] (xu (xu S 21 (.inl ns.dropLast)) 23 (.inl as.dropLast)) P
      refine xw.steps 1 (fun _ => rfl) ?_
      refine xw.ret rfl (fun _ => rfl) ?_
      show P (some (.int 0)) (xu (xu S 21 (.inl ns.dropLast)) 23 (.inl as.dropLast))
      first | simpa [p_drop, bI, xu_same htn, xu_same hta, c1, c2] using hP | simp_all [p_drop, bI, xu_same htn, xu_same hta]
set_option maxHeartbeats 4000000 in
/-- RowCode$Improver.foldsCondition(II)Z -/
theorem c_cond_B (hJ : iS z S 25 26 28 20 21 23 pl us fs ga ns as) (hl1 : ns.length < 131072) (hl2 : as.length < 131072) {n k : Int32} (hP : P (some (.int (bI (p_cond ns as n k).2.2))) (xu (xu S 21 (.inl (p_cond ns as n k).1)) 23 (.inl (p_cond ns as n k).2.1))) : xw z NK g 83 0 [(0, .ref (z + 15)), (1, .int n), (2, .int k)] [] S P := by
  obtain ⟨h15, h16, h18, hf, hfn, hfa, ht, htn, hta⟩ := id hJ
  refine xw.steps 1 (fun _ => rfl) ?_
  refine xw.getf (o := 15) rfl h15 rfl ?_
  refine xw.steps 1 (fun _ => rfl) ?_
  show xw z NK g 83 5 [(0, .ref (z + 15)), (1, .int n), (2, .int k)] [.int 0, .ref (z + 20)] S P
  refine xw.callO (o := 20) rfl rfl rfl ht rfl rfl (c_Code_lastNumber ht htn hta (by decide) ?_)
  show xw z NK g 83 8 [(0, .ref (z + 15)), (1, .int n), (2, .int k)] [.int (p_l ns 0)] S P
  refine xw.if_ rfl (fun c1 => ?_) (fun c1 => ?_)
  · have c1 := of_decide_eq_true c1
    refine xw.steps 1 (fun _ => rfl) ?_
    refine xw.getf (o := 15) rfl h15 rfl ?_
    refine xw.steps 1 (fun _ => rfl) ?_
    show xw z NK g 83 67 [(0, .ref (z + 15)), (1, .int n), (2, .int k)] [.int 0, .ref (z + 20)] S P
    refine xw.callO (o := 20) rfl rfl rfl ht rfl rfl (c_Code_lastNumber ht htn hta (by decide) ?_)
    show xw z NK g 83 70 [(0, .ref (z + 15)), (1, .int n), (2, .int k)] [.int (p_l ns 0)] S P
    refine xw.steps 1 (fun _ => rfl) ?_
    refine xw.icmp rfl (fun c2 => ?_) (fun c2 => ?_)
    · have c2 := of_decide_eq_true c2
      refine xw.steps 1 (fun _ => rfl) ?_
      refine xw.getf (o := 15) rfl h15 rfl ?_
      refine xw.steps 1 (fun _ => rfl) ?_
      show xw z NK g 83 88 [(0, .ref (z + 15)), (1, .int n), (2, .int k)] [.int 0, .ref (z + 20)] S P
      refine xw.callO (o := 20) rfl rfl rfl ht rfl rfl (c_Code_lastNumber ht htn hta (by decide) ?_)
      show xw z NK g 83 91 [(0, .ref (z + 15)), (1, .int n), (2, .int k)] [.int (p_l ns 0)] S P
      refine xw.steps 1 (fun _ => rfl) ?_
      refine xw.icmp rfl (fun c3 => ?_) (fun c3 => ?_)
      · have c3 := of_decide_eq_true c3
        refine xw.steps 3 (fun _ => rfl) ?_
        refine xw.steps 1 (pc' := 168) (fun _ => rfl) ?_
        refine xw.steps 1 (fun _ => rfl) ?_
        refine xw.ret rfl (fun _ => rfl) ?_
        show P (some (.int 0)) S
        first | simpa [p_cond, bI, xu_same htn, xu_same hta, c1, c2, c3] using hP | simp_all [p_cond, bI, xu_same htn, xu_same hta]
      · have c3 := Decidable.not_not.mp (of_decide_eq_false c3)
        refine xw.steps 1 (fun _ => rfl) ?_
        refine xw.getf (o := 15) rfl h15 rfl ?_
        refine xw.steps 1 (fun _ => rfl) ?_
        show xw z NK g 83 101 [(0, .ref (z + 15)), (1, .int n), (2, .int k)] [.int 0, .ref (z + 20)] S P
        refine xw.callO (o := 20) rfl rfl rfl ht rfl rfl (c_Code_lastArgument ht htn hta (by decide) ?_)
        show xw z NK g 83 104 [(0, .ref (z + 15)), (1, .int n), (2, .int k)] [.int (p_l as 0)] S P
        refine xw.steps 1 (fun _ => rfl) ?_
        refine xw.icmp rfl (fun c4 => ?_) (fun c4 => ?_)
        · have c4 := Int32.not_lt.mpr (of_decide_eq_true c4)
          refine xw.steps 3 (fun _ => rfl) ?_
          refine xw.steps 1 (pc' := 168) (fun _ => rfl) ?_
          refine xw.steps 1 (fun _ => rfl) ?_
          refine xw.ret rfl (fun _ => rfl) ?_
          show P (some (.int 0)) S
          first | simpa [p_cond, bI, xu_same htn, xu_same hta, c1, c2, c3, c4] using hP | simp_all [p_cond, bI, xu_same htn, xu_same hta]
        · have c4 := Int32.not_le.mp (of_decide_eq_false c4)
          refine xw.steps 1 (fun _ => rfl) ?_
          refine xw.getf (o := 15) rfl h15 rfl ?_
          refine xw.steps 1 (fun _ => rfl) ?_
          show xw z NK g 83 113 [(0, .ref (z + 15)), (1, .int n), (2, .int k)] [.int 1, .ref (z + 20)] S P
          refine xw.callO (o := 20) rfl rfl rfl ht rfl rfl (c_Code_lastNumber ht htn hta (by decide) ?_)
          show xw z NK g 83 116 [(0, .ref (z + 15)), (1, .int n), (2, .int k)] [.int (p_l ns 1)] S P
          refine xw.if_ rfl (fun c5 => ?_) (fun c5 => ?_)
          · have c5 := of_decide_eq_true c5
            refine xw.steps 3 (fun _ => rfl) ?_
            refine xw.steps 1 (pc' := 168) (fun _ => rfl) ?_
            refine xw.steps 1 (fun _ => rfl) ?_
            refine xw.ret rfl (fun _ => rfl) ?_
            show P (some (.int 0)) S
            first | simpa [p_cond, bI, xu_same htn, xu_same hta, c1, c2, c3, c4, c5] using hP | simp_all [p_cond, bI, xu_same htn, xu_same hta]
          · have c5 := Decidable.not_not.mp (of_decide_eq_false c5)
            refine xw.steps 1 (fun _ => rfl) ?_
            refine xw.getf (o := 15) rfl h15 rfl ?_
            refine xw.steps 1 (fun _ => rfl) ?_
            show xw z NK g 83 124 [(0, .ref (z + 15)), (1, .int n), (2, .int k)] [.int 1, .ref (z + 20)] S P
            refine xw.callO (o := 20) rfl rfl rfl ht rfl rfl (c_Code_lastArgument ht htn hta (by decide) ?_)
            show xw z NK g 83 127 [(0, .ref (z + 15)), (1, .int n), (2, .int k)] [.int (p_l as 1)] S P
            refine xw.if_ rfl (fun c6 => ?_) (fun c6 => ?_)
            · have c6 := of_decide_eq_true c6
              refine xw.steps 3 (fun _ => rfl) ?_
              refine xw.steps 1 (pc' := 168) (fun _ => rfl) ?_
              refine xw.steps 1 (fun _ => rfl) ?_
              refine xw.ret rfl (fun _ => rfl) ?_
              show P (some (.int 0)) S
              first | simpa [p_cond, bI, xu_same htn, xu_same hta, c1, c2, c3, c4, c5, c6] using hP | simp_all [p_cond, bI, xu_same htn, xu_same hta]
            · have c6 := Decidable.not_not.mp (of_decide_eq_false c6)
              refine xw.steps 4 (fun _ => rfl) ?_
              refine xw.steps 1 (pc' := 140) (fun _ => rfl) ?_
              refine xw.steps 1 (fun _ => rfl) ?_
              refine xw.getf (o := 15) rfl h15 rfl ?_
              refine xw.steps 2 (fun _ => rfl) ?_
              refine xw.getf (o := 15) rfl h15 rfl ?_
              refine xw.steps 1 (fun _ => rfl) ?_
              show xw z NK g 83 150 [(0, .ref (z + 15)), (1, .int n), (2, .int k), (3, .int 1)] [.int 0, .ref (z + 20), .int 2, .ref (z + 20)] S P
              refine xw.callO (o := 20) rfl rfl rfl ht rfl rfl (c_Code_lastArgument ht htn hta (by decide) ?_)
              show xw z NK g 83 153 [(0, .ref (z + 15)), (1, .int n), (2, .int k), (3, .int 1)] [.int (p_l as 0), .int 2, .ref (z + 20)] S P
              refine xw.if_ rfl (fun c7 => ?_) (fun c7 => ?_)
              · have c7 := of_decide_eq_true c7
                refine xw.steps 2 (fun _ => rfl) ?_
                show xw z NK g 83 165 [(0, .ref (z + 15)), (1, .int n), (2, .int k), (3, .int 1)] [.int k, .int n, .int 2, .ref (z + 20)] S P
                refine xw.callO (o := 20) rfl rfl rfl ht rfl rfl (c_Code_replaceLast ht htn hta (by decide) (by first | assumption | (unfold nCut; rw [List.length_take]; omega) | exact Nat.lt_of_le_of_lt (j_arrW_len _ _ _) (by omega)) (by first | assumption | (unfold nCut; rw [List.length_take]; omega) | exact Nat.lt_of_le_of_lt (j_arrW_len _ _ _) (by omega)) ?_)
                show xw z NK g 83 168 [(0, .ref (z + 15)), (1, .int n), (2, .int k), (3, .int 1)] [] (xu (xu S 21 (.inl (p_c ns 2 ++ [n]))) 23 (.inl (p_c as 2 ++ [k]))) P
                refine xw.steps 1 (fun _ => rfl) ?_
                refine xw.ret rfl (fun _ => rfl) ?_
                show P (some (.int 1)) (xu (xu S 21 (.inl (p_c ns 2 ++ [n]))) 23 (.inl (p_c as 2 ++ [k])))
                first | simpa [p_cond, bI, xu_same htn, xu_same hta, c1, c2, c3, c4, c5, c6, c7] using hP | simp_all [p_cond, bI, xu_same htn, xu_same hta]
              · have c7 := Decidable.not_not.mp (of_decide_eq_false c7)
                refine xw.steps 1 (fun _ => rfl) ?_
                show xw z NK g 83 157 [(0, .ref (z + 15)), (1, .int n), (2, .int k), (3, .int 1)] [.int n, .int 2, .ref (z + 20)] S P
                refine xw.callS rfl rfl rfl rfl rfl (c_otherCondition ?_)
                show xw z NK g 83 160 [(0, .ref (z + 15)), (1, .int n), (2, .int k), (3, .int 1)] [.int (p_other n), .int 2, .ref (z + 20)] S P
                refine xw.steps 2 (fun _ => rfl) ?_
                show xw z NK g 83 165 [(0, .ref (z + 15)), (1, .int n), (2, .int k), (3, .int 1)] [.int k, .int (p_other n), .int 2, .ref (z + 20)] S P
                refine xw.callO (o := 20) rfl rfl rfl ht rfl rfl (c_Code_replaceLast ht htn hta (by decide) (by first | assumption | (unfold nCut; rw [List.length_take]; omega) | exact Nat.lt_of_le_of_lt (j_arrW_len _ _ _) (by omega)) (by first | assumption | (unfold nCut; rw [List.length_take]; omega) | exact Nat.lt_of_le_of_lt (j_arrW_len _ _ _) (by omega)) ?_)
                show xw z NK g 83 168 [(0, .ref (z + 15)), (1, .int n), (2, .int k), (3, .int 1)] [] (xu (xu S 21 (.inl (p_c ns 2 ++ [(p_other n)]))) 23 (.inl (p_c as 2 ++ [k]))) P
                refine xw.steps 1 (fun _ => rfl) ?_
                refine xw.ret rfl (fun _ => rfl) ?_
                show P (some (.int 1)) (xu (xu S 21 (.inl (p_c ns 2 ++ [(p_other n)]))) 23 (.inl (p_c as 2 ++ [k])))
                first | simpa [p_cond, bI, xu_same htn, xu_same hta, c1, c2, c3, c4, c5, c6, c7] using hP | simp_all [p_cond, bI, xu_same htn, xu_same hta]
    · have c2 := Decidable.not_not.mp (of_decide_eq_false c2)
      refine xw.steps 1 (fun _ => rfl) ?_
      refine xw.getf (o := 15) rfl h15 rfl ?_
      show xw z NK g 83 78 [(0, .ref (z + 15)), (1, .int n), (2, .int k)] [.ref (z + 20)] S P
      refine xw.callO (o := 20) rfl rfl rfl ht rfl rfl (c_Code_cutLast ht htn hta (by decide) ?_)
      show xw z NK g 83 81 [(0, .ref (z + 15)), (1, .int n), (2, .int k)] [] (xu (xu S 21 (.inl ns.dropLast)) 23 (.inl as.dropLast)) P
      refine xw.steps 1 (fun _ => rfl) ?_
      refine xw.ret rfl (fun _ => rfl) ?_
      show P (some (.int 0)) (xu (xu S 21 (.inl ns.dropLast)) 23 (.inl as.dropLast))
      first | simpa [p_cond, bI, xu_same htn, xu_same hta, c1, c2] using hP | simp_all [p_cond, bI, xu_same htn, xu_same hta]
  · have c1 := Decidable.not_not.mp (of_decide_eq_false c1)
    refine xw.steps 1 (fun _ => rfl) ?_
    refine xw.getf (o := 15) rfl h15 rfl ?_
    refine xw.steps 1 (fun _ => rfl) ?_
    show xw z NK g 83 16 [(0, .ref (z + 15)), (1, .int n), (2, .int k)] [.int 0, .ref (z + 20)] S P
    refine xw.callO (o := 20) rfl rfl rfl ht rfl rfl (c_Code_lastArgument ht htn hta (by decide) ?_)
    show xw z NK g 83 19 [(0, .ref (z + 15)), (1, .int n), (2, .int k)] [.int (p_l as 0)] S P
    refine xw.if_ rfl (fun c8 => ?_) (fun c8 => ?_)
    · have c8 := of_decide_eq_true c8
      refine xw.steps 3 (fun _ => rfl) ?_
      refine xw.getf (o := 15) rfl h15 rfl ?_
      show xw z NK g 83 32 [(0, .ref (z + 15)), (1, .int n), (2, .int k), (3, .int 0)] [.ref (z + 20)] S P
      refine xw.callO (o := 20) rfl rfl rfl ht rfl rfl (c_Code_cutLast ht htn hta (by decide) ?_)
      show xw z NK g 83 35 [(0, .ref (z + 15)), (1, .int n), (2, .int k), (3, .int 0)] [] (xu (xu S 21 (.inl ns.dropLast)) 23 (.inl as.dropLast)) P
      refine xw.steps 3 (fun _ => rfl) ?_
      refine xw.icmp rfl (fun c9 => ?_) (fun c9 => ?_)
      · have c9 := of_decide_eq_true c9
        refine xw.steps 1 (fun _ => rfl) ?_
        refine xw.steps 1 (pc' := 50) (fun _ => rfl) ?_
        refine xw.steps 1 (fun _ => rfl) ?_
        refine xw.getf (o := 15) rfl ((xu_ne _ _ (by decide)).trans ((xu_ne _ _ (by decide)).trans h15)) rfl ?_
        refine xw.steps 2 (fun _ => rfl) ?_
        show xw z NK g 83 57 [(0, .ref (z + 15)), (1, .int n), (2, .int k), (3, .int 0)] [.int k, .int 10, .ref (z + 20)] (xu (xu S 21 (.inl ns.dropLast)) 23 (.inl as.dropLast)) P
        refine xw.callO (o := 20) rfl rfl rfl ((xu_ne _ _ (by decide)).trans ((xu_ne _ _ (by decide)).trans ht)) rfl rfl (c_Code_append ((xu_ne _ _ (by decide)).trans ((xu_ne _ _ (by decide)).trans ht)) ((xu_ne _ _ (by decide)).trans (xu_self _ _ _)) (xu_self _ _ _) (by decide) (by rw [List.length_dropLast]; omega) (by rw [List.length_dropLast]; omega) ?_)
        show xw z NK g 83 60 [(0, .ref (z + 15)), (1, .int n), (2, .int k), (3, .int 0)] [] (xu (xu (xu (xu S 21 (.inl ns.dropLast)) 23 (.inl as.dropLast)) 21 (.inl (ns.dropLast ++ [10]))) 23 (.inl (as.dropLast ++ [k]))) P
        rw [xu4 _ (show (21 : Nat) ≠ 23 by decide)]
        refine xw.steps 1 (fun _ => rfl) ?_
        refine xw.ret rfl (fun _ => rfl) ?_
        show P (some (.int 1)) (xu (xu S 21 (.inl (ns.dropLast ++ [10]))) 23 (.inl (as.dropLast ++ [k])))
        first | simpa [p_cond, bI, xu_same htn, xu_same hta, c1, c8, c9] using hP | simp_all [p_cond, bI, xu_same htn, xu_same hta]
      · have c9 := Decidable.not_not.mp (of_decide_eq_false c9)
        refine xw.steps 2 (fun _ => rfl) ?_
        refine xw.steps 1 (pc' := 60) (fun _ => rfl) ?_
        refine xw.steps 1 (fun _ => rfl) ?_
        refine xw.ret rfl (fun _ => rfl) ?_
        show P (some (.int 1)) (xu (xu S 21 (.inl ns.dropLast)) 23 (.inl as.dropLast))
        first | simpa [p_cond, bI, xu_same htn, xu_same hta, c1, c8, c9] using hP | simp_all [p_cond, bI, xu_same htn, xu_same hta]
    · have c8 := Decidable.not_not.mp (of_decide_eq_false c8)
      refine xw.steps 4 (fun _ => rfl) ?_
      refine xw.getf (o := 15) rfl h15 rfl ?_
      show xw z NK g 83 32 [(0, .ref (z + 15)), (1, .int n), (2, .int k), (3, .int 1)] [.ref (z + 20)] S P
      refine xw.callO (o := 20) rfl rfl rfl ht rfl rfl (c_Code_cutLast ht htn hta (by decide) ?_)
      show xw z NK g 83 35 [(0, .ref (z + 15)), (1, .int n), (2, .int k), (3, .int 1)] [] (xu (xu S 21 (.inl ns.dropLast)) 23 (.inl as.dropLast)) P
      refine xw.steps 3 (fun _ => rfl) ?_
      refine xw.icmp rfl (fun c10 => ?_) (fun c10 => ?_)
      · have c10 := of_decide_eq_true c10
        refine xw.steps 1 (fun _ => rfl) ?_
        refine xw.steps 1 (pc' := 60) (fun _ => rfl) ?_
        refine xw.steps 1 (fun _ => rfl) ?_
        refine xw.ret rfl (fun _ => rfl) ?_
        show P (some (.int 1)) (xu (xu S 21 (.inl ns.dropLast)) 23 (.inl as.dropLast))
        first | simpa [p_cond, bI, xu_same htn, xu_same hta, c1, c8, c10] using hP | simp_all [p_cond, bI, xu_same htn, xu_same hta]
      · have c10 := Decidable.not_not.mp (of_decide_eq_false c10)
        refine xw.steps 2 (fun _ => rfl) ?_
        refine xw.steps 1 (pc' := 50) (fun _ => rfl) ?_
        refine xw.steps 1 (fun _ => rfl) ?_
        refine xw.getf (o := 15) rfl ((xu_ne _ _ (by decide)).trans ((xu_ne _ _ (by decide)).trans h15)) rfl ?_
        refine xw.steps 2 (fun _ => rfl) ?_
        show xw z NK g 83 57 [(0, .ref (z + 15)), (1, .int n), (2, .int k), (3, .int 1)] [.int k, .int 10, .ref (z + 20)] (xu (xu S 21 (.inl ns.dropLast)) 23 (.inl as.dropLast)) P
        refine xw.callO (o := 20) rfl rfl rfl ((xu_ne _ _ (by decide)).trans ((xu_ne _ _ (by decide)).trans ht)) rfl rfl (c_Code_append ((xu_ne _ _ (by decide)).trans ((xu_ne _ _ (by decide)).trans ht)) ((xu_ne _ _ (by decide)).trans (xu_self _ _ _)) (xu_self _ _ _) (by decide) (by rw [List.length_dropLast]; omega) (by rw [List.length_dropLast]; omega) ?_)
        show xw z NK g 83 60 [(0, .ref (z + 15)), (1, .int n), (2, .int k), (3, .int 1)] [] (xu (xu (xu (xu S 21 (.inl ns.dropLast)) 23 (.inl as.dropLast)) 21 (.inl (ns.dropLast ++ [10]))) 23 (.inl (as.dropLast ++ [k]))) P
        rw [xu4 _ (show (21 : Nat) ≠ 23 by decide)]
        refine xw.steps 1 (fun _ => rfl) ?_
        refine xw.ret rfl (fun _ => rfl) ?_
        show P (some (.int 1)) (xu (xu S 21 (.inl (ns.dropLast ++ [10]))) 23 (.inl (as.dropLast ++ [k])))
        first | simpa [p_cond, bI, xu_same htn, xu_same hta, c1, c8, c10] using hP | simp_all [p_cond, bI, xu_same htn, xu_same hta]
set_option maxHeartbeats 4000000 in
/-- RowCode$Improver.shortenWayTo(I)V -/
theorem c_short_B (hJ : iS z S 25 26 28 20 21 23 pl us fs ga ns as) (hl1 : ns.length < 131072) (hl2 : as.length < 131072) {k : Int32} (hP : P none (xu (xu S 21 (.inl (p_short ns as k).1)) 23 (.inl (p_short ns as k).2))) : xw z NK g 85 0 [(0, .ref (z + 15)), (1, .int k)] [] S P := by
  obtain ⟨h15, h16, h18, hf, hfn, hfa, ht, htn, hta⟩ := id hJ
  refine xw.steps 1 (fun _ => rfl) ?_
  refine xw.getf (o := 15) rfl h15 rfl ?_
  refine xw.steps 1 (fun _ => rfl) ?_
  show xw z NK g 85 5 [(0, .ref (z + 15)), (1, .int k)] [.int 0, .ref (z + 20)] S P
  refine xw.callO (o := 20) rfl rfl rfl ht rfl rfl (c_Code_lastNumber ht htn hta (by decide) ?_)
  show xw z NK g 85 8 [(0, .ref (z + 15)), (1, .int k)] [.int (p_l ns 0)] S P
  refine xw.steps 1 (fun _ => rfl) ?_
  refine xw.icmp rfl (fun c1 => ?_) (fun c1 => ?_)
  · have c1 := of_decide_eq_true c1
    refine xw.steps 3 (fun _ => rfl) ?_
    refine xw.steps 1 (pc' := 27) (fun _ => rfl) ?_
    refine xw.steps 3 (fun _ => rfl) ?_
    refine xw.getf (o := 15) rfl h15 rfl ?_
    refine xw.steps 1 (fun _ => rfl) ?_
    show xw z NK g 85 34 [(0, .ref (z + 15)), (1, .int k), (2, .int 0), (3, .int 0)] [.int 0, .ref (z + 20)] S P
    refine xw.callO (o := 20) rfl rfl rfl ht rfl rfl (c_Code_lastNumber ht htn hta (by decide) ?_)
    show xw z NK g 85 37 [(0, .ref (z + 15)), (1, .int k), (2, .int 0), (3, .int 0)] [.int (p_l ns 0)] S P
    show xw z NK g 85 37 [(0, .ref (z + 15)), (1, .int k), (2, .int 0), (3, .int 0)] [.int (p_l ns 0)] S P
    refine xw.callS rfl rfl rfl rfl rfl (c_isCondition ?_)
    show xw z NK g 85 40 [(0, .ref (z + 15)), (1, .int k), (2, .int 0), (3, .int 0)] [.int (bI (t_cond (p_l ns 0)))] S P
    refine xw.if_ rfl (fun c2 => ?_) (fun c2 => ?_)
    · have c2 := bI_eq0 (of_decide_eq_true c2)
      refine xw.steps 3 (fun _ => rfl) ?_
      refine xw.steps 1 (pc' := 103) (fun _ => rfl) ?_
      refine xw.steps 1 (fun _ => rfl) ?_
      refine xw.steps 1 (pc' := 142) (fun _ => rfl) ?_
      refine xw.steps 1 (fun _ => rfl) ?_
      refine xw.steps 1 (pc' := 158) (fun _ => rfl) ?_
      refine xw.ret rfl (fun _ => rfl) ?_
      show P none S
      first | simpa [p_short, bI, xu_same htn, xu_same hta, c1, c2] using hP | simp_all [p_short, bI, xu_same htn, xu_same hta]
    · have c2 := bI_ne0 (of_decide_eq_false c2)
      refine xw.steps 1 (fun _ => rfl) ?_
      refine xw.getf (o := 15) rfl h15 rfl ?_
      refine xw.steps 1 (fun _ => rfl) ?_
      show xw z NK g 85 48 [(0, .ref (z + 15)), (1, .int k), (2, .int 0), (3, .int 0)] [.int 0, .ref (z + 20)] S P
      refine xw.callO (o := 20) rfl rfl rfl ht rfl rfl (c_Code_lastArgument ht htn hta (by decide) ?_)
      show xw z NK g 85 51 [(0, .ref (z + 15)), (1, .int k), (2, .int 0), (3, .int 0)] [.int (p_l as 0)] S P
      refine xw.steps 1 (fun _ => rfl) ?_
      refine xw.icmp rfl (fun c3 => ?_) (fun c3 => ?_)
      · have c3 := of_decide_eq_true c3
        refine xw.steps 3 (fun _ => rfl) ?_
        refine xw.steps 1 (pc' := 103) (fun _ => rfl) ?_
        refine xw.steps 1 (fun _ => rfl) ?_
        refine xw.steps 1 (pc' := 142) (fun _ => rfl) ?_
        refine xw.steps 1 (fun _ => rfl) ?_
        refine xw.steps 1 (pc' := 158) (fun _ => rfl) ?_
        refine xw.ret rfl (fun _ => rfl) ?_
        show P none S
        first | simpa [p_short, bI, xu_same htn, xu_same hta, c1, c2, c3] using hP | simp_all [p_short, bI, xu_same htn, xu_same hta]
      · have c3 := Decidable.not_not.mp (of_decide_eq_false c3)
        refine xw.steps 1 (fun _ => rfl) ?_
        refine xw.getf (o := 15) rfl h15 rfl ?_
        refine xw.steps 3 (fun _ => rfl) ?_
        show xw z NK g 85 62 [(0, .ref (z + 15)), (1, .int k), (2, .int 0), (3, .int 0)] [.int (0 + 1), .ref (z + 20)] S P
        refine xw.callO (o := 20) rfl rfl rfl ht rfl rfl (c_Code_lastNumber ht htn hta (by decide) ?_)
        show xw z NK g 85 65 [(0, .ref (z + 15)), (1, .int k), (2, .int 0), (3, .int 0)] [.int (p_l ns (0 + 1))] S P
        refine xw.steps 1 (fun _ => rfl) ?_
        refine xw.icmp rfl (fun c4 => ?_) (fun c4 => ?_)
        · have c4 := of_decide_eq_true c4
          refine xw.steps 3 (fun _ => rfl) ?_
          refine xw.steps 1 (pc' := 103) (fun _ => rfl) ?_
          refine xw.steps 1 (fun _ => rfl) ?_
          refine xw.steps 1 (pc' := 142) (fun _ => rfl) ?_
          refine xw.steps 1 (fun _ => rfl) ?_
          refine xw.steps 1 (pc' := 158) (fun _ => rfl) ?_
          refine xw.ret rfl (fun _ => rfl) ?_
          show P none S
          first | simpa [p_short, bI, xu_same htn, xu_same hta, c1, c2, c3, c4] using hP | simp_all [p_short, bI, xu_same htn, xu_same hta]
        · have c4 := of_decide_eq_false c4
          refine xw.steps 4 (fun _ => rfl) ?_
          refine xw.steps 1 (pc' := 103) (fun _ => rfl) ?_
          refine xw.steps 1 (fun _ => rfl) ?_
          refine xw.steps 1 (pc' := 142) (fun _ => rfl) ?_
          refine xw.steps 1 (fun _ => rfl) ?_
          refine xw.steps 1 (pc' := 147) (fun _ => rfl) ?_
          refine xw.steps 1 (fun _ => rfl) ?_
          refine xw.getf (o := 15) rfl h15 rfl ?_
          refine xw.steps 3 (fun _ => rfl) ?_
          show xw z NK g 85 155 [(0, .ref (z + 15)), (1, .int k), (2, .int 0), (3, .int 0), (4, .int 1)] [.int 0, .int 14, .int 1, .ref (z + 20)] S P
          refine xw.callO (o := 20) rfl rfl rfl ht rfl rfl (c_Code_replaceLast ht htn hta (by decide) (by first | assumption | (unfold nCut; rw [List.length_take]; omega) | exact Nat.lt_of_le_of_lt (j_arrW_len _ _ _) (by omega)) (by first | assumption | (unfold nCut; rw [List.length_take]; omega) | exact Nat.lt_of_le_of_lt (j_arrW_len _ _ _) (by omega)) ?_)
          show xw z NK g 85 158 [(0, .ref (z + 15)), (1, .int k), (2, .int 0), (3, .int 0), (4, .int 1)] [] (xu (xu S 21 (.inl (p_c ns 1 ++ [14]))) 23 (.inl (p_c as 1 ++ [0]))) P
          refine xw.ret rfl (fun _ => rfl) ?_
          show P none (xu (xu S 21 (.inl (p_c ns 1 ++ [14]))) 23 (.inl (p_c as 1 ++ [0])))
          first | simpa [p_short, bI, xu_same htn, xu_same hta, c1, c2, c3, c4] using hP | simp_all [p_short, bI, xu_same htn, xu_same hta]
  · have c1 := Decidable.not_not.mp (of_decide_eq_false c1)
    refine xw.steps 4 (fun _ => rfl) ?_
    refine xw.steps 1 (pc' := 23) (fun _ => rfl) ?_
    refine xw.steps 4 (fun _ => rfl) ?_
    refine xw.getf (o := 15) rfl h15 rfl ?_
    refine xw.steps 1 (fun _ => rfl) ?_
    show xw z NK g 85 34 [(0, .ref (z + 15)), (1, .int k), (2, .int 1), (3, .int 1)] [.int 1, .ref (z + 20)] S P
    refine xw.callO (o := 20) rfl rfl rfl ht rfl rfl (c_Code_lastNumber ht htn hta (by decide) ?_)
    show xw z NK g 85 37 [(0, .ref (z + 15)), (1, .int k), (2, .int 1), (3, .int 1)] [.int (p_l ns 1)] S P
    show xw z NK g 85 37 [(0, .ref (z + 15)), (1, .int k), (2, .int 1), (3, .int 1)] [.int (p_l ns 1)] S P
    refine xw.callS rfl rfl rfl rfl rfl (c_isCondition ?_)
    show xw z NK g 85 40 [(0, .ref (z + 15)), (1, .int k), (2, .int 1), (3, .int 1)] [.int (bI (t_cond (p_l ns 1)))] S P
    refine xw.if_ rfl (fun c5 => ?_) (fun c5 => ?_)
    · have c5 := bI_eq0 (of_decide_eq_true c5)
      refine xw.steps 3 (fun _ => rfl) ?_
      refine xw.steps 1 (pc' := 81) (fun _ => rfl) ?_
      refine xw.steps 1 (fun _ => rfl) ?_
      refine xw.getf (o := 15) rfl h15 rfl ?_
      refine xw.steps 1 (fun _ => rfl) ?_
      show xw z NK g 85 86 [(0, .ref (z + 15)), (1, .int k), (2, .int 1), (3, .int 1), (4, .int 0)] [.int 0, .ref (z + 20)] S P
      refine xw.callO (o := 20) rfl rfl rfl ht rfl rfl (c_Code_lastArgument ht htn hta (by decide) ?_)
      show xw z NK g 85 89 [(0, .ref (z + 15)), (1, .int k), (2, .int 1), (3, .int 1), (4, .int 0)] [.int (p_l as 0)] S P
      refine xw.steps 1 (fun _ => rfl) ?_
      refine xw.icmp rfl (fun c6 => ?_) (fun c6 => ?_)
      · have c6 := of_decide_eq_true c6
        refine xw.steps 1 (fun _ => rfl) ?_
        refine xw.steps 1 (pc' := 107) (fun _ => rfl) ?_
        refine xw.steps 1 (fun _ => rfl) ?_
        refine xw.steps 1 (pc' := 142) (fun _ => rfl) ?_
        refine xw.steps 1 (fun _ => rfl) ?_
        refine xw.steps 1 (pc' := 158) (fun _ => rfl) ?_
        refine xw.ret rfl (fun _ => rfl) ?_
        show P none S
        first | simpa [p_short, bI, xu_same htn, xu_same hta, c1, c5, c6] using hP | simp_all [p_short, bI, xu_same htn, xu_same hta]
      · have c6 := Decidable.not_not.mp (of_decide_eq_false c6)
        refine xw.steps 1 (fun _ => rfl) ?_
        refine xw.getf (o := 15) rfl h15 rfl ?_
        show xw z NK g 85 97 [(0, .ref (z + 15)), (1, .int k), (2, .int 1), (3, .int 1), (4, .int 0)] [.ref (z + 20)] S P
        refine xw.callO (o := 20) rfl rfl rfl ht rfl rfl (c_Code_cutLast ht htn hta (by decide) ?_)
        show xw z NK g 85 100 [(0, .ref (z + 15)), (1, .int k), (2, .int 1), (3, .int 1), (4, .int 0)] [] (xu (xu S 21 (.inl ns.dropLast)) 23 (.inl as.dropLast)) P
        refine xw.steps 1 (fun _ => rfl) ?_
        refine xw.ret rfl (fun _ => rfl) ?_
        show P none (xu (xu S 21 (.inl ns.dropLast)) 23 (.inl as.dropLast))
        first | simpa [p_short, bI, xu_same htn, xu_same hta, c1, c5, c6] using hP | simp_all [p_short, bI, xu_same htn, xu_same hta]
    · have c5 := bI_ne0 (of_decide_eq_false c5)
      refine xw.steps 1 (fun _ => rfl) ?_
      refine xw.getf (o := 15) rfl h15 rfl ?_
      refine xw.steps 1 (fun _ => rfl) ?_
      show xw z NK g 85 48 [(0, .ref (z + 15)), (1, .int k), (2, .int 1), (3, .int 1)] [.int 1, .ref (z + 20)] S P
      refine xw.callO (o := 20) rfl rfl rfl ht rfl rfl (c_Code_lastArgument ht htn hta (by decide) ?_)
      show xw z NK g 85 51 [(0, .ref (z + 15)), (1, .int k), (2, .int 1), (3, .int 1)] [.int (p_l as 1)] S P
      refine xw.steps 1 (fun _ => rfl) ?_
      refine xw.icmp rfl (fun c7 => ?_) (fun c7 => ?_)
      · have c7 := of_decide_eq_true c7
        refine xw.steps 3 (fun _ => rfl) ?_
        refine xw.steps 1 (pc' := 81) (fun _ => rfl) ?_
        refine xw.steps 1 (fun _ => rfl) ?_
        refine xw.getf (o := 15) rfl h15 rfl ?_
        refine xw.steps 1 (fun _ => rfl) ?_
        show xw z NK g 85 86 [(0, .ref (z + 15)), (1, .int k), (2, .int 1), (3, .int 1), (4, .int 0)] [.int 0, .ref (z + 20)] S P
        refine xw.callO (o := 20) rfl rfl rfl ht rfl rfl (c_Code_lastArgument ht htn hta (by decide) ?_)
        show xw z NK g 85 89 [(0, .ref (z + 15)), (1, .int k), (2, .int 1), (3, .int 1), (4, .int 0)] [.int (p_l as 0)] S P
        refine xw.steps 1 (fun _ => rfl) ?_
        refine xw.icmp rfl (fun c8 => ?_) (fun c8 => ?_)
        · have c8 := of_decide_eq_true c8
          refine xw.steps 1 (fun _ => rfl) ?_
          refine xw.steps 1 (pc' := 107) (fun _ => rfl) ?_
          refine xw.steps 1 (fun _ => rfl) ?_
          refine xw.steps 1 (pc' := 142) (fun _ => rfl) ?_
          refine xw.steps 1 (fun _ => rfl) ?_
          refine xw.steps 1 (pc' := 158) (fun _ => rfl) ?_
          refine xw.ret rfl (fun _ => rfl) ?_
          show P none S
          first | simpa [p_short, bI, xu_same htn, xu_same hta, c1, c5, c7, c8] using hP | simp_all [p_short, bI, xu_same htn, xu_same hta]
        · have c8 := Decidable.not_not.mp (of_decide_eq_false c8)
          refine xw.steps 1 (fun _ => rfl) ?_
          refine xw.getf (o := 15) rfl h15 rfl ?_
          show xw z NK g 85 97 [(0, .ref (z + 15)), (1, .int k), (2, .int 1), (3, .int 1), (4, .int 0)] [.ref (z + 20)] S P
          refine xw.callO (o := 20) rfl rfl rfl ht rfl rfl (c_Code_cutLast ht htn hta (by decide) ?_)
          show xw z NK g 85 100 [(0, .ref (z + 15)), (1, .int k), (2, .int 1), (3, .int 1), (4, .int 0)] [] (xu (xu S 21 (.inl ns.dropLast)) 23 (.inl as.dropLast)) P
          refine xw.steps 1 (fun _ => rfl) ?_
          refine xw.ret rfl (fun _ => rfl) ?_
          show P none (xu (xu S 21 (.inl ns.dropLast)) 23 (.inl as.dropLast))
          first | simpa [p_short, bI, xu_same htn, xu_same hta, c1, c5, c7, c8] using hP | simp_all [p_short, bI, xu_same htn, xu_same hta]
      · have c7 := Decidable.not_not.mp (of_decide_eq_false c7)
        refine xw.steps 1 (fun _ => rfl) ?_
        refine xw.getf (o := 15) rfl h15 rfl ?_
        refine xw.steps 3 (fun _ => rfl) ?_
        show xw z NK g 85 62 [(0, .ref (z + 15)), (1, .int k), (2, .int 1), (3, .int 1)] [.int (1 + 1), .ref (z + 20)] S P
        refine xw.callO (o := 20) rfl rfl rfl ht rfl rfl (c_Code_lastNumber ht htn hta (by decide) ?_)
        show xw z NK g 85 65 [(0, .ref (z + 15)), (1, .int k), (2, .int 1), (3, .int 1)] [.int (p_l ns (1 + 1))] S P
        refine xw.steps 1 (fun _ => rfl) ?_
        refine xw.icmp rfl (fun c9 => ?_) (fun c9 => ?_)
        · have c9 := of_decide_eq_true c9
          refine xw.steps 3 (fun _ => rfl) ?_
          refine xw.steps 1 (pc' := 81) (fun _ => rfl) ?_
          refine xw.steps 1 (fun _ => rfl) ?_
          refine xw.getf (o := 15) rfl h15 rfl ?_
          refine xw.steps 1 (fun _ => rfl) ?_
          show xw z NK g 85 86 [(0, .ref (z + 15)), (1, .int k), (2, .int 1), (3, .int 1), (4, .int 0)] [.int 0, .ref (z + 20)] S P
          refine xw.callO (o := 20) rfl rfl rfl ht rfl rfl (c_Code_lastArgument ht htn hta (by decide) ?_)
          show xw z NK g 85 89 [(0, .ref (z + 15)), (1, .int k), (2, .int 1), (3, .int 1), (4, .int 0)] [.int (p_l as 0)] S P
          refine xw.steps 1 (fun _ => rfl) ?_
          refine xw.icmp rfl (fun c10 => ?_) (fun c10 => ?_)
          · have c10 := of_decide_eq_true c10
            refine xw.steps 1 (fun _ => rfl) ?_
            refine xw.steps 1 (pc' := 107) (fun _ => rfl) ?_
            refine xw.steps 1 (fun _ => rfl) ?_
            refine xw.steps 1 (pc' := 142) (fun _ => rfl) ?_
            refine xw.steps 1 (fun _ => rfl) ?_
            refine xw.steps 1 (pc' := 158) (fun _ => rfl) ?_
            refine xw.ret rfl (fun _ => rfl) ?_
            show P none S
            first | simpa [p_short, bI, xu_same htn, xu_same hta, c1, c5, c7, c9, c10] using hP | simp_all [p_short, bI, xu_same htn, xu_same hta]
          · have c10 := Decidable.not_not.mp (of_decide_eq_false c10)
            refine xw.steps 1 (fun _ => rfl) ?_
            refine xw.getf (o := 15) rfl h15 rfl ?_
            show xw z NK g 85 97 [(0, .ref (z + 15)), (1, .int k), (2, .int 1), (3, .int 1), (4, .int 0)] [.ref (z + 20)] S P
            refine xw.callO (o := 20) rfl rfl rfl ht rfl rfl (c_Code_cutLast ht htn hta (by decide) ?_)
            show xw z NK g 85 100 [(0, .ref (z + 15)), (1, .int k), (2, .int 1), (3, .int 1), (4, .int 0)] [] (xu (xu S 21 (.inl ns.dropLast)) 23 (.inl as.dropLast)) P
            refine xw.steps 1 (fun _ => rfl) ?_
            refine xw.ret rfl (fun _ => rfl) ?_
            show P none (xu (xu S 21 (.inl ns.dropLast)) 23 (.inl as.dropLast))
            first | simpa [p_short, bI, xu_same htn, xu_same hta, c1, c5, c7, c9, c10] using hP | simp_all [p_short, bI, xu_same htn, xu_same hta]
        · have c9 := of_decide_eq_false c9
          refine xw.steps 4 (fun _ => rfl) ?_
          refine xw.steps 1 (pc' := 81) (fun _ => rfl) ?_
          refine xw.steps 1 (fun _ => rfl) ?_
          refine xw.getf (o := 15) rfl h15 rfl ?_
          refine xw.steps 1 (fun _ => rfl) ?_
          show xw z NK g 85 86 [(0, .ref (z + 15)), (1, .int k), (2, .int 1), (3, .int 1), (4, .int 1)] [.int 0, .ref (z + 20)] S P
          refine xw.callO (o := 20) rfl rfl rfl ht rfl rfl (c_Code_lastArgument ht htn hta (by decide) ?_)
          show xw z NK g 85 89 [(0, .ref (z + 15)), (1, .int k), (2, .int 1), (3, .int 1), (4, .int 1)] [.int (p_l as 0)] S P
          refine xw.steps 1 (fun _ => rfl) ?_
          refine xw.icmp rfl (fun c11 => ?_) (fun c11 => ?_)
          · have c11 := of_decide_eq_true c11
            refine xw.steps 1 (fun _ => rfl) ?_
            refine xw.steps 1 (pc' := 107) (fun _ => rfl) ?_
            refine xw.steps 1 (fun _ => rfl) ?_
            refine xw.steps 1 (pc' := 112) (fun _ => rfl) ?_
            refine xw.steps 1 (fun _ => rfl) ?_
            refine xw.getf (o := 15) rfl h15 rfl ?_
            refine xw.steps 2 (fun _ => rfl) ?_
            refine xw.getf (o := 15) rfl h15 rfl ?_
            refine xw.steps 1 (fun _ => rfl) ?_
            show xw z NK g 85 122 [(0, .ref (z + 15)), (1, .int k), (2, .int 1), (3, .int 1), (4, .int 1)] [.int 1, .ref (z + 20), .int 2, .ref (z + 20)] S P
            refine xw.callO (o := 20) rfl rfl rfl ht rfl rfl (c_Code_lastNumber ht htn hta (by decide) ?_)
            show xw z NK g 85 125 [(0, .ref (z + 15)), (1, .int k), (2, .int 1), (3, .int 1), (4, .int 1)] [.int (p_l ns 1), .int 2, .ref (z + 20)] S P
            show xw z NK g 85 125 [(0, .ref (z + 15)), (1, .int k), (2, .int 1), (3, .int 1), (4, .int 1)] [.int (p_l ns 1), .int 2, .ref (z + 20)] S P
            refine xw.callS rfl rfl rfl rfl rfl (c_otherCondition ?_)
            show xw z NK g 85 128 [(0, .ref (z + 15)), (1, .int k), (2, .int 1), (3, .int 1), (4, .int 1)] [.int (p_other (p_l ns 1)), .int 2, .ref (z + 20)] S P
            refine xw.steps 1 (fun _ => rfl) ?_
            refine xw.getf (o := 15) rfl h15 rfl ?_
            refine xw.steps 1 (fun _ => rfl) ?_
            show xw z NK g 85 133 [(0, .ref (z + 15)), (1, .int k), (2, .int 1), (3, .int 1), (4, .int 1)] [.int 0, .ref (z + 20), .int (p_other (p_l ns 1)), .int 2, .ref (z + 20)] S P
            refine xw.callO (o := 20) rfl rfl rfl ht rfl rfl (c_Code_lastArgument ht htn hta (by decide) ?_)
            show xw z NK g 85 136 [(0, .ref (z + 15)), (1, .int k), (2, .int 1), (3, .int 1), (4, .int 1)] [.int (p_l as 0), .int (p_other (p_l ns 1)), .int 2, .ref (z + 20)] S P
            show xw z NK g 85 136 [(0, .ref (z + 15)), (1, .int k), (2, .int 1), (3, .int 1), (4, .int 1)] [.int (p_l as 0), .int (p_other (p_l ns 1)), .int 2, .ref (z + 20)] S P
            refine xw.callO (o := 20) rfl rfl rfl ht rfl rfl (c_Code_replaceLast ht htn hta (by decide) (by first | assumption | (unfold nCut; rw [List.length_take]; omega) | exact Nat.lt_of_le_of_lt (j_arrW_len _ _ _) (by omega)) (by first | assumption | (unfold nCut; rw [List.length_take]; omega) | exact Nat.lt_of_le_of_lt (j_arrW_len _ _ _) (by omega)) ?_)
            show xw z NK g 85 139 [(0, .ref (z + 15)), (1, .int k), (2, .int 1), (3, .int 1), (4, .int 1)] [] (xu (xu S 21 (.inl (p_c ns 2 ++ [(p_other (p_l ns 1))]))) 23 (.inl (p_c as 2 ++ [(p_l as 0)]))) P
            refine xw.steps 1 (fun _ => rfl) ?_
            refine xw.ret rfl (fun _ => rfl) ?_
            show P none (xu (xu S 21 (.inl (p_c ns 2 ++ [(p_other (p_l ns 1))]))) 23 (.inl (p_c as 2 ++ [(p_l as 0)])))
            first | simpa [p_short, bI, xu_same htn, xu_same hta, c1, c5, c7, c9, c11] using hP | simp_all [p_short, bI, xu_same htn, xu_same hta]
          · have c11 := Decidable.not_not.mp (of_decide_eq_false c11)
            refine xw.steps 1 (fun _ => rfl) ?_
            refine xw.getf (o := 15) rfl h15 rfl ?_
            show xw z NK g 85 97 [(0, .ref (z + 15)), (1, .int k), (2, .int 1), (3, .int 1), (4, .int 1)] [.ref (z + 20)] S P
            refine xw.callO (o := 20) rfl rfl rfl ht rfl rfl (c_Code_cutLast ht htn hta (by decide) ?_)
            show xw z NK g 85 100 [(0, .ref (z + 15)), (1, .int k), (2, .int 1), (3, .int 1), (4, .int 1)] [] (xu (xu S 21 (.inl ns.dropLast)) 23 (.inl as.dropLast)) P
            refine xw.steps 1 (fun _ => rfl) ?_
            refine xw.ret rfl (fun _ => rfl) ?_
            show P none (xu (xu S 21 (.inl ns.dropLast)) 23 (.inl as.dropLast))
            first | simpa [p_short, bI, xu_same htn, xu_same hta, c1, c5, c7, c9, c11] using hP | simp_all [p_short, bI, xu_same htn, xu_same hta]
end XP
