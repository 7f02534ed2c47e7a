/-! JUDGE (walks by wip/gen20.py). xs, ys: the code; pl: places; ds: depths; cm: comers; wt: waiting -/
theorem xu_same {S : xS} {k : Nat} {c : xC} (h : S k = some c) : xu S k c = S := by
  funext q
  by_cases hq : q = k
  · rw [hq, xu_self, h]
  · rw [xu_ne _ _ hq]
theorem x_in21 {k : Nat} {n : Int32} (hk : (x_stat k).1 = 21) (h1 : ¬ n < 0) (h2 : n < 21) : ¬ (n < 0 ∨ (x_stat k).1 ≤ n.toNatClampNeg) := by
  rw [hk]
  rintro (w | w)
  · exact h1 w
  · exact absurd h2 (Int32.not_lt.mpr ((x_le (n := 21) h1 (by decide)).mpr w))
def jS (z : Nat) (S : xS) (xs ys pl ds cm wt : List Int32) (jd rt : Int32) : Prop :=
  S 1 = some (.inr (.inr (1, [.ref (z + 2), .ref (z + 4)]))) ∧ S 2 = some (.inl xs) ∧ S 4 = some (.inl ys) ∧ S 6 = some (.inr (.inr (3, [.ref (z + 1), .ref (z + 7), .ref (z + 9), .ref (z + 11), .ref (z + 13), .int jd, .int rt]))) ∧ S 7 = some (.inl pl) ∧ S 9 = some (.inl ds) ∧ S 11 = some (.inl cm) ∧ S 13 = some (.inl wt)
def j_next (xs : List Int32) (i : Int32) : Int32 := if t_ends (nAt xs i) = true then -1 else if nAt xs i = 18 then i + 2 else i + 1
def j_goal (xs ys pl : List Int32) (i : Int32) : Int32 := if nAt xs i = 18 then nAt pl (nAt ys (i + 1)) else if t_goes (nAt xs i) = true then nAt pl (nAt ys i) else -1
def j_new (ds : List Int32) (i : Int32) : Bool := decide (i < nI ds.length ∧ nAt ds i = -1)
def j_arrD (ds : List Int32) (i d : Int32) : List Int32 := if j_new ds i = true then nSet ds i d else ds
def j_arrW (ds wt : List Int32) (i : Int32) : List Int32 := if j_new ds i = true then wt ++ [i] else wt
def j_arrB (ds : List Int32) (i d : Int32) : Bool := decide (i < nI ds.length ∧ nAt (j_arrD ds i d) i = d)
section XJ
variable {z : Nat} {NK : List Nat} {g : mx_G} {S : xS} {P : Option Value → xS → Prop} {xs ys pl ds cm wt : List Int32} {jd rt : Int32}
set_option maxHeartbeats 1000000 in
/-- RowCode$Judge.following(I)I -/
theorem c_following (hJ : jS z S xs ys pl ds cm wt jd rt) {i : Int32} (hP : P (some (.int (j_next xs i))) S) : xw z NK g 62 0 [(0, .ref (z + 6)), (1, .int i)] [] S P := by
  obtain ⟨h1, h2, h4, h6, h7, h9, h11, h13⟩ := id hJ
  refine xw.steps 1 (fun _ => rfl) ?_
  refine xw.getf (o := 6) rfl h6 rfl ?_
  refine xw.steps 1 (fun _ => rfl) ?_
  show xw z NK g 62 5 [(0, .ref (z + 6)), (1, .int i)] [.int i, .ref (z + 1)] S P
  refine xw.callO (o := 1) rfl rfl rfl h1 rfl rfl (c_Code_numberAt h1 h2 h4 (by decide) ?_)
  show xw z NK g 62 8 [(0, .ref (z + 6)), (1, .int i)] [.int (nAt xs i)] S P
  refine xw.steps 2 (fun _ => rfl) ?_
  show xw z NK g 62 10 [(0, .ref (z + 6)), (1, .int i), (2, .int (nAt xs i))] [.int (nAt xs i)] S P
  refine xw.callS rfl rfl rfl rfl rfl (c_endsWay ?_)
  show xw z NK g 62 13 [(0, .ref (z + 6)), (1, .int i), (2, .int (nAt xs i))] [.int (bI (t_ends (nAt xs i)))] S P
  refine xw.if_ rfl (fun c1 => ?_) (fun c1 => ?_)
  · have c1 := bI_eq0 (of_decide_eq_true c1)
    refine xw.steps 2 (fun _ => rfl) ?_
    refine xw.icmp rfl (fun c2 => ?_) (fun c2 => ?_)
    · have c2 := of_decide_eq_true c2
      refine xw.steps 3 (fun _ => rfl) ?_
      refine xw.ret rfl (fun _ => rfl) ?_
      show P (some (.int (i + 1))) S
      first | simpa [j_next, c1, c2] using hP | simp_all [j_next]
    · have c2 := Decidable.not_not.mp (of_decide_eq_false c2)
      refine xw.steps 4 (fun _ => rfl) ?_
      refine xw.ret rfl (fun _ => rfl) ?_
      show P (some (.int (i + 2))) S
      first | simpa [j_next, c1, c2] using hP | simp_all [j_next]
  · have c1 := bI_ne0 (of_decide_eq_false c1)
    refine xw.steps 1 (fun _ => rfl) ?_
    refine xw.ret rfl (fun _ => rfl) ?_
    show P (some (.int (-1))) S
    first | simpa [j_next, c1] using hP | simp_all [j_next]
set_option maxHeartbeats 1000000 in
/-- RowCode$Judge.goal(I)I -/
theorem c_goal (hJ : jS z S xs ys pl ds cm wt jd rt) {i : Int32} (hP : P (some (.int (j_goal xs ys pl i))) S) : xw z NK g 63 0 [(0, .ref (z + 6)), (1, .int i)] [] S P := by
  obtain ⟨h1, h2, h4, h6, h7, h9, h11, h13⟩ := id hJ
  refine xw.steps 1 (fun _ => rfl) ?_
  refine xw.getf (o := 6) rfl h6 rfl ?_
  refine xw.steps 1 (fun _ => rfl) ?_
  show xw z NK g 63 5 [(0, .ref (z + 6)), (1, .int i)] [.int i, .ref (z + 1)] S P
  refine xw.callO (o := 1) rfl rfl rfl h1 rfl rfl (c_Code_numberAt h1 h2 h4 (by decide) ?_)
  show xw z NK g 63 8 [(0, .ref (z + 6)), (1, .int i)] [.int (nAt xs i)] S P
  refine xw.steps 3 (fun _ => rfl) ?_
  refine xw.icmp rfl (fun c1 => ?_) (fun c1 => ?_)
  · have c1 := of_decide_eq_true c1
    refine xw.steps 1 (fun _ => rfl) ?_
    show xw z NK g 63 34 [(0, .ref (z + 6)), (1, .int i), (2, .int (nAt xs i))] [.int (nAt xs i)] S P
    refine xw.callS rfl rfl rfl rfl rfl (c_goesToLabel ?_)
    show xw z NK g 63 37 [(0, .ref (z + 6)), (1, .int i), (2, .int (nAt xs i))] [.int (bI (t_goes (nAt xs i)))] S P
    refine xw.if_ rfl (fun c2 => ?_) (fun c2 => ?_)
    · have c2 := bI_eq0 (of_decide_eq_true c2)
      refine xw.steps 1 (fun _ => rfl) ?_
      refine xw.ret rfl (fun _ => rfl) ?_
      show P (some (.int (-1))) S
      first | simpa [j_goal, c1, c2] using hP | simp_all [j_goal]
    · have c2 := bI_ne0 (of_decide_eq_false c2)
      refine xw.steps 1 (fun _ => rfl) ?_
      refine xw.getf (o := 6) rfl h6 rfl ?_
      refine xw.steps 1 (fun _ => rfl) ?_
      refine xw.getf (o := 6) rfl h6 rfl ?_
      refine xw.steps 1 (fun _ => rfl) ?_
      show xw z NK g 63 49 [(0, .ref (z + 6)), (1, .int i), (2, .int (nAt xs i))] [.int i, .ref (z + 1), .ref (z + 7)] S P
      refine xw.callO (o := 1) rfl rfl rfl h1 rfl rfl (c_Code_argumentAt h1 h2 h4 (by decide) ?_)
      show xw z NK g 63 52 [(0, .ref (z + 6)), (1, .int i), (2, .int (nAt xs i))] [.int (nAt ys i), .ref (z + 7)] S P
      show xw z NK g 63 52 [(0, .ref (z + 6)), (1, .int i), (2, .int (nAt xs i))] [.int (nAt ys i), .ref (z + 7)] S P
      refine xw.callN (o := 7) rfl rfl rfl h7 rfl rfl (c_at h7 ?_)
      show xw z NK g 63 55 [(0, .ref (z + 6)), (1, .int i), (2, .int (nAt xs i))] [.int (nAt pl (nAt ys i))] S P
      refine xw.steps 1 (fun _ => rfl) ?_
      refine xw.ret rfl (fun _ => rfl) ?_
      show P (some (.int (nAt pl (nAt ys i)))) S
      first | simpa [j_goal, c1, c2] using hP | simp_all [j_goal]
  · have c1 := Decidable.not_not.mp (of_decide_eq_false c1)
    refine xw.steps 1 (fun _ => rfl) ?_
    refine xw.getf (o := 6) rfl h6 rfl ?_
    refine xw.steps 1 (fun _ => rfl) ?_
    refine xw.getf (o := 6) rfl h6 rfl ?_
    refine xw.steps 3 (fun _ => rfl) ?_
    show xw z NK g 63 26 [(0, .ref (z + 6)), (1, .int i), (2, .int (nAt xs i))] [.int (i + 1), .ref (z + 1), .ref (z + 7)] S P
    refine xw.callO (o := 1) rfl rfl rfl h1 rfl rfl (c_Code_argumentAt h1 h2 h4 (by decide) ?_)
    show xw z NK g 63 29 [(0, .ref (z + 6)), (1, .int i), (2, .int (nAt xs i))] [.int (nAt ys (i + 1)), .ref (z + 7)] S P
    show xw z NK g 63 29 [(0, .ref (z + 6)), (1, .int i), (2, .int (nAt xs i))] [.int (nAt ys (i + 1)), .ref (z + 7)] S P
    refine xw.callN (o := 7) rfl rfl rfl h7 rfl rfl (c_at h7 ?_)
    show xw z NK g 63 32 [(0, .ref (z + 6)), (1, .int i), (2, .int (nAt xs i))] [.int (nAt pl (nAt ys (i + 1)))] S P
    refine xw.ret rfl (fun _ => rfl) ?_
    show P (some (.int (nAt pl (nAt ys (i + 1))))) S
    first | simpa [j_goal, c1] using hP | simp_all [j_goal]
set_option maxHeartbeats 1000000 in
/-- RowCode$Judge.forgetJudgement()V -/
theorem c_forget (hJ : jS z S xs ys pl ds cm wt jd rt) (hP : P none (xu S 6 (.inr (.inr (3, [.ref (z + 1), .ref (z + 7), .ref (z + 9), .ref (z + 11), .ref (z + 13), .int 0, .int rt]))))) : xw z NK g 55 0 [(0, .ref (z + 6))] [] S P := by
  obtain ⟨h1, h2, h4, h6, h7, h9, h11, h13⟩ := id hJ
  refine xw.steps 2 (fun _ => rfl) ?_
  refine xw.putf (o := 6) (fs' := [.ref (z + 1), .ref (z + 7), .ref (z + 9), .ref (z + 11), .ref (z + 13), .int 0, .int rt]) rfl h6 (Nat.le_of_ble_eq_true rfl) rfl rfl rfl ?_
  show xw z NK g 55 5 [(0, .ref (z + 6))] [] (xu S 6 (.inr (.inr (3, [.ref (z + 1), .ref (z + 7), .ref (z + 9), .ref (z + 11), .ref (z + 13), .int 0, .int rt])))) P
  refine xw.ret rfl (fun _ => rfl) ?_
  show P none (xu S 6 (.inr (.inr (3, [.ref (z + 1), .ref (z + 7), .ref (z + 9), .ref (z + 11), .ref (z + 13), .int 0, .int rt]))))
  exact hP
set_option maxHeartbeats 1000000 in
/-- RowCode$Judge.arrives(II)Z -/
theorem c_arrives (hJ : jS z S xs ys pl ds cm wt jd rt) (hw : wt.length < 131072) {i d : Int32} (hP : P (some (.int (bI (j_arrB ds i d)))) (xu (xu S 9 (.inl (j_arrD ds i d))) 13 (.inl (j_arrW ds wt i)))) : xw z NK g 66 0 [(0, .ref (z + 6)), (1, .int i), (2, .int d)] [] S P := by
  obtain ⟨h1, h2, h4, h6, h7, h9, h11, h13⟩ := id hJ
  refine xw.steps 2 (fun _ => rfl) ?_
  refine xw.getf (o := 6) rfl h6 rfl ?_
  show xw z NK g 66 5 [(0, .ref (z + 6)), (1, .int i), (2, .int d)] [.ref (z + 9), .int i] S P
  refine xw.callN (o := 9) rfl rfl rfl h9 rfl rfl (c_size h9 ?_)
  show xw z NK g 66 8 [(0, .ref (z + 6)), (1, .int i), (2, .int d)] [.int (nI ds.length), .int i] S P
  refine xw.icmp rfl (fun c1 => ?_) (fun c1 => ?_)
  · have c1 := of_decide_eq_true c1
    refine xw.steps 1 (fun _ => rfl) ?_
    refine xw.getf (o := 6) rfl h6 rfl ?_
    refine xw.steps 1 (fun _ => rfl) ?_
    show xw z NK g 66 18 [(0, .ref (z + 6)), (1, .int i), (2, .int d)] [.int i, .ref (z + 9)] S P
    refine xw.callN (o := 9) rfl rfl rfl h9 rfl rfl (c_at h9 ?_)
    show xw z NK g 66 21 [(0, .ref (z + 6)), (1, .int i), (2, .int d)] [.int (nAt ds i)] S P
    refine xw.steps 1 (fun _ => rfl) ?_
    refine xw.icmp rfl (fun c2 => ?_) (fun c2 => ?_)
    · have c2 := of_decide_eq_true c2
      refine xw.steps 1 (fun _ => rfl) ?_
      refine xw.getf (o := 6) rfl h6 rfl ?_
      refine xw.steps 1 (fun _ => rfl) ?_
      show xw z NK g 66 47 [(0, .ref (z + 6)), (1, .int i), (2, .int d)] [.int i, .ref (z + 9)] S P
      refine xw.callN (o := 9) rfl rfl rfl h9 rfl rfl (c_at h9 ?_)
      show xw z NK g 66 50 [(0, .ref (z + 6)), (1, .int i), (2, .int d)] [.int (nAt ds i)] S P
      refine xw.steps 1 (fun _ => rfl) ?_
      refine xw.icmp rfl (fun c3 => ?_) (fun c3 => ?_)
      · have c3 := of_decide_eq_true c3
        refine xw.steps 1 (fun _ => rfl) ?_
        refine xw.ret rfl (fun _ => rfl) ?_
        show P (some (.int 0)) S
        first | simpa [j_arrB, j_arrD, j_arrW, j_new, bI, xu_same h9, xu_same h13, c1, c2, c3] using hP | simp_all [j_arrB, j_arrD, j_arrW, j_new, bI, xu_same h9, xu_same h13]
      · have c3 := Decidable.not_not.mp (of_decide_eq_false c3)
        refine xw.steps 2 (fun _ => rfl) ?_
        refine xw.ret rfl (fun _ => rfl) ?_
        show P (some (.int 1)) S
        first | simpa [j_arrB, j_arrD, j_arrW, j_new, bI, xu_same h9, xu_same h13, c1, c2, c3] using hP | simp_all [j_arrB, j_arrD, j_arrW, j_new, bI, xu_same h9, xu_same h13]
    · have c2 := Decidable.not_not.mp (of_decide_eq_false c2)
      refine xw.steps 1 (fun _ => rfl) ?_
      refine xw.getf (o := 6) rfl h6 rfl ?_
      refine xw.steps 2 (fun _ => rfl) ?_
      show xw z NK g 66 31 [(0, .ref (z + 6)), (1, .int i), (2, .int d)] [.int d, .int i, .ref (z + 9)] S P
      refine xw.callN (o := 9) rfl rfl rfl h9 rfl rfl (c_change h9 ?_)
      show xw z NK g 66 34 [(0, .ref (z + 6)), (1, .int i), (2, .int d)] [] (xu S 9 (.inl (nSet ds i d))) P
      refine xw.steps 1 (fun _ => rfl) ?_
      refine xw.getf (o := 6) rfl ((xu_ne _ _ (by decide)).trans h6) rfl ?_
      refine xw.steps 1 (fun _ => rfl) ?_
      show xw z NK g 66 39 [(0, .ref (z + 6)), (1, .int i), (2, .int d)] [.int i, .ref (z + 13)] (xu S 9 (.inl (nSet ds i d))) P
      refine xw.callN (o := 13) rfl rfl rfl ((xu_ne _ _ (by decide)).trans h13) rfl rfl (c_append (xs := wt) ((xu_ne _ _ (by decide)).trans h13) (by first | assumption | (unfold nCut; rw [List.length_take]; omega) | exact Nat.lt_of_le_of_lt (j_arrW_len _ _ _) (by omega)) ?_)
      show xw z NK g 66 42 [(0, .ref (z + 6)), (1, .int i), (2, .int d)] [] (xu (xu S 9 (.inl (nSet ds i d))) 13 (.inl (wt ++ [i]))) P
      refine xw.steps 1 (fun _ => rfl) ?_
      refine xw.getf (o := 6) rfl ((xu_ne _ _ (by decide)).trans ((xu_ne _ _ (by decide)).trans h6)) rfl ?_
      refine xw.steps 1 (fun _ => rfl) ?_
      show xw z NK g 66 47 [(0, .ref (z + 6)), (1, .int i), (2, .int d)] [.int i, .ref (z + 9)] (xu (xu S 9 (.inl (nSet ds i d))) 13 (.inl (wt ++ [i]))) P
      refine xw.callN (o := 9) rfl rfl rfl ((xu_ne _ _ (by decide)).trans (xu_self _ _ _)) rfl rfl (c_at ((xu_ne _ _ (by decide)).trans (xu_self _ _ _)) ?_)
      show xw z NK g 66 50 [(0, .ref (z + 6)), (1, .int i), (2, .int d)] [.int (nAt (nSet ds i d) i)] (xu (xu S 9 (.inl (nSet ds i d))) 13 (.inl (wt ++ [i]))) P
      refine xw.steps 1 (fun _ => rfl) ?_
      refine xw.icmp rfl (fun c4 => ?_) (fun c4 => ?_)
      · have c4 := of_decide_eq_true c4
        refine xw.steps 1 (fun _ => rfl) ?_
        refine xw.ret rfl (fun _ => rfl) ?_
        show P (some (.int 0)) (xu (xu S 9 (.inl (nSet ds i d))) 13 (.inl (wt ++ [i])))
        first | simpa [j_arrB, j_arrD, j_arrW, j_new, bI, xu_same h9, xu_same h13, c1, c2, c4] using hP | simp_all [j_arrB, j_arrD, j_arrW, j_new, bI, xu_same h9, xu_same h13]
      · have c4 := Decidable.not_not.mp (of_decide_eq_false c4)
        refine xw.steps 2 (fun _ => rfl) ?_
        refine xw.ret rfl (fun _ => rfl) ?_
        show P (some (.int 1)) (xu (xu S 9 (.inl (nSet ds i d))) 13 (.inl (wt ++ [i])))
        first | simpa [j_arrB, j_arrD, j_arrW, j_new, bI, xu_same h9, xu_same h13, c1, c2, c4] using hP | simp_all [j_arrB, j_arrD, j_arrW, j_new, bI, xu_same h9, xu_same h13]
  · have c1 := of_decide_eq_false c1
    refine xw.steps 1 (fun _ => rfl) ?_
    refine xw.ret rfl (fun _ => rfl) ?_
    show P (some (.int 0)) S
    first | simpa [j_arrB, j_arrD, j_arrW, j_new, bI, xu_same h9, xu_same h13, c1] using hP | simp_all [j_arrB, j_arrD, j_arrW, j_new, bI, xu_same h9, xu_same h13]
end XJ
theorem j_arrW_len (ds wt : List Int32) (i : Int32) : (j_arrW ds wt i).length ≤ wt.length + 1 := by
  unfold j_arrW
  split <;> simp
def j_taken (n : Int32) : Int32 := (x_stat 1).2 n.toNatClampNeg
def j_given (n : Int32) : Int32 := (x_stat 2).2 n.toNatClampNeg
/-- what leavesRightly does: depths, waiting, answer -/
def j_leave (xs ys pl ds wt : List Int32) (i : Int32) : List Int32 × List Int32 × Bool :=
  if ¬ nAt xs i < 0 ∧ nAt xs i < 21 then
    (let left := nAt ds i - j_taken (nAt xs i)
     let after := left + j_given (nAt xs i)
     if left < 0 ∨ 60 < after then (ds, wt, false) else
     let f := j_next xs i
     let ds1 := if f = -1 then ds else j_arrD ds f after
     let wt1 := if f = -1 then wt else j_arrW ds wt f
     if ¬ f = -1 ∧ j_arrB ds f after = false then (ds1, wt1, false) else
     let q := j_goal xs ys pl i
     if q = -1 then (ds1, wt1, true) else (j_arrD ds1 q left, j_arrW ds1 wt1 q, j_arrB ds1 q left))
  else (ds, wt, false)
section XJ2
variable {z : Nat} {NK : List Nat} {g : mx_G} {S : xS} {P : Option Value → xS → Prop} {xs ys pl ds cm wt : List Int32} {jd rt : Int32}
set_option maxHeartbeats 4000000 in
/-- RowCode$Judge.leavesRightly(I)Z -/
theorem c_leaves (hJ : jS z S xs ys pl ds cm wt jd rt) (hw : wt.length < 131000) {i : Int32} (hP : P (some (.int (bI (j_leave xs ys pl ds wt i).2.2))) (xu (xu S 9 (.inl (j_leave xs ys pl ds wt i).1)) 13 (.inl (j_leave xs ys pl ds wt i).2.1))) : xw z NK g 65 0 [(0, .ref (z + 6)), (1, .int i)] [] S P := by
  obtain ⟨h1, h2, h4, h6, h7, h9, h11, h13⟩ := id hJ
  refine xw.steps 1 (fun _ => rfl) ?_
  refine xw.getf (o := 6) rfl h6 rfl ?_
  refine xw.steps 1 (fun _ => rfl) ?_
  show xw z NK g 65 5 [(0, .ref (z + 6)), (1, .int i)] [.int i, .ref (z + 1)] S P
  refine xw.callO (o := 1) rfl rfl rfl h1 rfl rfl (c_Code_numberAt h1 h2 h4 (by decide) ?_)
  show xw z NK g 65 8 [(0, .ref (z + 6)), (1, .int i)] [.int (nAt xs i)] S P
  refine xw.steps 2 (fun _ => rfl) ?_
  refine xw.if_ rfl (fun c1 => ?_) (fun c1 => ?_)
  · have c1 := of_decide_eq_true c1
    refine xw.steps 1 (fun _ => rfl) ?_
    refine xw.ret rfl (fun _ => rfl) ?_
    show P (some (.int 0)) S
    first | simpa [j_leave, j_taken, j_given, bI, xu_same h9, xu_same h13, xu4 _ (show (9 : Nat) ≠ 13 by decide), c1] using hP | simp_all [j_leave, j_taken, j_given, bI, xu_same h9, xu_same h13, xu4 _ (show (9 : Nat) ≠ 13 by decide)]
  · have c1 := of_decide_eq_false c1
    refine xw.steps 1 (fun _ => rfl) ?_
    refine xw.gets rfl ?_
    refine xw.slen rfl (by decide) ?_
    show xw z NK g 65 18 [(0, .ref (z + 6)), (1, .int i), (2, .int (nAt xs i))] [.int 21, .int (nAt xs i)] S P
    refine xw.icmp rfl (fun c2 => ?_) (fun c2 => ?_)
    · have c2 := Int32.not_lt.mpr (of_decide_eq_true c2)
      refine xw.steps 1 (fun _ => rfl) ?_
      refine xw.ret rfl (fun _ => rfl) ?_
      show P (some (.int 0)) S
      first | simpa [j_leave, j_taken, j_given, bI, xu_same h9, xu_same h13, xu4 _ (show (9 : Nat) ≠ 13 by decide), c1, c2] using hP | simp_all [j_leave, j_taken, j_given, bI, xu_same h9, xu_same h13, xu4 _ (show (9 : Nat) ≠ 13 by decide)]
    · have c2 := Int32.not_le.mp (of_decide_eq_false c2)
      refine xw.steps 1 (fun _ => rfl) ?_
      refine xw.gets rfl ?_
      refine xw.slen rfl (by decide) ?_
      show xw z NK g 65 26 [(0, .ref (z + 6)), (1, .int i), (2, .int (nAt xs i))] [.int 21, .int (nAt xs i)] S P
      refine xw.icmp rfl (fun c3 => ?_) (fun c3 => ?_)
      · have c3 := of_decide_eq_true c3
        refine xw.steps 1 (fun _ => rfl) ?_
        refine xw.getf (o := 6) rfl h6 rfl ?_
        refine xw.steps 1 (fun _ => rfl) ?_
        show xw z NK g 65 36 [(0, .ref (z + 6)), (1, .int i), (2, .int (nAt xs i))] [.int i, .ref (z + 9)] S P
        refine xw.callN (o := 9) rfl rfl rfl h9 rfl rfl (c_at h9 ?_)
        show xw z NK g 65 39 [(0, .ref (z + 6)), (1, .int i), (2, .int (nAt xs i))] [.int (nAt ds i)] S P
        refine xw.gets rfl ?_
        refine xw.steps 1 (fun _ => rfl) ?_
        refine xw.sald (k := 1) rfl (by decide) (x_in21 (by decide) (by assumption) (by assumption)) ?_
        refine xw.steps 3 (fun _ => rfl) ?_
        refine xw.gets rfl ?_
        refine xw.steps 1 (fun _ => rfl) ?_
        refine xw.sald (k := 2) rfl (by decide) (x_in21 (by decide) (by assumption) (by assumption)) ?_
        refine xw.steps 3 (fun _ => rfl) ?_
        refine xw.if_ rfl (fun c4 => ?_) (fun c4 => ?_)
        · have c4 := of_decide_eq_true c4
          refine xw.steps 1 (fun _ => rfl) ?_
          refine xw.ret rfl (fun _ => rfl) ?_
          show P (some (.int 0)) S
          first | simpa [j_leave, j_taken, j_given, bI, xu_same h9, xu_same h13, xu4 _ (show (9 : Nat) ≠ 13 by decide), c1, c2, c3, c4] using hP | simp_all [j_leave, j_taken, j_given, bI, xu_same h9, xu_same h13, xu4 _ (show (9 : Nat) ≠ 13 by decide)]
        · have c4 := of_decide_eq_false c4
          refine xw.steps 2 (fun _ => rfl) ?_
          refine xw.icmp rfl (fun c5 => ?_) (fun c5 => ?_)
          · have c5 := Int32.not_lt.mpr (of_decide_eq_true c5)
            refine xw.steps 2 (fun _ => rfl) ?_
            show xw z NK g 65 70 [(0, .ref (z + 6)), (1, .int i), (2, .int (nAt xs i)), (3, .int ((nAt ds i) - ((x_stat 1).2 (nAt xs i).toNatClampNeg))), (4, .int (((nAt ds i) - ((x_stat 1).2 (nAt xs i).toNatClampNeg)) + ((x_stat 2).2 (nAt xs i).toNatClampNeg)))] [.int i, .ref (z + 6)] S P
            refine xw.callO (o := 6) rfl rfl rfl h6 rfl rfl (c_following ⟨h1, h2, h4, h6, h7, h9, h11, h13⟩ ?_)
            show xw z NK g 65 73 [(0, .ref (z + 6)), (1, .int i), (2, .int (nAt xs i)), (3, .int ((nAt ds i) - ((x_stat 1).2 (nAt xs i).toNatClampNeg))), (4, .int (((nAt ds i) - ((x_stat 1).2 (nAt xs i).toNatClampNeg)) + ((x_stat 2).2 (nAt xs i).toNatClampNeg)))] [.int (j_next xs i)] S P
            refine xw.steps 3 (fun _ => rfl) ?_
            refine xw.icmp rfl (fun c6 => ?_) (fun c6 => ?_)
            · have c6 := of_decide_eq_true c6
              refine xw.steps 2 (fun _ => rfl) ?_
              show xw z NK g 65 96 [(0, .ref (z + 6)), (1, .int i), (2, .int (nAt xs i)), (3, .int ((nAt ds i) - ((x_stat 1).2 (nAt xs i).toNatClampNeg))), (4, .int (((nAt ds i) - ((x_stat 1).2 (nAt xs i).toNatClampNeg)) + ((x_stat 2).2 (nAt xs i).toNatClampNeg))), (5, .int (j_next xs i))] [.int i, .ref (z + 6)] S P
              refine xw.callO (o := 6) rfl rfl rfl h6 rfl rfl (c_goal ⟨h1, h2, h4, h6, h7, h9, h11, h13⟩ ?_)
              show xw z NK g 65 99 [(0, .ref (z + 6)), (1, .int i), (2, .int (nAt xs i)), (3, .int ((nAt ds i) - ((x_stat 1).2 (nAt xs i).toNatClampNeg))), (4, .int (((nAt ds i) - ((x_stat 1).2 (nAt xs i).toNatClampNeg)) + ((x_stat 2).2 (nAt xs i).toNatClampNeg))), (5, .int (j_next xs i))] [.int (j_goal xs ys pl i)] S P
              refine xw.steps 3 (fun _ => rfl) ?_
              refine xw.icmp rfl (fun c7 => ?_) (fun c7 => ?_)
              · have c7 := of_decide_eq_true c7
                refine xw.steps 2 (fun _ => rfl) ?_
                refine xw.ret rfl (fun _ => rfl) ?_
                show P (some (.int 1)) S
                first | simpa [j_leave, j_taken, j_given, bI, xu_same h9, xu_same h13, xu4 _ (show (9 : Nat) ≠ 13 by decide), c1, c2, c3, c4, c5, c6, c7] using hP | simp_all [j_leave, j_taken, j_given, bI, xu_same h9, xu_same h13, xu4 _ (show (9 : Nat) ≠ 13 by decide)]
              · have c7 := of_decide_eq_false c7
                refine xw.steps 3 (fun _ => rfl) ?_
                show xw z NK g 65 111 [(0, .ref (z + 6)), (1, .int i), (2, .int (nAt xs i)), (3, .int ((nAt ds i) - ((x_stat 1).2 (nAt xs i).toNatClampNeg))), (4, .int (((nAt ds i) - ((x_stat 1).2 (nAt xs i).toNatClampNeg)) + ((x_stat 2).2 (nAt xs i).toNatClampNeg))), (5, .int (j_next xs i)), (6, .int (j_goal xs ys pl i))] [.int ((nAt ds i) - ((x_stat 1).2 (nAt xs i).toNatClampNeg)), .int (j_goal xs ys pl i), .ref (z + 6)] S P
                refine xw.callO (o := 6) rfl rfl rfl h6 rfl rfl (c_arrives ⟨h1, h2, h4, h6, h7, h9, h11, h13⟩ (by omega) ?_)
                show xw z NK g 65 114 [(0, .ref (z + 6)), (1, .int i), (2, .int (nAt xs i)), (3, .int ((nAt ds i) - ((x_stat 1).2 (nAt xs i).toNatClampNeg))), (4, .int (((nAt ds i) - ((x_stat 1).2 (nAt xs i).toNatClampNeg)) + ((x_stat 2).2 (nAt xs i).toNatClampNeg))), (5, .int (j_next xs i)), (6, .int (j_goal xs ys pl i))] [.int (bI (j_arrB ds (j_goal xs ys pl i) ((nAt ds i) - ((x_stat 1).2 (nAt xs i).toNatClampNeg))))] (xu (xu S 9 (.inl (j_arrD ds (j_goal xs ys pl i) ((nAt ds i) - ((x_stat 1).2 (nAt xs i).toNatClampNeg))))) 13 (.inl (j_arrW ds wt (j_goal xs ys pl i)))) P
                refine xw.if_ rfl (fun c8 => ?_) (fun c8 => ?_)
                · have c8 := bI_eq0 (of_decide_eq_true c8)
                  refine xw.steps 1 (fun _ => rfl) ?_
                  refine xw.ret rfl (fun _ => rfl) ?_
                  show P (some (.int 0)) (xu (xu S 9 (.inl (j_arrD ds (j_goal xs ys pl i) ((nAt ds i) - ((x_stat 1).2 (nAt xs i).toNatClampNeg))))) 13 (.inl (j_arrW ds wt (j_goal xs ys pl i))))
                  first | simpa [j_leave, j_taken, j_given, bI, xu_same h9, xu_same h13, xu4 _ (show (9 : Nat) ≠ 13 by decide), c1, c2, c3, c4, c5, c6, c7, c8] using hP | simp_all [j_leave, j_taken, j_given, bI, xu_same h9, xu_same h13, xu4 _ (show (9 : Nat) ≠ 13 by decide)]
                · have c8 := bI_ne0 (of_decide_eq_false c8)
                  refine xw.steps 2 (fun _ => rfl) ?_
                  refine xw.ret rfl (fun _ => rfl) ?_
                  show P (some (.int 1)) (xu (xu S 9 (.inl (j_arrD ds (j_goal xs ys pl i) ((nAt ds i) - ((x_stat 1).2 (nAt xs i).toNatClampNeg))))) 13 (.inl (j_arrW ds wt (j_goal xs ys pl i))))
                  first | simpa [j_leave, j_taken, j_given, bI, xu_same h9, xu_same h13, xu4 _ (show (9 : Nat) ≠ 13 by decide), c1, c2, c3, c4, c5, c6, c7, c8] using hP | simp_all [j_leave, j_taken, j_given, bI, xu_same h9, xu_same h13, xu4 _ (show (9 : Nat) ≠ 13 by decide)]
            · have c6 := of_decide_eq_false c6
              refine xw.steps 3 (fun _ => rfl) ?_
              show xw z NK g 65 86 [(0, .ref (z + 6)), (1, .int i), (2, .int (nAt xs i)), (3, .int ((nAt ds i) - ((x_stat 1).2 (nAt xs i).toNatClampNeg))), (4, .int (((nAt ds i) - ((x_stat 1).2 (nAt xs i).toNatClampNeg)) + ((x_stat 2).2 (nAt xs i).toNatClampNeg))), (5, .int (j_next xs i))] [.int (((nAt ds i) - ((x_stat 1).2 (nAt xs i).toNatClampNeg)) + ((x_stat 2).2 (nAt xs i).toNatClampNeg)), .int (j_next xs i), .ref (z + 6)] S P
              refine xw.callO (o := 6) rfl rfl rfl h6 rfl rfl (c_arrives ⟨h1, h2, h4, h6, h7, h9, h11, h13⟩ (by omega) ?_)
              show xw z NK g 65 89 [(0, .ref (z + 6)), (1, .int i), (2, .int (nAt xs i)), (3, .int ((nAt ds i) - ((x_stat 1).2 (nAt xs i).toNatClampNeg))), (4, .int (((nAt ds i) - ((x_stat 1).2 (nAt xs i).toNatClampNeg)) + ((x_stat 2).2 (nAt xs i).toNatClampNeg))), (5, .int (j_next xs i))] [.int (bI (j_arrB ds (j_next xs i) (((nAt ds i) - ((x_stat 1).2 (nAt xs i).toNatClampNeg)) + ((x_stat 2).2 (nAt xs i).toNatClampNeg))))] (xu (xu S 9 (.inl (j_arrD ds (j_next xs i) (((nAt ds i) - ((x_stat 1).2 (nAt xs i).toNatClampNeg)) + ((x_stat 2).2 (nAt xs i).toNatClampNeg))))) 13 (.inl (j_arrW ds wt (j_next xs i)))) P
              refine xw.if_ rfl (fun c9 => ?_) (fun c9 => ?_)
              · have c9 := bI_ne0 (of_decide_eq_true c9)
                refine xw.steps 2 (fun _ => rfl) ?_
                show xw z NK g 65 96 [(0, .ref (z + 6)), (1, .int i), (2, .int (nAt xs i)), (3, .int ((nAt ds i) - ((x_stat 1).2 (nAt xs i).toNatClampNeg))), (4, .int (((nAt ds i) - ((x_stat 1).2 (nAt xs i).toNatClampNeg)) + ((x_stat 2).2 (nAt xs i).toNatClampNeg))), (5, .int (j_next xs i))] [.int i, .ref (z + 6)] (xu (xu S 9 (.inl (j_arrD ds (j_next xs i) (((nAt ds i) - ((x_stat 1).2 (nAt xs i).toNatClampNeg)) + ((x_stat 2).2 (nAt xs i).toNatClampNeg))))) 13 (.inl (j_arrW ds wt (j_next xs i)))) P
                refine xw.callO (o := 6) rfl rfl rfl ((xu_ne _ _ (by decide)).trans ((xu_ne _ _ (by decide)).trans h6)) rfl rfl (c_goal ⟨((xu_ne _ _ (by decide)).trans ((xu_ne _ _ (by decide)).trans h1)), ((xu_ne _ _ (by decide)).trans ((xu_ne _ _ (by decide)).trans h2)), ((xu_ne _ _ (by decide)).trans ((xu_ne _ _ (by decide)).trans h4)), ((xu_ne _ _ (by decide)).trans ((xu_ne _ _ (by decide)).trans h6)), ((xu_ne _ _ (by decide)).trans ((xu_ne _ _ (by decide)).trans h7)), ((xu_ne _ _ (by decide)).trans (xu_self _ _ _)), ((xu_ne _ _ (by decide)).trans ((xu_ne _ _ (by decide)).trans h11)), (xu_self _ _ _)⟩ ?_)
                show xw z NK g 65 99 [(0, .ref (z + 6)), (1, .int i), (2, .int (nAt xs i)), (3, .int ((nAt ds i) - ((x_stat 1).2 (nAt xs i).toNatClampNeg))), (4, .int (((nAt ds i) - ((x_stat 1).2 (nAt xs i).toNatClampNeg)) + ((x_stat 2).2 (nAt xs i).toNatClampNeg))), (5, .int (j_next xs i))] [.int (j_goal xs ys pl i)] (xu (xu S 9 (.inl (j_arrD ds (j_next xs i) (((nAt ds i) - ((x_stat 1).2 (nAt xs i).toNatClampNeg)) + ((x_stat 2).2 (nAt xs i).toNatClampNeg))))) 13 (.inl (j_arrW ds wt (j_next xs i)))) P
                refine xw.steps 3 (fun _ => rfl) ?_
                refine xw.icmp rfl (fun c10 => ?_) (fun c10 => ?_)
                · have c10 := of_decide_eq_true c10
                  refine xw.steps 2 (fun _ => rfl) ?_
                  refine xw.ret rfl (fun _ => rfl) ?_
                  show P (some (.int 1)) (xu (xu S 9 (.inl (j_arrD ds (j_next xs i) (((nAt ds i) - ((x_stat 1).2 (nAt xs i).toNatClampNeg)) + ((x_stat 2).2 (nAt xs i).toNatClampNeg))))) 13 (.inl (j_arrW ds wt (j_next xs i))))
                  first | simpa [j_leave, j_taken, j_given, bI, xu_same h9, xu_same h13, xu4 _ (show (9 : Nat) ≠ 13 by decide), c1, c2, c3, c4, c5, c6, c9, c10] using hP | simp_all [j_leave, j_taken, j_given, bI, xu_same h9, xu_same h13, xu4 _ (show (9 : Nat) ≠ 13 by decide)]
                · have c10 := of_decide_eq_false c10
                  refine xw.steps 3 (fun _ => rfl) ?_
                  show xw z NK g 65 111 [(0, .ref (z + 6)), (1, .int i), (2, .int (nAt xs i)), (3, .int ((nAt ds i) - ((x_stat 1).2 (nAt xs i).toNatClampNeg))), (4, .int (((nAt ds i) - ((x_stat 1).2 (nAt xs i).toNatClampNeg)) + ((x_stat 2).2 (nAt xs i).toNatClampNeg))), (5, .int (j_next xs i)), (6, .int (j_goal xs ys pl i))] [.int ((nAt ds i) - ((x_stat 1).2 (nAt xs i).toNatClampNeg)), .int (j_goal xs ys pl i), .ref (z + 6)] (xu (xu S 9 (.inl (j_arrD ds (j_next xs i) (((nAt ds i) - ((x_stat 1).2 (nAt xs i).toNatClampNeg)) + ((x_stat 2).2 (nAt xs i).toNatClampNeg))))) 13 (.inl (j_arrW ds wt (j_next xs i)))) P
                  refine xw.callO (o := 6) rfl rfl rfl ((xu_ne _ _ (by decide)).trans ((xu_ne _ _ (by decide)).trans h6)) rfl rfl (c_arrives ⟨((xu_ne _ _ (by decide)).trans ((xu_ne _ _ (by decide)).trans h1)), ((xu_ne _ _ (by decide)).trans ((xu_ne _ _ (by decide)).trans h2)), ((xu_ne _ _ (by decide)).trans ((xu_ne _ _ (by decide)).trans h4)), ((xu_ne _ _ (by decide)).trans ((xu_ne _ _ (by decide)).trans h6)), ((xu_ne _ _ (by decide)).trans ((xu_ne _ _ (by decide)).trans h7)), ((xu_ne _ _ (by decide)).trans (xu_self _ _ _)), ((xu_ne _ _ (by decide)).trans ((xu_ne _ _ (by decide)).trans h11)), (xu_self _ _ _)⟩ (by first | assumption | (unfold nCut; rw [List.length_take]; omega) | exact Nat.lt_of_le_of_lt (j_arrW_len _ _ _) (by omega)) ?_)
                  show xw z NK g 65 114 [(0, .ref (z + 6)), (1, .int i), (2, .int (nAt xs i)), (3, .int ((nAt ds i) - ((x_stat 1).2 (nAt xs i).toNatClampNeg))), (4, .int (((nAt ds i) - ((x_stat 1).2 (nAt xs i).toNatClampNeg)) + ((x_stat 2).2 (nAt xs i).toNatClampNeg))), (5, .int (j_next xs i)), (6, .int (j_goal xs ys pl i))] [.int (bI (j_arrB (j_arrD ds (j_next xs i) (((nAt ds i) - ((x_stat 1).2 (nAt xs i).toNatClampNeg)) + ((x_stat 2).2 (nAt xs i).toNatClampNeg))) (j_goal xs ys pl i) ((nAt ds i) - ((x_stat 1).2 (nAt xs i).toNatClampNeg))))] (xu (xu (xu (xu S 9 (.inl (j_arrD ds (j_next xs i) (((nAt ds i) - ((x_stat 1).2 (nAt xs i).toNatClampNeg)) + ((x_stat 2).2 (nAt xs i).toNatClampNeg))))) 13 (.inl (j_arrW ds wt (j_next xs i)))) 9 (.inl (j_arrD (j_arrD ds (j_next xs i) (((nAt ds i) - ((x_stat 1).2 (nAt xs i).toNatClampNeg)) + ((x_stat 2).2 (nAt xs i).toNatClampNeg))) (j_goal xs ys pl i) ((nAt ds i) - ((x_stat 1).2 (nAt xs i).toNatClampNeg))))) 13 (.inl (j_arrW (j_arrD ds (j_next xs i) (((nAt ds i) - ((x_stat 1).2 (nAt xs i).toNatClampNeg)) + ((x_stat 2).2 (nAt xs i).toNatClampNeg))) (j_arrW ds wt (j_next xs i)) (j_goal xs ys pl i)))) P
                  rw [xu4 _ (show (9 : Nat) ≠ 13 by decide)]
                  refine xw.if_ rfl (fun c11 => ?_) (fun c11 => ?_)
                  · have c11 := bI_eq0 (of_decide_eq_true c11)
                    refine xw.steps 1 (fun _ => rfl) ?_
                    refine xw.ret rfl (fun _ => rfl) ?_
                    show P (some (.int 0)) (xu (xu S 9 (.inl (j_arrD (j_arrD ds (j_next xs i) (((nAt ds i) - ((x_stat 1).2 (nAt xs i).toNatClampNeg)) + ((x_stat 2).2 (nAt xs i).toNatClampNeg))) (j_goal xs ys pl i) ((nAt ds i) - ((x_stat 1).2 (nAt xs i).toNatClampNeg))))) 13 (.inl (j_arrW (j_arrD ds (j_next xs i) (((nAt ds i) - ((x_stat 1).2 (nAt xs i).toNatClampNeg)) + ((x_stat 2).2 (nAt xs i).toNatClampNeg))) (j_arrW ds wt (j_next xs i)) (j_goal xs ys pl i))))
                    first | simpa [j_leave, j_taken, j_given, bI, xu_same h9, xu_same h13, xu4 _ (show (9 : Nat) ≠ 13 by decide), c1, c2, c3, c4, c5, c6, c9, c10, c11] using hP | simp_all [j_leave, j_taken, j_given, bI, xu_same h9, xu_same h13, xu4 _ (show (9 : Nat) ≠ 13 by decide)]
                  · have c11 := bI_ne0 (of_decide_eq_false c11)
                    refine xw.steps 2 (fun _ => rfl) ?_
                    refine xw.ret rfl (fun _ => rfl) ?_
                    show P (some (.int 1)) (xu (xu S 9 (.inl (j_arrD (j_arrD ds (j_next xs i) (((nAt ds i) - ((x_stat 1).2 (nAt xs i).toNatClampNeg)) + ((x_stat 2).2 (nAt xs i).toNatClampNeg))) (j_goal xs ys pl i) ((nAt ds i) - ((x_stat 1).2 (nAt xs i).toNatClampNeg))))) 13 (.inl (j_arrW (j_arrD ds (j_next xs i) (((nAt ds i) - ((x_stat 1).2 (nAt xs i).toNatClampNeg)) + ((x_stat 2).2 (nAt xs i).toNatClampNeg))) (j_arrW ds wt (j_next xs i)) (j_goal xs ys pl i))))
                    first | simpa [j_leave, j_taken, j_given, bI, xu_same h9, xu_same h13, xu4 _ (show (9 : Nat) ≠ 13 by decide), c1, c2, c3, c4, c5, c6, c9, c10, c11] using hP | simp_all [j_leave, j_taken, j_given, bI, xu_same h9, xu_same h13, xu4 _ (show (9 : Nat) ≠ 13 by decide)]
              · have c9 := bI_eq0 (Decidable.not_not.mp (of_decide_eq_false c9))
                refine xw.steps 1 (fun _ => rfl) ?_
                refine xw.ret rfl (fun _ => rfl) ?_
                show P (some (.int 0)) (xu (xu S 9 (.inl (j_arrD ds (j_next xs i) (((nAt ds i) - ((x_stat 1).2 (nAt xs i).toNatClampNeg)) + ((x_stat 2).2 (nAt xs i).toNatClampNeg))))) 13 (.inl (j_arrW ds wt (j_next xs i))))
                first | simpa [j_leave, j_taken, j_given, bI, xu_same h9, xu_same h13, xu4 _ (show (9 : Nat) ≠ 13 by decide), c1, c2, c3, c4, c5, c6, c9] using hP | simp_all [j_leave, j_taken, j_given, bI, xu_same h9, xu_same h13, xu4 _ (show (9 : Nat) ≠ 13 by decide)]
          · have c5 := Int32.not_le.mp (of_decide_eq_false c5)
            refine xw.steps 1 (fun _ => rfl) ?_
            refine xw.ret rfl (fun _ => rfl) ?_
            show P (some (.int 0)) S
            first | simpa [j_leave, j_taken, j_given, bI, xu_same h9, xu_same h13, xu4 _ (show (9 : Nat) ≠ 13 by decide), c1, c2, c3, c4, c5] using hP | simp_all [j_leave, j_taken, j_given, bI, xu_same h9, xu_same h13, xu4 _ (show (9 : Nat) ≠ 13 by decide)]
      · have c3 := of_decide_eq_false c3
        refine xw.steps 1 (fun _ => rfl) ?_
        refine xw.ret rfl (fun _ => rfl) ?_
        show P (some (.int 0)) S
        first | simpa [j_leave, j_taken, j_given, bI, xu_same h9, xu_same h13, xu4 _ (show (9 : Nat) ≠ 13 by decide), c1, c2, c3] using hP | simp_all [j_leave, j_taken, j_given, bI, xu_same h9, xu_same h13, xu4 _ (show (9 : Nat) ≠ 13 by decide)]
end XJ2
