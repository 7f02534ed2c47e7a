/-! IMPROVER: a pass (walks by wip/gen25.py) -/
def p_far (pl fs ga : List Int32) : Nat → Int32 → Int32
  | 0, far => far
  | d + 1, far => if nAt fs (nAt pl far + 1) = 13 ∨ nAt fs (nAt pl far + 1) = 10 then p_far pl fs ga d (nAt ga (nAt pl far + 1)) else far
def p_places (fs ga : List Int32) : Nat → Nat → List Int32 → List Int32
  | 0, _, pl => pl
  | d + 1, i, pl => if nAt fs (nI i) = 13 then p_places fs ga d (i + 1) (nSet pl (nAt ga (nI i)) (nI i)) else p_places fs ga d (i + 1) pl
def p_uses (pl fs ga : List Int32) : Nat → Nat → List Int32 → List Int32
  | 0, _, us => us
  | d + 1, i, us => if t_goes (nAt fs (nI i)) = true then p_uses pl fs ga d (i + 1) (nSet us (p_far pl fs ga 100 (nAt ga (nI i))) (nAt us (p_far pl fs ga 100 (nAt ga (nI i))) + 1)) else p_uses pl fs ga d (i + 1) us
def p_goal (pl fs ga : List Int32) (n k : Int32) : Int32 := if t_goes n = true then p_far pl fs ga 100 k else k
def p_step (ns as : List Int32) (n b : Int32) : List Int32 × List Int32 := if (p_folds ns as n b).2.2 = true then ((p_folds ns as n b).1, (p_folds ns as n b).2.1) else ((p_folds ns as n b).1 ++ [n], (p_folds ns as n b).2.1 ++ [b])
def p_rew (pl us fs ga : List Int32) : Nat → Nat → Bool → List Int32 → List Int32 → List Int32 × List Int32
  | 0, _, _, ns, as => (ns, as)
  | d + 1, i, dd, ns, as =>
    if nAt fs (nI i) = 13 ∧ nAt us (nAt ga (nI i)) = 0 then p_rew pl us fs ga d (i + 1) dd ns as
    else if dd = true ∧ ¬ nAt fs (nI i) = 13 then p_rew pl us fs ga d (i + 1) dd ns as
    else p_rew pl us fs ga d (i + 1) (t_ends (p_l (p_step ns as (nAt fs (nI i)) (p_goal pl fs ga (nAt fs (nI i)) (nAt ga (nI i)))).1 0)) (p_step ns as (nAt fs (nI i)) (p_goal pl fs ga (nAt fs (nI i)) (nAt ga (nI i)))).1 (p_step ns as (nAt fs (nI i)) (p_goal pl fs ga (nAt fs (nI i)) (nAt ga (nI i)))).2
theorem p_c_len (c : List Int32) (n : Int32) : (p_c c n).length ≤ c.length := by unfold p_c nCut; rw [List.length_take]; omega
theorem p_folds_len (ns as : List Int32) (n k : Int32) : (p_folds ns as n k).1.length ≤ ns.length + 1 ∧ (p_folds ns as n k).2.1.length ≤ as.length + 1 := by
  have a1 := p_c_len ns 1
  have a2 := p_c_len ns 2
  have b1 := p_c_len as 1
  have b2 := p_c_len as 2
  unfold p_folds p_one p_calc p_comp p_drop p_cond p_short
  repeat' split
  all_goals simp
  all_goals omega
theorem p_step_len (ns as : List Int32) (n b : Int32) : (p_step ns as n b).1.length ≤ ns.length + 2 ∧ (p_step ns as n b).2.length ≤ as.length + 2 := by
  have h := p_folds_len ns as n b
  unfold p_step
  split
  · exact ⟨Nat.le_succ_of_le h.1, Nat.le_succ_of_le h.2⟩
  · simp; omega
theorem p_rew_skip {pl us fs ga ns as : List Int32} {d i : Nat} {dd : Bool} (h : (nAt fs (nI i) = 13 ∧ nAt us (nAt ga (nI i)) = 0) ∨ (dd = true ∧ ¬ nAt fs (nI i) = 13)) : p_rew pl us fs ga (d + 1) i dd ns as = p_rew pl us fs ga d (i + 1) dd ns as := by
  rw [p_rew]
  rcases h with h | h
  · rw [if_pos h]
  · rw [if_neg (fun w => h.2 w.1), if_pos h]
theorem p_rew_go {pl us fs ga ns as X Y : List Int32} {d i : Nat} {dd : Bool} {b : Int32} (h1 : ¬ (nAt fs (nI i) = 13 ∧ nAt us (nAt ga (nI i)) = 0)) (h2 : ¬ (dd = true ∧ ¬ nAt fs (nI i) = 13)) (h3 : p_goal pl fs ga (nAt fs (nI i)) (nAt ga (nI i)) = b) (h4 : p_step ns as (nAt fs (nI i)) b = (X, Y)) : p_rew pl us fs ga (d + 1) i dd ns as = p_rew pl us fs ga d (i + 1) (t_ends (p_l X 0)) X Y := by
  rw [p_rew, if_neg h1, if_neg h2, h3, h4]
section XQ
variable {z : Nat} {NK : List Nat} {g : mx_G} {S : xS} {P : Option Value → xS → Prop} {pl us fs ga ns as : List Int32}
set_option maxHeartbeats 4000000 in
/-- RowCode$Improver.folds(II)Z -/
theorem c_folds_A (hJ : iS z S 20 21 23 25 26 28 pl us fs ga ns as) (hl1 : ns.length < 131072) (hl2 : as.length < 131072) {n k : Int32} (hP : P (some (.int (bI (p_folds ns as n k).2.2))) (xu (xu S 26 (.inl (p_folds ns as n k).1)) 28 (.inl (p_folds ns as n k).2.1))) : xw z NK g 78 0 [(0, .ref (z + 15)), (1, .int n), (2, .int k)] [] S P := by
  obtain ⟨h15, h16, h18, hf, hfn, hfa, ht, htn, hta⟩ := id hJ
  refine xw.steps 1 (fun _ => rfl) ?_
  refine xw.table rfl (fun c1 => ?_) ⟨fun c1 => ?_, fun c1 => ?_, fun c1 => ?_, fun c1 => ?_, fun c1 => ?_, fun c1 => ?_, fun c1 => ?_, fun c1 => ?_, fun c1 => ?_, fun c1 => ?_, trivial⟩
  · skip
    have c1_0 : ¬ n = 5 := fun e => by rw [e] at c1; revert c1; decide
    have c1_1 : ¬ n = 6 := fun e => by rw [e] at c1; revert c1; decide
    have c1_2 : ¬ n = 7 := fun e => by rw [e] at c1; revert c1; decide
    have c1_3 : ¬ n = 8 := fun e => by rw [e] at c1; revert c1; decide
    have c1_4 : ¬ n = 9 := fun e => by rw [e] at c1; revert c1; decide
    have c1_5 : ¬ n = 10 := fun e => by rw [e] at c1; revert c1; decide
    have c1_6 : ¬ n = 11 := fun e => by rw [e] at c1; revert c1; decide
    have c1_7 : ¬ n = 12 := fun e => by rw [e] at c1; revert c1; decide
    have c1_8 : ¬ n = 13 := fun e => by rw [e] at c1; revert c1; decide
    have c1_9 : ¬ n = 14 := fun e => by rw [e] at c1; revert c1; decide
    refine xw.steps 1 (fun _ => rfl) ?_
    refine xw.ret rfl (fun _ => rfl) ?_
    show P (some (.int 0)) S
    first | simpa [p_folds, bI, xu_same htn, xu_same hta, c1_0, c1_1, c1_2, c1_3, c1_4, c1_5, c1_6, c1_7, c1_8, c1_9] using hP | simp_all [p_folds, bI, xu_same htn, xu_same hta]
  · have c1 : n = 5 := c1
    refine xw.steps 2 (fun _ => rfl) ?_
    show xw z NK g 78 58 [(0, .ref (z + 15)), (1, .int n), (2, .int k)] [.int n, .ref (z + 15)] S P
    refine xw.callO (o := 15) rfl rfl rfl h15 rfl rfl (c_one_A ⟨h15, h16, h18, hf, hfn, hfa, ht, htn, hta⟩ (by first | assumption | (unfold nCut; rw [List.length_take]; omega) | exact Nat.lt_of_le_of_lt (j_arrW_len _ _ _) (by omega)) (by first | assumption | (unfold nCut; rw [List.length_take]; omega) | exact Nat.lt_of_le_of_lt (j_arrW_len _ _ _) (by omega)) ?_)
    show xw z NK g 78 61 [(0, .ref (z + 15)), (1, .int n), (2, .int k)] [.int (bI (p_one ns as n).2.2)] (xu (xu S 26 (.inl (p_one ns as n).1)) 28 (.inl (p_one ns as n).2.1)) P
    refine xw.ret rfl (fun _ => mx_ret_b _ _) ?_
    show P (some (.int (bI (p_one ns as n).2.2))) (xu (xu S 26 (.inl (p_one ns as n).1)) 28 (.inl (p_one ns as n).2.1))
    first | simpa [p_folds, bI, xu_same htn, xu_same hta, c1] using hP | simp_all [p_folds, bI, xu_same htn, xu_same hta]
  · have c1 : n = 6 := c1
    refine xw.steps 2 (fun _ => rfl) ?_
    show xw z NK g 78 58 [(0, .ref (z + 15)), (1, .int n), (2, .int k)] [.int n, .ref (z + 15)] S P
    refine xw.callO (o := 15) rfl rfl rfl h15 rfl rfl (c_one_A ⟨h15, h16, h18, hf, hfn, hfa, ht, htn, hta⟩ (by first | assumption | (unfold nCut; rw [List.length_take]; omega) | exact Nat.lt_of_le_of_lt (j_arrW_len _ _ _) (by omega)) (by first | assumption | (unfold nCut; rw [List.length_take]; omega) | exact Nat.lt_of_le_of_lt (j_arrW_len _ _ _) (by omega)) ?_)
    show xw z NK g 78 61 [(0, .ref (z + 15)), (1, .int n), (2, .int k)] [.int (bI (p_one ns as n).2.2)] (xu (xu S 26 (.inl (p_one ns as n).1)) 28 (.inl (p_one ns as n).2.1)) P
    refine xw.ret rfl (fun _ => mx_ret_b _ _) ?_
    show P (some (.int (bI (p_one ns as n).2.2))) (xu (xu S 26 (.inl (p_one ns as n).1)) 28 (.inl (p_one ns as n).2.1))
    first | simpa [p_folds, bI, xu_same htn, xu_same hta, c1] using hP | simp_all [p_folds, bI, xu_same htn, xu_same hta]
  · have c1 : n = 7 := c1
    refine xw.steps 2 (fun _ => rfl) ?_
    show xw z NK g 78 64 [(0, .ref (z + 15)), (1, .int n), (2, .int k)] [.int k, .ref (z + 15)] S P
    refine xw.callO (o := 15) rfl rfl rfl h15 rfl rfl (c_calc_A ⟨h15, h16, h18, hf, hfn, hfa, ht, htn, hta⟩ (by first | assumption | (unfold nCut; rw [List.length_take]; omega) | exact Nat.lt_of_le_of_lt (j_arrW_len _ _ _) (by omega)) (by first | assumption | (unfold nCut; rw [List.length_take]; omega) | exact Nat.lt_of_le_of_lt (j_arrW_len _ _ _) (by omega)) ?_)
    show xw z NK g 78 67 [(0, .ref (z + 15)), (1, .int n), (2, .int k)] [.int (bI (p_calc ns as k).2.2)] (xu (xu S 26 (.inl (p_calc ns as k).1)) 28 (.inl (p_calc ns as k).2.1)) P
    refine xw.ret rfl (fun _ => mx_ret_b _ _) ?_
    show P (some (.int (bI (p_calc ns as k).2.2))) (xu (xu S 26 (.inl (p_calc ns as k).1)) 28 (.inl (p_calc ns as k).2.1))
    first | simpa [p_folds, bI, xu_same htn, xu_same hta, c1] using hP | simp_all [p_folds, bI, xu_same htn, xu_same hta]
  · have c1 : n = 8 := c1
    refine xw.steps 2 (fun _ => rfl) ?_
    show xw z NK g 78 70 [(0, .ref (z + 15)), (1, .int n), (2, .int k)] [.int k, .ref (z + 15)] S P
    refine xw.callO (o := 15) rfl rfl rfl h15 rfl rfl (c_comp_A ⟨h15, h16, h18, hf, hfn, hfa, ht, htn, hta⟩ (by first | assumption | (unfold nCut; rw [List.length_take]; omega) | exact Nat.lt_of_le_of_lt (j_arrW_len _ _ _) (by omega)) (by first | assumption | (unfold nCut; rw [List.length_take]; omega) | exact Nat.lt_of_le_of_lt (j_arrW_len _ _ _) (by omega)) ?_)
    show xw z NK g 78 73 [(0, .ref (z + 15)), (1, .int n), (2, .int k)] [.int (bI (p_comp ns as k).2.2)] (xu (xu S 26 (.inl (p_comp ns as k).1)) 28 (.inl (p_comp ns as k).2.1)) P
    refine xw.ret rfl (fun _ => mx_ret_b _ _) ?_
    show P (some (.int (bI (p_comp ns as k).2.2))) (xu (xu S 26 (.inl (p_comp ns as k).1)) 28 (.inl (p_comp ns as k).2.1))
    first | simpa [p_folds, bI, xu_same htn, xu_same hta, c1] using hP | simp_all [p_folds, bI, xu_same htn, xu_same hta]
  · have c1 : n = 9 := c1
    refine xw.steps 1 (fun _ => rfl) ?_
    refine xw.ret rfl (fun _ => rfl) ?_
    show P (some (.int 0)) S
    first | simpa [p_folds, bI, xu_same htn, xu_same hta, c1] using hP | simp_all [p_folds, bI, xu_same htn, xu_same hta]
  · have c1 : n = 10 := c1
    refine xw.steps 1 (fun _ => rfl) ?_
    refine xw.ret rfl (fun _ => rfl) ?_
    show P (some (.int 0)) S
    first | simpa [p_folds, bI, xu_same htn, xu_same hta, c1] using hP | simp_all [p_folds, bI, xu_same htn, xu_same hta]
  · have c1 : n = 11 := c1
    refine xw.steps 3 (fun _ => rfl) ?_
    show xw z NK g 78 82 [(0, .ref (z + 15)), (1, .int n), (2, .int k)] [.int k, .int n, .ref (z + 15)] S P
    refine xw.callO (o := 15) rfl rfl rfl h15 rfl rfl (c_cond_A ⟨h15, h16, h18, hf, hfn, hfa, ht, htn, hta⟩ (by first | assumption | (unfold nCut; rw [List.length_take]; omega) | exact Nat.lt_of_le_of_lt (j_arrW_len _ _ _) (by omega)) (by first | assumption | (unfold nCut; rw [List.length_take]; omega) | exact Nat.lt_of_le_of_lt (j_arrW_len _ _ _) (by omega)) ?_)
    show xw z NK g 78 85 [(0, .ref (z + 15)), (1, .int n), (2, .int k)] [.int (bI (p_cond ns as n k).2.2)] (xu (xu S 26 (.inl (p_cond ns as n k).1)) 28 (.inl (p_cond ns as n k).2.1)) P
    refine xw.ret rfl (fun _ => mx_ret_b _ _) ?_
    show P (some (.int (bI (p_cond ns as n k).2.2))) (xu (xu S 26 (.inl (p_cond ns as n k).1)) 28 (.inl (p_cond ns as n k).2.1))
    first | simpa [p_folds, bI, xu_same htn, xu_same hta, c1] using hP | simp_all [p_folds, bI, xu_same htn, xu_same hta]
  · have c1 : n = 12 := c1
    refine xw.steps 3 (fun _ => rfl) ?_
    show xw z NK g 78 82 [(0, .ref (z + 15)), (1, .int n), (2, .int k)] [.int k, .int n, .ref (z + 15)] S P
    refine xw.callO (o := 15) rfl rfl rfl h15 rfl rfl (c_cond_A ⟨h15, h16, h18, hf, hfn, hfa, ht, htn, hta⟩ (by first | assumption | (unfold nCut; rw [List.length_take]; omega) | exact Nat.lt_of_le_of_lt (j_arrW_len _ _ _) (by omega)) (by first | assumption | (unfold nCut; rw [List.length_take]; omega) | exact Nat.lt_of_le_of_lt (j_arrW_len _ _ _) (by omega)) ?_)
    show xw z NK g 78 85 [(0, .ref (z + 15)), (1, .int n), (2, .int k)] [.int (bI (p_cond ns as n k).2.2)] (xu (xu S 26 (.inl (p_cond ns as n k).1)) 28 (.inl (p_cond ns as n k).2.1)) P
    refine xw.ret rfl (fun _ => mx_ret_b _ _) ?_
    show P (some (.int (bI (p_cond ns as n k).2.2))) (xu (xu S 26 (.inl (p_cond ns as n k).1)) 28 (.inl (p_cond ns as n k).2.1))
    first | simpa [p_folds, bI, xu_same htn, xu_same hta, c1] using hP | simp_all [p_folds, bI, xu_same htn, xu_same hta]
  · have c1 : n = 13 := c1
    refine xw.steps 2 (fun _ => rfl) ?_
    show xw z NK g 78 88 [(0, .ref (z + 15)), (1, .int n), (2, .int k)] [.int k, .ref (z + 15)] S P
    refine xw.callO (o := 15) rfl rfl rfl h15 rfl rfl (c_short_A ⟨h15, h16, h18, hf, hfn, hfa, ht, htn, hta⟩ (by first | assumption | (unfold nCut; rw [List.length_take]; omega) | exact Nat.lt_of_le_of_lt (j_arrW_len _ _ _) (by omega)) (by first | assumption | (unfold nCut; rw [List.length_take]; omega) | exact Nat.lt_of_le_of_lt (j_arrW_len _ _ _) (by omega)) ?_)
    show xw z NK g 78 91 [(0, .ref (z + 15)), (1, .int n), (2, .int k)] [] (xu (xu S 26 (.inl (p_short ns as k).1)) 28 (.inl (p_short ns as k).2)) P
    refine xw.steps 1 (fun _ => rfl) ?_
    refine xw.ret rfl (fun _ => rfl) ?_
    show P (some (.int 0)) (xu (xu S 26 (.inl (p_short ns as k).1)) 28 (.inl (p_short ns as k).2))
    first | simpa [p_folds, bI, xu_same htn, xu_same hta, c1] using hP | simp_all [p_folds, bI, xu_same htn, xu_same hta]
  · have c1 : n = 14 := c1
    refine xw.steps 1 (fun _ => rfl) ?_
    show xw z NK g 78 75 [(0, .ref (z + 15)), (1, .int n), (2, .int k)] [.ref (z + 15)] S P
    refine xw.callO (o := 15) rfl rfl rfl h15 rfl rfl (c_drop_A ⟨h15, h16, h18, hf, hfn, hfa, ht, htn, hta⟩ (by first | assumption | (unfold nCut; rw [List.length_take]; omega) | exact Nat.lt_of_le_of_lt (j_arrW_len _ _ _) (by omega)) (by first | assumption | (unfold nCut; rw [List.length_take]; omega) | exact Nat.lt_of_le_of_lt (j_arrW_len _ _ _) (by omega)) ?_)
    show xw z NK g 78 78 [(0, .ref (z + 15)), (1, .int n), (2, .int k)] [.int (bI (p_drop ns as).2.2)] (xu (xu S 26 (.inl (p_drop ns as).1)) 28 (.inl (p_drop ns as).2.1)) P
    refine xw.ret rfl (fun _ => mx_ret_b _ _) ?_
    show P (some (.int (bI (p_drop ns as).2.2))) (xu (xu S 26 (.inl (p_drop ns as).1)) 28 (.inl (p_drop ns as).2.1))
    first | simpa [p_folds, bI, xu_same htn, xu_same hta, c1] using hP | simp_all [p_folds, bI, xu_same htn, xu_same hta]
set_option maxHeartbeats 1000000 in
/-- RowCode$Improver.farthest(I)I -/
theorem c_far_A (hJ : iS z S 20 21 23 25 26 28 pl us fs ga ns as) {l : Int32} (hP : P (some (.int (p_far pl fs ga 100 l))) S) : xw z NK g 76 0 [(0, .ref (z + 15)), (1, .int l)] [] S P := by
  obtain ⟨h15, h16, h18, hf, hfn, hfa, ht, htn, hta⟩ := id hJ
  have loop : ∀ (d i : Nat) (hi : i + d = 100) (far : Int32) (hP : P (some (.int (p_far pl fs ga d far))) S), xw z NK g 76 4 [(0, .ref (z + 15)), (1, .int l), (2, .int far), (3, .int (nI i))] [] S P := by
    intro d
    induction d with
    | zero =>
      intro i hi far hP
      refine xw.steps 2 (fun _ => rfl) ?_
      refine xw.icmp rfl (fun c1 => ?_) (fun c1 => ?_)
      · have c1 := Int32.not_lt.mpr (of_decide_eq_true c1)
        refine xw.steps 1 (fun _ => rfl) ?_
        refine xw.ret rfl (fun _ => rfl) ?_
        show P (some (.int far)) S
        exact hP
      · have c1 := Int32.not_le.mp (of_decide_eq_false c1)
        show xw z NK g 76 10 [(0, .ref (z + 15)), (1, .int l), (2, .int far), (3, .int (nI i))] [] S P
        exact absurd c1 (nI_nlt (b := 100) (by omega) (by omega))
    | succ d ih =>
      intro i hi far hP
      refine xw.steps 2 (fun _ => rfl) ?_
      refine xw.icmp rfl (fun c1 => ?_) (fun c1 => ?_)
      · have c1 := Int32.not_lt.mpr (of_decide_eq_true c1)
        show xw z NK g 76 65 [(0, .ref (z + 15)), (1, .int l), (2, .int far), (3, .int (nI i))] [] S P
        exact absurd (nI_lt (b := 100) (by omega) (by omega)) c1
      · have c1 := Int32.not_le.mp (of_decide_eq_false c1)
        refine xw.steps 1 (fun _ => rfl) ?_
        refine xw.getf (o := 15) rfl h15 rfl ?_
        refine xw.steps 1 (fun _ => rfl) ?_
        show xw z NK g 76 15 [(0, .ref (z + 15)), (1, .int l), (2, .int far), (3, .int (nI i))] [.int far, .ref (z + 16)] S P
        refine xw.callN (o := 16) rfl rfl rfl h16 rfl rfl (c_at h16 ?_)
        show xw z NK g 76 18 [(0, .ref (z + 15)), (1, .int l), (2, .int far), (3, .int (nI i))] [.int (nAt pl far)] S P
        refine xw.steps 4 (fun _ => rfl) ?_
        refine xw.getf (o := 15) rfl h15 rfl ?_
        refine xw.steps 1 (fun _ => rfl) ?_
        show xw z NK g 76 28 [(0, .ref (z + 15)), (1, .int l), (2, .int far), (3, .int (nI i)), (4, .int ((nAt pl far) + 1))] [.int ((nAt pl far) + 1), .ref (z + 20)] S P
        refine xw.callO (o := 20) rfl rfl rfl hf rfl rfl (c_Code_numberAt hf hfn hfa (by decide) ?_)
        show xw z NK g 76 31 [(0, .ref (z + 15)), (1, .int l), (2, .int far), (3, .int (nI i)), (4, .int ((nAt pl far) + 1))] [.int (nAt fs ((nAt pl far) + 1))] S P
        refine xw.steps 3 (fun _ => rfl) ?_
        refine xw.icmp rfl (fun c2 => ?_) (fun c2 => ?_)
        · have c2 := of_decide_eq_true c2
          refine xw.steps 1 (fun _ => rfl) ?_
          refine xw.getf (o := 15) rfl h15 rfl ?_
          refine xw.steps 1 (fun _ => rfl) ?_
          show xw z NK g 76 55 [(0, .ref (z + 15)), (1, .int l), (2, .int far), (3, .int (nI i)), (4, .int ((nAt pl far) + 1)), (5, .int (nAt fs ((nAt pl far) + 1)))] [.int ((nAt pl far) + 1), .ref (z + 20)] S P
          refine xw.callO (o := 20) rfl rfl rfl hf rfl rfl (c_Code_argumentAt hf hfn hfa (by decide) ?_)
          show xw z NK g 76 58 [(0, .ref (z + 15)), (1, .int l), (2, .int far), (3, .int (nI i)), (4, .int ((nAt pl far) + 1)), (5, .int (nAt fs ((nAt pl far) + 1)))] [.int (nAt ga ((nAt pl far) + 1))] S P
          refine xw.steps 3 (fun _ => rfl) ?_
          show xw z NK g 76 4 [(0, .ref (z + 15)), (1, .int l), (2, .int (nAt ga ((nAt pl far) + 1))), (3, .int ((nI i) + 1)), (4, .int ((nAt pl far) + 1)), (5, .int (nAt fs ((nAt pl far) + 1)))] [] S P
          rw [nI_1]
          refine xw.forget (lv := [(0, .ref (z + 15)), (1, .int l), (2, .int (nAt ga ((nAt pl far) + 1))), (3, .int (nI (i + 1)))]) lk_76 (show [0, 1, 2, 3].Nodup by decide) (show [0, 1, 2, 3, 4, 5].Nodup by decide) (List.forall_mem_cons.mpr ⟨rfl, List.forall_mem_cons.mpr ⟨rfl, List.forall_mem_cons.mpr ⟨rfl, List.forall_mem_cons.mpr ⟨rfl, fun _ h => absurd h List.not_mem_nil⟩⟩⟩⟩) ?_
          exact ih (i + 1) (by omega) _ (by first | simpa [p_far, c1, c2] using hP | simp_all [p_far])
        · have c2 := of_decide_eq_false c2
          refine xw.steps 2 (fun _ => rfl) ?_
          refine xw.icmp rfl (fun c3 => ?_) (fun c3 => ?_)
          · have c3 := of_decide_eq_true c3
            refine xw.steps 1 (fun _ => rfl) ?_
            refine xw.getf (o := 15) rfl h15 rfl ?_
            refine xw.steps 1 (fun _ => rfl) ?_
            show xw z NK g 76 55 [(0, .ref (z + 15)), (1, .int l), (2, .int far), (3, .int (nI i)), (4, .int ((nAt pl far) + 1)), (5, .int (nAt fs ((nAt pl far) + 1)))] [.int ((nAt pl far) + 1), .ref (z + 20)] S P
            refine xw.callO (o := 20) rfl rfl rfl hf rfl rfl (c_Code_argumentAt hf hfn hfa (by decide) ?_)
            show xw z NK g 76 58 [(0, .ref (z + 15)), (1, .int l), (2, .int far), (3, .int (nI i)), (4, .int ((nAt pl far) + 1)), (5, .int (nAt fs ((nAt pl far) + 1)))] [.int (nAt ga ((nAt pl far) + 1))] S P
            refine xw.steps 3 (fun _ => rfl) ?_
            show xw z NK g 76 4 [(0, .ref (z + 15)), (1, .int l), (2, .int (nAt ga ((nAt pl far) + 1))), (3, .int ((nI i) + 1)), (4, .int ((nAt pl far) + 1)), (5, .int (nAt fs ((nAt pl far) + 1)))] [] S P
            rw [nI_1]
            refine xw.forget (lv := [(0, .ref (z + 15)), (1, .int l), (2, .int (nAt ga ((nAt pl far) + 1))), (3, .int (nI (i + 1)))]) lk_76 (show [0, 1, 2, 3].Nodup by decide) (show [0, 1, 2, 3, 4, 5].Nodup by decide) (List.forall_mem_cons.mpr ⟨rfl, List.forall_mem_cons.mpr ⟨rfl, List.forall_mem_cons.mpr ⟨rfl, List.forall_mem_cons.mpr ⟨rfl, fun _ h => absurd h List.not_mem_nil⟩⟩⟩⟩) ?_
            exact ih (i + 1) (by omega) _ (by first | simpa [p_far, c1, c2, c3] using hP | simp_all [p_far])
          · have c3 := of_decide_eq_false c3
            refine xw.steps 1 (fun _ => rfl) ?_
            refine xw.ret rfl (fun _ => rfl) ?_
            show P (some (.int far)) S
            first | simpa [p_far, c1, c2, c3] using hP | simp_all [p_far]
  refine xw.steps 4 (fun _ => rfl) ?_
  show xw z NK g 76 4 [(0, .ref (z + 15)), (1, .int l), (2, .int l), (3, .int 0)] [] S P
  exact loop 100 0 (by omega) _ hP
set_option maxHeartbeats 1000000 in
/-- RowCode$Improver.findPlaces()V -/
theorem c_places_A (hJ : iS z S 20 21 23 25 26 28 pl us fs ga ns as) (hb : fs.length < 60000) (hP : P none (xu S 16 (.inl (p_places fs ga fs.length 0 (List.replicate 100 (-1)))))) : xw z NK g 74 0 [(0, .ref (z + 15))] [] S P := by
  obtain ⟨h15, h16, h18, hf, hfn, hfa, ht, htn, hta⟩ := id hJ
  have loop : ∀ (d i : Nat) (hi : i + d = fs.length) (pl2 : List Int32) (hP : P none (xu S 16 (.inl (p_places fs ga d i pl2)))), xw z NK g 74 12 [(0, .ref (z + 15)), (1, .int (nI i))] [] (xu S 16 (.inl pl2)) P := by
    intro d
    induction d with
    | zero =>
      intro i hi pl2 hP
      refine xw.steps 2 (fun _ => rfl) ?_
      refine xw.getf (o := 15) rfl ((xu_ne _ _ (by decide)).trans h15) rfl ?_
      show xw z NK g 74 17 [(0, .ref (z + 15)), (1, .int (nI i))] [.ref (z + 20), .int (nI i)] (xu S 16 (.inl pl2)) P
      refine xw.callO (o := 20) rfl rfl rfl ((xu_ne _ _ (by decide)).trans hf) rfl rfl (c_Code_size ((xu_ne _ _ (by decide)).trans hf) ((xu_ne _ _ (by decide)).trans hfn) ((xu_ne _ _ (by decide)).trans hfa) (by decide) ?_)
      show xw z NK g 74 20 [(0, .ref (z + 15)), (1, .int (nI i))] [.int (nI fs.length), .int (nI i)] (xu S 16 (.inl pl2)) P
      refine xw.icmp rfl (fun c1 => ?_) (fun c1 => ?_)
      · have c1 := Int32.not_lt.mpr (of_decide_eq_true c1)
        refine xw.ret rfl (fun _ => rfl) ?_
        show P none (xu S 16 (.inl pl2))
        exact hP
      · have c1 := Int32.not_le.mp (of_decide_eq_false c1)
        show xw z NK g 74 23 [(0, .ref (z + 15)), (1, .int (nI i))] [] (xu S 16 (.inl pl2)) P
        exact absurd c1 (nI_nlt (by omega) (by omega))
    | succ d ih =>
      intro i hi pl2 hP
      refine xw.steps 2 (fun _ => rfl) ?_
      refine xw.getf (o := 15) rfl ((xu_ne _ _ (by decide)).trans h15) rfl ?_
      show xw z NK g 74 17 [(0, .ref (z + 15)), (1, .int (nI i))] [.ref (z + 20), .int (nI i)] (xu S 16 (.inl pl2)) P
      refine xw.callO (o := 20) rfl rfl rfl ((xu_ne _ _ (by decide)).trans hf) rfl rfl (c_Code_size ((xu_ne _ _ (by decide)).trans hf) ((xu_ne _ _ (by decide)).trans hfn) ((xu_ne _ _ (by decide)).trans hfa) (by decide) ?_)
      show xw z NK g 74 20 [(0, .ref (z + 15)), (1, .int (nI i))] [.int (nI fs.length), .int (nI i)] (xu S 16 (.inl pl2)) P
      refine xw.icmp rfl (fun c1 => ?_) (fun c1 => ?_)
      · have c1 := Int32.not_lt.mpr (of_decide_eq_true c1)
        show xw z NK g 74 58 [(0, .ref (z + 15)), (1, .int (nI i))] [] (xu S 16 (.inl pl2)) P
        exact absurd (nI_lt (by omega) (by omega)) c1
      · have c1 := Int32.not_le.mp (of_decide_eq_false c1)
        refine xw.steps 1 (fun _ => rfl) ?_
        refine xw.getf (o := 15) rfl ((xu_ne _ _ (by decide)).trans h15) rfl ?_
        refine xw.steps 1 (fun _ => rfl) ?_
        show xw z NK g 74 28 [(0, .ref (z + 15)), (1, .int (nI i))] [.int (nI i), .ref (z + 20)] (xu S 16 (.inl pl2)) P
        refine xw.callO (o := 20) rfl rfl rfl ((xu_ne _ _ (by decide)).trans hf) rfl rfl (c_Code_numberAt ((xu_ne _ _ (by decide)).trans hf) ((xu_ne _ _ (by decide)).trans hfn) ((xu_ne _ _ (by decide)).trans hfa) (by decide) ?_)
        show xw z NK g 74 31 [(0, .ref (z + 15)), (1, .int (nI i))] [.int (nAt fs (nI i))] (xu S 16 (.inl pl2)) P
        refine xw.steps 1 (fun _ => rfl) ?_
        refine xw.icmp rfl (fun c2 => ?_) (fun c2 => ?_)
        · have c2 := of_decide_eq_true c2
          refine xw.steps 2 (fun _ => rfl) ?_
          show xw z NK g 74 12 [(0, .ref (z + 15)), (1, .int ((nI i) + 1))] [] (xu S 16 (.inl pl2)) P
          rw [nI_1]
          exact ih (i + 1) (by omega) _ (by first | simpa [p_places, c1, c2] using hP | simp_all [p_places])
        · have c2 := Decidable.not_not.mp (of_decide_eq_false c2)
          refine xw.steps 1 (fun _ => rfl) ?_
          refine xw.getf (o := 15) rfl ((xu_ne _ _ (by decide)).trans h15) rfl ?_
          refine xw.steps 1 (fun _ => rfl) ?_
          refine xw.getf (o := 15) rfl ((xu_ne _ _ (by decide)).trans h15) rfl ?_
          refine xw.steps 1 (fun _ => rfl) ?_
          show xw z NK g 74 45 [(0, .ref (z + 15)), (1, .int (nI i))] [.int (nI i), .ref (z + 20), .ref (z + 16)] (xu S 16 (.inl pl2)) P
          refine xw.callO (o := 20) rfl rfl rfl ((xu_ne _ _ (by decide)).trans hf) rfl rfl (c_Code_argumentAt ((xu_ne _ _ (by decide)).trans hf) ((xu_ne _ _ (by decide)).trans hfn) ((xu_ne _ _ (by decide)).trans hfa) (by decide) ?_)
          show xw z NK g 74 48 [(0, .ref (z + 15)), (1, .int (nI i))] [.int (nAt ga (nI i)), .ref (z + 16)] (xu S 16 (.inl pl2)) P
          refine xw.steps 1 (fun _ => rfl) ?_
          show xw z NK g 74 49 [(0, .ref (z + 15)), (1, .int (nI i))] [.int (nI i), .int (nAt ga (nI i)), .ref (z + 16)] (xu S 16 (.inl pl2)) P
          refine xw.callN (o := 16) rfl rfl rfl (xu_self _ _ _) rfl rfl (c_change (xu_self _ _ _) ?_)
          show xw z NK g 74 52 [(0, .ref (z + 15)), (1, .int (nI i))] [] (xu (xu S 16 (.inl pl2)) 16 (.inl (nSet pl2 (nAt ga (nI i)) (nI i)))) P
          rw [xu_xu]
          refine xw.steps 2 (fun _ => rfl) ?_
          show xw z NK g 74 12 [(0, .ref (z + 15)), (1, .int ((nI i) + 1))] [] (xu S 16 (.inl (nSet pl2 (nAt ga (nI i)) (nI i)))) P
          rw [nI_1]
          exact ih (i + 1) (by omega) _ (by first | simpa [p_places, c1, c2] using hP | simp_all [p_places])
  refine xw.steps 1 (fun _ => rfl) ?_
  refine xw.getf (o := 15) rfl h15 rfl ?_
  refine xw.steps 2 (fun _ => rfl) ?_
  show xw z NK g 74 7 [(0, .ref (z + 15))] [.int (-1), .int 100, .ref (z + 16)] S P
  refine xw.callN (o := 16) rfl rfl rfl h16 rfl rfl (c_refill h16 (by decide) ?_)
  show xw z NK g 74 10 [(0, .ref (z + 15))] [] (xu S 16 (.inl (List.replicate (100 : Int32).toNatClampNeg (-1)))) P
  refine xw.steps 2 (fun _ => rfl) ?_
  show xw z NK g 74 12 [(0, .ref (z + 15)), (1, .int 0)] [] (xu S 16 (.inl (List.replicate (100 : Int32).toNatClampNeg (-1)))) P
  exact loop fs.length 0 (by omega) _ hP
set_option maxHeartbeats 1000000 in
/-- RowCode$Improver.countUses()V -/
theorem c_uses_A (hJ : iS z S 20 21 23 25 26 28 pl us fs ga ns as) (hb : fs.length < 60000) (hP : P none (xu S 18 (.inl (p_uses pl fs ga fs.length 0 (List.replicate 100 0))))) : xw z NK g 75 0 [(0, .ref (z + 15))] [] S P := by
  obtain ⟨h15, h16, h18, hf, hfn, hfa, ht, htn, hta⟩ := id hJ
  have loop : ∀ (d i : Nat) (hi : i + d = fs.length) (us2 : List Int32) (hP : P none (xu S 18 (.inl (p_uses pl fs ga d i us2)))), xw z NK g 75 12 [(0, .ref (z + 15)), (1, .int (nI i))] [] (xu S 18 (.inl us2)) P := by
    intro d
    induction d with
    | zero =>
      intro i hi us2 hP
      refine xw.steps 2 (fun _ => rfl) ?_
      refine xw.getf (o := 15) rfl ((xu_ne _ _ (by decide)).trans h15) rfl ?_
      show xw z NK g 75 17 [(0, .ref (z + 15)), (1, .int (nI i))] [.ref (z + 20), .int (nI i)] (xu S 18 (.inl us2)) P
      refine xw.callO (o := 20) rfl rfl rfl ((xu_ne _ _ (by decide)).trans hf) rfl rfl (c_Code_size ((xu_ne _ _ (by decide)).trans hf) ((xu_ne _ _ (by decide)).trans hfn) ((xu_ne _ _ (by decide)).trans hfa) (by decide) ?_)
      show xw z NK g 75 20 [(0, .ref (z + 15)), (1, .int (nI i))] [.int (nI fs.length), .int (nI i)] (xu S 18 (.inl us2)) P
      refine xw.icmp rfl (fun c1 => ?_) (fun c1 => ?_)
      · have c1 := Int32.not_lt.mpr (of_decide_eq_true c1)
        refine xw.ret rfl (fun _ => rfl) ?_
        show P none (xu S 18 (.inl us2))
        exact hP
      · have c1 := Int32.not_le.mp (of_decide_eq_false c1)
        show xw z NK g 75 23 [(0, .ref (z + 15)), (1, .int (nI i))] [] (xu S 18 (.inl us2)) P
        exact absurd c1 (nI_nlt (by omega) (by omega))
    | succ d ih =>
      intro i hi us2 hP
      refine xw.steps 2 (fun _ => rfl) ?_
      refine xw.getf (o := 15) rfl ((xu_ne _ _ (by decide)).trans h15) rfl ?_
      show xw z NK g 75 17 [(0, .ref (z + 15)), (1, .int (nI i))] [.ref (z + 20), .int (nI i)] (xu S 18 (.inl us2)) P
      refine xw.callO (o := 20) rfl rfl rfl ((xu_ne _ _ (by decide)).trans hf) rfl rfl (c_Code_size ((xu_ne _ _ (by decide)).trans hf) ((xu_ne _ _ (by decide)).trans hfn) ((xu_ne _ _ (by decide)).trans hfa) (by decide) ?_)
      show xw z NK g 75 20 [(0, .ref (z + 15)), (1, .int (nI i))] [.int (nI fs.length), .int (nI i)] (xu S 18 (.inl us2)) P
      refine xw.icmp rfl (fun c1 => ?_) (fun c1 => ?_)
      · have c1 := Int32.not_lt.mpr (of_decide_eq_true c1)
        show xw z NK g 75 74 [(0, .ref (z + 15)), (1, .int (nI i))] [] (xu S 18 (.inl us2)) P
        exact absurd (nI_lt (by omega) (by omega)) c1
      · have c1 := Int32.not_le.mp (of_decide_eq_false c1)
        refine xw.steps 1 (fun _ => rfl) ?_
        refine xw.getf (o := 15) rfl ((xu_ne _ _ (by decide)).trans h15) rfl ?_
        refine xw.steps 1 (fun _ => rfl) ?_
        show xw z NK g 75 28 [(0, .ref (z + 15)), (1, .int (nI i))] [.int (nI i), .ref (z + 20)] (xu S 18 (.inl us2)) P
        refine xw.callO (o := 20) rfl rfl rfl ((xu_ne _ _ (by decide)).trans hf) rfl rfl (c_Code_numberAt ((xu_ne _ _ (by decide)).trans hf) ((xu_ne _ _ (by decide)).trans hfn) ((xu_ne _ _ (by decide)).trans hfa) (by decide) ?_)
        show xw z NK g 75 31 [(0, .ref (z + 15)), (1, .int (nI i))] [.int (nAt fs (nI i))] (xu S 18 (.inl us2)) P
        show xw z NK g 75 31 [(0, .ref (z + 15)), (1, .int (nI i))] [.int (nAt fs (nI i))] (xu S 18 (.inl us2)) P
        refine xw.callS rfl rfl rfl rfl rfl (c_goesToLabel ?_)
        show xw z NK g 75 34 [(0, .ref (z + 15)), (1, .int (nI i))] [.int (bI (t_goes (nAt fs (nI i))))] (xu S 18 (.inl us2)) P
        refine xw.if_ rfl (fun c2 => ?_) (fun c2 => ?_)
        · have c2 := bI_eq0 (of_decide_eq_true c2)
          refine xw.steps 2 (fun _ => rfl) ?_
          show xw z NK g 75 12 [(0, .ref (z + 15)), (1, .int ((nI i) + 1))] [] (xu S 18 (.inl us2)) P
          rw [nI_1]
          exact ih (i + 1) (by omega) _ (by first | simpa [p_uses, c1, c2] using hP | simp_all [p_uses])
        · have c2 := bI_ne0 (of_decide_eq_false c2)
          refine xw.steps 2 (fun _ => rfl) ?_
          refine xw.getf (o := 15) rfl ((xu_ne _ _ (by decide)).trans h15) rfl ?_
          refine xw.steps 1 (fun _ => rfl) ?_
          show xw z NK g 75 43 [(0, .ref (z + 15)), (1, .int (nI i))] [.int (nI i), .ref (z + 20), .ref (z + 15)] (xu S 18 (.inl us2)) P
          refine xw.callO (o := 20) rfl rfl rfl ((xu_ne _ _ (by decide)).trans hf) rfl rfl (c_Code_argumentAt ((xu_ne _ _ (by decide)).trans hf) ((xu_ne _ _ (by decide)).trans hfn) ((xu_ne _ _ (by decide)).trans hfa) (by decide) ?_)
          show xw z NK g 75 46 [(0, .ref (z + 15)), (1, .int (nI i))] [.int (nAt ga (nI i)), .ref (z + 15)] (xu S 18 (.inl us2)) P
          show xw z NK g 75 46 [(0, .ref (z + 15)), (1, .int (nI i))] [.int (nAt ga (nI i)), .ref (z + 15)] (xu S 18 (.inl us2)) P
          refine xw.callO (o := 15) rfl rfl rfl ((xu_ne _ _ (by decide)).trans h15) rfl rfl (c_far_A ⟨((xu_ne _ _ (by decide)).trans h15), ((xu_ne _ _ (by decide)).trans h16), (xu_self _ _ _), ((xu_ne _ _ (by decide)).trans hf), ((xu_ne _ _ (by decide)).trans hfn), ((xu_ne _ _ (by decide)).trans hfa), ((xu_ne _ _ (by decide)).trans ht), ((xu_ne _ _ (by decide)).trans htn), ((xu_ne _ _ (by decide)).trans hta)⟩ ?_)
          show xw z NK g 75 49 [(0, .ref (z + 15)), (1, .int (nI i))] [.int (p_far pl fs ga 100 (nAt ga (nI i)))] (xu S 18 (.inl us2)) P
          refine xw.steps 2 (fun _ => rfl) ?_
          refine xw.getf (o := 15) rfl ((xu_ne _ _ (by decide)).trans h15) rfl ?_
          refine xw.steps 2 (fun _ => rfl) ?_
          refine xw.getf (o := 15) rfl ((xu_ne _ _ (by decide)).trans h15) rfl ?_
          refine xw.steps 1 (fun _ => rfl) ?_
          show xw z NK g 75 60 [(0, .ref (z + 15)), (1, .int (nI i)), (2, .int (p_far pl fs ga 100 (nAt ga (nI i))))] [.int (p_far pl fs ga 100 (nAt ga (nI i))), .ref (z + 18), .int (p_far pl fs ga 100 (nAt ga (nI i))), .ref (z + 18)] (xu S 18 (.inl us2)) P
          refine xw.callN (o := 18) rfl rfl rfl (xu_self _ _ _) rfl rfl (c_at (xu_self _ _ _) ?_)
          show xw z NK g 75 63 [(0, .ref (z + 15)), (1, .int (nI i)), (2, .int (p_far pl fs ga 100 (nAt ga (nI i))))] [.int (nAt us2 (p_far pl fs ga 100 (nAt ga (nI i)))), .int (p_far pl fs ga 100 (nAt ga (nI i))), .ref (z + 18)] (xu S 18 (.inl us2)) P
          refine xw.steps 2 (fun _ => rfl) ?_
          show xw z NK g 75 65 [(0, .ref (z + 15)), (1, .int (nI i)), (2, .int (p_far pl fs ga 100 (nAt ga (nI i))))] [.int ((nAt us2 (p_far pl fs ga 100 (nAt ga (nI i)))) + 1), .int (p_far pl fs ga 100 (nAt ga (nI i))), .ref (z + 18)] (xu S 18 (.inl us2)) P
          refine xw.callN (o := 18) rfl rfl rfl (xu_self _ _ _) rfl rfl (c_change (xu_self _ _ _) ?_)
          show xw z NK g 75 68 [(0, .ref (z + 15)), (1, .int (nI i)), (2, .int (p_far pl fs ga 100 (nAt ga (nI i))))] [] (xu (xu S 18 (.inl us2)) 18 (.inl (nSet us2 (p_far pl fs ga 100 (nAt ga (nI i))) ((nAt us2 (p_far pl fs ga 100 (nAt ga (nI i)))) + 1)))) P
          rw [xu_xu]
          refine xw.steps 2 (fun _ => rfl) ?_
          show xw z NK g 75 12 [(0, .ref (z + 15)), (1, .int ((nI i) + 1)), (2, .int (p_far pl fs ga 100 (nAt ga (nI i))))] [] (xu S 18 (.inl (nSet us2 (p_far pl fs ga 100 (nAt ga (nI i))) ((nAt us2 (p_far pl fs ga 100 (nAt ga (nI i)))) + 1)))) P
          rw [nI_1]
          refine xw.forget (lv := [(0, .ref (z + 15)), (1, .int (nI (i + 1)))]) lk_75 (show [0, 1].Nodup by decide) (show [0, 1, 2].Nodup by decide) (List.forall_mem_cons.mpr ⟨rfl, List.forall_mem_cons.mpr ⟨rfl, fun _ h => absurd h List.not_mem_nil⟩⟩) ?_
          exact ih (i + 1) (by omega) _ (by first | simpa [p_uses, c1, c2] using hP | simp_all [p_uses])
  refine xw.steps 1 (fun _ => rfl) ?_
  refine xw.getf (o := 15) rfl h15 rfl ?_
  refine xw.steps 2 (fun _ => rfl) ?_
  show xw z NK g 75 7 [(0, .ref (z + 15))] [.int 0, .int 100, .ref (z + 18)] S P
  refine xw.callN (o := 18) rfl rfl rfl h18 rfl rfl (c_refill h18 (by decide) ?_)
  show xw z NK g 75 10 [(0, .ref (z + 15))] [] (xu S 18 (.inl (List.replicate (100 : Int32).toNatClampNeg 0))) P
  refine xw.steps 2 (fun _ => rfl) ?_
  show xw z NK g 75 12 [(0, .ref (z + 15)), (1, .int 0)] [] (xu S 18 (.inl (List.replicate (100 : Int32).toNatClampNeg 0))) P
  exact loop fs.length 0 (by omega) _ hP
set_option maxHeartbeats 8000000 in
/-- RowCode$Improver.rewrite()V -/
theorem c_rewrite_A (hJ : iS z S 20 21 23 25 26 28 pl us fs ga ns as) (hb : fs.length < 60000) (hP : P none (xu (xu S 26 (.inl (p_rew pl us fs ga fs.length 0 false [] []).1)) 28 (.inl (p_rew pl us fs ga fs.length 0 false [] []).2))) : xw z NK g 77 0 [(0, .ref (z + 15))] [] S P := by
  obtain ⟨h15, h16, h18, hf, hfn, hfa, ht, htn, hta⟩ := id hJ
  have loop : ∀ (d i : Nat) (hi : i + d = fs.length) (dd : Bool) (ns2 : List Int32) (as2 : List Int32) (hw1 : ns2.length ≤ 2 * i) (hw2 : as2.length ≤ 2 * i) (hP : P none (xu (xu S 26 (.inl (p_rew pl us fs ga d i dd ns2 as2).1)) 28 (.inl (p_rew pl us fs ga d i dd ns2 as2).2))), xw z NK g 77 12 [(0, .ref (z + 15)), (1, .int (bI dd)), (2, .int (nI i))] [] (xu (xu S 26 (.inl ns2)) 28 (.inl as2)) P := by
    intro d
    induction d with
    | zero =>
      intro i hi dd ns2 as2 hw1 hw2 hP
      refine xw.steps 2 (fun _ => rfl) ?_
      refine xw.getf (o := 15) rfl ((xu_ne _ _ (by decide)).trans ((xu_ne _ _ (by decide)).trans h15)) rfl ?_
      show xw z NK g 77 17 [(0, .ref (z + 15)), (1, .int (bI dd)), (2, .int (nI i))] [.ref (z + 20), .int (nI i)] (xu (xu S 26 (.inl ns2)) 28 (.inl as2)) P
      refine xw.callO (o := 20) rfl rfl rfl ((xu_ne _ _ (by decide)).trans ((xu_ne _ _ (by decide)).trans hf)) rfl rfl (c_Code_size ((xu_ne _ _ (by decide)).trans ((xu_ne _ _ (by decide)).trans hf)) ((xu_ne _ _ (by decide)).trans ((xu_ne _ _ (by decide)).trans hfn)) ((xu_ne _ _ (by decide)).trans ((xu_ne _ _ (by decide)).trans hfa)) (by decide) ?_)
      show xw z NK g 77 20 [(0, .ref (z + 15)), (1, .int (bI dd)), (2, .int (nI i))] [.int (nI fs.length), .int (nI i)] (xu (xu S 26 (.inl ns2)) 28 (.inl as2)) P
      refine xw.icmp rfl (fun c1 => ?_) (fun c1 => ?_)
      · have c1 := Int32.not_lt.mpr (of_decide_eq_true c1)
        refine xw.ret rfl (fun _ => rfl) ?_
        show P none (xu (xu S 26 (.inl ns2)) 28 (.inl as2))
        exact hP
      · have c1 := Int32.not_le.mp (of_decide_eq_false c1)
        show xw z NK g 77 23 [(0, .ref (z + 15)), (1, .int (bI dd)), (2, .int (nI i))] [] (xu (xu S 26 (.inl ns2)) 28 (.inl as2)) P
        exact absurd c1 (nI_nlt (by omega) (by omega))
    | succ d ih =>
      intro i hi dd ns2 as2 hw1 hw2 hP
      refine xw.steps 2 (fun _ => rfl) ?_
      refine xw.getf (o := 15) rfl ((xu_ne _ _ (by decide)).trans ((xu_ne _ _ (by decide)).trans h15)) rfl ?_
      show xw z NK g 77 17 [(0, .ref (z + 15)), (1, .int (bI dd)), (2, .int (nI i))] [.ref (z + 20), .int (nI i)] (xu (xu S 26 (.inl ns2)) 28 (.inl as2)) P
      refine xw.callO (o := 20) rfl rfl rfl ((xu_ne _ _ (by decide)).trans ((xu_ne _ _ (by decide)).trans hf)) rfl rfl (c_Code_size ((xu_ne _ _ (by decide)).trans ((xu_ne _ _ (by decide)).trans hf)) ((xu_ne _ _ (by decide)).trans ((xu_ne _ _ (by decide)).trans hfn)) ((xu_ne _ _ (by decide)).trans ((xu_ne _ _ (by decide)).trans hfa)) (by decide) ?_)
      show xw z NK g 77 20 [(0, .ref (z + 15)), (1, .int (bI dd)), (2, .int (nI i))] [.int (nI fs.length), .int (nI i)] (xu (xu S 26 (.inl ns2)) 28 (.inl as2)) P
      refine xw.icmp rfl (fun c1 => ?_) (fun c1 => ?_)
      · have c1 := Int32.not_lt.mpr (of_decide_eq_true c1)
        show xw z NK g 77 134 [(0, .ref (z + 15)), (1, .int (bI dd)), (2, .int (nI i))] [] (xu (xu S 26 (.inl ns2)) 28 (.inl as2)) P
        exact absurd (nI_lt (by omega) (by omega)) c1
      · have c1 := Int32.not_le.mp (of_decide_eq_false c1)
        refine xw.steps 1 (fun _ => rfl) ?_
        refine xw.getf (o := 15) rfl ((xu_ne _ _ (by decide)).trans ((xu_ne _ _ (by decide)).trans h15)) rfl ?_
        refine xw.steps 1 (fun _ => rfl) ?_
        show xw z NK g 77 28 [(0, .ref (z + 15)), (1, .int (bI dd)), (2, .int (nI i))] [.int (nI i), .ref (z + 20)] (xu (xu S 26 (.inl ns2)) 28 (.inl as2)) P
        refine xw.callO (o := 20) rfl rfl rfl ((xu_ne _ _ (by decide)).trans ((xu_ne _ _ (by decide)).trans hf)) rfl rfl (c_Code_numberAt ((xu_ne _ _ (by decide)).trans ((xu_ne _ _ (by decide)).trans hf)) ((xu_ne _ _ (by decide)).trans ((xu_ne _ _ (by decide)).trans hfn)) ((xu_ne _ _ (by decide)).trans ((xu_ne _ _ (by decide)).trans hfa)) (by decide) ?_)
        show xw z NK g 77 31 [(0, .ref (z + 15)), (1, .int (bI dd)), (2, .int (nI i))] [.int (nAt fs (nI i))] (xu (xu S 26 (.inl ns2)) 28 (.inl as2)) P
        refine xw.steps 2 (fun _ => rfl) ?_
        refine xw.getf (o := 15) rfl ((xu_ne _ _ (by decide)).trans ((xu_ne _ _ (by decide)).trans h15)) rfl ?_
        refine xw.steps 1 (fun _ => rfl) ?_
        show xw z NK g 77 37 [(0, .ref (z + 15)), (1, .int (bI dd)), (2, .int (nI i)), (3, .int (nAt fs (nI i)))] [.int (nI i), .ref (z + 20)] (xu (xu S 26 (.inl ns2)) 28 (.inl as2)) P
        refine xw.callO (o := 20) rfl rfl rfl ((xu_ne _ _ (by decide)).trans ((xu_ne _ _ (by decide)).trans hf)) rfl rfl (c_Code_argumentAt ((xu_ne _ _ (by decide)).trans ((xu_ne _ _ (by decide)).trans hf)) ((xu_ne _ _ (by decide)).trans ((xu_ne _ _ (by decide)).trans hfn)) ((xu_ne _ _ (by decide)).trans ((xu_ne _ _ (by decide)).trans hfa)) (by decide) ?_)
        show xw z NK g 77 40 [(0, .ref (z + 15)), (1, .int (bI dd)), (2, .int (nI i)), (3, .int (nAt fs (nI i)))] [.int (nAt ga (nI i))] (xu (xu S 26 (.inl ns2)) 28 (.inl as2)) P
        refine xw.steps 3 (fun _ => rfl) ?_
        refine xw.icmp rfl (fun c2 => ?_) (fun c2 => ?_)
        · have c2 := of_decide_eq_true c2
          refine xw.steps 1 (fun _ => rfl) ?_
          refine xw.if_ rfl (fun c3 => ?_) (fun c3 => ?_)
          · have c3 := bI_eq0 (of_decide_eq_true c3)
            refine xw.steps 1 (fun _ => rfl) ?_
            show xw z NK g 77 77 [(0, .ref (z + 15)), (1, .int (bI dd)), (2, .int (nI i)), (3, .int (nAt fs (nI i))), (4, .int (nAt ga (nI i)))] [.int (nAt fs (nI i))] (xu (xu S 26 (.inl ns2)) 28 (.inl as2)) P
            refine xw.callS rfl rfl rfl rfl rfl (c_goesToLabel ?_)
            show xw z NK g 77 80 [(0, .ref (z + 15)), (1, .int (bI dd)), (2, .int (nI i)), (3, .int (nAt fs (nI i))), (4, .int (nAt ga (nI i)))] [.int (bI (t_goes (nAt fs (nI i))))] (xu (xu S 26 (.inl ns2)) 28 (.inl as2)) P
            refine xw.if_ rfl (fun c4 => ?_) (fun c4 => ?_)
            · have c4 := bI_eq0 (of_decide_eq_true c4)
              refine xw.steps 5 (fun _ => rfl) ?_
              show xw z NK g 77 100 [(0, .ref (z + 15)), (1, .int (bI dd)), (2, .int (nI i)), (3, .int (nAt fs (nI i))), (4, .int (nAt ga (nI i))), (5, .int (nAt ga (nI i)))] [.int (nAt ga (nI i)), .int (nAt fs (nI i)), .ref (z + 15)] (xu (xu S 26 (.inl ns2)) 28 (.inl as2)) P
              refine xw.callO (o := 15) rfl rfl rfl ((xu_ne _ _ (by decide)).trans ((xu_ne _ _ (by decide)).trans h15)) rfl rfl (c_folds_A ⟨((xu_ne _ _ (by decide)).trans ((xu_ne _ _ (by decide)).trans h15)), ((xu_ne _ _ (by decide)).trans ((xu_ne _ _ (by decide)).trans h16)), ((xu_ne _ _ (by decide)).trans ((xu_ne _ _ (by decide)).trans h18)), ((xu_ne _ _ (by decide)).trans ((xu_ne _ _ (by decide)).trans hf)), ((xu_ne _ _ (by decide)).trans ((xu_ne _ _ (by decide)).trans hfn)), ((xu_ne _ _ (by decide)).trans ((xu_ne _ _ (by decide)).trans hfa)), ((xu_ne _ _ (by decide)).trans ((xu_ne _ _ (by decide)).trans ht)), ((xu_ne _ _ (by decide)).trans (xu_self _ _ _)), (xu_self _ _ _)⟩ (by omega) (by omega) ?_)
              show xw z NK g 77 103 [(0, .ref (z + 15)), (1, .int (bI dd)), (2, .int (nI i)), (3, .int (nAt fs (nI i))), (4, .int (nAt ga (nI i))), (5, .int (nAt ga (nI i)))] [.int (bI (p_folds ns2 as2 (nAt fs (nI i)) (nAt ga (nI i))).2.2)] (xu (xu (xu (xu S 26 (.inl ns2)) 28 (.inl as2)) 26 (.inl (p_folds ns2 as2 (nAt fs (nI i)) (nAt ga (nI i))).1)) 28 (.inl (p_folds ns2 as2 (nAt fs (nI i)) (nAt ga (nI i))).2.1)) P
              rw [xu4 _ (show (26 : Nat) ≠ 28 by decide)]
              refine xw.if_ rfl (fun c5 => ?_) (fun c5 => ?_)
              · have c5 := bI_ne0 (of_decide_eq_true c5)
                refine xw.steps 1 (fun _ => rfl) ?_
                refine xw.getf (o := 15) rfl ((xu_ne _ _ (by decide)).trans ((xu_ne _ _ (by decide)).trans h15)) rfl ?_
                refine xw.steps 1 (fun _ => rfl) ?_
                show xw z NK g 77 121 [(0, .ref (z + 15)), (1, .int (bI dd)), (2, .int (nI i)), (3, .int (nAt fs (nI i))), (4, .int (nAt ga (nI i))), (5, .int (nAt ga (nI i)))] [.int 0, .ref (z + 25)] (xu (xu S 26 (.inl (p_folds ns2 as2 (nAt fs (nI i)) (nAt ga (nI i))).1)) 28 (.inl (p_folds ns2 as2 (nAt fs (nI i)) (nAt ga (nI i))).2.1)) P
                refine xw.callO (o := 25) rfl rfl rfl ((xu_ne _ _ (by decide)).trans ((xu_ne _ _ (by decide)).trans ht)) rfl rfl (c_Code_lastNumber ((xu_ne _ _ (by decide)).trans ((xu_ne _ _ (by decide)).trans ht)) ((xu_ne _ _ (by decide)).trans (xu_self _ _ _)) (xu_self _ _ _) (by decide) ?_)
                show xw z NK g 77 124 [(0, .ref (z + 15)), (1, .int (bI dd)), (2, .int (nI i)), (3, .int (nAt fs (nI i))), (4, .int (nAt ga (nI i))), (5, .int (nAt ga (nI i)))] [.int (p_l (p_folds ns2 as2 (nAt fs (nI i)) (nAt ga (nI i))).1 0)] (xu (xu S 26 (.inl (p_folds ns2 as2 (nAt fs (nI i)) (nAt ga (nI i))).1)) 28 (.inl (p_folds ns2 as2 (nAt fs (nI i)) (nAt ga (nI i))).2.1)) P
                show xw z NK g 77 124 [(0, .ref (z + 15)), (1, .int (bI dd)), (2, .int (nI i)), (3, .int (nAt fs (nI i))), (4, .int (nAt ga (nI i))), (5, .int (nAt ga (nI i)))] [.int (p_l (p_folds ns2 as2 (nAt fs (nI i)) (nAt ga (nI i))).1 0)] (xu (xu S 26 (.inl (p_folds ns2 as2 (nAt fs (nI i)) (nAt ga (nI i))).1)) 28 (.inl (p_folds ns2 as2 (nAt fs (nI i)) (nAt ga (nI i))).2.1)) P
                refine xw.callS rfl rfl rfl rfl rfl (c_endsWay ?_)
                show xw z NK g 77 127 [(0, .ref (z + 15)), (1, .int (bI dd)), (2, .int (nI i)), (3, .int (nAt fs (nI i))), (4, .int (nAt ga (nI i))), (5, .int (nAt ga (nI i)))] [.int (bI (t_ends (p_l (p_folds ns2 as2 (nAt fs (nI i)) (nAt ga (nI i))).1 0)))] (xu (xu S 26 (.inl (p_folds ns2 as2 (nAt fs (nI i)) (nAt ga (nI i))).1)) 28 (.inl (p_folds ns2 as2 (nAt fs (nI i)) (nAt ga (nI i))).2.1)) P
                refine xw.steps 3 (fun _ => rfl) ?_
                show xw z NK g 77 12 [(0, .ref (z + 15)), (1, .int (bI (t_ends (p_l (p_folds ns2 as2 (nAt fs (nI i)) (nAt ga (nI i))).1 0)))), (2, .int ((nI i) + 1)), (3, .int (nAt fs (nI i))), (4, .int (nAt ga (nI i))), (5, .int (nAt ga (nI i)))] [] (xu (xu S 26 (.inl (p_folds ns2 as2 (nAt fs (nI i)) (nAt ga (nI i))).1)) 28 (.inl (p_folds ns2 as2 (nAt fs (nI i)) (nAt ga (nI i))).2.1)) P
                rw [nI_1]
                refine xw.forget (lv := [(0, .ref (z + 15)), (1, .int (bI (t_ends (p_l (p_folds ns2 as2 (nAt fs (nI i)) (nAt ga (nI i))).1 0)))), (2, .int (nI (i + 1)))]) lk_77 (show [0, 1, 2].Nodup by decide) (show [0, 1, 2, 3, 4, 5].Nodup by decide) (List.forall_mem_cons.mpr ⟨rfl, List.forall_mem_cons.mpr ⟨rfl, List.forall_mem_cons.mpr ⟨rfl, fun _ h => absurd h List.not_mem_nil⟩⟩⟩) ?_
                exact ih (i + 1) (by omega) _ _ _ (by have h1 := p_step_len ns2 as2 (nAt fs (nI i)) (nAt ga (nI i)); rw [(show p_step ns2 as2 (nAt fs (nI i)) (nAt ga (nI i)) = ((p_folds ns2 as2 (nAt fs (nI i)) (nAt ga (nI i))).1, (p_folds ns2 as2 (nAt fs (nI i)) (nAt ga (nI i))).2.1) from by unfold p_step; rw [if_pos (by assumption)])] at h1; have h2 := h1.1; dsimp only at h2; omega) (by have h1 := p_step_len ns2 as2 (nAt fs (nI i)) (nAt ga (nI i)); rw [(show p_step ns2 as2 (nAt fs (nI i)) (nAt ga (nI i)) = ((p_folds ns2 as2 (nAt fs (nI i)) (nAt ga (nI i))).1, (p_folds ns2 as2 (nAt fs (nI i)) (nAt ga (nI i))).2.1) from by unfold p_step; rw [if_pos (by assumption)])] at h1; have h2 := h1.2; dsimp only at h2; omega) (by rw [p_rew_go (by first | exact fun u => absurd u.1 (by assumption) | exact fun u => absurd u.2 (by assumption)) (by first | exact fun u => absurd (by assumption) u.2 | exact fun u => Bool.noConfusion (u.1.symm.trans (by assumption))) (show p_goal pl fs ga (nAt fs (nI i)) (nAt ga (nI i)) = (nAt ga (nI i)) from by unfold p_goal; rw [if_neg (by rw [(by assumption : t_goes (nAt fs (nI i)) = false)]; decide)]) (show p_step ns2 as2 (nAt fs (nI i)) (nAt ga (nI i)) = ((p_folds ns2 as2 (nAt fs (nI i)) (nAt ga (nI i))).1, (p_folds ns2 as2 (nAt fs (nI i)) (nAt ga (nI i))).2.1) from by unfold p_step; rw [if_pos (by assumption)])] at hP; exact hP)
              · have c5 := bI_eq0 (Decidable.not_not.mp (of_decide_eq_false c5))
                refine xw.steps 1 (fun _ => rfl) ?_
                refine xw.getf (o := 15) rfl ((xu_ne _ _ (by decide)).trans ((xu_ne _ _ (by decide)).trans h15)) rfl ?_
                refine xw.steps 2 (fun _ => rfl) ?_
                show xw z NK g 77 113 [(0, .ref (z + 15)), (1, .int (bI dd)), (2, .int (nI i)), (3, .int (nAt fs (nI i))), (4, .int (nAt ga (nI i))), (5, .int (nAt ga (nI i)))] [.int (nAt ga (nI i)), .int (nAt fs (nI i)), .ref (z + 25)] (xu (xu S 26 (.inl (p_folds ns2 as2 (nAt fs (nI i)) (nAt ga (nI i))).1)) 28 (.inl (p_folds ns2 as2 (nAt fs (nI i)) (nAt ga (nI i))).2.1)) P
                refine xw.callO (o := 25) rfl rfl rfl ((xu_ne _ _ (by decide)).trans ((xu_ne _ _ (by decide)).trans ht)) rfl rfl (c_Code_append ((xu_ne _ _ (by decide)).trans ((xu_ne _ _ (by decide)).trans ht)) ((xu_ne _ _ (by decide)).trans (xu_self _ _ _)) (xu_self _ _ _) (by decide) (by have h1 := p_folds_len ns2 as2 (nAt fs (nI i)) (nAt ga (nI i)); omega) (by have h1 := p_folds_len ns2 as2 (nAt fs (nI i)) (nAt ga (nI i)); omega) ?_)
                show xw z NK g 77 116 [(0, .ref (z + 15)), (1, .int (bI dd)), (2, .int (nI i)), (3, .int (nAt fs (nI i))), (4, .int (nAt ga (nI i))), (5, .int (nAt ga (nI i)))] [] (xu (xu (xu (xu S 26 (.inl (p_folds ns2 as2 (nAt fs (nI i)) (nAt ga (nI i))).1)) 28 (.inl (p_folds ns2 as2 (nAt fs (nI i)) (nAt ga (nI i))).2.1)) 26 (.inl ((p_folds ns2 as2 (nAt fs (nI i)) (nAt ga (nI i))).1 ++ [(nAt fs (nI i))]))) 28 (.inl ((p_folds ns2 as2 (nAt fs (nI i)) (nAt ga (nI i))).2.1 ++ [(nAt ga (nI i))]))) P
                rw [xu4 _ (show (26 : Nat) ≠ 28 by decide)]
                refine xw.steps 1 (fun _ => rfl) ?_
                refine xw.getf (o := 15) rfl ((xu_ne _ _ (by decide)).trans ((xu_ne _ _ (by decide)).trans h15)) rfl ?_
                refine xw.steps 1 (fun _ => rfl) ?_
                show xw z NK g 77 121 [(0, .ref (z + 15)), (1, .int (bI dd)), (2, .int (nI i)), (3, .int (nAt fs (nI i))), (4, .int (nAt ga (nI i))), (5, .int (nAt ga (nI i)))] [.int 0, .ref (z + 25)] (xu (xu S 26 (.inl ((p_folds ns2 as2 (nAt fs (nI i)) (nAt ga (nI i))).1 ++ [(nAt fs (nI i))]))) 28 (.inl ((p_folds ns2 as2 (nAt fs (nI i)) (nAt ga (nI i))).2.1 ++ [(nAt ga (nI i))]))) P
                refine xw.callO (o := 25) rfl rfl rfl ((xu_ne _ _ (by decide)).trans ((xu_ne _ _ (by decide)).trans ht)) rfl rfl (c_Code_lastNumber ((xu_ne _ _ (by decide)).trans ((xu_ne _ _ (by decide)).trans ht)) ((xu_ne _ _ (by decide)).trans (xu_self _ _ _)) (xu_self _ _ _) (by decide) ?_)
                show xw z NK g 77 124 [(0, .ref (z + 15)), (1, .int (bI dd)), (2, .int (nI i)), (3, .int (nAt fs (nI i))), (4, .int (nAt ga (nI i))), (5, .int (nAt ga (nI i)))] [.int (p_l ((p_folds ns2 as2 (nAt fs (nI i)) (nAt ga (nI i))).1 ++ [(nAt fs (nI i))]) 0)] (xu (xu S 26 (.inl ((p_folds ns2 as2 (nAt fs (nI i)) (nAt ga (nI i))).1 ++ [(nAt fs (nI i))]))) 28 (.inl ((p_folds ns2 as2 (nAt fs (nI i)) (nAt ga (nI i))).2.1 ++ [(nAt ga (nI i))]))) P
                show xw z NK g 77 124 [(0, .ref (z + 15)), (1, .int (bI dd)), (2, .int (nI i)), (3, .int (nAt fs (nI i))), (4, .int (nAt ga (nI i))), (5, .int (nAt ga (nI i)))] [.int (p_l ((p_folds ns2 as2 (nAt fs (nI i)) (nAt ga (nI i))).1 ++ [(nAt fs (nI i))]) 0)] (xu (xu S 26 (.inl ((p_folds ns2 as2 (nAt fs (nI i)) (nAt ga (nI i))).1 ++ [(nAt fs (nI i))]))) 28 (.inl ((p_folds ns2 as2 (nAt fs (nI i)) (nAt ga (nI i))).2.1 ++ [(nAt ga (nI i))]))) P
                refine xw.callS rfl rfl rfl rfl rfl (c_endsWay ?_)
                show xw z NK g 77 127 [(0, .ref (z + 15)), (1, .int (bI dd)), (2, .int (nI i)), (3, .int (nAt fs (nI i))), (4, .int (nAt ga (nI i))), (5, .int (nAt ga (nI i)))] [.int (bI (t_ends (p_l ((p_folds ns2 as2 (nAt fs (nI i)) (nAt ga (nI i))).1 ++ [(nAt fs (nI i))]) 0)))] (xu (xu S 26 (.inl ((p_folds ns2 as2 (nAt fs (nI i)) (nAt ga (nI i))).1 ++ [(nAt fs (nI i))]))) 28 (.inl ((p_folds ns2 as2 (nAt fs (nI i)) (nAt ga (nI i))).2.1 ++ [(nAt ga (nI i))]))) P
                refine xw.steps 3 (fun _ => rfl) ?_
                show xw z NK g 77 12 [(0, .ref (z + 15)), (1, .int (bI (t_ends (p_l ((p_folds ns2 as2 (nAt fs (nI i)) (nAt ga (nI i))).1 ++ [(nAt fs (nI i))]) 0)))), (2, .int ((nI i) + 1)), (3, .int (nAt fs (nI i))), (4, .int (nAt ga (nI i))), (5, .int (nAt ga (nI i)))] [] (xu (xu S 26 (.inl ((p_folds ns2 as2 (nAt fs (nI i)) (nAt ga (nI i))).1 ++ [(nAt fs (nI i))]))) 28 (.inl ((p_folds ns2 as2 (nAt fs (nI i)) (nAt ga (nI i))).2.1 ++ [(nAt ga (nI i))]))) P
                rw [nI_1]
                refine xw.forget (lv := [(0, .ref (z + 15)), (1, .int (bI (t_ends (p_l ((p_folds ns2 as2 (nAt fs (nI i)) (nAt ga (nI i))).1 ++ [(nAt fs (nI i))]) 0)))), (2, .int (nI (i + 1)))]) lk_77 (show [0, 1, 2].Nodup by decide) (show [0, 1, 2, 3, 4, 5].Nodup by decide) (List.forall_mem_cons.mpr ⟨rfl, List.forall_mem_cons.mpr ⟨rfl, List.forall_mem_cons.mpr ⟨rfl, fun _ h => absurd h List.not_mem_nil⟩⟩⟩) ?_
                exact ih (i + 1) (by omega) _ _ _ (by have h1 := p_step_len ns2 as2 (nAt fs (nI i)) (nAt ga (nI i)); rw [(show p_step ns2 as2 (nAt fs (nI i)) (nAt ga (nI i)) = (((p_folds ns2 as2 (nAt fs (nI i)) (nAt ga (nI i))).1 ++ [(nAt fs (nI i))]), ((p_folds ns2 as2 (nAt fs (nI i)) (nAt ga (nI i))).2.1 ++ [(nAt ga (nI i))])) from by unfold p_step; rw [if_neg (by rw [(by assumption : (p_folds ns2 as2 (nAt fs (nI i)) (nAt ga (nI i))).2.2 = false)]; decide)])] at h1; have h2 := h1.1; dsimp only at h2; omega) (by have h1 := p_step_len ns2 as2 (nAt fs (nI i)) (nAt ga (nI i)); rw [(show p_step ns2 as2 (nAt fs (nI i)) (nAt ga (nI i)) = (((p_folds ns2 as2 (nAt fs (nI i)) (nAt ga (nI i))).1 ++ [(nAt fs (nI i))]), ((p_folds ns2 as2 (nAt fs (nI i)) (nAt ga (nI i))).2.1 ++ [(nAt ga (nI i))])) from by unfold p_step; rw [if_neg (by rw [(by assumption : (p_folds ns2 as2 (nAt fs (nI i)) (nAt ga (nI i))).2.2 = false)]; decide)])] at h1; have h2 := h1.2; dsimp only at h2; omega) (by rw [p_rew_go (by first | exact fun u => absurd u.1 (by assumption) | exact fun u => absurd u.2 (by assumption)) (by first | exact fun u => absurd (by assumption) u.2 | exact fun u => Bool.noConfusion (u.1.symm.trans (by assumption))) (show p_goal pl fs ga (nAt fs (nI i)) (nAt ga (nI i)) = (nAt ga (nI i)) from by unfold p_goal; rw [if_neg (by rw [(by assumption : t_goes (nAt fs (nI i)) = false)]; decide)]) (show p_step ns2 as2 (nAt fs (nI i)) (nAt ga (nI i)) = (((p_folds ns2 as2 (nAt fs (nI i)) (nAt ga (nI i))).1 ++ [(nAt fs (nI i))]), ((p_folds ns2 as2 (nAt fs (nI i)) (nAt ga (nI i))).2.1 ++ [(nAt ga (nI i))])) from by unfold p_step; rw [if_neg (by rw [(by assumption : (p_folds ns2 as2 (nAt fs (nI i)) (nAt ga (nI i))).2.2 = false)]; decide)])] at hP; exact hP)
            · have c4 := bI_ne0 (of_decide_eq_false c4)
              refine xw.steps 2 (fun _ => rfl) ?_
              show xw z NK g 77 86 [(0, .ref (z + 15)), (1, .int (bI dd)), (2, .int (nI i)), (3, .int (nAt fs (nI i))), (4, .int (nAt ga (nI i)))] [.int (nAt ga (nI i)), .ref (z + 15)] (xu (xu S 26 (.inl ns2)) 28 (.inl as2)) P
              refine xw.callO (o := 15) rfl rfl rfl ((xu_ne _ _ (by decide)).trans ((xu_ne _ _ (by decide)).trans h15)) rfl rfl (c_far_A ⟨((xu_ne _ _ (by decide)).trans ((xu_ne _ _ (by decide)).trans h15)), ((xu_ne _ _ (by decide)).trans ((xu_ne _ _ (by decide)).trans h16)), ((xu_ne _ _ (by decide)).trans ((xu_ne _ _ (by decide)).trans h18)), ((xu_ne _ _ (by decide)).trans ((xu_ne _ _ (by decide)).trans hf)), ((xu_ne _ _ (by decide)).trans ((xu_ne _ _ (by decide)).trans hfn)), ((xu_ne _ _ (by decide)).trans ((xu_ne _ _ (by decide)).trans hfa)), ((xu_ne _ _ (by decide)).trans ((xu_ne _ _ (by decide)).trans ht)), ((xu_ne _ _ (by decide)).trans (xu_self _ _ _)), (xu_self _ _ _)⟩ ?_)
              show xw z NK g 77 89 [(0, .ref (z + 15)), (1, .int (bI dd)), (2, .int (nI i)), (3, .int (nAt fs (nI i))), (4, .int (nAt ga (nI i)))] [.int (p_far pl fs ga 100 (nAt ga (nI i)))] (xu (xu S 26 (.inl ns2)) 28 (.inl as2)) P
              refine xw.steps 5 (fun _ => rfl) ?_
              show xw z NK g 77 100 [(0, .ref (z + 15)), (1, .int (bI dd)), (2, .int (nI i)), (3, .int (nAt fs (nI i))), (4, .int (nAt ga (nI i))), (5, .int (p_far pl fs ga 100 (nAt ga (nI i))))] [.int (p_far pl fs ga 100 (nAt ga (nI i))), .int (nAt fs (nI i)), .ref (z + 15)] (xu (xu S 26 (.inl ns2)) 28 (.inl as2)) P
              refine xw.callO (o := 15) rfl rfl rfl ((xu_ne _ _ (by decide)).trans ((xu_ne _ _ (by decide)).trans h15)) rfl rfl (c_folds_A ⟨((xu_ne _ _ (by decide)).trans ((xu_ne _ _ (by decide)).trans h15)), ((xu_ne _ _ (by decide)).trans ((xu_ne _ _ (by decide)).trans h16)), ((xu_ne _ _ (by decide)).trans ((xu_ne _ _ (by decide)).trans h18)), ((xu_ne _ _ (by decide)).trans ((xu_ne _ _ (by decide)).trans hf)), ((xu_ne _ _ (by decide)).trans ((xu_ne _ _ (by decide)).trans hfn)), ((xu_ne _ _ (by decide)).trans ((xu_ne _ _ (by decide)).trans hfa)), ((xu_ne _ _ (by decide)).trans ((xu_ne _ _ (by decide)).trans ht)), ((xu_ne _ _ (by decide)).trans (xu_self _ _ _)), (xu_self _ _ _)⟩ (by omega) (by omega) ?_)
              show xw z NK g 77 103 [(0, .ref (z + 15)), (1, .int (bI dd)), (2, .int (nI i)), (3, .int (nAt fs (nI i))), (4, .int (nAt ga (nI i))), (5, .int (p_far pl fs ga 100 (nAt ga (nI i))))] [.int (bI (p_folds ns2 as2 (nAt fs (nI i)) (p_far pl fs ga 100 (nAt ga (nI i)))).2.2)] (xu (xu (xu (xu S 26 (.inl ns2)) 28 (.inl as2)) 26 (.inl (p_folds ns2 as2 (nAt fs (nI i)) (p_far pl fs ga 100 (nAt ga (nI i)))).1)) 28 (.inl (p_folds ns2 as2 (nAt fs (nI i)) (p_far pl fs ga 100 (nAt ga (nI i)))).2.1)) P
              rw [xu4 _ (show (26 : Nat) ≠ 28 by decide)]
              refine xw.if_ rfl (fun c6 => ?_) (fun c6 => ?_)
              · have c6 := bI_ne0 (of_decide_eq_true c6)
                refine xw.steps 1 (fun _ => rfl) ?_
                refine xw.getf (o := 15) rfl ((xu_ne _ _ (by decide)).trans ((xu_ne _ _ (by decide)).trans h15)) rfl ?_
                refine xw.steps 1 (fun _ => rfl) ?_
                show xw z NK g 77 121 [(0, .ref (z + 15)), (1, .int (bI dd)), (2, .int (nI i)), (3, .int (nAt fs (nI i))), (4, .int (nAt ga (nI i))), (5, .int (p_far pl fs ga 100 (nAt ga (nI i))))] [.int 0, .ref (z + 25)] (xu (xu S 26 (.inl (p_folds ns2 as2 (nAt fs (nI i)) (p_far pl fs ga 100 (nAt ga (nI i)))).1)) 28 (.inl (p_folds ns2 as2 (nAt fs (nI i)) (p_far pl fs ga 100 (nAt ga (nI i)))).2.1)) P
                refine xw.callO (o := 25) rfl rfl rfl ((xu_ne _ _ (by decide)).trans ((xu_ne _ _ (by decide)).trans ht)) rfl rfl (c_Code_lastNumber ((xu_ne _ _ (by decide)).trans ((xu_ne _ _ (by decide)).trans ht)) ((xu_ne _ _ (by decide)).trans (xu_self _ _ _)) (xu_self _ _ _) (by decide) ?_)
                show xw z NK g 77 124 [(0, .ref (z + 15)), (1, .int (bI dd)), (2, .int (nI i)), (3, .int (nAt fs (nI i))), (4, .int (nAt ga (nI i))), (5, .int (p_far pl fs ga 100 (nAt ga (nI i))))] [.int (p_l (p_folds ns2 as2 (nAt fs (nI i)) (p_far pl fs ga 100 (nAt ga (nI i)))).1 0)] (xu (xu S 26 (.inl (p_folds ns2 as2 (nAt fs (nI i)) (p_far pl fs ga 100 (nAt ga (nI i)))).1)) 28 (.inl (p_folds ns2 as2 (nAt fs (nI i)) (p_far pl fs ga 100 (nAt ga (nI i)))).2.1)) P
                show xw z NK g 77 124 [(0, .ref (z + 15)), (1, .int (bI dd)), (2, .int (nI i)), (3, .int (nAt fs (nI i))), (4, .int (nAt ga (nI i))), (5, .int (p_far pl fs ga 100 (nAt ga (nI i))))] [.int (p_l (p_folds ns2 as2 (nAt fs (nI i)) (p_far pl fs ga 100 (nAt ga (nI i)))).1 0)] (xu (xu S 26 (.inl (p_folds ns2 as2 (nAt fs (nI i)) (p_far pl fs ga 100 (nAt ga (nI i)))).1)) 28 (.inl (p_folds ns2 as2 (nAt fs (nI i)) (p_far pl fs ga 100 (nAt ga (nI i)))).2.1)) P
                refine xw.callS rfl rfl rfl rfl rfl (c_endsWay ?_)
                show xw z NK g 77 127 [(0, .ref (z + 15)), (1, .int (bI dd)), (2, .int (nI i)), (3, .int (nAt fs (nI i))), (4, .int (nAt ga (nI i))), (5, .int (p_far pl fs ga 100 (nAt ga (nI i))))] [.int (bI (t_ends (p_l (p_folds ns2 as2 (nAt fs (nI i)) (p_far pl fs ga 100 (nAt ga (nI i)))).1 0)))] (xu (xu S 26 (.inl (p_folds ns2 as2 (nAt fs (nI i)) (p_far pl fs ga 100 (nAt ga (nI i)))).1)) 28 (.inl (p_folds ns2 as2 (nAt fs (nI i)) (p_far pl fs ga 100 (nAt ga (nI i)))).2.1)) P
                refine xw.steps 3 (fun _ => rfl) ?_
                show xw z NK g 77 12 [(0, .ref (z + 15)), (1, .int (bI (t_ends (p_l (p_folds ns2 as2 (nAt fs (nI i)) (p_far pl fs ga 100 (nAt ga (nI i)))).1 0)))), (2, .int ((nI i) + 1)), (3, .int (nAt fs (nI i))), (4, .int (nAt ga (nI i))), (5, .int (p_far pl fs ga 100 (nAt ga (nI i))))] [] (xu (xu S 26 (.inl (p_folds ns2 as2 (nAt fs (nI i)) (p_far pl fs ga 100 (nAt ga (nI i)))).1)) 28 (.inl (p_folds ns2 as2 (nAt fs (nI i)) (p_far pl fs ga 100 (nAt ga (nI i)))).2.1)) P
                rw [nI_1]
                refine xw.forget (lv := [(0, .ref (z + 15)), (1, .int (bI (t_ends (p_l (p_folds ns2 as2 (nAt fs (nI i)) (p_far pl fs ga 100 (nAt ga (nI i)))).1 0)))), (2, .int (nI (i + 1)))]) lk_77 (show [0, 1, 2].Nodup by decide) (show [0, 1, 2, 3, 4, 5].Nodup by decide) (List.forall_mem_cons.mpr ⟨rfl, List.forall_mem_cons.mpr ⟨rfl, List.forall_mem_cons.mpr ⟨rfl, fun _ h => absurd h List.not_mem_nil⟩⟩⟩) ?_
                exact ih (i + 1) (by omega) _ _ _ (by have h1 := p_step_len ns2 as2 (nAt fs (nI i)) (p_far pl fs ga 100 (nAt ga (nI i))); rw [(show p_step ns2 as2 (nAt fs (nI i)) (p_far pl fs ga 100 (nAt ga (nI i))) = ((p_folds ns2 as2 (nAt fs (nI i)) (p_far pl fs ga 100 (nAt ga (nI i)))).1, (p_folds ns2 as2 (nAt fs (nI i)) (p_far pl fs ga 100 (nAt ga (nI i)))).2.1) from by unfold p_step; rw [if_pos (by assumption)])] at h1; have h2 := h1.1; dsimp only at h2; omega) (by have h1 := p_step_len ns2 as2 (nAt fs (nI i)) (p_far pl fs ga 100 (nAt ga (nI i))); rw [(show p_step ns2 as2 (nAt fs (nI i)) (p_far pl fs ga 100 (nAt ga (nI i))) = ((p_folds ns2 as2 (nAt fs (nI i)) (p_far pl fs ga 100 (nAt ga (nI i)))).1, (p_folds ns2 as2 (nAt fs (nI i)) (p_far pl fs ga 100 (nAt ga (nI i)))).2.1) from by unfold p_step; rw [if_pos (by assumption)])] at h1; have h2 := h1.2; dsimp only at h2; omega) (by rw [p_rew_go (by first | exact fun u => absurd u.1 (by assumption) | exact fun u => absurd u.2 (by assumption)) (by first | exact fun u => absurd (by assumption) u.2 | exact fun u => Bool.noConfusion (u.1.symm.trans (by assumption))) (show p_goal pl fs ga (nAt fs (nI i)) (nAt ga (nI i)) = (p_far pl fs ga 100 (nAt ga (nI i))) from by unfold p_goal; rw [if_pos (by assumption)]) (show p_step ns2 as2 (nAt fs (nI i)) (p_far pl fs ga 100 (nAt ga (nI i))) = ((p_folds ns2 as2 (nAt fs (nI i)) (p_far pl fs ga 100 (nAt ga (nI i)))).1, (p_folds ns2 as2 (nAt fs (nI i)) (p_far pl fs ga 100 (nAt ga (nI i)))).2.1) from by unfold p_step; rw [if_pos (by assumption)])] at hP; exact hP)
              · have c6 := bI_eq0 (Decidable.not_not.mp (of_decide_eq_false c6))
                refine xw.steps 1 (fun _ => rfl) ?_
                refine xw.getf (o := 15) rfl ((xu_ne _ _ (by decide)).trans ((xu_ne _ _ (by decide)).trans h15)) rfl ?_
                refine xw.steps 2 (fun _ => rfl) ?_
                show xw z NK g 77 113 [(0, .ref (z + 15)), (1, .int (bI dd)), (2, .int (nI i)), (3, .int (nAt fs (nI i))), (4, .int (nAt ga (nI i))), (5, .int (p_far pl fs ga 100 (nAt ga (nI i))))] [.int (p_far pl fs ga 100 (nAt ga (nI i))), .int (nAt fs (nI i)), .ref (z + 25)] (xu (xu S 26 (.inl (p_folds ns2 as2 (nAt fs (nI i)) (p_far pl fs ga 100 (nAt ga (nI i)))).1)) 28 (.inl (p_folds ns2 as2 (nAt fs (nI i)) (p_far pl fs ga 100 (nAt ga (nI i)))).2.1)) P
                refine xw.callO (o := 25) rfl rfl rfl ((xu_ne _ _ (by decide)).trans ((xu_ne _ _ (by decide)).trans ht)) rfl rfl (c_Code_append ((xu_ne _ _ (by decide)).trans ((xu_ne _ _ (by decide)).trans ht)) ((xu_ne _ _ (by decide)).trans (xu_self _ _ _)) (xu_self _ _ _) (by decide) (by have h1 := p_folds_len ns2 as2 (nAt fs (nI i)) (p_far pl fs ga 100 (nAt ga (nI i))); omega) (by have h1 := p_folds_len ns2 as2 (nAt fs (nI i)) (p_far pl fs ga 100 (nAt ga (nI i))); omega) ?_)
                show xw z NK g 77 116 [(0, .ref (z + 15)), (1, .int (bI dd)), (2, .int (nI i)), (3, .int (nAt fs (nI i))), (4, .int (nAt ga (nI i))), (5, .int (p_far pl fs ga 100 (nAt ga (nI i))))] [] (xu (xu (xu (xu S 26 (.inl (p_folds ns2 as2 (nAt fs (nI i)) (p_far pl fs ga 100 (nAt ga (nI i)))).1)) 28 (.inl (p_folds ns2 as2 (nAt fs (nI i)) (p_far pl fs ga 100 (nAt ga (nI i)))).2.1)) 26 (.inl ((p_folds ns2 as2 (nAt fs (nI i)) (p_far pl fs ga 100 (nAt ga (nI i)))).1 ++ [(nAt fs (nI i))]))) 28 (.inl ((p_folds ns2 as2 (nAt fs (nI i)) (p_far pl fs ga 100 (nAt ga (nI i)))).2.1 ++ [(p_far pl fs ga 100 (nAt ga (nI i)))]))) P
                rw [xu4 _ (show (26 : Nat) ≠ 28 by decide)]
                refine xw.steps 1 (fun _ => rfl) ?_
                refine xw.getf (o := 15) rfl ((xu_ne _ _ (by decide)).trans ((xu_ne _ _ (by decide)).trans h15)) rfl ?_
                refine xw.steps 1 (fun _ => rfl) ?_
                show xw z NK g 77 121 [(0, .ref (z + 15)), (1, .int (bI dd)), (2, .int (nI i)), (3, .int (nAt fs (nI i))), (4, .int (nAt ga (nI i))), (5, .int (p_far pl fs ga 100 (nAt ga (nI i))))] [.int 0, .ref (z + 25)] (xu (xu S 26 (.inl ((p_folds ns2 as2 (nAt fs (nI i)) (p_far pl fs ga 100 (nAt ga (nI i)))).1 ++ [(nAt fs (nI i))]))) 28 (.inl ((p_folds ns2 as2 (nAt fs (nI i)) (p_far pl fs ga 100 (nAt ga (nI i)))).2.1 ++ [(p_far pl fs ga 100 (nAt ga (nI i)))]))) P
                refine xw.callO (o := 25) rfl rfl rfl ((xu_ne _ _ (by decide)).trans ((xu_ne _ _ (by decide)).trans ht)) rfl rfl (c_Code_lastNumber ((xu_ne _ _ (by decide)).trans ((xu_ne _ _ (by decide)).trans ht)) ((xu_ne _ _ (by decide)).trans (xu_self _ _ _)) (xu_self _ _ _) (by decide) ?_)
                show xw z NK g 77 124 [(0, .ref (z + 15)), (1, .int (bI dd)), (2, .int (nI i)), (3, .int (nAt fs (nI i))), (4, .int (nAt ga (nI i))), (5, .int (p_far pl fs ga 100 (nAt ga (nI i))))] [.int (p_l ((p_folds ns2 as2 (nAt fs (nI i)) (p_far pl fs ga 100 (nAt ga (nI i)))).1 ++ [(nAt fs (nI i))]) 0)] (xu (xu S 26 (.inl ((p_folds ns2 as2 (nAt fs (nI i)) (p_far pl fs ga 100 (nAt ga (nI i)))).1 ++ [(nAt fs (nI i))]))) 28 (.inl ((p_folds ns2 as2 (nAt fs (nI i)) (p_far pl fs ga 100 (nAt ga (nI i)))).2.1 ++ [(p_far pl fs ga 100 (nAt ga (nI i)))]))) P
                show xw z NK g 77 124 [(0, .ref (z + 15)), (1, .int (bI dd)), (2, .int (nI i)), (3, .int (nAt fs (nI i))), (4, .int (nAt ga (nI i))), (5, .int (p_far pl fs ga 100 (nAt ga (nI i))))] [.int (p_l ((p_folds ns2 as2 (nAt fs (nI i)) (p_far pl fs ga 100 (nAt ga (nI i)))).1 ++ [(nAt fs (nI i))]) 0)] (xu (xu S 26 (.inl ((p_folds ns2 as2 (nAt fs (nI i)) (p_far pl fs ga 100 (nAt ga (nI i)))).1 ++ [(nAt fs (nI i))]))) 28 (.inl ((p_folds ns2 as2 (nAt fs (nI i)) (p_far pl fs ga 100 (nAt ga (nI i)))).2.1 ++ [(p_far pl fs ga 100 (nAt ga (nI i)))]))) P
                refine xw.callS rfl rfl rfl rfl rfl (c_endsWay ?_)
                show xw z NK g 77 127 [(0, .ref (z + 15)), (1, .int (bI dd)), (2, .int (nI i)), (3, .int (nAt fs (nI i))), (4, .int (nAt ga (nI i))), (5, .int (p_far pl fs ga 100 (nAt ga (nI i))))] [.int (bI (t_ends (p_l ((p_folds ns2 as2 (nAt fs (nI i)) (p_far pl fs ga 100 (nAt ga (nI i)))).1 ++ [(nAt fs (nI i))]) 0)))] (xu (xu S 26 (.inl ((p_folds ns2 as2 (nAt fs (nI i)) (p_far pl fs ga 100 (nAt ga (nI i)))).1 ++ [(nAt fs (nI i))]))) 28 (.inl ((p_folds ns2 as2 (nAt fs (nI i)) (p_far pl fs ga 100 (nAt ga (nI i)))).2.1 ++ [(p_far pl fs ga 100 (nAt ga (nI i)))]))) P
                refine xw.steps 3 (fun _ => rfl) ?_
                show xw z NK g 77 12 [(0, .ref (z + 15)), (1, .int (bI (t_ends (p_l ((p_folds ns2 as2 (nAt fs (nI i)) (p_far pl fs ga 100 (nAt ga (nI i)))).1 ++ [(nAt fs (nI i))]) 0)))), (2, .int ((nI i) + 1)), (3, .int (nAt fs (nI i))), (4, .int (nAt ga (nI i))), (5, .int (p_far pl fs ga 100 (nAt ga (nI i))))] [] (xu (xu S 26 (.inl ((p_folds ns2 as2 (nAt fs (nI i)) (p_far pl fs ga 100 (nAt ga (nI i)))).1 ++ [(nAt fs (nI i))]))) 28 (.inl ((p_folds ns2 as2 (nAt fs (nI i)) (p_far pl fs ga 100 (nAt ga (nI i)))).2.1 ++ [(p_far pl fs ga 100 (nAt ga (nI i)))]))) P
                rw [nI_1]
                refine xw.forget (lv := [(0, .ref (z + 15)), (1, .int (bI (t_ends (p_l ((p_folds ns2 as2 (nAt fs (nI i)) (p_far pl fs ga 100 (nAt ga (nI i)))).1 ++ [(nAt fs (nI i))]) 0)))), (2, .int (nI (i + 1)))]) lk_77 (show [0, 1, 2].Nodup by decide) (show [0, 1, 2, 3, 4, 5].Nodup by decide) (List.forall_mem_cons.mpr ⟨rfl, List.forall_mem_cons.mpr ⟨rfl, List.forall_mem_cons.mpr ⟨rfl, fun _ h => absurd h List.not_mem_nil⟩⟩⟩) ?_
                exact ih (i + 1) (by omega) _ _ _ (by have h1 := p_step_len ns2 as2 (nAt fs (nI i)) (p_far pl fs ga 100 (nAt ga (nI i))); rw [(show p_step ns2 as2 (nAt fs (nI i)) (p_far pl fs ga 100 (nAt ga (nI i))) = (((p_folds ns2 as2 (nAt fs (nI i)) (p_far pl fs ga 100 (nAt ga (nI i)))).1 ++ [(nAt fs (nI i))]), ((p_folds ns2 as2 (nAt fs (nI i)) (p_far pl fs ga 100 (nAt ga (nI i)))).2.1 ++ [(p_far pl fs ga 100 (nAt ga (nI i)))])) from by unfold p_step; rw [if_neg (by rw [(by assumption : (p_folds ns2 as2 (nAt fs (nI i)) (p_far pl fs ga 100 (nAt ga (nI i)))).2.2 = false)]; decide)])] at h1; have h2 := h1.1; dsimp only at h2; omega) (by have h1 := p_step_len ns2 as2 (nAt fs (nI i)) (p_far pl fs ga 100 (nAt ga (nI i))); rw [(show p_step ns2 as2 (nAt fs (nI i)) (p_far pl fs ga 100 (nAt ga (nI i))) = (((p_folds ns2 as2 (nAt fs (nI i)) (p_far pl fs ga 100 (nAt ga (nI i)))).1 ++ [(nAt fs (nI i))]), ((p_folds ns2 as2 (nAt fs (nI i)) (p_far pl fs ga 100 (nAt ga (nI i)))).2.1 ++ [(p_far pl fs ga 100 (nAt ga (nI i)))])) from by unfold p_step; rw [if_neg (by rw [(by assumption : (p_folds ns2 as2 (nAt fs (nI i)) (p_far pl fs ga 100 (nAt ga (nI i)))).2.2 = false)]; decide)])] at h1; have h2 := h1.2; dsimp only at h2; omega) (by rw [p_rew_go (by first | exact fun u => absurd u.1 (by assumption) | exact fun u => absurd u.2 (by assumption)) (by first | exact fun u => absurd (by assumption) u.2 | exact fun u => Bool.noConfusion (u.1.symm.trans (by assumption))) (show p_goal pl fs ga (nAt fs (nI i)) (nAt ga (nI i)) = (p_far pl fs ga 100 (nAt ga (nI i))) from by unfold p_goal; rw [if_pos (by assumption)]) (show p_step ns2 as2 (nAt fs (nI i)) (p_far pl fs ga 100 (nAt ga (nI i))) = (((p_folds ns2 as2 (nAt fs (nI i)) (p_far pl fs ga 100 (nAt ga (nI i)))).1 ++ [(nAt fs (nI i))]), ((p_folds ns2 as2 (nAt fs (nI i)) (p_far pl fs ga 100 (nAt ga (nI i)))).2.1 ++ [(p_far pl fs ga 100 (nAt ga (nI i)))])) from by unfold p_step; rw [if_neg (by rw [(by assumption : (p_folds ns2 as2 (nAt fs (nI i)) (p_far pl fs ga 100 (nAt ga (nI i)))).2.2 = false)]; decide)])] at hP; exact hP)
          · have c3 := bI_ne0 (of_decide_eq_false c3)
            refine xw.steps 2 (fun _ => rfl) ?_
            refine xw.icmp rfl (fun c7 => ?_) (fun c7 => ?_)
            · have c7 := of_decide_eq_true c7
              refine xw.steps 1 (fun _ => rfl) ?_
              show xw z NK g 77 77 [(0, .ref (z + 15)), (1, .int (bI dd)), (2, .int (nI i)), (3, .int (nAt fs (nI i))), (4, .int (nAt ga (nI i)))] [.int (nAt fs (nI i))] (xu (xu S 26 (.inl ns2)) 28 (.inl as2)) P
              refine xw.callS rfl rfl rfl rfl rfl (c_goesToLabel ?_)
              show xw z NK g 77 80 [(0, .ref (z + 15)), (1, .int (bI dd)), (2, .int (nI i)), (3, .int (nAt fs (nI i))), (4, .int (nAt ga (nI i)))] [.int (bI (t_goes (nAt fs (nI i))))] (xu (xu S 26 (.inl ns2)) 28 (.inl as2)) P
              refine xw.if_ rfl (fun c8 => ?_) (fun c8 => ?_)
              · have c8 := bI_eq0 (of_decide_eq_true c8)
                refine xw.steps 5 (fun _ => rfl) ?_
                show xw z NK g 77 100 [(0, .ref (z + 15)), (1, .int (bI dd)), (2, .int (nI i)), (3, .int (nAt fs (nI i))), (4, .int (nAt ga (nI i))), (5, .int (nAt ga (nI i)))] [.int (nAt ga (nI i)), .int (nAt fs (nI i)), .ref (z + 15)] (xu (xu S 26 (.inl ns2)) 28 (.inl as2)) P
                refine xw.callO (o := 15) rfl rfl rfl ((xu_ne _ _ (by decide)).trans ((xu_ne _ _ (by decide)).trans h15)) rfl rfl (c_folds_A ⟨((xu_ne _ _ (by decide)).trans ((xu_ne _ _ (by decide)).trans h15)), ((xu_ne _ _ (by decide)).trans ((xu_ne _ _ (by decide)).trans h16)), ((xu_ne _ _ (by decide)).trans ((xu_ne _ _ (by decide)).trans h18)), ((xu_ne _ _ (by decide)).trans ((xu_ne _ _ (by decide)).trans hf)), ((xu_ne _ _ (by decide)).trans ((xu_ne _ _ (by decide)).trans hfn)), ((xu_ne _ _ (by decide)).trans ((xu_ne _ _ (by decide)).trans hfa)), ((xu_ne _ _ (by decide)).trans ((xu_ne _ _ (by decide)).trans ht)), ((xu_ne _ _ (by decide)).trans (xu_self _ _ _)), (xu_self _ _ _)⟩ (by omega) (by omega) ?_)
                show xw z NK g 77 103 [(0, .ref (z + 15)), (1, .int (bI dd)), (2, .int (nI i)), (3, .int (nAt fs (nI i))), (4, .int (nAt ga (nI i))), (5, .int (nAt ga (nI i)))] [.int (bI (p_folds ns2 as2 (nAt fs (nI i)) (nAt ga (nI i))).2.2)] (xu (xu (xu (xu S 26 (.inl ns2)) 28 (.inl as2)) 26 (.inl (p_folds ns2 as2 (nAt fs (nI i)) (nAt ga (nI i))).1)) 28 (.inl (p_folds ns2 as2 (nAt fs (nI i)) (nAt ga (nI i))).2.1)) P
                rw [xu4 _ (show (26 : Nat) ≠ 28 by decide)]
                refine xw.if_ rfl (fun c9 => ?_) (fun c9 => ?_)
                · have c9 := bI_ne0 (of_decide_eq_true c9)
                  refine xw.steps 1 (fun _ => rfl) ?_
                  refine xw.getf (o := 15) rfl ((xu_ne _ _ (by decide)).trans ((xu_ne _ _ (by decide)).trans h15)) rfl ?_
                  refine xw.steps 1 (fun _ => rfl) ?_
                  show xw z NK g 77 121 [(0, .ref (z + 15)), (1, .int (bI dd)), (2, .int (nI i)), (3, .int (nAt fs (nI i))), (4, .int (nAt ga (nI i))), (5, .int (nAt ga (nI i)))] [.int 0, .ref (z + 25)] (xu (xu S 26 (.inl (p_folds ns2 as2 (nAt fs (nI i)) (nAt ga (nI i))).1)) 28 (.inl (p_folds ns2 as2 (nAt fs (nI i)) (nAt ga (nI i))).2.1)) P
                  refine xw.callO (o := 25) rfl rfl rfl ((xu_ne _ _ (by decide)).trans ((xu_ne _ _ (by decide)).trans ht)) rfl rfl (c_Code_lastNumber ((xu_ne _ _ (by decide)).trans ((xu_ne _ _ (by decide)).trans ht)) ((xu_ne _ _ (by decide)).trans (xu_self _ _ _)) (xu_self _ _ _) (by decide) ?_)
                  show xw z NK g 77 124 [(0, .ref (z + 15)), (1, .int (bI dd)), (2, .int (nI i)), (3, .int (nAt fs (nI i))), (4, .int (nAt ga (nI i))), (5, .int (nAt ga (nI i)))] [.int (p_l (p_folds ns2 as2 (nAt fs (nI i)) (nAt ga (nI i))).1 0)] (xu (xu S 26 (.inl (p_folds ns2 as2 (nAt fs (nI i)) (nAt ga (nI i))).1)) 28 (.inl (p_folds ns2 as2 (nAt fs (nI i)) (nAt ga (nI i))).2.1)) P
                  show xw z NK g 77 124 [(0, .ref (z + 15)), (1, .int (bI dd)), (2, .int (nI i)), (3, .int (nAt fs (nI i))), (4, .int (nAt ga (nI i))), (5, .int (nAt ga (nI i)))] [.int (p_l (p_folds ns2 as2 (nAt fs (nI i)) (nAt ga (nI i))).1 0)] (xu (xu S 26 (.inl (p_folds ns2 as2 (nAt fs (nI i)) (nAt ga (nI i))).1)) 28 (.inl (p_folds ns2 as2 (nAt fs (nI i)) (nAt ga (nI i))).2.1)) P
                  refine xw.callS rfl rfl rfl rfl rfl (c_endsWay ?_)
                  show xw z NK g 77 127 [(0, .ref (z + 15)), (1, .int (bI dd)), (2, .int (nI i)), (3, .int (nAt fs (nI i))), (4, .int (nAt ga (nI i))), (5, .int (nAt ga (nI i)))] [.int (bI (t_ends (p_l (p_folds ns2 as2 (nAt fs (nI i)) (nAt ga (nI i))).1 0)))] (xu (xu S 26 (.inl (p_folds ns2 as2 (nAt fs (nI i)) (nAt ga (nI i))).1)) 28 (.inl (p_folds ns2 as2 (nAt fs (nI i)) (nAt ga (nI i))).2.1)) P
                  refine xw.steps 3 (fun _ => rfl) ?_
                  show xw z NK g 77 12 [(0, .ref (z + 15)), (1, .int (bI (t_ends (p_l (p_folds ns2 as2 (nAt fs (nI i)) (nAt ga (nI i))).1 0)))), (2, .int ((nI i) + 1)), (3, .int (nAt fs (nI i))), (4, .int (nAt ga (nI i))), (5, .int (nAt ga (nI i)))] [] (xu (xu S 26 (.inl (p_folds ns2 as2 (nAt fs (nI i)) (nAt ga (nI i))).1)) 28 (.inl (p_folds ns2 as2 (nAt fs (nI i)) (nAt ga (nI i))).2.1)) P
                  rw [nI_1]
                  refine xw.forget (lv := [(0, .ref (z + 15)), (1, .int (bI (t_ends (p_l (p_folds ns2 as2 (nAt fs (nI i)) (nAt ga (nI i))).1 0)))), (2, .int (nI (i + 1)))]) lk_77 (show [0, 1, 2].Nodup by decide) (show [0, 1, 2, 3, 4, 5].Nodup by decide) (List.forall_mem_cons.mpr ⟨rfl, List.forall_mem_cons.mpr ⟨rfl, List.forall_mem_cons.mpr ⟨rfl, fun _ h => absurd h List.not_mem_nil⟩⟩⟩) ?_
                  exact ih (i + 1) (by omega) _ _ _ (by have h1 := p_step_len ns2 as2 (nAt fs (nI i)) (nAt ga (nI i)); rw [(show p_step ns2 as2 (nAt fs (nI i)) (nAt ga (nI i)) = ((p_folds ns2 as2 (nAt fs (nI i)) (nAt ga (nI i))).1, (p_folds ns2 as2 (nAt fs (nI i)) (nAt ga (nI i))).2.1) from by unfold p_step; rw [if_pos (by assumption)])] at h1; have h2 := h1.1; dsimp only at h2; omega) (by have h1 := p_step_len ns2 as2 (nAt fs (nI i)) (nAt ga (nI i)); rw [(show p_step ns2 as2 (nAt fs (nI i)) (nAt ga (nI i)) = ((p_folds ns2 as2 (nAt fs (nI i)) (nAt ga (nI i))).1, (p_folds ns2 as2 (nAt fs (nI i)) (nAt ga (nI i))).2.1) from by unfold p_step; rw [if_pos (by assumption)])] at h1; have h2 := h1.2; dsimp only at h2; omega) (by rw [p_rew_go (by first | exact fun u => absurd u.1 (by assumption) | exact fun u => absurd u.2 (by assumption)) (by first | exact fun u => absurd (by assumption) u.2 | exact fun u => Bool.noConfusion (u.1.symm.trans (by assumption))) (show p_goal pl fs ga (nAt fs (nI i)) (nAt ga (nI i)) = (nAt ga (nI i)) from by unfold p_goal; rw [if_neg (by rw [(by assumption : t_goes (nAt fs (nI i)) = false)]; decide)]) (show p_step ns2 as2 (nAt fs (nI i)) (nAt ga (nI i)) = ((p_folds ns2 as2 (nAt fs (nI i)) (nAt ga (nI i))).1, (p_folds ns2 as2 (nAt fs (nI i)) (nAt ga (nI i))).2.1) from by unfold p_step; rw [if_pos (by assumption)])] at hP; exact hP)
                · have c9 := bI_eq0 (Decidable.not_not.mp (of_decide_eq_false c9))
                  refine xw.steps 1 (fun _ => rfl) ?_
                  refine xw.getf (o := 15) rfl ((xu_ne _ _ (by decide)).trans ((xu_ne _ _ (by decide)).trans h15)) rfl ?_
                  refine xw.steps 2 (fun _ => rfl) ?_
                  show xw z NK g 77 113 [(0, .ref (z + 15)), (1, .int (bI dd)), (2, .int (nI i)), (3, .int (nAt fs (nI i))), (4, .int (nAt ga (nI i))), (5, .int (nAt ga (nI i)))] [.int (nAt ga (nI i)), .int (nAt fs (nI i)), .ref (z + 25)] (xu (xu S 26 (.inl (p_folds ns2 as2 (nAt fs (nI i)) (nAt ga (nI i))).1)) 28 (.inl (p_folds ns2 as2 (nAt fs (nI i)) (nAt ga (nI i))).2.1)) P
                  refine xw.callO (o := 25) rfl rfl rfl ((xu_ne _ _ (by decide)).trans ((xu_ne _ _ (by decide)).trans ht)) rfl rfl (c_Code_append ((xu_ne _ _ (by decide)).trans ((xu_ne _ _ (by decide)).trans ht)) ((xu_ne _ _ (by decide)).trans (xu_self _ _ _)) (xu_self _ _ _) (by decide) (by have h1 := p_folds_len ns2 as2 (nAt fs (nI i)) (nAt ga (nI i)); omega) (by have h1 := p_folds_len ns2 as2 (nAt fs (nI i)) (nAt ga (nI i)); omega) ?_)
                  show xw z NK g 77 116 [(0, .ref (z + 15)), (1, .int (bI dd)), (2, .int (nI i)), (3, .int (nAt fs (nI i))), (4, .int (nAt ga (nI i))), (5, .int (nAt ga (nI i)))] [] (xu (xu (xu (xu S 26 (.inl (p_folds ns2 as2 (nAt fs (nI i)) (nAt ga (nI i))).1)) 28 (.inl (p_folds ns2 as2 (nAt fs (nI i)) (nAt ga (nI i))).2.1)) 26 (.inl ((p_folds ns2 as2 (nAt fs (nI i)) (nAt ga (nI i))).1 ++ [(nAt fs (nI i))]))) 28 (.inl ((p_folds ns2 as2 (nAt fs (nI i)) (nAt ga (nI i))).2.1 ++ [(nAt ga (nI i))]))) P
                  rw [xu4 _ (show (26 : Nat) ≠ 28 by decide)]
                  refine xw.steps 1 (fun _ => rfl) ?_
                  refine xw.getf (o := 15) rfl ((xu_ne _ _ (by decide)).trans ((xu_ne _ _ (by decide)).trans h15)) rfl ?_
                  refine xw.steps 1 (fun _ => rfl) ?_
                  show xw z NK g 77 121 [(0, .ref (z + 15)), (1, .int (bI dd)), (2, .int (nI i)), (3, .int (nAt fs (nI i))), (4, .int (nAt ga (nI i))), (5, .int (nAt ga (nI i)))] [.int 0, .ref (z + 25)] (xu (xu S 26 (.inl ((p_folds ns2 as2 (nAt fs (nI i)) (nAt ga (nI i))).1 ++ [(nAt fs (nI i))]))) 28 (.inl ((p_folds ns2 as2 (nAt fs (nI i)) (nAt ga (nI i))).2.1 ++ [(nAt ga (nI i))]))) P
                  refine xw.callO (o := 25) rfl rfl rfl ((xu_ne _ _ (by decide)).trans ((xu_ne _ _ (by decide)).trans ht)) rfl rfl (c_Code_lastNumber ((xu_ne _ _ (by decide)).trans ((xu_ne _ _ (by decide)).trans ht)) ((xu_ne _ _ (by decide)).trans (xu_self _ _ _)) (xu_self _ _ _) (by decide) ?_)
                  show xw z NK g 77 124 [(0, .ref (z + 15)), (1, .int (bI dd)), (2, .int (nI i)), (3, .int (nAt fs (nI i))), (4, .int (nAt ga (nI i))), (5, .int (nAt ga (nI i)))] [.int (p_l ((p_folds ns2 as2 (nAt fs (nI i)) (nAt ga (nI i))).1 ++ [(nAt fs (nI i))]) 0)] (xu (xu S 26 (.inl ((p_folds ns2 as2 (nAt fs (nI i)) (nAt ga (nI i))).1 ++ [(nAt fs (nI i))]))) 28 (.inl ((p_folds ns2 as2 (nAt fs (nI i)) (nAt ga (nI i))).2.1 ++ [(nAt ga (nI i))]))) P
                  show xw z NK g 77 124 [(0, .ref (z + 15)), (1, .int (bI dd)), (2, .int (nI i)), (3, .int (nAt fs (nI i))), (4, .int (nAt ga (nI i))), (5, .int (nAt ga (nI i)))] [.int (p_l ((p_folds ns2 as2 (nAt fs (nI i)) (nAt ga (nI i))).1 ++ [(nAt fs (nI i))]) 0)] (xu (xu S 26 (.inl ((p_folds ns2 as2 (nAt fs (nI i)) (nAt ga (nI i))).1 ++ [(nAt fs (nI i))]))) 28 (.inl ((p_folds ns2 as2 (nAt fs (nI i)) (nAt ga (nI i))).2.1 ++ [(nAt ga (nI i))]))) P
                  refine xw.callS rfl rfl rfl rfl rfl (c_endsWay ?_)
                  show xw z NK g 77 127 [(0, .ref (z + 15)), (1, .int (bI dd)), (2, .int (nI i)), (3, .int (nAt fs (nI i))), (4, .int (nAt ga (nI i))), (5, .int (nAt ga (nI i)))] [.int (bI (t_ends (p_l ((p_folds ns2 as2 (nAt fs (nI i)) (nAt ga (nI i))).1 ++ [(nAt fs (nI i))]) 0)))] (xu (xu S 26 (.inl ((p_folds ns2 as2 (nAt fs (nI i)) (nAt ga (nI i))).1 ++ [(nAt fs (nI i))]))) 28 (.inl ((p_folds ns2 as2 (nAt fs (nI i)) (nAt ga (nI i))).2.1 ++ [(nAt ga (nI i))]))) P
                  refine xw.steps 3 (fun _ => rfl) ?_
                  show xw z NK g 77 12 [(0, .ref (z + 15)), (1, .int (bI (t_ends (p_l ((p_folds ns2 as2 (nAt fs (nI i)) (nAt ga (nI i))).1 ++ [(nAt fs (nI i))]) 0)))), (2, .int ((nI i) + 1)), (3, .int (nAt fs (nI i))), (4, .int (nAt ga (nI i))), (5, .int (nAt ga (nI i)))] [] (xu (xu S 26 (.inl ((p_folds ns2 as2 (nAt fs (nI i)) (nAt ga (nI i))).1 ++ [(nAt fs (nI i))]))) 28 (.inl ((p_folds ns2 as2 (nAt fs (nI i)) (nAt ga (nI i))).2.1 ++ [(nAt ga (nI i))]))) P
                  rw [nI_1]
                  refine xw.forget (lv := [(0, .ref (z + 15)), (1, .int (bI (t_ends (p_l ((p_folds ns2 as2 (nAt fs (nI i)) (nAt ga (nI i))).1 ++ [(nAt fs (nI i))]) 0)))), (2, .int (nI (i + 1)))]) lk_77 (show [0, 1, 2].Nodup by decide) (show [0, 1, 2, 3, 4, 5].Nodup by decide) (List.forall_mem_cons.mpr ⟨rfl, List.forall_mem_cons.mpr ⟨rfl, List.forall_mem_cons.mpr ⟨rfl, fun _ h => absurd h List.not_mem_nil⟩⟩⟩) ?_
                  exact ih (i + 1) (by omega) _ _ _ (by have h1 := p_step_len ns2 as2 (nAt fs (nI i)) (nAt ga (nI i)); rw [(show p_step ns2 as2 (nAt fs (nI i)) (nAt ga (nI i)) = (((p_folds ns2 as2 (nAt fs (nI i)) (nAt ga (nI i))).1 ++ [(nAt fs (nI i))]), ((p_folds ns2 as2 (nAt fs (nI i)) (nAt ga (nI i))).2.1 ++ [(nAt ga (nI i))])) from by unfold p_step; rw [if_neg (by rw [(by assumption : (p_folds ns2 as2 (nAt fs (nI i)) (nAt ga (nI i))).2.2 = false)]; decide)])] at h1; have h2 := h1.1; dsimp only at h2; omega) (by have h1 := p_step_len ns2 as2 (nAt fs (nI i)) (nAt ga (nI i)); rw [(show p_step ns2 as2 (nAt fs (nI i)) (nAt ga (nI i)) = (((p_folds ns2 as2 (nAt fs (nI i)) (nAt ga (nI i))).1 ++ [(nAt fs (nI i))]), ((p_folds ns2 as2 (nAt fs (nI i)) (nAt ga (nI i))).2.1 ++ [(nAt ga (nI i))])) from by unfold p_step; rw [if_neg (by rw [(by assumption : (p_folds ns2 as2 (nAt fs (nI i)) (nAt ga (nI i))).2.2 = false)]; decide)])] at h1; have h2 := h1.2; dsimp only at h2; omega) (by rw [p_rew_go (by first | exact fun u => absurd u.1 (by assumption) | exact fun u => absurd u.2 (by assumption)) (by first | exact fun u => absurd (by assumption) u.2 | exact fun u => Bool.noConfusion (u.1.symm.trans (by assumption))) (show p_goal pl fs ga (nAt fs (nI i)) (nAt ga (nI i)) = (nAt ga (nI i)) from by unfold p_goal; rw [if_neg (by rw [(by assumption : t_goes (nAt fs (nI i)) = false)]; decide)]) (show p_step ns2 as2 (nAt fs (nI i)) (nAt ga (nI i)) = (((p_folds ns2 as2 (nAt fs (nI i)) (nAt ga (nI i))).1 ++ [(nAt fs (nI i))]), ((p_folds ns2 as2 (nAt fs (nI i)) (nAt ga (nI i))).2.1 ++ [(nAt ga (nI i))])) from by unfold p_step; rw [if_neg (by rw [(by assumption : (p_folds ns2 as2 (nAt fs (nI i)) (nAt ga (nI i))).2.2 = false)]; decide)])] at hP; exact hP)
              · have c8 := bI_ne0 (of_decide_eq_false c8)
                refine xw.steps 2 (fun _ => rfl) ?_
                show xw z NK g 77 86 [(0, .ref (z + 15)), (1, .int (bI dd)), (2, .int (nI i)), (3, .int (nAt fs (nI i))), (4, .int (nAt ga (nI i)))] [.int (nAt ga (nI i)), .ref (z + 15)] (xu (xu S 26 (.inl ns2)) 28 (.inl as2)) P
                refine xw.callO (o := 15) rfl rfl rfl ((xu_ne _ _ (by decide)).trans ((xu_ne _ _ (by decide)).trans h15)) rfl rfl (c_far_A ⟨((xu_ne _ _ (by decide)).trans ((xu_ne _ _ (by decide)).trans h15)), ((xu_ne _ _ (by decide)).trans ((xu_ne _ _ (by decide)).trans h16)), ((xu_ne _ _ (by decide)).trans ((xu_ne _ _ (by decide)).trans h18)), ((xu_ne _ _ (by decide)).trans ((xu_ne _ _ (by decide)).trans hf)), ((xu_ne _ _ (by decide)).trans ((xu_ne _ _ (by decide)).trans hfn)), ((xu_ne _ _ (by decide)).trans ((xu_ne _ _ (by decide)).trans hfa)), ((xu_ne _ _ (by decide)).trans ((xu_ne _ _ (by decide)).trans ht)), ((xu_ne _ _ (by decide)).trans (xu_self _ _ _)), (xu_self _ _ _)⟩ ?_)
                show xw z NK g 77 89 [(0, .ref (z + 15)), (1, .int (bI dd)), (2, .int (nI i)), (3, .int (nAt fs (nI i))), (4, .int (nAt ga (nI i)))] [.int (p_far pl fs ga 100 (nAt ga (nI i)))] (xu (xu S 26 (.inl ns2)) 28 (.inl as2)) P
                refine xw.steps 5 (fun _ => rfl) ?_
                show xw z NK g 77 100 [(0, .ref (z + 15)), (1, .int (bI dd)), (2, .int (nI i)), (3, .int (nAt fs (nI i))), (4, .int (nAt ga (nI i))), (5, .int (p_far pl fs ga 100 (nAt ga (nI i))))] [.int (p_far pl fs ga 100 (nAt ga (nI i))), .int (nAt fs (nI i)), .ref (z + 15)] (xu (xu S 26 (.inl ns2)) 28 (.inl as2)) P
                refine xw.callO (o := 15) rfl rfl rfl ((xu_ne _ _ (by decide)).trans ((xu_ne _ _ (by decide)).trans h15)) rfl rfl (c_folds_A ⟨((xu_ne _ _ (by decide)).trans ((xu_ne _ _ (by decide)).trans h15)), ((xu_ne _ _ (by decide)).trans ((xu_ne _ _ (by decide)).trans h16)), ((xu_ne _ _ (by decide)).trans ((xu_ne _ _ (by decide)).trans h18)), ((xu_ne _ _ (by decide)).trans ((xu_ne _ _ (by decide)).trans hf)), ((xu_ne _ _ (by decide)).trans ((xu_ne _ _ (by decide)).trans hfn)), ((xu_ne _ _ (by decide)).trans ((xu_ne _ _ (by decide)).trans hfa)), ((xu_ne _ _ (by decide)).trans ((xu_ne _ _ (by decide)).trans ht)), ((xu_ne _ _ (by decide)).trans (xu_self _ _ _)), (xu_self _ _ _)⟩ (by omega) (by omega) ?_)
                show xw z NK g 77 103 [(0, .ref (z + 15)), (1, .int (bI dd)), (2, .int (nI i)), (3, .int (nAt fs (nI i))), (4, .int (nAt ga (nI i))), (5, .int (p_far pl fs ga 100 (nAt ga (nI i))))] [.int (bI (p_folds ns2 as2 (nAt fs (nI i)) (p_far pl fs ga 100 (nAt ga (nI i)))).2.2)] (xu (xu (xu (xu S 26 (.inl ns2)) 28 (.inl as2)) 26 (.inl (p_folds ns2 as2 (nAt fs (nI i)) (p_far pl fs ga 100 (nAt ga (nI i)))).1)) 28 (.inl (p_folds ns2 as2 (nAt fs (nI i)) (p_far pl fs ga 100 (nAt ga (nI i)))).2.1)) P
                rw [xu4 _ (show (26 : Nat) ≠ 28 by decide)]
                refine xw.if_ rfl (fun c10 => ?_) (fun c10 => ?_)
                · have c10 := bI_ne0 (of_decide_eq_true c10)
                  refine xw.steps 1 (fun _ => rfl) ?_
                  refine xw.getf (o := 15) rfl ((xu_ne _ _ (by decide)).trans ((xu_ne _ _ (by decide)).trans h15)) rfl ?_
                  refine xw.steps 1 (fun _ => rfl) ?_
                  show xw z NK g 77 121 [(0, .ref (z + 15)), (1, .int (bI dd)), (2, .int (nI i)), (3, .int (nAt fs (nI i))), (4, .int (nAt ga (nI i))), (5, .int (p_far pl fs ga 100 (nAt ga (nI i))))] [.int 0, .ref (z + 25)] (xu (xu S 26 (.inl (p_folds ns2 as2 (nAt fs (nI i)) (p_far pl fs ga 100 (nAt ga (nI i)))).1)) 28 (.inl (p_folds ns2 as2 (nAt fs (nI i)) (p_far pl fs ga 100 (nAt ga (nI i)))).2.1)) P
                  refine xw.callO (o := 25) rfl rfl rfl ((xu_ne _ _ (by decide)).trans ((xu_ne _ _ (by decide)).trans ht)) rfl rfl (c_Code_lastNumber ((xu_ne _ _ (by decide)).trans ((xu_ne _ _ (by decide)).trans ht)) ((xu_ne _ _ (by decide)).trans (xu_self _ _ _)) (xu_self _ _ _) (by decide) ?_)
                  show xw z NK g 77 124 [(0, .ref (z + 15)), (1, .int (bI dd)), (2, .int (nI i)), (3, .int (nAt fs (nI i))), (4, .int (nAt ga (nI i))), (5, .int (p_far pl fs ga 100 (nAt ga (nI i))))] [.int (p_l (p_folds ns2 as2 (nAt fs (nI i)) (p_far pl fs ga 100 (nAt ga (nI i)))).1 0)] (xu (xu S 26 (.inl (p_folds ns2 as2 (nAt fs (nI i)) (p_far pl fs ga 100 (nAt ga (nI i)))).1)) 28 (.inl (p_folds ns2 as2 (nAt fs (nI i)) (p_far pl fs ga 100 (nAt ga (nI i)))).2.1)) P
                  show xw z NK g 77 124 [(0, .ref (z + 15)), (1, .int (bI dd)), (2, .int (nI i)), (3, .int (nAt fs (nI i))), (4, .int (nAt ga (nI i))), (5, .int (p_far pl fs ga 100 (nAt ga (nI i))))] [.int (p_l (p_folds ns2 as2 (nAt fs (nI i)) (p_far pl fs ga 100 (nAt ga (nI i)))).1 0)] (xu (xu S 26 (.inl (p_folds ns2 as2 (nAt fs (nI i)) (p_far pl fs ga 100 (nAt ga (nI i)))).1)) 28 (.inl (p_folds ns2 as2 (nAt fs (nI i)) (p_far pl fs ga 100 (nAt ga (nI i)))).2.1)) P
                  refine xw.callS rfl rfl rfl rfl rfl (c_endsWay ?_)
                  show xw z NK g 77 127 [(0, .ref (z + 15)), (1, .int (bI dd)), (2, .int (nI i)), (3, .int (nAt fs (nI i))), (4, .int (nAt ga (nI i))), (5, .int (p_far pl fs ga 100 (nAt ga (nI i))))] [.int (bI (t_ends (p_l (p_folds ns2 as2 (nAt fs (nI i)) (p_far pl fs ga 100 (nAt ga (nI i)))).1 0)))] (xu (xu S 26 (.inl (p_folds ns2 as2 (nAt fs (nI i)) (p_far pl fs ga 100 (nAt ga (nI i)))).1)) 28 (.inl (p_folds ns2 as2 (nAt fs (nI i)) (p_far pl fs ga 100 (nAt ga (nI i)))).2.1)) P
                  refine xw.steps 3 (fun _ => rfl) ?_
                  show xw z NK g 77 12 [(0, .ref (z + 15)), (1, .int (bI (t_ends (p_l (p_folds ns2 as2 (nAt fs (nI i)) (p_far pl fs ga 100 (nAt ga (nI i)))).1 0)))), (2, .int ((nI i) + 1)), (3, .int (nAt fs (nI i))), (4, .int (nAt ga (nI i))), (5, .int (p_far pl fs ga 100 (nAt ga (nI i))))] [] (xu (xu S 26 (.inl (p_folds ns2 as2 (nAt fs (nI i)) (p_far pl fs ga 100 (nAt ga (nI i)))).1)) 28 (.inl (p_folds ns2 as2 (nAt fs (nI i)) (p_far pl fs ga 100 (nAt ga (nI i)))).2.1)) P
                  rw [nI_1]
                  refine xw.forget (lv := [(0, .ref (z + 15)), (1, .int (bI (t_ends (p_l (p_folds ns2 as2 (nAt fs (nI i)) (p_far pl fs ga 100 (nAt ga (nI i)))).1 0)))), (2, .int (nI (i + 1)))]) lk_77 (show [0, 1, 2].Nodup by decide) (show [0, 1, 2, 3, 4, 5].Nodup by decide) (List.forall_mem_cons.mpr ⟨rfl, List.forall_mem_cons.mpr ⟨rfl, List.forall_mem_cons.mpr ⟨rfl, fun _ h => absurd h List.not_mem_nil⟩⟩⟩) ?_
                  exact ih (i + 1) (by omega) _ _ _ (by have h1 := p_step_len ns2 as2 (nAt fs (nI i)) (p_far pl fs ga 100 (nAt ga (nI i))); rw [(show p_step ns2 as2 (nAt fs (nI i)) (p_far pl fs ga 100 (nAt ga (nI i))) = ((p_folds ns2 as2 (nAt fs (nI i)) (p_far pl fs ga 100 (nAt ga (nI i)))).1, (p_folds ns2 as2 (nAt fs (nI i)) (p_far pl fs ga 100 (nAt ga (nI i)))).2.1) from by unfold p_step; rw [if_pos (by assumption)])] at h1; have h2 := h1.1; dsimp only at h2; omega) (by have h1 := p_step_len ns2 as2 (nAt fs (nI i)) (p_far pl fs ga 100 (nAt ga (nI i))); rw [(show p_step ns2 as2 (nAt fs (nI i)) (p_far pl fs ga 100 (nAt ga (nI i))) = ((p_folds ns2 as2 (nAt fs (nI i)) (p_far pl fs ga 100 (nAt ga (nI i)))).1, (p_folds ns2 as2 (nAt fs (nI i)) (p_far pl fs ga 100 (nAt ga (nI i)))).2.1) from by unfold p_step; rw [if_pos (by assumption)])] at h1; have h2 := h1.2; dsimp only at h2; omega) (by rw [p_rew_go (by first | exact fun u => absurd u.1 (by assumption) | exact fun u => absurd u.2 (by assumption)) (by first | exact fun u => absurd (by assumption) u.2 | exact fun u => Bool.noConfusion (u.1.symm.trans (by assumption))) (show p_goal pl fs ga (nAt fs (nI i)) (nAt ga (nI i)) = (p_far pl fs ga 100 (nAt ga (nI i))) from by unfold p_goal; rw [if_pos (by assumption)]) (show p_step ns2 as2 (nAt fs (nI i)) (p_far pl fs ga 100 (nAt ga (nI i))) = ((p_folds ns2 as2 (nAt fs (nI i)) (p_far pl fs ga 100 (nAt ga (nI i)))).1, (p_folds ns2 as2 (nAt fs (nI i)) (p_far pl fs ga 100 (nAt ga (nI i)))).2.1) from by unfold p_step; rw [if_pos (by assumption)])] at hP; exact hP)
                · have c10 := bI_eq0 (Decidable.not_not.mp (of_decide_eq_false c10))
                  refine xw.steps 1 (fun _ => rfl) ?_
                  refine xw.getf (o := 15) rfl ((xu_ne _ _ (by decide)).trans ((xu_ne _ _ (by decide)).trans h15)) rfl ?_
                  refine xw.steps 2 (fun _ => rfl) ?_
                  show xw z NK g 77 113 [(0, .ref (z + 15)), (1, .int (bI dd)), (2, .int (nI i)), (3, .int (nAt fs (nI i))), (4, .int (nAt ga (nI i))), (5, .int (p_far pl fs ga 100 (nAt ga (nI i))))] [.int (p_far pl fs ga 100 (nAt ga (nI i))), .int (nAt fs (nI i)), .ref (z + 25)] (xu (xu S 26 (.inl (p_folds ns2 as2 (nAt fs (nI i)) (p_far pl fs ga 100 (nAt ga (nI i)))).1)) 28 (.inl (p_folds ns2 as2 (nAt fs (nI i)) (p_far pl fs ga 100 (nAt ga (nI i)))).2.1)) P
                  refine xw.callO (o := 25) rfl rfl rfl ((xu_ne _ _ (by decide)).trans ((xu_ne _ _ (by decide)).trans ht)) rfl rfl (c_Code_append ((xu_ne _ _ (by decide)).trans ((xu_ne _ _ (by decide)).trans ht)) ((xu_ne _ _ (by decide)).trans (xu_self _ _ _)) (xu_self _ _ _) (by decide) (by have h1 := p_folds_len ns2 as2 (nAt fs (nI i)) (p_far pl fs ga 100 (nAt ga (nI i))); omega) (by have h1 := p_folds_len ns2 as2 (nAt fs (nI i)) (p_far pl fs ga 100 (nAt ga (nI i))); omega) ?_)
                  show xw z NK g 77 116 [(0, .ref (z + 15)), (1, .int (bI dd)), (2, .int (nI i)), (3, .int (nAt fs (nI i))), (4, .int (nAt ga (nI i))), (5, .int (p_far pl fs ga 100 (nAt ga (nI i))))] [] (xu (xu (xu (xu S 26 (.inl (p_folds ns2 as2 (nAt fs (nI i)) (p_far pl fs ga 100 (nAt ga (nI i)))).1)) 28 (.inl (p_folds ns2 as2 (nAt fs (nI i)) (p_far pl fs ga 100 (nAt ga (nI i)))).2.1)) 26 (.inl ((p_folds ns2 as2 (nAt fs (nI i)) (p_far pl fs ga 100 (nAt ga (nI i)))).1 ++ [(nAt fs (nI i))]))) 28 (.inl ((p_folds ns2 as2 (nAt fs (nI i)) (p_far pl fs ga 100 (nAt ga (nI i)))).2.1 ++ [(p_far pl fs ga 100 (nAt ga (nI i)))]))) P
                  rw [xu4 _ (show (26 : Nat) ≠ 28 by decide)]
                  refine xw.steps 1 (fun _ => rfl) ?_
                  refine xw.getf (o := 15) rfl ((xu_ne _ _ (by decide)).trans ((xu_ne _ _ (by decide)).trans h15)) rfl ?_
                  refine xw.steps 1 (fun _ => rfl) ?_
                  show xw z NK g 77 121 [(0, .ref (z + 15)), (1, .int (bI dd)), (2, .int (nI i)), (3, .int (nAt fs (nI i))), (4, .int (nAt ga (nI i))), (5, .int (p_far pl fs ga 100 (nAt ga (nI i))))] [.int 0, .ref (z + 25)] (xu (xu S 26 (.inl ((p_folds ns2 as2 (nAt fs (nI i)) (p_far pl fs ga 100 (nAt ga (nI i)))).1 ++ [(nAt fs (nI i))]))) 28 (.inl ((p_folds ns2 as2 (nAt fs (nI i)) (p_far pl fs ga 100 (nAt ga (nI i)))).2.1 ++ [(p_far pl fs ga 100 (nAt ga (nI i)))]))) P
                  refine xw.callO (o := 25) rfl rfl rfl ((xu_ne _ _ (by decide)).trans ((xu_ne _ _ (by decide)).trans ht)) rfl rfl (c_Code_lastNumber ((xu_ne _ _ (by decide)).trans ((xu_ne _ _ (by decide)).trans ht)) ((xu_ne _ _ (by decide)).trans (xu_self _ _ _)) (xu_self _ _ _) (by decide) ?_)
                  show xw z NK g 77 124 [(0, .ref (z + 15)), (1, .int (bI dd)), (2, .int (nI i)), (3, .int (nAt fs (nI i))), (4, .int (nAt ga (nI i))), (5, .int (p_far pl fs ga 100 (nAt ga (nI i))))] [.int (p_l ((p_folds ns2 as2 (nAt fs (nI i)) (p_far pl fs ga 100 (nAt ga (nI i)))).1 ++ [(nAt fs (nI i))]) 0)] (xu (xu S 26 (.inl ((p_folds ns2 as2 (nAt fs (nI i)) (p_far pl fs ga 100 (nAt ga (nI i)))).1 ++ [(nAt fs (nI i))]))) 28 (.inl ((p_folds ns2 as2 (nAt fs (nI i)) (p_far pl fs ga 100 (nAt ga (nI i)))).2.1 ++ [(p_far pl fs ga 100 (nAt ga (nI i)))]))) P
                  show xw z NK g 77 124 [(0, .ref (z + 15)), (1, .int (bI dd)), (2, .int (nI i)), (3, .int (nAt fs (nI i))), (4, .int (nAt ga (nI i))), (5, .int (p_far pl fs ga 100 (nAt ga (nI i))))] [.int (p_l ((p_folds ns2 as2 (nAt fs (nI i)) (p_far pl fs ga 100 (nAt ga (nI i)))).1 ++ [(nAt fs (nI i))]) 0)] (xu (xu S 26 (.inl ((p_folds ns2 as2 (nAt fs (nI i)) (p_far pl fs ga 100 (nAt ga (nI i)))).1 ++ [(nAt fs (nI i))]))) 28 (.inl ((p_folds ns2 as2 (nAt fs (nI i)) (p_far pl fs ga 100 (nAt ga (nI i)))).2.1 ++ [(p_far pl fs ga 100 (nAt ga (nI i)))]))) P
                  refine xw.callS rfl rfl rfl rfl rfl (c_endsWay ?_)
                  show xw z NK g 77 127 [(0, .ref (z + 15)), (1, .int (bI dd)), (2, .int (nI i)), (3, .int (nAt fs (nI i))), (4, .int (nAt ga (nI i))), (5, .int (p_far pl fs ga 100 (nAt ga (nI i))))] [.int (bI (t_ends (p_l ((p_folds ns2 as2 (nAt fs (nI i)) (p_far pl fs ga 100 (nAt ga (nI i)))).1 ++ [(nAt fs (nI i))]) 0)))] (xu (xu S 26 (.inl ((p_folds ns2 as2 (nAt fs (nI i)) (p_far pl fs ga 100 (nAt ga (nI i)))).1 ++ [(nAt fs (nI i))]))) 28 (.inl ((p_folds ns2 as2 (nAt fs (nI i)) (p_far pl fs ga 100 (nAt ga (nI i)))).2.1 ++ [(p_far pl fs ga 100 (nAt ga (nI i)))]))) P
                  refine xw.steps 3 (fun _ => rfl) ?_
                  show xw z NK g 77 12 [(0, .ref (z + 15)), (1, .int (bI (t_ends (p_l ((p_folds ns2 as2 (nAt fs (nI i)) (p_far pl fs ga 100 (nAt ga (nI i)))).1 ++ [(nAt fs (nI i))]) 0)))), (2, .int ((nI i) + 1)), (3, .int (nAt fs (nI i))), (4, .int (nAt ga (nI i))), (5, .int (p_far pl fs ga 100 (nAt ga (nI i))))] [] (xu (xu S 26 (.inl ((p_folds ns2 as2 (nAt fs (nI i)) (p_far pl fs ga 100 (nAt ga (nI i)))).1 ++ [(nAt fs (nI i))]))) 28 (.inl ((p_folds ns2 as2 (nAt fs (nI i)) (p_far pl fs ga 100 (nAt ga (nI i)))).2.1 ++ [(p_far pl fs ga 100 (nAt ga (nI i)))]))) P
                  rw [nI_1]
                  refine xw.forget (lv := [(0, .ref (z + 15)), (1, .int (bI (t_ends (p_l ((p_folds ns2 as2 (nAt fs (nI i)) (p_far pl fs ga 100 (nAt ga (nI i)))).1 ++ [(nAt fs (nI i))]) 0)))), (2, .int (nI (i + 1)))]) lk_77 (show [0, 1, 2].Nodup by decide) (show [0, 1, 2, 3, 4, 5].Nodup by decide) (List.forall_mem_cons.mpr ⟨rfl, List.forall_mem_cons.mpr ⟨rfl, List.forall_mem_cons.mpr ⟨rfl, fun _ h => absurd h List.not_mem_nil⟩⟩⟩) ?_
                  exact ih (i + 1) (by omega) _ _ _ (by have h1 := p_step_len ns2 as2 (nAt fs (nI i)) (p_far pl fs ga 100 (nAt ga (nI i))); rw [(show p_step ns2 as2 (nAt fs (nI i)) (p_far pl fs ga 100 (nAt ga (nI i))) = (((p_folds ns2 as2 (nAt fs (nI i)) (p_far pl fs ga 100 (nAt ga (nI i)))).1 ++ [(nAt fs (nI i))]), ((p_folds ns2 as2 (nAt fs (nI i)) (p_far pl fs ga 100 (nAt ga (nI i)))).2.1 ++ [(p_far pl fs ga 100 (nAt ga (nI i)))])) from by unfold p_step; rw [if_neg (by rw [(by assumption : (p_folds ns2 as2 (nAt fs (nI i)) (p_far pl fs ga 100 (nAt ga (nI i)))).2.2 = false)]; decide)])] at h1; have h2 := h1.1; dsimp only at h2; omega) (by have h1 := p_step_len ns2 as2 (nAt fs (nI i)) (p_far pl fs ga 100 (nAt ga (nI i))); rw [(show p_step ns2 as2 (nAt fs (nI i)) (p_far pl fs ga 100 (nAt ga (nI i))) = (((p_folds ns2 as2 (nAt fs (nI i)) (p_far pl fs ga 100 (nAt ga (nI i)))).1 ++ [(nAt fs (nI i))]), ((p_folds ns2 as2 (nAt fs (nI i)) (p_far pl fs ga 100 (nAt ga (nI i)))).2.1 ++ [(p_far pl fs ga 100 (nAt ga (nI i)))])) from by unfold p_step; rw [if_neg (by rw [(by assumption : (p_folds ns2 as2 (nAt fs (nI i)) (p_far pl fs ga 100 (nAt ga (nI i)))).2.2 = false)]; decide)])] at h1; have h2 := h1.2; dsimp only at h2; omega) (by rw [p_rew_go (by first | exact fun u => absurd u.1 (by assumption) | exact fun u => absurd u.2 (by assumption)) (by first | exact fun u => absurd (by assumption) u.2 | exact fun u => Bool.noConfusion (u.1.symm.trans (by assumption))) (show p_goal pl fs ga (nAt fs (nI i)) (nAt ga (nI i)) = (p_far pl fs ga 100 (nAt ga (nI i))) from by unfold p_goal; rw [if_pos (by assumption)]) (show p_step ns2 as2 (nAt fs (nI i)) (p_far pl fs ga 100 (nAt ga (nI i))) = (((p_folds ns2 as2 (nAt fs (nI i)) (p_far pl fs ga 100 (nAt ga (nI i)))).1 ++ [(nAt fs (nI i))]), ((p_folds ns2 as2 (nAt fs (nI i)) (p_far pl fs ga 100 (nAt ga (nI i)))).2.1 ++ [(p_far pl fs ga 100 (nAt ga (nI i)))])) from by unfold p_step; rw [if_neg (by rw [(by assumption : (p_folds ns2 as2 (nAt fs (nI i)) (p_far pl fs ga 100 (nAt ga (nI i)))).2.2 = false)]; decide)])] at hP; exact hP)
            · have c7 := of_decide_eq_false c7
              refine xw.steps 3 (fun _ => rfl) ?_
              show xw z NK g 77 12 [(0, .ref (z + 15)), (1, .int (bI dd)), (2, .int ((nI i) + 1)), (3, .int (nAt fs (nI i))), (4, .int (nAt ga (nI i)))] [] (xu (xu S 26 (.inl ns2)) 28 (.inl as2)) P
              rw [nI_1]
              refine xw.forget (lv := [(0, .ref (z + 15)), (1, .int (bI dd)), (2, .int (nI (i + 1)))]) lk_77 (show [0, 1, 2].Nodup by decide) (show [0, 1, 2, 3, 4].Nodup by decide) (List.forall_mem_cons.mpr ⟨rfl, List.forall_mem_cons.mpr ⟨rfl, List.forall_mem_cons.mpr ⟨rfl, fun _ h => absurd h List.not_mem_nil⟩⟩⟩) ?_
              exact ih (i + 1) (by omega) _ _ _ (by omega) (by omega) (by rw [p_rew_skip (by first | exact Or.inl ⟨by assumption, by assumption⟩ | exact Or.inr ⟨by assumption, by assumption⟩)] at hP; exact hP)
        · have c2 := Decidable.not_not.mp (of_decide_eq_false c2)
          refine xw.steps 1 (fun _ => rfl) ?_
          refine xw.getf (o := 15) rfl ((xu_ne _ _ (by decide)).trans ((xu_ne _ _ (by decide)).trans h15)) rfl ?_
          refine xw.steps 1 (fun _ => rfl) ?_
          show xw z NK g 77 54 [(0, .ref (z + 15)), (1, .int (bI dd)), (2, .int (nI i)), (3, .int (nAt fs (nI i))), (4, .int (nAt ga (nI i)))] [.int (nAt ga (nI i)), .ref (z + 18)] (xu (xu S 26 (.inl ns2)) 28 (.inl as2)) P
          refine xw.callN (o := 18) rfl rfl rfl ((xu_ne _ _ (by decide)).trans ((xu_ne _ _ (by decide)).trans h18)) rfl rfl (c_at ((xu_ne _ _ (by decide)).trans ((xu_ne _ _ (by decide)).trans h18)) ?_)
          show xw z NK g 77 57 [(0, .ref (z + 15)), (1, .int (bI dd)), (2, .int (nI i)), (3, .int (nAt fs (nI i))), (4, .int (nAt ga (nI i)))] [.int (nAt us (nAt ga (nI i)))] (xu (xu S 26 (.inl ns2)) 28 (.inl as2)) P
          refine xw.if_ rfl (fun c11 => ?_) (fun c11 => ?_)
          · have c11 := of_decide_eq_true c11
            refine xw.steps 1 (fun _ => rfl) ?_
            refine xw.if_ rfl (fun c12 => ?_) (fun c12 => ?_)
            · have c12 := bI_eq0 (of_decide_eq_true c12)
              refine xw.steps 1 (fun _ => rfl) ?_
              show xw z NK g 77 77 [(0, .ref (z + 15)), (1, .int (bI dd)), (2, .int (nI i)), (3, .int (nAt fs (nI i))), (4, .int (nAt ga (nI i)))] [.int (nAt fs (nI i))] (xu (xu S 26 (.inl ns2)) 28 (.inl as2)) P
              refine xw.callS rfl rfl rfl rfl rfl (c_goesToLabel ?_)
              show xw z NK g 77 80 [(0, .ref (z + 15)), (1, .int (bI dd)), (2, .int (nI i)), (3, .int (nAt fs (nI i))), (4, .int (nAt ga (nI i)))] [.int (bI (t_goes (nAt fs (nI i))))] (xu (xu S 26 (.inl ns2)) 28 (.inl as2)) P
              refine xw.if_ rfl (fun c13 => ?_) (fun c13 => ?_)
              · have c13 := bI_eq0 (of_decide_eq_true c13)
                refine xw.steps 5 (fun _ => rfl) ?_
                show xw z NK g 77 100 [(0, .ref (z + 15)), (1, .int (bI dd)), (2, .int (nI i)), (3, .int (nAt fs (nI i))), (4, .int (nAt ga (nI i))), (5, .int (nAt ga (nI i)))] [.int (nAt ga (nI i)), .int (nAt fs (nI i)), .ref (z + 15)] (xu (xu S 26 (.inl ns2)) 28 (.inl as2)) P
                refine xw.callO (o := 15) rfl rfl rfl ((xu_ne _ _ (by decide)).trans ((xu_ne _ _ (by decide)).trans h15)) rfl rfl (c_folds_A ⟨((xu_ne _ _ (by decide)).trans ((xu_ne _ _ (by decide)).trans h15)), ((xu_ne _ _ (by decide)).trans ((xu_ne _ _ (by decide)).trans h16)), ((xu_ne _ _ (by decide)).trans ((xu_ne _ _ (by decide)).trans h18)), ((xu_ne _ _ (by decide)).trans ((xu_ne _ _ (by decide)).trans hf)), ((xu_ne _ _ (by decide)).trans ((xu_ne _ _ (by decide)).trans hfn)), ((xu_ne _ _ (by decide)).trans ((xu_ne _ _ (by decide)).trans hfa)), ((xu_ne _ _ (by decide)).trans ((xu_ne _ _ (by decide)).trans ht)), ((xu_ne _ _ (by decide)).trans (xu_self _ _ _)), (xu_self _ _ _)⟩ (by omega) (by omega) ?_)
                show xw z NK g 77 103 [(0, .ref (z + 15)), (1, .int (bI dd)), (2, .int (nI i)), (3, .int (nAt fs (nI i))), (4, .int (nAt ga (nI i))), (5, .int (nAt ga (nI i)))] [.int (bI (p_folds ns2 as2 (nAt fs (nI i)) (nAt ga (nI i))).2.2)] (xu (xu (xu (xu S 26 (.inl ns2)) 28 (.inl as2)) 26 (.inl (p_folds ns2 as2 (nAt fs (nI i)) (nAt ga (nI i))).1)) 28 (.inl (p_folds ns2 as2 (nAt fs (nI i)) (nAt ga (nI i))).2.1)) P
                rw [xu4 _ (show (26 : Nat) ≠ 28 by decide)]
                refine xw.if_ rfl (fun c14 => ?_) (fun c14 => ?_)
                · have c14 := bI_ne0 (of_decide_eq_true c14)
                  refine xw.steps 1 (fun _ => rfl) ?_
                  refine xw.getf (o := 15) rfl ((xu_ne _ _ (by decide)).trans ((xu_ne _ _ (by decide)).trans h15)) rfl ?_
                  refine xw.steps 1 (fun _ => rfl) ?_
                  show xw z NK g 77 121 [(0, .ref (z + 15)), (1, .int (bI dd)), (2, .int (nI i)), (3, .int (nAt fs (nI i))), (4, .int (nAt ga (nI i))), (5, .int (nAt ga (nI i)))] [.int 0, .ref (z + 25)] (xu (xu S 26 (.inl (p_folds ns2 as2 (nAt fs (nI i)) (nAt ga (nI i))).1)) 28 (.inl (p_folds ns2 as2 (nAt fs (nI i)) (nAt ga (nI i))).2.1)) P
                  refine xw.callO (o := 25) rfl rfl rfl ((xu_ne _ _ (by decide)).trans ((xu_ne _ _ (by decide)).trans ht)) rfl rfl (c_Code_lastNumber ((xu_ne _ _ (by decide)).trans ((xu_ne _ _ (by decide)).trans ht)) ((xu_ne _ _ (by decide)).trans (xu_self _ _ _)) (xu_self _ _ _) (by decide) ?_)
                  show xw z NK g 77 124 [(0, .ref (z + 15)), (1, .int (bI dd)), (2, .int (nI i)), (3, .int (nAt fs (nI i))), (4, .int (nAt ga (nI i))), (5, .int (nAt ga (nI i)))] [.int (p_l (p_folds ns2 as2 (nAt fs (nI i)) (nAt ga (nI i))).1 0)] (xu (xu S 26 (.inl (p_folds ns2 as2 (nAt fs (nI i)) (nAt ga (nI i))).1)) 28 (.inl (p_folds ns2 as2 (nAt fs (nI i)) (nAt ga (nI i))).2.1)) P
                  show xw z NK g 77 124 [(0, .ref (z + 15)), (1, .int (bI dd)), (2, .int (nI i)), (3, .int (nAt fs (nI i))), (4, .int (nAt ga (nI i))), (5, .int (nAt ga (nI i)))] [.int (p_l (p_folds ns2 as2 (nAt fs (nI i)) (nAt ga (nI i))).1 0)] (xu (xu S 26 (.inl (p_folds ns2 as2 (nAt fs (nI i)) (nAt ga (nI i))).1)) 28 (.inl (p_folds ns2 as2 (nAt fs (nI i)) (nAt ga (nI i))).2.1)) P
                  refine xw.callS rfl rfl rfl rfl rfl (c_endsWay ?_)
                  show xw z NK g 77 127 [(0, .ref (z + 15)), (1, .int (bI dd)), (2, .int (nI i)), (3, .int (nAt fs (nI i))), (4, .int (nAt ga (nI i))), (5, .int (nAt ga (nI i)))] [.int (bI (t_ends (p_l (p_folds ns2 as2 (nAt fs (nI i)) (nAt ga (nI i))).1 0)))] (xu (xu S 26 (.inl (p_folds ns2 as2 (nAt fs (nI i)) (nAt ga (nI i))).1)) 28 (.inl (p_folds ns2 as2 (nAt fs (nI i)) (nAt ga (nI i))).2.1)) P
                  refine xw.steps 3 (fun _ => rfl) ?_
                  show xw z NK g 77 12 [(0, .ref (z + 15)), (1, .int (bI (t_ends (p_l (p_folds ns2 as2 (nAt fs (nI i)) (nAt ga (nI i))).1 0)))), (2, .int ((nI i) + 1)), (3, .int (nAt fs (nI i))), (4, .int (nAt ga (nI i))), (5, .int (nAt ga (nI i)))] [] (xu (xu S 26 (.inl (p_folds ns2 as2 (nAt fs (nI i)) (nAt ga (nI i))).1)) 28 (.inl (p_folds ns2 as2 (nAt fs (nI i)) (nAt ga (nI i))).2.1)) P
                  rw [nI_1]
                  refine xw.forget (lv := [(0, .ref (z + 15)), (1, .int (bI (t_ends (p_l (p_folds ns2 as2 (nAt fs (nI i)) (nAt ga (nI i))).1 0)))), (2, .int (nI (i + 1)))]) lk_77 (show [0, 1, 2].Nodup by decide) (show [0, 1, 2, 3, 4, 5].Nodup by decide) (List.forall_mem_cons.mpr ⟨rfl, List.forall_mem_cons.mpr ⟨rfl, List.forall_mem_cons.mpr ⟨rfl, fun _ h => absurd h List.not_mem_nil⟩⟩⟩) ?_
                  exact ih (i + 1) (by omega) _ _ _ (by have h1 := p_step_len ns2 as2 (nAt fs (nI i)) (nAt ga (nI i)); rw [(show p_step ns2 as2 (nAt fs (nI i)) (nAt ga (nI i)) = ((p_folds ns2 as2 (nAt fs (nI i)) (nAt ga (nI i))).1, (p_folds ns2 as2 (nAt fs (nI i)) (nAt ga (nI i))).2.1) from by unfold p_step; rw [if_pos (by assumption)])] at h1; have h2 := h1.1; dsimp only at h2; omega) (by have h1 := p_step_len ns2 as2 (nAt fs (nI i)) (nAt ga (nI i)); rw [(show p_step ns2 as2 (nAt fs (nI i)) (nAt ga (nI i)) = ((p_folds ns2 as2 (nAt fs (nI i)) (nAt ga (nI i))).1, (p_folds ns2 as2 (nAt fs (nI i)) (nAt ga (nI i))).2.1) from by unfold p_step; rw [if_pos (by assumption)])] at h1; have h2 := h1.2; dsimp only at h2; omega) (by rw [p_rew_go (by first | exact fun u => absurd u.1 (by assumption) | exact fun u => absurd u.2 (by assumption)) (by first | exact fun u => absurd (by assumption) u.2 | exact fun u => Bool.noConfusion (u.1.symm.trans (by assumption))) (show p_goal pl fs ga (nAt fs (nI i)) (nAt ga (nI i)) = (nAt ga (nI i)) from by unfold p_goal; rw [if_neg (by rw [(by assumption : t_goes (nAt fs (nI i)) = false)]; decide)]) (show p_step ns2 as2 (nAt fs (nI i)) (nAt ga (nI i)) = ((p_folds ns2 as2 (nAt fs (nI i)) (nAt ga (nI i))).1, (p_folds ns2 as2 (nAt fs (nI i)) (nAt ga (nI i))).2.1) from by unfold p_step; rw [if_pos (by assumption)])] at hP; exact hP)
                · have c14 := bI_eq0 (Decidable.not_not.mp (of_decide_eq_false c14))
                  refine xw.steps 1 (fun _ => rfl) ?_
                  refine xw.getf (o := 15) rfl ((xu_ne _ _ (by decide)).trans ((xu_ne _ _ (by decide)).trans h15)) rfl ?_
                  refine xw.steps 2 (fun _ => rfl) ?_
                  show xw z NK g 77 113 [(0, .ref (z + 15)), (1, .int (bI dd)), (2, .int (nI i)), (3, .int (nAt fs (nI i))), (4, .int (nAt ga (nI i))), (5, .int (nAt ga (nI i)))] [.int (nAt ga (nI i)), .int (nAt fs (nI i)), .ref (z + 25)] (xu (xu S 26 (.inl (p_folds ns2 as2 (nAt fs (nI i)) (nAt ga (nI i))).1)) 28 (.inl (p_folds ns2 as2 (nAt fs (nI i)) (nAt ga (nI i))).2.1)) P
                  refine xw.callO (o := 25) rfl rfl rfl ((xu_ne _ _ (by decide)).trans ((xu_ne _ _ (by decide)).trans ht)) rfl rfl (c_Code_append ((xu_ne _ _ (by decide)).trans ((xu_ne _ _ (by decide)).trans ht)) ((xu_ne _ _ (by decide)).trans (xu_self _ _ _)) (xu_self _ _ _) (by decide) (by have h1 := p_folds_len ns2 as2 (nAt fs (nI i)) (nAt ga (nI i)); omega) (by have h1 := p_folds_len ns2 as2 (nAt fs (nI i)) (nAt ga (nI i)); omega) ?_)
                  show xw z NK g 77 116 [(0, .ref (z + 15)), (1, .int (bI dd)), (2, .int (nI i)), (3, .int (nAt fs (nI i))), (4, .int (nAt ga (nI i))), (5, .int (nAt ga (nI i)))] [] (xu (xu (xu (xu S 26 (.inl (p_folds ns2 as2 (nAt fs (nI i)) (nAt ga (nI i))).1)) 28 (.inl (p_folds ns2 as2 (nAt fs (nI i)) (nAt ga (nI i))).2.1)) 26 (.inl ((p_folds ns2 as2 (nAt fs (nI i)) (nAt ga (nI i))).1 ++ [(nAt fs (nI i))]))) 28 (.inl ((p_folds ns2 as2 (nAt fs (nI i)) (nAt ga (nI i))).2.1 ++ [(nAt ga (nI i))]))) P
                  rw [xu4 _ (show (26 : Nat) ≠ 28 by decide)]
                  refine xw.steps 1 (fun _ => rfl) ?_
                  refine xw.getf (o := 15) rfl ((xu_ne _ _ (by decide)).trans ((xu_ne _ _ (by decide)).trans h15)) rfl ?_
                  refine xw.steps 1 (fun _ => rfl) ?_
                  show xw z NK g 77 121 [(0, .ref (z + 15)), (1, .int (bI dd)), (2, .int (nI i)), (3, .int (nAt fs (nI i))), (4, .int (nAt ga (nI i))), (5, .int (nAt ga (nI i)))] [.int 0, .ref (z + 25)] (xu (xu S 26 (.inl ((p_folds ns2 as2 (nAt fs (nI i)) (nAt ga (nI i))).1 ++ [(nAt fs (nI i))]))) 28 (.inl ((p_folds ns2 as2 (nAt fs (nI i)) (nAt ga (nI i))).2.1 ++ [(nAt ga (nI i))]))) P
                  refine xw.callO (o := 25) rfl rfl rfl ((xu_ne _ _ (by decide)).trans ((xu_ne _ _ (by decide)).trans ht)) rfl rfl (c_Code_lastNumber ((xu_ne _ _ (by decide)).trans ((xu_ne _ _ (by decide)).trans ht)) ((xu_ne _ _ (by decide)).trans (xu_self _ _ _)) (xu_self _ _ _) (by decide) ?_)
                  show xw z NK g 77 124 [(0, .ref (z + 15)), (1, .int (bI dd)), (2, .int (nI i)), (3, .int (nAt fs (nI i))), (4, .int (nAt ga (nI i))), (5, .int (nAt ga (nI i)))] [.int (p_l ((p_folds ns2 as2 (nAt fs (nI i)) (nAt ga (nI i))).1 ++ [(nAt fs (nI i))]) 0)] (xu (xu S 26 (.inl ((p_folds ns2 as2 (nAt fs (nI i)) (nAt ga (nI i))).1 ++ [(nAt fs (nI i))]))) 28 (.inl ((p_folds ns2 as2 (nAt fs (nI i)) (nAt ga (nI i))).2.1 ++ [(nAt ga (nI i))]))) P
                  show xw z NK g 77 124 [(0, .ref (z + 15)), (1, .int (bI dd)), (2, .int (nI i)), (3, .int (nAt fs (nI i))), (4, .int (nAt ga (nI i))), (5, .int (nAt ga (nI i)))] [.int (p_l ((p_folds ns2 as2 (nAt fs (nI i)) (nAt ga (nI i))).1 ++ [(nAt fs (nI i))]) 0)] (xu (xu S 26 (.inl ((p_folds ns2 as2 (nAt fs (nI i)) (nAt ga (nI i))).1 ++ [(nAt fs (nI i))]))) 28 (.inl ((p_folds ns2 as2 (nAt fs (nI i)) (nAt ga (nI i))).2.1 ++ [(nAt ga (nI i))]))) P
                  refine xw.callS rfl rfl rfl rfl rfl (c_endsWay ?_)
                  show xw z NK g 77 127 [(0, .ref (z + 15)), (1, .int (bI dd)), (2, .int (nI i)), (3, .int (nAt fs (nI i))), (4, .int (nAt ga (nI i))), (5, .int (nAt ga (nI i)))] [.int (bI (t_ends (p_l ((p_folds ns2 as2 (nAt fs (nI i)) (nAt ga (nI i))).1 ++ [(nAt fs (nI i))]) 0)))] (xu (xu S 26 (.inl ((p_folds ns2 as2 (nAt fs (nI i)) (nAt ga (nI i))).1 ++ [(nAt fs (nI i))]))) 28 (.inl ((p_folds ns2 as2 (nAt fs (nI i)) (nAt ga (nI i))).2.1 ++ [(nAt ga (nI i))]))) P
                  refine xw.steps 3 (fun _ => rfl) ?_
                  show xw z NK g 77 12 [(0, .ref (z + 15)), (1, .int (bI (t_ends (p_l ((p_folds ns2 as2 (nAt fs (nI i)) (nAt ga (nI i))).1 ++ [(nAt fs (nI i))]) 0)))), (2, .int ((nI i) + 1)), (3, .int (nAt fs (nI i))), (4, .int (nAt ga (nI i))), (5, .int (nAt ga (nI i)))] [] (xu (xu S 26 (.inl ((p_folds ns2 as2 (nAt fs (nI i)) (nAt ga (nI i))).1 ++ [(nAt fs (nI i))]))) 28 (.inl ((p_folds ns2 as2 (nAt fs (nI i)) (nAt ga (nI i))).2.1 ++ [(nAt ga (nI i))]))) P
                  rw [nI_1]
                  refine xw.forget (lv := [(0, .ref (z + 15)), (1, .int (bI (t_ends (p_l ((p_folds ns2 as2 (nAt fs (nI i)) (nAt ga (nI i))).1 ++ [(nAt fs (nI i))]) 0)))), (2, .int (nI (i + 1)))]) lk_77 (show [0, 1, 2].Nodup by decide) (show [0, 1, 2, 3, 4, 5].Nodup by decide) (List.forall_mem_cons.mpr ⟨rfl, List.forall_mem_cons.mpr ⟨rfl, List.forall_mem_cons.mpr ⟨rfl, fun _ h => absurd h List.not_mem_nil⟩⟩⟩) ?_
                  exact ih (i + 1) (by omega) _ _ _ (by have h1 := p_step_len ns2 as2 (nAt fs (nI i)) (nAt ga (nI i)); rw [(show p_step ns2 as2 (nAt fs (nI i)) (nAt ga (nI i)) = (((p_folds ns2 as2 (nAt fs (nI i)) (nAt ga (nI i))).1 ++ [(nAt fs (nI i))]), ((p_folds ns2 as2 (nAt fs (nI i)) (nAt ga (nI i))).2.1 ++ [(nAt ga (nI i))])) from by unfold p_step; rw [if_neg (by rw [(by assumption : (p_folds ns2 as2 (nAt fs (nI i)) (nAt ga (nI i))).2.2 = false)]; decide)])] at h1; have h2 := h1.1; dsimp only at h2; omega) (by have h1 := p_step_len ns2 as2 (nAt fs (nI i)) (nAt ga (nI i)); rw [(show p_step ns2 as2 (nAt fs (nI i)) (nAt ga (nI i)) = (((p_folds ns2 as2 (nAt fs (nI i)) (nAt ga (nI i))).1 ++ [(nAt fs (nI i))]), ((p_folds ns2 as2 (nAt fs (nI i)) (nAt ga (nI i))).2.1 ++ [(nAt ga (nI i))])) from by unfold p_step; rw [if_neg (by rw [(by assumption : (p_folds ns2 as2 (nAt fs (nI i)) (nAt ga (nI i))).2.2 = false)]; decide)])] at h1; have h2 := h1.2; dsimp only at h2; omega) (by rw [p_rew_go (by first | exact fun u => absurd u.1 (by assumption) | exact fun u => absurd u.2 (by assumption)) (by first | exact fun u => absurd (by assumption) u.2 | exact fun u => Bool.noConfusion (u.1.symm.trans (by assumption))) (show p_goal pl fs ga (nAt fs (nI i)) (nAt ga (nI i)) = (nAt ga (nI i)) from by unfold p_goal; rw [if_neg (by rw [(by assumption : t_goes (nAt fs (nI i)) = false)]; decide)]) (show p_step ns2 as2 (nAt fs (nI i)) (nAt ga (nI i)) = (((p_folds ns2 as2 (nAt fs (nI i)) (nAt ga (nI i))).1 ++ [(nAt fs (nI i))]), ((p_folds ns2 as2 (nAt fs (nI i)) (nAt ga (nI i))).2.1 ++ [(nAt ga (nI i))])) from by unfold p_step; rw [if_neg (by rw [(by assumption : (p_folds ns2 as2 (nAt fs (nI i)) (nAt ga (nI i))).2.2 = false)]; decide)])] at hP; exact hP)
              · have c13 := bI_ne0 (of_decide_eq_false c13)
                refine xw.steps 2 (fun _ => rfl) ?_
                show xw z NK g 77 86 [(0, .ref (z + 15)), (1, .int (bI dd)), (2, .int (nI i)), (3, .int (nAt fs (nI i))), (4, .int (nAt ga (nI i)))] [.int (nAt ga (nI i)), .ref (z + 15)] (xu (xu S 26 (.inl ns2)) 28 (.inl as2)) P
                refine xw.callO (o := 15) rfl rfl rfl ((xu_ne _ _ (by decide)).trans ((xu_ne _ _ (by decide)).trans h15)) rfl rfl (c_far_A ⟨((xu_ne _ _ (by decide)).trans ((xu_ne _ _ (by decide)).trans h15)), ((xu_ne _ _ (by decide)).trans ((xu_ne _ _ (by decide)).trans h16)), ((xu_ne _ _ (by decide)).trans ((xu_ne _ _ (by decide)).trans h18)), ((xu_ne _ _ (by decide)).trans ((xu_ne _ _ (by decide)).trans hf)), ((xu_ne _ _ (by decide)).trans ((xu_ne _ _ (by decide)).trans hfn)), ((xu_ne _ _ (by decide)).trans ((xu_ne _ _ (by decide)).trans hfa)), ((xu_ne _ _ (by decide)).trans ((xu_ne _ _ (by decide)).trans ht)), ((xu_ne _ _ (by decide)).trans (xu_self _ _ _)), (xu_self _ _ _)⟩ ?_)
                show xw z NK g 77 89 [(0, .ref (z + 15)), (1, .int (bI dd)), (2, .int (nI i)), (3, .int (nAt fs (nI i))), (4, .int (nAt ga (nI i)))] [.int (p_far pl fs ga 100 (nAt ga (nI i)))] (xu (xu S 26 (.inl ns2)) 28 (.inl as2)) P
                refine xw.steps 5 (fun _ => rfl) ?_
                show xw z NK g 77 100 [(0, .ref (z + 15)), (1, .int (bI dd)), (2, .int (nI i)), (3, .int (nAt fs (nI i))), (4, .int (nAt ga (nI i))), (5, .int (p_far pl fs ga 100 (nAt ga (nI i))))] [.int (p_far pl fs ga 100 (nAt ga (nI i))), .int (nAt fs (nI i)), .ref (z + 15)] (xu (xu S 26 (.inl ns2)) 28 (.inl as2)) P
                refine xw.callO (o := 15) rfl rfl rfl ((xu_ne _ _ (by decide)).trans ((xu_ne _ _ (by decide)).trans h15)) rfl rfl (c_folds_A ⟨((xu_ne _ _ (by decide)).trans ((xu_ne _ _ (by decide)).trans h15)), ((xu_ne _ _ (by decide)).trans ((xu_ne _ _ (by decide)).trans h16)), ((xu_ne _ _ (by decide)).trans ((xu_ne _ _ (by decide)).trans h18)), ((xu_ne _ _ (by decide)).trans ((xu_ne _ _ (by decide)).trans hf)), ((xu_ne _ _ (by decide)).trans ((xu_ne _ _ (by decide)).trans hfn)), ((xu_ne _ _ (by decide)).trans ((xu_ne _ _ (by decide)).trans hfa)), ((xu_ne _ _ (by decide)).trans ((xu_ne _ _ (by decide)).trans ht)), ((xu_ne _ _ (by decide)).trans (xu_self _ _ _)), (xu_self _ _ _)⟩ (by omega) (by omega) ?_)
                show xw z NK g 77 103 [(0, .ref (z + 15)), (1, .int (bI dd)), (2, .int (nI i)), (3, .int (nAt fs (nI i))), (4, .int (nAt ga (nI i))), (5, .int (p_far pl fs ga 100 (nAt ga (nI i))))] [.int (bI (p_folds ns2 as2 (nAt fs (nI i)) (p_far pl fs ga 100 (nAt ga (nI i)))).2.2)] (xu (xu (xu (xu S 26 (.inl ns2)) 28 (.inl as2)) 26 (.inl (p_folds ns2 as2 (nAt fs (nI i)) (p_far pl fs ga 100 (nAt ga (nI i)))).1)) 28 (.inl (p_folds ns2 as2 (nAt fs (nI i)) (p_far pl fs ga 100 (nAt ga (nI i)))).2.1)) P
                rw [xu4 _ (show (26 : Nat) ≠ 28 by decide)]
                refine xw.if_ rfl (fun c15 => ?_) (fun c15 => ?_)
                · have c15 := bI_ne0 (of_decide_eq_true c15)
                  refine xw.steps 1 (fun _ => rfl) ?_
                  refine xw.getf (o := 15) rfl ((xu_ne _ _ (by decide)).trans ((xu_ne _ _ (by decide)).trans h15)) rfl ?_
                  refine xw.steps 1 (fun _ => rfl) ?_
                  show xw z NK g 77 121 [(0, .ref (z + 15)), (1, .int (bI dd)), (2, .int (nI i)), (3, .int (nAt fs (nI i))), (4, .int (nAt ga (nI i))), (5, .int (p_far pl fs ga 100 (nAt ga (nI i))))] [.int 0, .ref (z + 25)] (xu (xu S 26 (.inl (p_folds ns2 as2 (nAt fs (nI i)) (p_far pl fs ga 100 (nAt ga (nI i)))).1)) 28 (.inl (p_folds ns2 as2 (nAt fs (nI i)) (p_far pl fs ga 100 (nAt ga (nI i)))).2.1)) P
                  refine xw.callO (o := 25) rfl rfl rfl ((xu_ne _ _ (by decide)).trans ((xu_ne _ _ (by decide)).trans ht)) rfl rfl (c_Code_lastNumber ((xu_ne _ _ (by decide)).trans ((xu_ne _ _ (by decide)).trans ht)) ((xu_ne _ _ (by decide)).trans (xu_self _ _ _)) (xu_self _ _ _) (by decide) ?_)
                  show xw z NK g 77 124 [(0, .ref (z + 15)), (1, .int (bI dd)), (2, .int (nI i)), (3, .int (nAt fs (nI i))), (4, .int (nAt ga (nI i))), (5, .int (p_far pl fs ga 100 (nAt ga (nI i))))] [.int (p_l (p_folds ns2 as2 (nAt fs (nI i)) (p_far pl fs ga 100 (nAt ga (nI i)))).1 0)] (xu (xu S 26 (.inl (p_folds ns2 as2 (nAt fs (nI i)) (p_far pl fs ga 100 (nAt ga (nI i)))).1)) 28 (.inl (p_folds ns2 as2 (nAt fs (nI i)) (p_far pl fs ga 100 (nAt ga (nI i)))).2.1)) P
                  show xw z NK g 77 124 [(0, .ref (z + 15)), (1, .int (bI dd)), (2, .int (nI i)), (3, .int (nAt fs (nI i))), (4, .int (nAt ga (nI i))), (5, .int (p_far pl fs ga 100 (nAt ga (nI i))))] [.int (p_l (p_folds ns2 as2 (nAt fs (nI i)) (p_far pl fs ga 100 (nAt ga (nI i)))).1 0)] (xu (xu S 26 (.inl (p_folds ns2 as2 (nAt fs (nI i)) (p_far pl fs ga 100 (nAt ga (nI i)))).1)) 28 (.inl (p_folds ns2 as2 (nAt fs (nI i)) (p_far pl fs ga 100 (nAt ga (nI i)))).2.1)) P
                  refine xw.callS rfl rfl rfl rfl rfl (c_endsWay ?_)
                  show xw z NK g 77 127 [(0, .ref (z + 15)), (1, .int (bI dd)), (2, .int (nI i)), (3, .int (nAt fs (nI i))), (4, .int (nAt ga (nI i))), (5, .int (p_far pl fs ga 100 (nAt ga (nI i))))] [.int (bI (t_ends (p_l (p_folds ns2 as2 (nAt fs (nI i)) (p_far pl fs ga 100 (nAt ga (nI i)))).1 0)))] (xu (xu S 26 (.inl (p_folds ns2 as2 (nAt fs (nI i)) (p_far pl fs ga 100 (nAt ga (nI i)))).1)) 28 (.inl (p_folds ns2 as2 (nAt fs (nI i)) (p_far pl fs ga 100 (nAt ga (nI i)))).2.1)) P
                  refine xw.steps 3 (fun _ => rfl) ?_
                  show xw z NK g 77 12 [(0, .ref (z + 15)), (1, .int (bI (t_ends (p_l (p_folds ns2 as2 (nAt fs (nI i)) (p_far pl fs ga 100 (nAt ga (nI i)))).1 0)))), (2, .int ((nI i) + 1)), (3, .int (nAt fs (nI i))), (4, .int (nAt ga (nI i))), (5, .int (p_far pl fs ga 100 (nAt ga (nI i))))] [] (xu (xu S 26 (.inl (p_folds ns2 as2 (nAt fs (nI i)) (p_far pl fs ga 100 (nAt ga (nI i)))).1)) 28 (.inl (p_folds ns2 as2 (nAt fs (nI i)) (p_far pl fs ga 100 (nAt ga (nI i)))).2.1)) P
                  rw [nI_1]
                  refine xw.forget (lv := [(0, .ref (z + 15)), (1, .int (bI (t_ends (p_l (p_folds ns2 as2 (nAt fs (nI i)) (p_far pl fs ga 100 (nAt ga (nI i)))).1 0)))), (2, .int (nI (i + 1)))]) lk_77 (show [0, 1, 2].Nodup by decide) (show [0, 1, 2, 3, 4, 5].Nodup by decide) (List.forall_mem_cons.mpr ⟨rfl, List.forall_mem_cons.mpr ⟨rfl, List.forall_mem_cons.mpr ⟨rfl, fun _ h => absurd h List.not_mem_nil⟩⟩⟩) ?_
                  exact ih (i + 1) (by omega) _ _ _ (by have h1 := p_step_len ns2 as2 (nAt fs (nI i)) (p_far pl fs ga 100 (nAt ga (nI i))); rw [(show p_step ns2 as2 (nAt fs (nI i)) (p_far pl fs ga 100 (nAt ga (nI i))) = ((p_folds ns2 as2 (nAt fs (nI i)) (p_far pl fs ga 100 (nAt ga (nI i)))).1, (p_folds ns2 as2 (nAt fs (nI i)) (p_far pl fs ga 100 (nAt ga (nI i)))).2.1) from by unfold p_step; rw [if_pos (by assumption)])] at h1; have h2 := h1.1; dsimp only at h2; omega) (by have h1 := p_step_len ns2 as2 (nAt fs (nI i)) (p_far pl fs ga 100 (nAt ga (nI i))); rw [(show p_step ns2 as2 (nAt fs (nI i)) (p_far pl fs ga 100 (nAt ga (nI i))) = ((p_folds ns2 as2 (nAt fs (nI i)) (p_far pl fs ga 100 (nAt ga (nI i)))).1, (p_folds ns2 as2 (nAt fs (nI i)) (p_far pl fs ga 100 (nAt ga (nI i)))).2.1) from by unfold p_step; rw [if_pos (by assumption)])] at h1; have h2 := h1.2; dsimp only at h2; omega) (by rw [p_rew_go (by first | exact fun u => absurd u.1 (by assumption) | exact fun u => absurd u.2 (by assumption)) (by first | exact fun u => absurd (by assumption) u.2 | exact fun u => Bool.noConfusion (u.1.symm.trans (by assumption))) (show p_goal pl fs ga (nAt fs (nI i)) (nAt ga (nI i)) = (p_far pl fs ga 100 (nAt ga (nI i))) from by unfold p_goal; rw [if_pos (by assumption)]) (show p_step ns2 as2 (nAt fs (nI i)) (p_far pl fs ga 100 (nAt ga (nI i))) = ((p_folds ns2 as2 (nAt fs (nI i)) (p_far pl fs ga 100 (nAt ga (nI i)))).1, (p_folds ns2 as2 (nAt fs (nI i)) (p_far pl fs ga 100 (nAt ga (nI i)))).2.1) from by unfold p_step; rw [if_pos (by assumption)])] at hP; exact hP)
                · have c15 := bI_eq0 (Decidable.not_not.mp (of_decide_eq_false c15))
                  refine xw.steps 1 (fun _ => rfl) ?_
                  refine xw.getf (o := 15) rfl ((xu_ne _ _ (by decide)).trans ((xu_ne _ _ (by decide)).trans h15)) rfl ?_
                  refine xw.steps 2 (fun _ => rfl) ?_
                  show xw z NK g 77 113 [(0, .ref (z + 15)), (1, .int (bI dd)), (2, .int (nI i)), (3, .int (nAt fs (nI i))), (4, .int (nAt ga (nI i))), (5, .int (p_far pl fs ga 100 (nAt ga (nI i))))] [.int (p_far pl fs ga 100 (nAt ga (nI i))), .int (nAt fs (nI i)), .ref (z + 25)] (xu (xu S 26 (.inl (p_folds ns2 as2 (nAt fs (nI i)) (p_far pl fs ga 100 (nAt ga (nI i)))).1)) 28 (.inl (p_folds ns2 as2 (nAt fs (nI i)) (p_far pl fs ga 100 (nAt ga (nI i)))).2.1)) P
                  refine xw.callO (o := 25) rfl rfl rfl ((xu_ne _ _ (by decide)).trans ((xu_ne _ _ (by decide)).trans ht)) rfl rfl (c_Code_append ((xu_ne _ _ (by decide)).trans ((xu_ne _ _ (by decide)).trans ht)) ((xu_ne _ _ (by decide)).trans (xu_self _ _ _)) (xu_self _ _ _) (by decide) (by have h1 := p_folds_len ns2 as2 (nAt fs (nI i)) (p_far pl fs ga 100 (nAt ga (nI i))); omega) (by have h1 := p_folds_len ns2 as2 (nAt fs (nI i)) (p_far pl fs ga 100 (nAt ga (nI i))); omega) ?_)
                  show xw z NK g 77 116 [(0, .ref (z + 15)), (1, .int (bI dd)), (2, .int (nI i)), (3, .int (nAt fs (nI i))), (4, .int (nAt ga (nI i))), (5, .int (p_far pl fs ga 100 (nAt ga (nI i))))] [] (xu (xu (xu (xu S 26 (.inl (p_folds ns2 as2 (nAt fs (nI i)) (p_far pl fs ga 100 (nAt ga (nI i)))).1)) 28 (.inl (p_folds ns2 as2 (nAt fs (nI i)) (p_far pl fs ga 100 (nAt ga (nI i)))).2.1)) 26 (.inl ((p_folds ns2 as2 (nAt fs (nI i)) (p_far pl fs ga 100 (nAt ga (nI i)))).1 ++ [(nAt fs (nI i))]))) 28 (.inl ((p_folds ns2 as2 (nAt fs (nI i)) (p_far pl fs ga 100 (nAt ga (nI i)))).2.1 ++ [(p_far pl fs ga 100 (nAt ga (nI i)))]))) P
                  rw [xu4 _ (show (26 : Nat) ≠ 28 by decide)]
                  refine xw.steps 1 (fun _ => rfl) ?_
                  refine xw.getf (o := 15) rfl ((xu_ne _ _ (by decide)).trans ((xu_ne _ _ (by decide)).trans h15)) rfl ?_
                  refine xw.steps 1 (fun _ => rfl) ?_
                  show xw z NK g 77 121 [(0, .ref (z + 15)), (1, .int (bI dd)), (2, .int (nI i)), (3, .int (nAt fs (nI i))), (4, .int (nAt ga (nI i))), (5, .int (p_far pl fs ga 100 (nAt ga (nI i))))] [.int 0, .ref (z + 25)] (xu (xu S 26 (.inl ((p_folds ns2 as2 (nAt fs (nI i)) (p_far pl fs ga 100 (nAt ga (nI i)))).1 ++ [(nAt fs (nI i))]))) 28 (.inl ((p_folds ns2 as2 (nAt fs (nI i)) (p_far pl fs ga 100 (nAt ga (nI i)))).2.1 ++ [(p_far pl fs ga 100 (nAt ga (nI i)))]))) P
                  refine xw.callO (o := 25) rfl rfl rfl ((xu_ne _ _ (by decide)).trans ((xu_ne _ _ (by decide)).trans ht)) rfl rfl (c_Code_lastNumber ((xu_ne _ _ (by decide)).trans ((xu_ne _ _ (by decide)).trans ht)) ((xu_ne _ _ (by decide)).trans (xu_self _ _ _)) (xu_self _ _ _) (by decide) ?_)
                  show xw z NK g 77 124 [(0, .ref (z + 15)), (1, .int (bI dd)), (2, .int (nI i)), (3, .int (nAt fs (nI i))), (4, .int (nAt ga (nI i))), (5, .int (p_far pl fs ga 100 (nAt ga (nI i))))] [.int (p_l ((p_folds ns2 as2 (nAt fs (nI i)) (p_far pl fs ga 100 (nAt ga (nI i)))).1 ++ [(nAt fs (nI i))]) 0)] (xu (xu S 26 (.inl ((p_folds ns2 as2 (nAt fs (nI i)) (p_far pl fs ga 100 (nAt ga (nI i)))).1 ++ [(nAt fs (nI i))]))) 28 (.inl ((p_folds ns2 as2 (nAt fs (nI i)) (p_far pl fs ga 100 (nAt ga (nI i)))).2.1 ++ [(p_far pl fs ga 100 (nAt ga (nI i)))]))) P
                  show xw z NK g 77 124 [(0, .ref (z + 15)), (1, .int (bI dd)), (2, .int (nI i)), (3, .int (nAt fs (nI i))), (4, .int (nAt ga (nI i))), (5, .int (p_far pl fs ga 100 (nAt ga (nI i))))] [.int (p_l ((p_folds ns2 as2 (nAt fs (nI i)) (p_far pl fs ga 100 (nAt ga (nI i)))).1 ++ [(nAt fs (nI i))]) 0)] (xu (xu S 26 (.inl ((p_folds ns2 as2 (nAt fs (nI i)) (p_far pl fs ga 100 (nAt ga (nI i)))).1 ++ [(nAt fs (nI i))]))) 28 (.inl ((p_folds ns2 as2 (nAt fs (nI i)) (p_far pl fs ga 100 (nAt ga (nI i)))).2.1 ++ [(p_far pl fs ga 100 (nAt ga (nI i)))]))) P
                  refine xw.callS rfl rfl rfl rfl rfl (c_endsWay ?_)
                  show xw z NK g 77 127 [(0, .ref (z + 15)), (1, .int (bI dd)), (2, .int (nI i)), (3, .int (nAt fs (nI i))), (4, .int (nAt ga (nI i))), (5, .int (p_far pl fs ga 100 (nAt ga (nI i))))] [.int (bI (t_ends (p_l ((p_folds ns2 as2 (nAt fs (nI i)) (p_far pl fs ga 100 (nAt ga (nI i)))).1 ++ [(nAt fs (nI i))]) 0)))] (xu (xu S 26 (.inl ((p_folds ns2 as2 (nAt fs (nI i)) (p_far pl fs ga 100 (nAt ga (nI i)))).1 ++ [(nAt fs (nI i))]))) 28 (.inl ((p_folds ns2 as2 (nAt fs (nI i)) (p_far pl fs ga 100 (nAt ga (nI i)))).2.1 ++ [(p_far pl fs ga 100 (nAt ga (nI i)))]))) P
                  refine xw.steps 3 (fun _ => rfl) ?_
                  show xw z NK g 77 12 [(0, .ref (z + 15)), (1, .int (bI (t_ends (p_l ((p_folds ns2 as2 (nAt fs (nI i)) (p_far pl fs ga 100 (nAt ga (nI i)))).1 ++ [(nAt fs (nI i))]) 0)))), (2, .int ((nI i) + 1)), (3, .int (nAt fs (nI i))), (4, .int (nAt ga (nI i))), (5, .int (p_far pl fs ga 100 (nAt ga (nI i))))] [] (xu (xu S 26 (.inl ((p_folds ns2 as2 (nAt fs (nI i)) (p_far pl fs ga 100 (nAt ga (nI i)))).1 ++ [(nAt fs (nI i))]))) 28 (.inl ((p_folds ns2 as2 (nAt fs (nI i)) (p_far pl fs ga 100 (nAt ga (nI i)))).2.1 ++ [(p_far pl fs ga 100 (nAt ga (nI i)))]))) P
                  rw [nI_1]
                  refine xw.forget (lv := [(0, .ref (z + 15)), (1, .int (bI (t_ends (p_l ((p_folds ns2 as2 (nAt fs (nI i)) (p_far pl fs ga 100 (nAt ga (nI i)))).1 ++ [(nAt fs (nI i))]) 0)))), (2, .int (nI (i + 1)))]) lk_77 (show [0, 1, 2].Nodup by decide) (show [0, 1, 2, 3, 4, 5].Nodup by decide) (List.forall_mem_cons.mpr ⟨rfl, List.forall_mem_cons.mpr ⟨rfl, List.forall_mem_cons.mpr ⟨rfl, fun _ h => absurd h List.not_mem_nil⟩⟩⟩) ?_
                  exact ih (i + 1) (by omega) _ _ _ (by have h1 := p_step_len ns2 as2 (nAt fs (nI i)) (p_far pl fs ga 100 (nAt ga (nI i))); rw [(show p_step ns2 as2 (nAt fs (nI i)) (p_far pl fs ga 100 (nAt ga (nI i))) = (((p_folds ns2 as2 (nAt fs (nI i)) (p_far pl fs ga 100 (nAt ga (nI i)))).1 ++ [(nAt fs (nI i))]), ((p_folds ns2 as2 (nAt fs (nI i)) (p_far pl fs ga 100 (nAt ga (nI i)))).2.1 ++ [(p_far pl fs ga 100 (nAt ga (nI i)))])) from by unfold p_step; rw [if_neg (by rw [(by assumption : (p_folds ns2 as2 (nAt fs (nI i)) (p_far pl fs ga 100 (nAt ga (nI i)))).2.2 = false)]; decide)])] at h1; have h2 := h1.1; dsimp only at h2; omega) (by have h1 := p_step_len ns2 as2 (nAt fs (nI i)) (p_far pl fs ga 100 (nAt ga (nI i))); rw [(show p_step ns2 as2 (nAt fs (nI i)) (p_far pl fs ga 100 (nAt ga (nI i))) = (((p_folds ns2 as2 (nAt fs (nI i)) (p_far pl fs ga 100 (nAt ga (nI i)))).1 ++ [(nAt fs (nI i))]), ((p_folds ns2 as2 (nAt fs (nI i)) (p_far pl fs ga 100 (nAt ga (nI i)))).2.1 ++ [(p_far pl fs ga 100 (nAt ga (nI i)))])) from by unfold p_step; rw [if_neg (by rw [(by assumption : (p_folds ns2 as2 (nAt fs (nI i)) (p_far pl fs ga 100 (nAt ga (nI i)))).2.2 = false)]; decide)])] at h1; have h2 := h1.2; dsimp only at h2; omega) (by rw [p_rew_go (by first | exact fun u => absurd u.1 (by assumption) | exact fun u => absurd u.2 (by assumption)) (by first | exact fun u => absurd (by assumption) u.2 | exact fun u => Bool.noConfusion (u.1.symm.trans (by assumption))) (show p_goal pl fs ga (nAt fs (nI i)) (nAt ga (nI i)) = (p_far pl fs ga 100 (nAt ga (nI i))) from by unfold p_goal; rw [if_pos (by assumption)]) (show p_step ns2 as2 (nAt fs (nI i)) (p_far pl fs ga 100 (nAt ga (nI i))) = (((p_folds ns2 as2 (nAt fs (nI i)) (p_far pl fs ga 100 (nAt ga (nI i)))).1 ++ [(nAt fs (nI i))]), ((p_folds ns2 as2 (nAt fs (nI i)) (p_far pl fs ga 100 (nAt ga (nI i)))).2.1 ++ [(p_far pl fs ga 100 (nAt ga (nI i)))])) from by unfold p_step; rw [if_neg (by rw [(by assumption : (p_folds ns2 as2 (nAt fs (nI i)) (p_far pl fs ga 100 (nAt ga (nI i)))).2.2 = false)]; decide)])] at hP; exact hP)
            · have c12 := bI_ne0 (of_decide_eq_false c12)
              refine xw.steps 2 (fun _ => rfl) ?_
              refine xw.icmp rfl (fun c16 => ?_) (fun c16 => ?_)
              · have c16 := of_decide_eq_true c16
                refine xw.steps 1 (fun _ => rfl) ?_
                show xw z NK g 77 77 [(0, .ref (z + 15)), (1, .int (bI dd)), (2, .int (nI i)), (3, .int (nAt fs (nI i))), (4, .int (nAt ga (nI i)))] [.int (nAt fs (nI i))] (xu (xu S 26 (.inl ns2)) 28 (.inl as2)) P
                refine xw.callS rfl rfl rfl rfl rfl (c_goesToLabel ?_)
                show xw z NK g 77 80 [(0, .ref (z + 15)), (1, .int (bI dd)), (2, .int (nI i)), (3, .int (nAt fs (nI i))), (4, .int (nAt ga (nI i)))] [.int (bI (t_goes (nAt fs (nI i))))] (xu (xu S 26 (.inl ns2)) 28 (.inl as2)) P
                refine xw.if_ rfl (fun c17 => ?_) (fun c17 => ?_)
                · have c17 := bI_eq0 (of_decide_eq_true c17)
                  refine xw.steps 5 (fun _ => rfl) ?_
                  show xw z NK g 77 100 [(0, .ref (z + 15)), (1, .int (bI dd)), (2, .int (nI i)), (3, .int (nAt fs (nI i))), (4, .int (nAt ga (nI i))), (5, .int (nAt ga (nI i)))] [.int (nAt ga (nI i)), .int (nAt fs (nI i)), .ref (z + 15)] (xu (xu S 26 (.inl ns2)) 28 (.inl as2)) P
                  refine xw.callO (o := 15) rfl rfl rfl ((xu_ne _ _ (by decide)).trans ((xu_ne _ _ (by decide)).trans h15)) rfl rfl (c_folds_A ⟨((xu_ne _ _ (by decide)).trans ((xu_ne _ _ (by decide)).trans h15)), ((xu_ne _ _ (by decide)).trans ((xu_ne _ _ (by decide)).trans h16)), ((xu_ne _ _ (by decide)).trans ((xu_ne _ _ (by decide)).trans h18)), ((xu_ne _ _ (by decide)).trans ((xu_ne _ _ (by decide)).trans hf)), ((xu_ne _ _ (by decide)).trans ((xu_ne _ _ (by decide)).trans hfn)), ((xu_ne _ _ (by decide)).trans ((xu_ne _ _ (by decide)).trans hfa)), ((xu_ne _ _ (by decide)).trans ((xu_ne _ _ (by decide)).trans ht)), ((xu_ne _ _ (by decide)).trans (xu_self _ _ _)), (xu_self _ _ _)⟩ (by omega) (by omega) ?_)
                  show xw z NK g 77 103 [(0, .ref (z + 15)), (1, .int (bI dd)), (2, .int (nI i)), (3, .int (nAt fs (nI i))), (4, .int (nAt ga (nI i))), (5, .int (nAt ga (nI i)))] [.int (bI (p_folds ns2 as2 (nAt fs (nI i)) (nAt ga (nI i))).2.2)] (xu (xu (xu (xu S 26 (.inl ns2)) 28 (.inl as2)) 26 (.inl (p_folds ns2 as2 (nAt fs (nI i)) (nAt ga (nI i))).1)) 28 (.inl (p_folds ns2 as2 (nAt fs (nI i)) (nAt ga (nI i))).2.1)) P
                  rw [xu4 _ (show (26 : Nat) ≠ 28 by decide)]
                  refine xw.if_ rfl (fun c18 => ?_) (fun c18 => ?_)
                  · have c18 := bI_ne0 (of_decide_eq_true c18)
                    refine xw.steps 1 (fun _ => rfl) ?_
                    refine xw.getf (o := 15) rfl ((xu_ne _ _ (by decide)).trans ((xu_ne _ _ (by decide)).trans h15)) rfl ?_
                    refine xw.steps 1 (fun _ => rfl) ?_
                    show xw z NK g 77 121 [(0, .ref (z + 15)), (1, .int (bI dd)), (2, .int (nI i)), (3, .int (nAt fs (nI i))), (4, .int (nAt ga (nI i))), (5, .int (nAt ga (nI i)))] [.int 0, .ref (z + 25)] (xu (xu S 26 (.inl (p_folds ns2 as2 (nAt fs (nI i)) (nAt ga (nI i))).1)) 28 (.inl (p_folds ns2 as2 (nAt fs (nI i)) (nAt ga (nI i))).2.1)) P
                    refine xw.callO (o := 25) rfl rfl rfl ((xu_ne _ _ (by decide)).trans ((xu_ne _ _ (by decide)).trans ht)) rfl rfl (c_Code_lastNumber ((xu_ne _ _ (by decide)).trans ((xu_ne _ _ (by decide)).trans ht)) ((xu_ne _ _ (by decide)).trans (xu_self _ _ _)) (xu_self _ _ _) (by decide) ?_)
                    show xw z NK g 77 124 [(0, .ref (z + 15)), (1, .int (bI dd)), (2, .int (nI i)), (3, .int (nAt fs (nI i))), (4, .int (nAt ga (nI i))), (5, .int (nAt ga (nI i)))] [.int (p_l (p_folds ns2 as2 (nAt fs (nI i)) (nAt ga (nI i))).1 0)] (xu (xu S 26 (.inl (p_folds ns2 as2 (nAt fs (nI i)) (nAt ga (nI i))).1)) 28 (.inl (p_folds ns2 as2 (nAt fs (nI i)) (nAt ga (nI i))).2.1)) P
                    show xw z NK g 77 124 [(0, .ref (z + 15)), (1, .int (bI dd)), (2, .int (nI i)), (3, .int (nAt fs (nI i))), (4, .int (nAt ga (nI i))), (5, .int (nAt ga (nI i)))] [.int (p_l (p_folds ns2 as2 (nAt fs (nI i)) (nAt ga (nI i))).1 0)] (xu (xu S 26 (.inl (p_folds ns2 as2 (nAt fs (nI i)) (nAt ga (nI i))).1)) 28 (.inl (p_folds ns2 as2 (nAt fs (nI i)) (nAt ga (nI i))).2.1)) P
                    refine xw.callS rfl rfl rfl rfl rfl (c_endsWay ?_)
                    show xw z NK g 77 127 [(0, .ref (z + 15)), (1, .int (bI dd)), (2, .int (nI i)), (3, .int (nAt fs (nI i))), (4, .int (nAt ga (nI i))), (5, .int (nAt ga (nI i)))] [.int (bI (t_ends (p_l (p_folds ns2 as2 (nAt fs (nI i)) (nAt ga (nI i))).1 0)))] (xu (xu S 26 (.inl (p_folds ns2 as2 (nAt fs (nI i)) (nAt ga (nI i))).1)) 28 (.inl (p_folds ns2 as2 (nAt fs (nI i)) (nAt ga (nI i))).2.1)) P
                    refine xw.steps 3 (fun _ => rfl) ?_
                    show xw z NK g 77 12 [(0, .ref (z + 15)), (1, .int (bI (t_ends (p_l (p_folds ns2 as2 (nAt fs (nI i)) (nAt ga (nI i))).1 0)))), (2, .int ((nI i) + 1)), (3, .int (nAt fs (nI i))), (4, .int (nAt ga (nI i))), (5, .int (nAt ga (nI i)))] [] (xu (xu S 26 (.inl (p_folds ns2 as2 (nAt fs (nI i)) (nAt ga (nI i))).1)) 28 (.inl (p_folds ns2 as2 (nAt fs (nI i)) (nAt ga (nI i))).2.1)) P
                    rw [nI_1]
                    refine xw.forget (lv := [(0, .ref (z + 15)), (1, .int (bI (t_ends (p_l (p_folds ns2 as2 (nAt fs (nI i)) (nAt ga (nI i))).1 0)))), (2, .int (nI (i + 1)))]) lk_77 (show [0, 1, 2].Nodup by decide) (show [0, 1, 2, 3, 4, 5].Nodup by decide) (List.forall_mem_cons.mpr ⟨rfl, List.forall_mem_cons.mpr ⟨rfl, List.forall_mem_cons.mpr ⟨rfl, fun _ h => absurd h List.not_mem_nil⟩⟩⟩) ?_
                    exact ih (i + 1) (by omega) _ _ _ (by have h1 := p_step_len ns2 as2 (nAt fs (nI i)) (nAt ga (nI i)); rw [(show p_step ns2 as2 (nAt fs (nI i)) (nAt ga (nI i)) = ((p_folds ns2 as2 (nAt fs (nI i)) (nAt ga (nI i))).1, (p_folds ns2 as2 (nAt fs (nI i)) (nAt ga (nI i))).2.1) from by unfold p_step; rw [if_pos (by assumption)])] at h1; have h2 := h1.1; dsimp only at h2; omega) (by have h1 := p_step_len ns2 as2 (nAt fs (nI i)) (nAt ga (nI i)); rw [(show p_step ns2 as2 (nAt fs (nI i)) (nAt ga (nI i)) = ((p_folds ns2 as2 (nAt fs (nI i)) (nAt ga (nI i))).1, (p_folds ns2 as2 (nAt fs (nI i)) (nAt ga (nI i))).2.1) from by unfold p_step; rw [if_pos (by assumption)])] at h1; have h2 := h1.2; dsimp only at h2; omega) (by rw [p_rew_go (by first | exact fun u => absurd u.1 (by assumption) | exact fun u => absurd u.2 (by assumption)) (by first | exact fun u => absurd (by assumption) u.2 | exact fun u => Bool.noConfusion (u.1.symm.trans (by assumption))) (show p_goal pl fs ga (nAt fs (nI i)) (nAt ga (nI i)) = (nAt ga (nI i)) from by unfold p_goal; rw [if_neg (by rw [(by assumption : t_goes (nAt fs (nI i)) = false)]; decide)]) (show p_step ns2 as2 (nAt fs (nI i)) (nAt ga (nI i)) = ((p_folds ns2 as2 (nAt fs (nI i)) (nAt ga (nI i))).1, (p_folds ns2 as2 (nAt fs (nI i)) (nAt ga (nI i))).2.1) from by unfold p_step; rw [if_pos (by assumption)])] at hP; exact hP)
                  · have c18 := bI_eq0 (Decidable.not_not.mp (of_decide_eq_false c18))
                    refine xw.steps 1 (fun _ => rfl) ?_
                    refine xw.getf (o := 15) rfl ((xu_ne _ _ (by decide)).trans ((xu_ne _ _ (by decide)).trans h15)) rfl ?_
                    refine xw.steps 2 (fun _ => rfl) ?_
                    show xw z NK g 77 113 [(0, .ref (z + 15)), (1, .int (bI dd)), (2, .int (nI i)), (3, .int (nAt fs (nI i))), (4, .int (nAt ga (nI i))), (5, .int (nAt ga (nI i)))] [.int (nAt ga (nI i)), .int (nAt fs (nI i)), .ref (z + 25)] (xu (xu S 26 (.inl (p_folds ns2 as2 (nAt fs (nI i)) (nAt ga (nI i))).1)) 28 (.inl (p_folds ns2 as2 (nAt fs (nI i)) (nAt ga (nI i))).2.1)) P
                    refine xw.callO (o := 25) rfl rfl rfl ((xu_ne _ _ (by decide)).trans ((xu_ne _ _ (by decide)).trans ht)) rfl rfl (c_Code_append ((xu_ne _ _ (by decide)).trans ((xu_ne _ _ (by decide)).trans ht)) ((xu_ne _ _ (by decide)).trans (xu_self _ _ _)) (xu_self _ _ _) (by decide) (by have h1 := p_folds_len ns2 as2 (nAt fs (nI i)) (nAt ga (nI i)); omega) (by have h1 := p_folds_len ns2 as2 (nAt fs (nI i)) (nAt ga (nI i)); omega) ?_)
                    show xw z NK g 77 116 [(0, .ref (z + 15)), (1, .int (bI dd)), (2, .int (nI i)), (3, .int (nAt fs (nI i))), (4, .int (nAt ga (nI i))), (5, .int (nAt ga (nI i)))] [] (xu (xu (xu (xu S 26 (.inl (p_folds ns2 as2 (nAt fs (nI i)) (nAt ga (nI i))).1)) 28 (.inl (p_folds ns2 as2 (nAt fs (nI i)) (nAt ga (nI i))).2.1)) 26 (.inl ((p_folds ns2 as2 (nAt fs (nI i)) (nAt ga (nI i))).1 ++ [(nAt fs (nI i))]))) 28 (.inl ((p_folds ns2 as2 (nAt fs (nI i)) (nAt ga (nI i))).2.1 ++ [(nAt ga (nI i))]))) P
                    rw [xu4 _ (show (26 : Nat) ≠ 28 by decide)]
                    refine xw.steps 1 (fun _ => rfl) ?_
                    refine xw.getf (o := 15) rfl ((xu_ne _ _ (by decide)).trans ((xu_ne _ _ (by decide)).trans h15)) rfl ?_
                    refine xw.steps 1 (fun _ => rfl) ?_
                    show xw z NK g 77 121 [(0, .ref (z + 15)), (1, .int (bI dd)), (2, .int (nI i)), (3, .int (nAt fs (nI i))), (4, .int (nAt ga (nI i))), (5, .int (nAt ga (nI i)))] [.int 0, .ref (z + 25)] (xu (xu S 26 (.inl ((p_folds ns2 as2 (nAt fs (nI i)) (nAt ga (nI i))).1 ++ [(nAt fs (nI i))]))) 28 (.inl ((p_folds ns2 as2 (nAt fs (nI i)) (nAt ga (nI i))).2.1 ++ [(nAt ga (nI i))]))) P
                    refine xw.callO (o := 25) rfl rfl rfl ((xu_ne _ _ (by decide)).trans ((xu_ne _ _ (by decide)).trans ht)) rfl rfl (c_Code_lastNumber ((xu_ne _ _ (by decide)).trans ((xu_ne _ _ (by decide)).trans ht)) ((xu_ne _ _ (by decide)).trans (xu_self _ _ _)) (xu_self _ _ _) (by decide) ?_)
                    show xw z NK g 77 124 [(0, .ref (z + 15)), (1, .int (bI dd)), (2, .int (nI i)), (3, .int (nAt fs (nI i))), (4, .int (nAt ga (nI i))), (5, .int (nAt ga (nI i)))] [.int (p_l ((p_folds ns2 as2 (nAt fs (nI i)) (nAt ga (nI i))).1 ++ [(nAt fs (nI i))]) 0)] (xu (xu S 26 (.inl ((p_folds ns2 as2 (nAt fs (nI i)) (nAt ga (nI i))).1 ++ [(nAt fs (nI i))]))) 28 (.inl ((p_folds ns2 as2 (nAt fs (nI i)) (nAt ga (nI i))).2.1 ++ [(nAt ga (nI i))]))) P
                    show xw z NK g 77 124 [(0, .ref (z + 15)), (1, .int (bI dd)), (2, .int (nI i)), (3, .int (nAt fs (nI i))), (4, .int (nAt ga (nI i))), (5, .int (nAt ga (nI i)))] [.int (p_l ((p_folds ns2 as2 (nAt fs (nI i)) (nAt ga (nI i))).1 ++ [(nAt fs (nI i))]) 0)] (xu (xu S 26 (.inl ((p_folds ns2 as2 (nAt fs (nI i)) (nAt ga (nI i))).1 ++ [(nAt fs (nI i))]))) 28 (.inl ((p_folds ns2 as2 (nAt fs (nI i)) (nAt ga (nI i))).2.1 ++ [(nAt ga (nI i))]))) P
                    refine xw.callS rfl rfl rfl rfl rfl (c_endsWay ?_)
                    show xw z NK g 77 127 [(0, .ref (z + 15)), (1, .int (bI dd)), (2, .int (nI i)), (3, .int (nAt fs (nI i))), (4, .int (nAt ga (nI i))), (5, .int (nAt ga (nI i)))] [.int (bI (t_ends (p_l ((p_folds ns2 as2 (nAt fs (nI i)) (nAt ga (nI i))).1 ++ [(nAt fs (nI i))]) 0)))] (xu (xu S 26 (.inl ((p_folds ns2 as2 (nAt fs (nI i)) (nAt ga (nI i))).1 ++ [(nAt fs (nI i))]))) 28 (.inl ((p_folds ns2 as2 (nAt fs (nI i)) (nAt ga (nI i))).2.1 ++ [(nAt ga (nI i))]))) P
                    refine xw.steps 3 (fun _ => rfl) ?_
                    show xw z NK g 77 12 [(0, .ref (z + 15)), (1, .int (bI (t_ends (p_l ((p_folds ns2 as2 (nAt fs (nI i)) (nAt ga (nI i))).1 ++ [(nAt fs (nI i))]) 0)))), (2, .int ((nI i) + 1)), (3, .int (nAt fs (nI i))), (4, .int (nAt ga (nI i))), (5, .int (nAt ga (nI i)))] [] (xu (xu S 26 (.inl ((p_folds ns2 as2 (nAt fs (nI i)) (nAt ga (nI i))).1 ++ [(nAt fs (nI i))]))) 28 (.inl ((p_folds ns2 as2 (nAt fs (nI i)) (nAt ga (nI i))).2.1 ++ [(nAt ga (nI i))]))) P
                    rw [nI_1]
                    refine xw.forget (lv := [(0, .ref (z + 15)), (1, .int (bI (t_ends (p_l ((p_folds ns2 as2 (nAt fs (nI i)) (nAt ga (nI i))).1 ++ [(nAt fs (nI i))]) 0)))), (2, .int (nI (i + 1)))]) lk_77 (show [0, 1, 2].Nodup by decide) (show [0, 1, 2, 3, 4, 5].Nodup by decide) (List.forall_mem_cons.mpr ⟨rfl, List.forall_mem_cons.mpr ⟨rfl, List.forall_mem_cons.mpr ⟨rfl, fun _ h => absurd h List.not_mem_nil⟩⟩⟩) ?_
                    exact ih (i + 1) (by omega) _ _ _ (by have h1 := p_step_len ns2 as2 (nAt fs (nI i)) (nAt ga (nI i)); rw [(show p_step ns2 as2 (nAt fs (nI i)) (nAt ga (nI i)) = (((p_folds ns2 as2 (nAt fs (nI i)) (nAt ga (nI i))).1 ++ [(nAt fs (nI i))]), ((p_folds ns2 as2 (nAt fs (nI i)) (nAt ga (nI i))).2.1 ++ [(nAt ga (nI i))])) from by unfold p_step; rw [if_neg (by rw [(by assumption : (p_folds ns2 as2 (nAt fs (nI i)) (nAt ga (nI i))).2.2 = false)]; decide)])] at h1; have h2 := h1.1; dsimp only at h2; omega) (by have h1 := p_step_len ns2 as2 (nAt fs (nI i)) (nAt ga (nI i)); rw [(show p_step ns2 as2 (nAt fs (nI i)) (nAt ga (nI i)) = (((p_folds ns2 as2 (nAt fs (nI i)) (nAt ga (nI i))).1 ++ [(nAt fs (nI i))]), ((p_folds ns2 as2 (nAt fs (nI i)) (nAt ga (nI i))).2.1 ++ [(nAt ga (nI i))])) from by unfold p_step; rw [if_neg (by rw [(by assumption : (p_folds ns2 as2 (nAt fs (nI i)) (nAt ga (nI i))).2.2 = false)]; decide)])] at h1; have h2 := h1.2; dsimp only at h2; omega) (by rw [p_rew_go (by first | exact fun u => absurd u.1 (by assumption) | exact fun u => absurd u.2 (by assumption)) (by first | exact fun u => absurd (by assumption) u.2 | exact fun u => Bool.noConfusion (u.1.symm.trans (by assumption))) (show p_goal pl fs ga (nAt fs (nI i)) (nAt ga (nI i)) = (nAt ga (nI i)) from by unfold p_goal; rw [if_neg (by rw [(by assumption : t_goes (nAt fs (nI i)) = false)]; decide)]) (show p_step ns2 as2 (nAt fs (nI i)) (nAt ga (nI i)) = (((p_folds ns2 as2 (nAt fs (nI i)) (nAt ga (nI i))).1 ++ [(nAt fs (nI i))]), ((p_folds ns2 as2 (nAt fs (nI i)) (nAt ga (nI i))).2.1 ++ [(nAt ga (nI i))])) from by unfold p_step; rw [if_neg (by rw [(by assumption : (p_folds ns2 as2 (nAt fs (nI i)) (nAt ga (nI i))).2.2 = false)]; decide)])] at hP; exact hP)
                · have c17 := bI_ne0 (of_decide_eq_false c17)
                  refine xw.steps 2 (fun _ => rfl) ?_
                  show xw z NK g 77 86 [(0, .ref (z + 15)), (1, .int (bI dd)), (2, .int (nI i)), (3, .int (nAt fs (nI i))), (4, .int (nAt ga (nI i)))] [.int (nAt ga (nI i)), .ref (z + 15)] (xu (xu S 26 (.inl ns2)) 28 (.inl as2)) P
                  refine xw.callO (o := 15) rfl rfl rfl ((xu_ne _ _ (by decide)).trans ((xu_ne _ _ (by decide)).trans h15)) rfl rfl (c_far_A ⟨((xu_ne _ _ (by decide)).trans ((xu_ne _ _ (by decide)).trans h15)), ((xu_ne _ _ (by decide)).trans ((xu_ne _ _ (by decide)).trans h16)), ((xu_ne _ _ (by decide)).trans ((xu_ne _ _ (by decide)).trans h18)), ((xu_ne _ _ (by decide)).trans ((xu_ne _ _ (by decide)).trans hf)), ((xu_ne _ _ (by decide)).trans ((xu_ne _ _ (by decide)).trans hfn)), ((xu_ne _ _ (by decide)).trans ((xu_ne _ _ (by decide)).trans hfa)), ((xu_ne _ _ (by decide)).trans ((xu_ne _ _ (by decide)).trans ht)), ((xu_ne _ _ (by decide)).trans (xu_self _ _ _)), (xu_self _ _ _)⟩ ?_)
                  show xw z NK g 77 89 [(0, .ref (z + 15)), (1, .int (bI dd)), (2, .int (nI i)), (3, .int (nAt fs (nI i))), (4, .int (nAt ga (nI i)))] [.int (p_far pl fs ga 100 (nAt ga (nI i)))] (xu (xu S 26 (.inl ns2)) 28 (.inl as2)) P
                  refine xw.steps 5 (fun _ => rfl) ?_
                  show xw z NK g 77 100 [(0, .ref (z + 15)), (1, .int (bI dd)), (2, .int (nI i)), (3, .int (nAt fs (nI i))), (4, .int (nAt ga (nI i))), (5, .int (p_far pl fs ga 100 (nAt ga (nI i))))] [.int (p_far pl fs ga 100 (nAt ga (nI i))), .int (nAt fs (nI i)), .ref (z + 15)] (xu (xu S 26 (.inl ns2)) 28 (.inl as2)) P
                  refine xw.callO (o := 15) rfl rfl rfl ((xu_ne _ _ (by decide)).trans ((xu_ne _ _ (by decide)).trans h15)) rfl rfl (c_folds_A ⟨((xu_ne _ _ (by decide)).trans ((xu_ne _ _ (by decide)).trans h15)), ((xu_ne _ _ (by decide)).trans ((xu_ne _ _ (by decide)).trans h16)), ((xu_ne _ _ (by decide)).trans ((xu_ne _ _ (by decide)).trans h18)), ((xu_ne _ _ (by decide)).trans ((xu_ne _ _ (by decide)).trans hf)), ((xu_ne _ _ (by decide)).trans ((xu_ne _ _ (by decide)).trans hfn)), ((xu_ne _ _ (by decide)).trans ((xu_ne _ _ (by decide)).trans hfa)), ((xu_ne _ _ (by decide)).trans ((xu_ne _ _ (by decide)).trans ht)), ((xu_ne _ _ (by decide)).trans (xu_self _ _ _)), (xu_self _ _ _)⟩ (by omega) (by omega) ?_)
                  show xw z NK g 77 103 [(0, .ref (z + 15)), (1, .int (bI dd)), (2, .int (nI i)), (3, .int (nAt fs (nI i))), (4, .int (nAt ga (nI i))), (5, .int (p_far pl fs ga 100 (nAt ga (nI i))))] [.int (bI (p_folds ns2 as2 (nAt fs (nI i)) (p_far pl fs ga 100 (nAt ga (nI i)))).2.2)] (xu (xu (xu (xu S 26 (.inl ns2)) 28 (.inl as2)) 26 (.inl (p_folds ns2 as2 (nAt fs (nI i)) (p_far pl fs ga 100 (nAt ga (nI i)))).1)) 28 (.inl (p_folds ns2 as2 (nAt fs (nI i)) (p_far pl fs ga 100 (nAt ga (nI i)))).2.1)) P
                  rw [xu4 _ (show (26 : Nat) ≠ 28 by decide)]
                  refine xw.if_ rfl (fun c19 => ?_) (fun c19 => ?_)
                  · have c19 := bI_ne0 (of_decide_eq_true c19)
                    refine xw.steps 1 (fun _ => rfl) ?_
                    refine xw.getf (o := 15) rfl ((xu_ne _ _ (by decide)).trans ((xu_ne _ _ (by decide)).trans h15)) rfl ?_
                    refine xw.steps 1 (fun _ => rfl) ?_
                    show xw z NK g 77 121 [(0, .ref (z + 15)), (1, .int (bI dd)), (2, .int (nI i)), (3, .int (nAt fs (nI i))), (4, .int (nAt ga (nI i))), (5, .int (p_far pl fs ga 100 (nAt ga (nI i))))] [.int 0, .ref (z + 25)] (xu (xu S 26 (.inl (p_folds ns2 as2 (nAt fs (nI i)) (p_far pl fs ga 100 (nAt ga (nI i)))).1)) 28 (.inl (p_folds ns2 as2 (nAt fs (nI i)) (p_far pl fs ga 100 (nAt ga (nI i)))).2.1)) P
                    refine xw.callO (o := 25) rfl rfl rfl ((xu_ne _ _ (by decide)).trans ((xu_ne _ _ (by decide)).trans ht)) rfl rfl (c_Code_lastNumber ((xu_ne _ _ (by decide)).trans ((xu_ne _ _ (by decide)).trans ht)) ((xu_ne _ _ (by decide)).trans (xu_self _ _ _)) (xu_self _ _ _) (by decide) ?_)
                    show xw z NK g 77 124 [(0, .ref (z + 15)), (1, .int (bI dd)), (2, .int (nI i)), (3, .int (nAt fs (nI i))), (4, .int (nAt ga (nI i))), (5, .int (p_far pl fs ga 100 (nAt ga (nI i))))] [.int (p_l (p_folds ns2 as2 (nAt fs (nI i)) (p_far pl fs ga 100 (nAt ga (nI i)))).1 0)] (xu (xu S 26 (.inl (p_folds ns2 as2 (nAt fs (nI i)) (p_far pl fs ga 100 (nAt ga (nI i)))).1)) 28 (.inl (p_folds ns2 as2 (nAt fs (nI i)) (p_far pl fs ga 100 (nAt ga (nI i)))).2.1)) P
                    show xw z NK g 77 124 [(0, .ref (z + 15)), (1, .int (bI dd)), (2, .int (nI i)), (3, .int (nAt fs (nI i))), (4, .int (nAt ga (nI i))), (5, .int (p_far pl fs ga 100 (nAt ga (nI i))))] [.int (p_l (p_folds ns2 as2 (nAt fs (nI i)) (p_far pl fs ga 100 (nAt ga (nI i)))).1 0)] (xu (xu S 26 (.inl (p_folds ns2 as2 (nAt fs (nI i)) (p_far pl fs ga 100 (nAt ga (nI i)))).1)) 28 (.inl (p_folds ns2 as2 (nAt fs (nI i)) (p_far pl fs ga 100 (nAt ga (nI i)))).2.1)) P
                    refine xw.callS rfl rfl rfl rfl rfl (c_endsWay ?_)
                    show xw z NK g 77 127 [(0, .ref (z + 15)), (1, .int (bI dd)), (2, .int (nI i)), (3, .int (nAt fs (nI i))), (4, .int (nAt ga (nI i))), (5, .int (p_far pl fs ga 100 (nAt ga (nI i))))] [.int (bI (t_ends (p_l (p_folds ns2 as2 (nAt fs (nI i)) (p_far pl fs ga 100 (nAt ga (nI i)))).1 0)))] (xu (xu S 26 (.inl (p_folds ns2 as2 (nAt fs (nI i)) (p_far pl fs ga 100 (nAt ga (nI i)))).1)) 28 (.inl (p_folds ns2 as2 (nAt fs (nI i)) (p_far pl fs ga 100 (nAt ga (nI i)))).2.1)) P
                    refine xw.steps 3 (fun _ => rfl) ?_
                    show xw z NK g 77 12 [(0, .ref (z + 15)), (1, .int (bI (t_ends (p_l (p_folds ns2 as2 (nAt fs (nI i)) (p_far pl fs ga 100 (nAt ga (nI i)))).1 0)))), (2, .int ((nI i) + 1)), (3, .int (nAt fs (nI i))), (4, .int (nAt ga (nI i))), (5, .int (p_far pl fs ga 100 (nAt ga (nI i))))] [] (xu (xu S 26 (.inl (p_folds ns2 as2 (nAt fs (nI i)) (p_far pl fs ga 100 (nAt ga (nI i)))).1)) 28 (.inl (p_folds ns2 as2 (nAt fs (nI i)) (p_far pl fs ga 100 (nAt ga (nI i)))).2.1)) P
                    rw [nI_1]
                    refine xw.forget (lv := [(0, .ref (z + 15)), (1, .int (bI (t_ends (p_l (p_folds ns2 as2 (nAt fs (nI i)) (p_far pl fs ga 100 (nAt ga (nI i)))).1 0)))), (2, .int (nI (i + 1)))]) lk_77 (show [0, 1, 2].Nodup by decide) (show [0, 1, 2, 3, 4, 5].Nodup by decide) (List.forall_mem_cons.mpr ⟨rfl, List.forall_mem_cons.mpr ⟨rfl, List.forall_mem_cons.mpr ⟨rfl, fun _ h => absurd h List.not_mem_nil⟩⟩⟩) ?_
                    exact ih (i + 1) (by omega) _ _ _ (by have h1 := p_step_len ns2 as2 (nAt fs (nI i)) (p_far pl fs ga 100 (nAt ga (nI i))); rw [(show p_step ns2 as2 (nAt fs (nI i)) (p_far pl fs ga 100 (nAt ga (nI i))) = ((p_folds ns2 as2 (nAt fs (nI i)) (p_far pl fs ga 100 (nAt ga (nI i)))).1, (p_folds ns2 as2 (nAt fs (nI i)) (p_far pl fs ga 100 (nAt ga (nI i)))).2.1) from by unfold p_step; rw [if_pos (by assumption)])] at h1; have h2 := h1.1; dsimp only at h2; omega) (by have h1 := p_step_len ns2 as2 (nAt fs (nI i)) (p_far pl fs ga 100 (nAt ga (nI i))); rw [(show p_step ns2 as2 (nAt fs (nI i)) (p_far pl fs ga 100 (nAt ga (nI i))) = ((p_folds ns2 as2 (nAt fs (nI i)) (p_far pl fs ga 100 (nAt ga (nI i)))).1, (p_folds ns2 as2 (nAt fs (nI i)) (p_far pl fs ga 100 (nAt ga (nI i)))).2.1) from by unfold p_step; rw [if_pos (by assumption)])] at h1; have h2 := h1.2; dsimp only at h2; omega) (by rw [p_rew_go (by first | exact fun u => absurd u.1 (by assumption) | exact fun u => absurd u.2 (by assumption)) (by first | exact fun u => absurd (by assumption) u.2 | exact fun u => Bool.noConfusion (u.1.symm.trans (by assumption))) (show p_goal pl fs ga (nAt fs (nI i)) (nAt ga (nI i)) = (p_far pl fs ga 100 (nAt ga (nI i))) from by unfold p_goal; rw [if_pos (by assumption)]) (show p_step ns2 as2 (nAt fs (nI i)) (p_far pl fs ga 100 (nAt ga (nI i))) = ((p_folds ns2 as2 (nAt fs (nI i)) (p_far pl fs ga 100 (nAt ga (nI i)))).1, (p_folds ns2 as2 (nAt fs (nI i)) (p_far pl fs ga 100 (nAt ga (nI i)))).2.1) from by unfold p_step; rw [if_pos (by assumption)])] at hP; exact hP)
                  · have c19 := bI_eq0 (Decidable.not_not.mp (of_decide_eq_false c19))
                    refine xw.steps 1 (fun _ => rfl) ?_
                    refine xw.getf (o := 15) rfl ((xu_ne _ _ (by decide)).trans ((xu_ne _ _ (by decide)).trans h15)) rfl ?_
                    refine xw.steps 2 (fun _ => rfl) ?_
                    show xw z NK g 77 113 [(0, .ref (z + 15)), (1, .int (bI dd)), (2, .int (nI i)), (3, .int (nAt fs (nI i))), (4, .int (nAt ga (nI i))), (5, .int (p_far pl fs ga 100 (nAt ga (nI i))))] [.int (p_far pl fs ga 100 (nAt ga (nI i))), .int (nAt fs (nI i)), .ref (z + 25)] (xu (xu S 26 (.inl (p_folds ns2 as2 (nAt fs (nI i)) (p_far pl fs ga 100 (nAt ga (nI i)))).1)) 28 (.inl (p_folds ns2 as2 (nAt fs (nI i)) (p_far pl fs ga 100 (nAt ga (nI i)))).2.1)) P
                    refine xw.callO (o := 25) rfl rfl rfl ((xu_ne _ _ (by decide)).trans ((xu_ne _ _ (by decide)).trans ht)) rfl rfl (c_Code_append ((xu_ne _ _ (by decide)).trans ((xu_ne _ _ (by decide)).trans ht)) ((xu_ne _ _ (by decide)).trans (xu_self _ _ _)) (xu_self _ _ _) (by decide) (by have h1 := p_folds_len ns2 as2 (nAt fs (nI i)) (p_far pl fs ga 100 (nAt ga (nI i))); omega) (by have h1 := p_folds_len ns2 as2 (nAt fs (nI i)) (p_far pl fs ga 100 (nAt ga (nI i))); omega) ?_)
                    show xw z NK g 77 116 [(0, .ref (z + 15)), (1, .int (bI dd)), (2, .int (nI i)), (3, .int (nAt fs (nI i))), (4, .int (nAt ga (nI i))), (5, .int (p_far pl fs ga 100 (nAt ga (nI i))))] [] (xu (xu (xu (xu S 26 (.inl (p_folds ns2 as2 (nAt fs (nI i)) (p_far pl fs ga 100 (nAt ga (nI i)))).1)) 28 (.inl (p_folds ns2 as2 (nAt fs (nI i)) (p_far pl fs ga 100 (nAt ga (nI i)))).2.1)) 26 (.inl ((p_folds ns2 as2 (nAt fs (nI i)) (p_far pl fs ga 100 (nAt ga (nI i)))).1 ++ [(nAt fs (nI i))]))) 28 (.inl ((p_folds ns2 as2 (nAt fs (nI i)) (p_far pl fs ga 100 (nAt ga (nI i)))).2.1 ++ [(p_far pl fs ga 100 (nAt ga (nI i)))]))) P
                    rw [xu4 _ (show (26 : Nat) ≠ 28 by decide)]
                    refine xw.steps 1 (fun _ => rfl) ?_
                    refine xw.getf (o := 15) rfl ((xu_ne _ _ (by decide)).trans ((xu_ne _ _ (by decide)).trans h15)) rfl ?_
                    refine xw.steps 1 (fun _ => rfl) ?_
                    show xw z NK g 77 121 [(0, .ref (z + 15)), (1, .int (bI dd)), (2, .int (nI i)), (3, .int (nAt fs (nI i))), (4, .int (nAt ga (nI i))), (5, .int (p_far pl fs ga 100 (nAt ga (nI i))))] [.int 0, .ref (z + 25)] (xu (xu S 26 (.inl ((p_folds ns2 as2 (nAt fs (nI i)) (p_far pl fs ga 100 (nAt ga (nI i)))).1 ++ [(nAt fs (nI i))]))) 28 (.inl ((p_folds ns2 as2 (nAt fs (nI i)) (p_far pl fs ga 100 (nAt ga (nI i)))).2.1 ++ [(p_far pl fs ga 100 (nAt ga (nI i)))]))) P
                    refine xw.callO (o := 25) rfl rfl rfl ((xu_ne _ _ (by decide)).trans ((xu_ne _ _ (by decide)).trans ht)) rfl rfl (c_Code_lastNumber ((xu_ne _ _ (by decide)).trans ((xu_ne _ _ (by decide)).trans ht)) ((xu_ne _ _ (by decide)).trans (xu_self _ _ _)) (xu_self _ _ _) (by decide) ?_)
                    show xw z NK g 77 124 [(0, .ref (z + 15)), (1, .int (bI dd)), (2, .int (nI i)), (3, .int (nAt fs (nI i))), (4, .int (nAt ga (nI i))), (5, .int (p_far pl fs ga 100 (nAt ga (nI i))))] [.int (p_l ((p_folds ns2 as2 (nAt fs (nI i)) (p_far pl fs ga 100 (nAt ga (nI i)))).1 ++ [(nAt fs (nI i))]) 0)] (xu (xu S 26 (.inl ((p_folds ns2 as2 (nAt fs (nI i)) (p_far pl fs ga 100 (nAt ga (nI i)))).1 ++ [(nAt fs (nI i))]))) 28 (.inl ((p_folds ns2 as2 (nAt fs (nI i)) (p_far pl fs ga 100 (nAt ga (nI i)))).2.1 ++ [(p_far pl fs ga 100 (nAt ga (nI i)))]))) P
                    show xw z NK g 77 124 [(0, .ref (z + 15)), (1, .int (bI dd)), (2, .int (nI i)), (3, .int (nAt fs (nI i))), (4, .int (nAt ga (nI i))), (5, .int (p_far pl fs ga 100 (nAt ga (nI i))))] [.int (p_l ((p_folds ns2 as2 (nAt fs (nI i)) (p_far pl fs ga 100 (nAt ga (nI i)))).1 ++ [(nAt fs (nI i))]) 0)] (xu (xu S 26 (.inl ((p_folds ns2 as2 (nAt fs (nI i)) (p_far pl fs ga 100 (nAt ga (nI i)))).1 ++ [(nAt fs (nI i))]))) 28 (.inl ((p_folds ns2 as2 (nAt fs (nI i)) (p_far pl fs ga 100 (nAt ga (nI i)))).2.1 ++ [(p_far pl fs ga 100 (nAt ga (nI i)))]))) P
                    refine xw.callS rfl rfl rfl rfl rfl (c_endsWay ?_)
                    show xw z NK g 77 127 [(0, .ref (z + 15)), (1, .int (bI dd)), (2, .int (nI i)), (3, .int (nAt fs (nI i))), (4, .int (nAt ga (nI i))), (5, .int (p_far pl fs ga 100 (nAt ga (nI i))))] [.int (bI (t_ends (p_l ((p_folds ns2 as2 (nAt fs (nI i)) (p_far pl fs ga 100 (nAt ga (nI i)))).1 ++ [(nAt fs (nI i))]) 0)))] (xu (xu S 26 (.inl ((p_folds ns2 as2 (nAt fs (nI i)) (p_far pl fs ga 100 (nAt ga (nI i)))).1 ++ [(nAt fs (nI i))]))) 28 (.inl ((p_folds ns2 as2 (nAt fs (nI i)) (p_far pl fs ga 100 (nAt ga (nI i)))).2.1 ++ [(p_far pl fs ga 100 (nAt ga (nI i)))]))) P
                    refine xw.steps 3 (fun _ => rfl) ?_
                    show xw z NK g 77 12 [(0, .ref (z + 15)), (1, .int (bI (t_ends (p_l ((p_folds ns2 as2 (nAt fs (nI i)) (p_far pl fs ga 100 (nAt ga (nI i)))).1 ++ [(nAt fs (nI i))]) 0)))), (2, .int ((nI i) + 1)), (3, .int (nAt fs (nI i))), (4, .int (nAt ga (nI i))), (5, .int (p_far pl fs ga 100 (nAt ga (nI i))))] [] (xu (xu S 26 (.inl ((p_folds ns2 as2 (nAt fs (nI i)) (p_far pl fs ga 100 (nAt ga (nI i)))).1 ++ [(nAt fs (nI i))]))) 28 (.inl ((p_folds ns2 as2 (nAt fs (nI i)) (p_far pl fs ga 100 (nAt ga (nI i)))).2.1 ++ [(p_far pl fs ga 100 (nAt ga (nI i)))]))) P
                    rw [nI_1]
                    refine xw.forget (lv := [(0, .ref (z + 15)), (1, .int (bI (t_ends (p_l ((p_folds ns2 as2 (nAt fs (nI i)) (p_far pl fs ga 100 (nAt ga (nI i)))).1 ++ [(nAt fs (nI i))]) 0)))), (2, .int (nI (i + 1)))]) lk_77 (show [0, 1, 2].Nodup by decide) (show [0, 1, 2, 3, 4, 5].Nodup by decide) (List.forall_mem_cons.mpr ⟨rfl, List.forall_mem_cons.mpr ⟨rfl, List.forall_mem_cons.mpr ⟨rfl, fun _ h => absurd h List.not_mem_nil⟩⟩⟩) ?_
                    exact ih (i + 1) (by omega) _ _ _ (by have h1 := p_step_len ns2 as2 (nAt fs (nI i)) (p_far pl fs ga 100 (nAt ga (nI i))); rw [(show p_step ns2 as2 (nAt fs (nI i)) (p_far pl fs ga 100 (nAt ga (nI i))) = (((p_folds ns2 as2 (nAt fs (nI i)) (p_far pl fs ga 100 (nAt ga (nI i)))).1 ++ [(nAt fs (nI i))]), ((p_folds ns2 as2 (nAt fs (nI i)) (p_far pl fs ga 100 (nAt ga (nI i)))).2.1 ++ [(p_far pl fs ga 100 (nAt ga (nI i)))])) from by unfold p_step; rw [if_neg (by rw [(by assumption : (p_folds ns2 as2 (nAt fs (nI i)) (p_far pl fs ga 100 (nAt ga (nI i)))).2.2 = false)]; decide)])] at h1; have h2 := h1.1; dsimp only at h2; omega) (by have h1 := p_step_len ns2 as2 (nAt fs (nI i)) (p_far pl fs ga 100 (nAt ga (nI i))); rw [(show p_step ns2 as2 (nAt fs (nI i)) (p_far pl fs ga 100 (nAt ga (nI i))) = (((p_folds ns2 as2 (nAt fs (nI i)) (p_far pl fs ga 100 (nAt ga (nI i)))).1 ++ [(nAt fs (nI i))]), ((p_folds ns2 as2 (nAt fs (nI i)) (p_far pl fs ga 100 (nAt ga (nI i)))).2.1 ++ [(p_far pl fs ga 100 (nAt ga (nI i)))])) from by unfold p_step; rw [if_neg (by rw [(by assumption : (p_folds ns2 as2 (nAt fs (nI i)) (p_far pl fs ga 100 (nAt ga (nI i)))).2.2 = false)]; decide)])] at h1; have h2 := h1.2; dsimp only at h2; omega) (by rw [p_rew_go (by first | exact fun u => absurd u.1 (by assumption) | exact fun u => absurd u.2 (by assumption)) (by first | exact fun u => absurd (by assumption) u.2 | exact fun u => Bool.noConfusion (u.1.symm.trans (by assumption))) (show p_goal pl fs ga (nAt fs (nI i)) (nAt ga (nI i)) = (p_far pl fs ga 100 (nAt ga (nI i))) from by unfold p_goal; rw [if_pos (by assumption)]) (show p_step ns2 as2 (nAt fs (nI i)) (p_far pl fs ga 100 (nAt ga (nI i))) = (((p_folds ns2 as2 (nAt fs (nI i)) (p_far pl fs ga 100 (nAt ga (nI i)))).1 ++ [(nAt fs (nI i))]), ((p_folds ns2 as2 (nAt fs (nI i)) (p_far pl fs ga 100 (nAt ga (nI i)))).2.1 ++ [(p_far pl fs ga 100 (nAt ga (nI i)))])) from by unfold p_step; rw [if_neg (by rw [(by assumption : (p_folds ns2 as2 (nAt fs (nI i)) (p_far pl fs ga 100 (nAt ga (nI i)))).2.2 = false)]; decide)])] at hP; exact hP)
              · have c16 := of_decide_eq_false c16
                refine xw.steps 3 (fun _ => rfl) ?_
                show xw z NK g 77 12 [(0, .ref (z + 15)), (1, .int (bI dd)), (2, .int ((nI i) + 1)), (3, .int (nAt fs (nI i))), (4, .int (nAt ga (nI i)))] [] (xu (xu S 26 (.inl ns2)) 28 (.inl as2)) P
                rw [nI_1]
                refine xw.forget (lv := [(0, .ref (z + 15)), (1, .int (bI dd)), (2, .int (nI (i + 1)))]) lk_77 (show [0, 1, 2].Nodup by decide) (show [0, 1, 2, 3, 4].Nodup by decide) (List.forall_mem_cons.mpr ⟨rfl, List.forall_mem_cons.mpr ⟨rfl, List.forall_mem_cons.mpr ⟨rfl, fun _ h => absurd h List.not_mem_nil⟩⟩⟩) ?_
                exact ih (i + 1) (by omega) _ _ _ (by omega) (by omega) (by rw [p_rew_skip (by first | exact Or.inl ⟨by assumption, by assumption⟩ | exact Or.inr ⟨by assumption, by assumption⟩)] at hP; exact hP)
          · have c11 := Decidable.not_not.mp (of_decide_eq_false c11)
            refine xw.steps 3 (fun _ => rfl) ?_
            show xw z NK g 77 12 [(0, .ref (z + 15)), (1, .int (bI dd)), (2, .int ((nI i) + 1)), (3, .int (nAt fs (nI i))), (4, .int (nAt ga (nI i)))] [] (xu (xu S 26 (.inl ns2)) 28 (.inl as2)) P
            rw [nI_1]
            refine xw.forget (lv := [(0, .ref (z + 15)), (1, .int (bI dd)), (2, .int (nI (i + 1)))]) lk_77 (show [0, 1, 2].Nodup by decide) (show [0, 1, 2, 3, 4].Nodup by decide) (List.forall_mem_cons.mpr ⟨rfl, List.forall_mem_cons.mpr ⟨rfl, List.forall_mem_cons.mpr ⟨rfl, fun _ h => absurd h List.not_mem_nil⟩⟩⟩) ?_
            exact ih (i + 1) (by omega) _ _ _ (by omega) (by omega) (by rw [p_rew_skip (by first | exact Or.inl ⟨by assumption, by assumption⟩ | exact Or.inr ⟨by assumption, by assumption⟩)] at hP; exact hP)
  refine xw.steps 1 (fun _ => rfl) ?_
  refine xw.getf (o := 15) rfl h15 rfl ?_
  refine xw.steps 1 (fun _ => rfl) ?_
  show xw z NK g 77 5 [(0, .ref (z + 15))] [.int 0, .ref (z + 25)] S P
  refine xw.callO (o := 25) rfl rfl rfl ht rfl rfl (c_Code_cutTo ht htn hta (by decide) ?_)
  show xw z NK g 77 8 [(0, .ref (z + 15))] [] (xu (xu S 26 (.inl (nCut ns 0))) 28 (.inl (nCut as 0))) P
  refine xw.steps 4 (fun _ => rfl) ?_
  show xw z NK g 77 12 [(0, .ref (z + 15)), (1, .int 0), (2, .int 0)] [] (xu (xu S 26 (.inl (nCut ns 0))) 28 (.inl (nCut as 0))) P
  have e1 : nCut ns 0 = [] := rfl
  have e2 : nCut as 0 = [] := rfl
  rw [e1, e2]
  exact loop fs.length 0 (by omega) false _ _ (by simp) (by simp) hP
set_option maxHeartbeats 4000000 in
/-- RowCode$Improver.folds(II)Z -/
theorem c_folds_B (hJ : iS z S 25 26 28 20 21 23 pl us fs ga ns as) (hl1 : ns.length < 131072) (hl2 : as.length < 131072) {n k : Int32} (hP : P (some (.int (bI (p_folds ns as n k).2.2))) (xu (xu S 21 (.inl (p_folds ns as n k).1)) 23 (.inl (p_folds ns as n k).2.1))) : xw z NK g 78 0 [(0, .ref (z + 15)), (1, .int n), (2, .int k)] [] S P := by
  obtain ⟨h15, h16, h18, hf, hfn, hfa, ht, htn, hta⟩ := id hJ
  refine xw.steps 1 (fun _ => rfl) ?_
  refine xw.table rfl (fun c1 => ?_) ⟨fun c1 => ?_, fun c1 => ?_, fun c1 => ?_, fun c1 => ?_, fun c1 => ?_, fun c1 => ?_, fun c1 => ?_, fun c1 => ?_, fun c1 => ?_, fun c1 => ?_, trivial⟩
  · skip
    have c1_0 : ¬ n = 5 := fun e => by rw [e] at c1; revert c1; decide
    have c1_1 : ¬ n = 6 := fun e => by rw [e] at c1; revert c1; decide
    have c1_2 : ¬ n = 7 := fun e => by rw [e] at c1; revert c1; decide
    have c1_3 : ¬ n = 8 := fun e => by rw [e] at c1; revert c1; decide
    have c1_4 : ¬ n = 9 := fun e => by rw [e] at c1; revert c1; decide
    have c1_5 : ¬ n = 10 := fun e => by rw [e] at c1; revert c1; decide
    have c1_6 : ¬ n = 11 := fun e => by rw [e] at c1; revert c1; decide
    have c1_7 : ¬ n = 12 := fun e => by rw [e] at c1; revert c1; decide
    have c1_8 : ¬ n = 13 := fun e => by rw [e] at c1; revert c1; decide
    have c1_9 : ¬ n = 14 := fun e => by rw [e] at c1; revert c1; decide
    refine xw.steps 1 (fun _ => rfl) ?_
    refine xw.ret rfl (fun _ => rfl) ?_
    show P (some (.int 0)) S
    first | simpa [p_folds, bI, xu_same htn, xu_same hta, c1_0, c1_1, c1_2, c1_3, c1_4, c1_5, c1_6, c1_7, c1_8, c1_9] using hP | simp_all [p_folds, bI, xu_same htn, xu_same hta]
  · have c1 : n = 5 := c1
    refine xw.steps 2 (fun _ => rfl) ?_
    show xw z NK g 78 58 [(0, .ref (z + 15)), (1, .int n), (2, .int k)] [.int n, .ref (z + 15)] S P
    refine xw.callO (o := 15) rfl rfl rfl h15 rfl rfl (c_one_B ⟨h15, h16, h18, hf, hfn, hfa, ht, htn, hta⟩ (by first | assumption | (unfold nCut; rw [List.length_take]; omega) | exact Nat.lt_of_le_of_lt (j_arrW_len _ _ _) (by omega)) (by first | assumption | (unfold nCut; rw [List.length_take]; omega) | exact Nat.lt_of_le_of_lt (j_arrW_len _ _ _) (by omega)) ?_)
    show xw z NK g 78 61 [(0, .ref (z + 15)), (1, .int n), (2, .int k)] [.int (bI (p_one ns as n).2.2)] (xu (xu S 21 (.inl (p_one ns as n).1)) 23 (.inl (p_one ns as n).2.1)) P
    refine xw.ret rfl (fun _ => mx_ret_b _ _) ?_
    show P (some (.int (bI (p_one ns as n).2.2))) (xu (xu S 21 (.inl (p_one ns as n).1)) 23 (.inl (p_one ns as n).2.1))
    first | simpa [p_folds, bI, xu_same htn, xu_same hta, c1] using hP | simp_all [p_folds, bI, xu_same htn, xu_same hta]
  · have c1 : n = 6 := c1
    refine xw.steps 2 (fun _ => rfl) ?_
    show xw z NK g 78 58 [(0, .ref (z + 15)), (1, .int n), (2, .int k)] [.int n, .ref (z + 15)] S P
    refine xw.callO (o := 15) rfl rfl rfl h15 rfl rfl (c_one_B ⟨h15, h16, h18, hf, hfn, hfa, ht, htn, hta⟩ (by first | assumption | (unfold nCut; rw [List.length_take]; omega) | exact Nat.lt_of_le_of_lt (j_arrW_len _ _ _) (by omega)) (by first | assumption | (unfold nCut; rw [List.length_take]; omega) | exact Nat.lt_of_le_of_lt (j_arrW_len _ _ _) (by omega)) ?_)
    show xw z NK g 78 61 [(0, .ref (z + 15)), (1, .int n), (2, .int k)] [.int (bI (p_one ns as n).2.2)] (xu (xu S 21 (.inl (p_one ns as n).1)) 23 (.inl (p_one ns as n).2.1)) P
    refine xw.ret rfl (fun _ => mx_ret_b _ _) ?_
    show P (some (.int (bI (p_one ns as n).2.2))) (xu (xu S 21 (.inl (p_one ns as n).1)) 23 (.inl (p_one ns as n).2.1))
    first | simpa [p_folds, bI, xu_same htn, xu_same hta, c1] using hP | simp_all [p_folds, bI, xu_same htn, xu_same hta]
  · have c1 : n = 7 := c1
    refine xw.steps 2 (fun _ => rfl) ?_
    show xw z NK g 78 64 [(0, .ref (z + 15)), (1, .int n), (2, .int k)] [.int k, .ref (z + 15)] S P
    refine xw.callO (o := 15) rfl rfl rfl h15 rfl rfl (c_calc_B ⟨h15, h16, h18, hf, hfn, hfa, ht, htn, hta⟩ (by first | assumption | (unfold nCut; rw [List.length_take]; omega) | exact Nat.lt_of_le_of_lt (j_arrW_len _ _ _) (by omega)) (by first | assumption | (unfold nCut; rw [List.length_take]; omega) | exact Nat.lt_of_le_of_lt (j_arrW_len _ _ _) (by omega)) ?_)
    show xw z NK g 78 67 [(0, .ref (z + 15)), (1, .int n), (2, .int k)] [.int (bI (p_calc ns as k).2.2)] (xu (xu S 21 (.inl (p_calc ns as k).1)) 23 (.inl (p_calc ns as k).2.1)) P
    refine xw.ret rfl (fun _ => mx_ret_b _ _) ?_
    show P (some (.int (bI (p_calc ns as k).2.2))) (xu (xu S 21 (.inl (p_calc ns as k).1)) 23 (.inl (p_calc ns as k).2.1))
    first | simpa [p_folds, bI, xu_same htn, xu_same hta, c1] using hP | simp_all [p_folds, bI, xu_same htn, xu_same hta]
  · have c1 : n = 8 := c1
    refine xw.steps 2 (fun _ => rfl) ?_
    show xw z NK g 78 70 [(0, .ref (z + 15)), (1, .int n), (2, .int k)] [.int k, .ref (z + 15)] S P
    refine xw.callO (o := 15) rfl rfl rfl h15 rfl rfl (c_comp_B ⟨h15, h16, h18, hf, hfn, hfa, ht, htn, hta⟩ (by first | assumption | (unfold nCut; rw [List.length_take]; omega) | exact Nat.lt_of_le_of_lt (j_arrW_len _ _ _) (by omega)) (by first | assumption | (unfold nCut; rw [List.length_take]; omega) | exact Nat.lt_of_le_of_lt (j_arrW_len _ _ _) (by omega)) ?_)
    show xw z NK g 78 73 [(0, .ref (z + 15)), (1, .int n), (2, .int k)] [.int (bI (p_comp ns as k).2.2)] (xu (xu S 21 (.inl (p_comp ns as k).1)) 23 (.inl (p_comp ns as k).2.1)) P
    refine xw.ret rfl (fun _ => mx_ret_b _ _) ?_
    show P (some (.int (bI (p_comp ns as k).2.2))) (xu (xu S 21 (.inl (p_comp ns as k).1)) 23 (.inl (p_comp ns as k).2.1))
    first | simpa [p_folds, bI, xu_same htn, xu_same hta, c1] using hP | simp_all [p_folds, bI, xu_same htn, xu_same hta]
  · have c1 : n = 9 := c1
    refine xw.steps 1 (fun _ => rfl) ?_
    refine xw.ret rfl (fun _ => rfl) ?_
    show P (some (.int 0)) S
    first | simpa [p_folds, bI, xu_same htn, xu_same hta, c1] using hP | simp_all [p_folds, bI, xu_same htn, xu_same hta]
  · have c1 : n = 10 := c1
    refine xw.steps 1 (fun _ => rfl) ?_
    refine xw.ret rfl (fun _ => rfl) ?_
    show P (some (.int 0)) S
    first | simpa [p_folds, bI, xu_same htn, xu_same hta, c1] using hP | simp_all [p_folds, bI, xu_same htn, xu_same hta]
  · have c1 : n = 11 := c1
    refine xw.steps 3 (fun _ => rfl) ?_
    show xw z NK g 78 82 [(0, .ref (z + 15)), (1, .int n), (2, .int k)] [.int k, .int n, .ref (z + 15)] S P
    refine xw.callO (o := 15) rfl rfl rfl h15 rfl rfl (c_cond_B ⟨h15, h16, h18, hf, hfn, hfa, ht, htn, hta⟩ (by first | assumption | (unfold nCut; rw [List.length_take]; omega) | exact Nat.lt_of_le_of_lt (j_arrW_len _ _ _) (by omega)) (by first | assumption | (unfold nCut; rw [List.length_take]; omega) | exact Nat.lt_of_le_of_lt (j_arrW_len _ _ _) (by omega)) ?_)
    show xw z NK g 78 85 [(0, .ref (z + 15)), (1, .int n), (2, .int k)] [.int (bI (p_cond ns as n k).2.2)] (xu (xu S 21 (.inl (p_cond ns as n k).1)) 23 (.inl (p_cond ns as n k).2.1)) P
    refine xw.ret rfl (fun _ => mx_ret_b _ _) ?_
    show P (some (.int (bI (p_cond ns as n k).2.2))) (xu (xu S 21 (.inl (p_cond ns as n k).1)) 23 (.inl (p_cond ns as n k).2.1))
    first | simpa [p_folds, bI, xu_same htn, xu_same hta, c1] using hP | simp_all [p_folds, bI, xu_same htn, xu_same hta]
  · have c1 : n = 12 := c1
    refine xw.steps 3 (fun _ => rfl) ?_
    show xw z NK g 78 82 [(0, .ref (z + 15)), (1, .int n), (2, .int k)] [.int k, .int n, .ref (z + 15)] S P
    refine xw.callO (o := 15) rfl rfl rfl h15 rfl rfl (c_cond_B ⟨h15, h16, h18, hf, hfn, hfa, ht, htn, hta⟩ (by first | assumption | (unfold nCut; rw [List.length_take]; omega) | exact Nat.lt_of_le_of_lt (j_arrW_len _ _ _) (by omega)) (by first | assumption | (unfold nCut; rw [List.length_take]; omega) | exact Nat.lt_of_le_of_lt (j_arrW_len _ _ _) (by omega)) ?_)
    show xw z NK g 78 85 [(0, .ref (z + 15)), (1, .int n), (2, .int k)] [.int (bI (p_cond ns as n k).2.2)] (xu (xu S 21 (.inl (p_cond ns as n k).1)) 23 (.inl (p_cond ns as n k).2.1)) P
    refine xw.ret rfl (fun _ => mx_ret_b _ _) ?_
    show P (some (.int (bI (p_cond ns as n k).2.2))) (xu (xu S 21 (.inl (p_cond ns as n k).1)) 23 (.inl (p_cond ns as n k).2.1))
    first | simpa [p_folds, bI, xu_same htn, xu_same hta, c1] using hP | simp_all [p_folds, bI, xu_same htn, xu_same hta]
  · have c1 : n = 13 := c1
    refine xw.steps 2 (fun _ => rfl) ?_
    show xw z NK g 78 88 [(0, .ref (z + 15)), (1, .int n), (2, .int k)] [.int k, .ref (z + 15)] S P
    refine xw.callO (o := 15) rfl rfl rfl h15 rfl rfl (c_short_B ⟨h15, h16, h18, hf, hfn, hfa, ht, htn, hta⟩ (by first | assumption | (unfold nCut; rw [List.length_take]; omega) | exact Nat.lt_of_le_of_lt (j_arrW_len _ _ _) (by omega)) (by first | assumption | (unfold nCut; rw [List.length_take]; omega) | exact Nat.lt_of_le_of_lt (j_arrW_len _ _ _) (by omega)) ?_)
    show xw z NK g 78 91 [(0, .ref (z + 15)), (1, .int n), (2, .int k)] [] (xu (xu S 21 (.inl (p_short ns as k).1)) 23 (.inl (p_short ns as k).2)) P
    refine xw.steps 1 (fun _ => rfl) ?_
    refine xw.ret rfl (fun _ => rfl) ?_
    show P (some (.int 0)) (xu (xu S 21 (.inl (p_short ns as k).1)) 23 (.inl (p_short ns as k).2))
    first | simpa [p_folds, bI, xu_same htn, xu_same hta, c1] using hP | simp_all [p_folds, bI, xu_same htn, xu_same hta]
  · have c1 : n = 14 := c1
    refine xw.steps 1 (fun _ => rfl) ?_
    show xw z NK g 78 75 [(0, .ref (z + 15)), (1, .int n), (2, .int k)] [.ref (z + 15)] S P
    refine xw.callO (o := 15) rfl rfl rfl h15 rfl rfl (c_drop_B ⟨h15, h16, h18, hf, hfn, hfa, ht, htn, hta⟩ (by first | assumption | (unfold nCut; rw [List.length_take]; omega) | exact Nat.lt_of_le_of_lt (j_arrW_len _ _ _) (by omega)) (by first | assumption | (unfold nCut; rw [List.length_take]; omega) | exact Nat.lt_of_le_of_lt (j_arrW_len _ _ _) (by omega)) ?_)
    show xw z NK g 78 78 [(0, .ref (z + 15)), (1, .int n), (2, .int k)] [.int (bI (p_drop ns as).2.2)] (xu (xu S 21 (.inl (p_drop ns as).1)) 23 (.inl (p_drop ns as).2.1)) P
    refine xw.ret rfl (fun _ => mx_ret_b _ _) ?_
    show P (some (.int (bI (p_drop ns as).2.2))) (xu (xu S 21 (.inl (p_drop ns as).1)) 23 (.inl (p_drop ns as).2.1))
    first | simpa [p_folds, bI, xu_same htn, xu_same hta, c1] using hP | simp_all [p_folds, bI, xu_same htn, xu_same hta]
set_option maxHeartbeats 1000000 in
/-- RowCode$Improver.farthest(I)I -/
theorem c_far_B (hJ : iS z S 25 26 28 20 21 23 pl us fs ga ns as) {l : Int32} (hP : P (some (.int (p_far pl fs ga 100 l))) S) : xw z NK g 76 0 [(0, .ref (z + 15)), (1, .int l)] [] S P := by
  obtain ⟨h15, h16, h18, hf, hfn, hfa, ht, htn, hta⟩ := id hJ
  have loop : ∀ (d i : Nat) (hi : i + d = 100) (far : Int32) (hP : P (some (.int (p_far pl fs ga d far))) S), xw z NK g 76 4 [(0, .ref (z + 15)), (1, .int l), (2, .int far), (3, .int (nI i))] [] S P := by
    intro d
    induction d with
    | zero =>
      intro i hi far hP
      refine xw.steps 2 (fun _ => rfl) ?_
      refine xw.icmp rfl (fun c1 => ?_) (fun c1 => ?_)
      · have c1 := Int32.not_lt.mpr (of_decide_eq_true c1)
        refine xw.steps 1 (fun _ => rfl) ?_
        refine xw.ret rfl (fun _ => rfl) ?_
        show P (some (.int far)) S
        exact hP
      · have c1 := Int32.not_le.mp (of_decide_eq_false c1)
        show xw z NK g 76 10 [(0, .ref (z + 15)), (1, .int l), (2, .int far), (3, .int (nI i))] [] S P
        exact absurd c1 (nI_nlt (b := 100) (by omega) (by omega))
    | succ d ih =>
      intro i hi far hP
      refine xw.steps 2 (fun _ => rfl) ?_
      refine xw.icmp rfl (fun c1 => ?_) (fun c1 => ?_)
      · have c1 := Int32.not_lt.mpr (of_decide_eq_true c1)
        show xw z NK g 76 65 [(0, .ref (z + 15)), (1, .int l), (2, .int far), (3, .int (nI i))] [] S P
        exact absurd (nI_lt (b := 100) (by omega) (by omega)) c1
      · have c1 := Int32.not_le.mp (of_decide_eq_false c1)
        refine xw.steps 1 (fun _ => rfl) ?_
        refine xw.getf (o := 15) rfl h15 rfl ?_
        refine xw.steps 1 (fun _ => rfl) ?_
        show xw z NK g 76 15 [(0, .ref (z + 15)), (1, .int l), (2, .int far), (3, .int (nI i))] [.int far, .ref (z + 16)] S P
        refine xw.callN (o := 16) rfl rfl rfl h16 rfl rfl (c_at h16 ?_)
        show xw z NK g 76 18 [(0, .ref (z + 15)), (1, .int l), (2, .int far), (3, .int (nI i))] [.int (nAt pl far)] S P
        refine xw.steps 4 (fun _ => rfl) ?_
        refine xw.getf (o := 15) rfl h15 rfl ?_
        refine xw.steps 1 (fun _ => rfl) ?_
        show xw z NK g 76 28 [(0, .ref (z + 15)), (1, .int l), (2, .int far), (3, .int (nI i)), (4, .int ((nAt pl far) + 1))] [.int ((nAt pl far) + 1), .ref (z + 25)] S P
        refine xw.callO (o := 25) rfl rfl rfl hf rfl rfl (c_Code_numberAt hf hfn hfa (by decide) ?_)
        show xw z NK g 76 31 [(0, .ref (z + 15)), (1, .int l), (2, .int far), (3, .int (nI i)), (4, .int ((nAt pl far) + 1))] [.int (nAt fs ((nAt pl far) + 1))] S P
        refine xw.steps 3 (fun _ => rfl) ?_
        refine xw.icmp rfl (fun c2 => ?_) (fun c2 => ?_)
        · have c2 := of_decide_eq_true c2
          refine xw.steps 1 (fun _ => rfl) ?_
          refine xw.getf (o := 15) rfl h15 rfl ?_
          refine xw.steps 1 (fun _ => rfl) ?_
          show xw z NK g 76 55 [(0, .ref (z + 15)), (1, .int l), (2, .int far), (3, .int (nI i)), (4, .int ((nAt pl far) + 1)), (5, .int (nAt fs ((nAt pl far) + 1)))] [.int ((nAt pl far) + 1), .ref (z + 25)] S P
          refine xw.callO (o := 25) rfl rfl rfl hf rfl rfl (c_Code_argumentAt hf hfn hfa (by decide) ?_)
          show xw z NK g 76 58 [(0, .ref (z + 15)), (1, .int l), (2, .int far), (3, .int (nI i)), (4, .int ((nAt pl far) + 1)), (5, .int (nAt fs ((nAt pl far) + 1)))] [.int (nAt ga ((nAt pl far) + 1))] S P
          refine xw.steps 3 (fun _ => rfl) ?_
          show xw z NK g 76 4 [(0, .ref (z + 15)), (1, .int l), (2, .int (nAt ga ((nAt pl far) + 1))), (3, .int ((nI i) + 1)), (4, .int ((nAt pl far) + 1)), (5, .int (nAt fs ((nAt pl far) + 1)))] [] S P
          rw [nI_1]
          refine xw.forget (lv := [(0, .ref (z + 15)), (1, .int l), (2, .int (nAt ga ((nAt pl far) + 1))), (3, .int (nI (i + 1)))]) lk_76 (show [0, 1, 2, 3].Nodup by decide) (show [0, 1, 2, 3, 4, 5].Nodup by decide) (List.forall_mem_cons.mpr ⟨rfl, List.forall_mem_cons.mpr ⟨rfl, List.forall_mem_cons.mpr ⟨rfl, List.forall_mem_cons.mpr ⟨rfl, fun _ h => absurd h List.not_mem_nil⟩⟩⟩⟩) ?_
          exact ih (i + 1) (by omega) _ (by first | simpa [p_far, c1, c2] using hP | simp_all [p_far])
        · have c2 := of_decide_eq_false c2
          refine xw.steps 2 (fun _ => rfl) ?_
          refine xw.icmp rfl (fun c3 => ?_) (fun c3 => ?_)
          · have c3 := of_decide_eq_true c3
            refine xw.steps 1 (fun _ => rfl) ?_
            refine xw.getf (o := 15) rfl h15 rfl ?_
            refine xw.steps 1 (fun _ => rfl) ?_
            show xw z NK g 76 55 [(0, .ref (z + 15)), (1, .int l), (2, .int far), (3, .int (nI i)), (4, .int ((nAt pl far) + 1)), (5, .int (nAt fs ((nAt pl far) + 1)))] [.int ((nAt pl far) + 1), .ref (z + 25)] S P
            refine xw.callO (o := 25) rfl rfl rfl hf rfl rfl (c_Code_argumentAt hf hfn hfa (by decide) ?_)
            show xw z NK g 76 58 [(0, .ref (z + 15)), (1, .int l), (2, .int far), (3, .int (nI i)), (4, .int ((nAt pl far) + 1)), (5, .int (nAt fs ((nAt pl far) + 1)))] [.int (nAt ga ((nAt pl far) + 1))] S P
            refine xw.steps 3 (fun _ => rfl) ?_
            show xw z NK g 76 4 [(0, .ref (z + 15)), (1, .int l), (2, .int (nAt ga ((nAt pl far) + 1))), (3, .int ((nI i) + 1)), (4, .int ((nAt pl far) + 1)), (5, .int (nAt fs ((nAt pl far) + 1)))] [] S P
            rw [nI_1]
            refine xw.forget (lv := [(0, .ref (z + 15)), (1, .int l), (2, .int (nAt ga ((nAt pl far) + 1))), (3, .int (nI (i + 1)))]) lk_76 (show [0, 1, 2, 3].Nodup by decide) (show [0, 1, 2, 3, 4, 5].Nodup by decide) (List.forall_mem_cons.mpr ⟨rfl, List.forall_mem_cons.mpr ⟨rfl, List.forall_mem_cons.mpr ⟨rfl, List.forall_mem_cons.mpr ⟨rfl, fun _ h => absurd h List.not_mem_nil⟩⟩⟩⟩) ?_
            exact ih (i + 1) (by omega) _ (by first | simpa [p_far, c1, c2, c3] using hP | simp_all [p_far])
          · have c3 := of_decide_eq_false c3
            refine xw.steps 1 (fun _ => rfl) ?_
            refine xw.ret rfl (fun _ => rfl) ?_
            show P (some (.int far)) S
            first | simpa [p_far, c1, c2, c3] using hP | simp_all [p_far]
  refine xw.steps 4 (fun _ => rfl) ?_
  show xw z NK g 76 4 [(0, .ref (z + 15)), (1, .int l), (2, .int l), (3, .int 0)] [] S P
  exact loop 100 0 (by omega) _ hP
set_option maxHeartbeats 1000000 in
/-- RowCode$Improver.findPlaces()V -/
theorem c_places_B (hJ : iS z S 25 26 28 20 21 23 pl us fs ga ns as) (hb : fs.length < 60000) (hP : P none (xu S 16 (.inl (p_places fs ga fs.length 0 (List.replicate 100 (-1)))))) : xw z NK g 74 0 [(0, .ref (z + 15))] [] S P := by
  obtain ⟨h15, h16, h18, hf, hfn, hfa, ht, htn, hta⟩ := id hJ
  have loop : ∀ (d i : Nat) (hi : i + d = fs.length) (pl2 : List Int32) (hP : P none (xu S 16 (.inl (p_places fs ga d i pl2)))), xw z NK g 74 12 [(0, .ref (z + 15)), (1, .int (nI i))] [] (xu S 16 (.inl pl2)) P := by
    intro d
    induction d with
    | zero =>
      intro i hi pl2 hP
      refine xw.steps 2 (fun _ => rfl) ?_
      refine xw.getf (o := 15) rfl ((xu_ne _ _ (by decide)).trans h15) rfl ?_
      show xw z NK g 74 17 [(0, .ref (z + 15)), (1, .int (nI i))] [.ref (z + 25), .int (nI i)] (xu S 16 (.inl pl2)) P
      refine xw.callO (o := 25) rfl rfl rfl ((xu_ne _ _ (by decide)).trans hf) rfl rfl (c_Code_size ((xu_ne _ _ (by decide)).trans hf) ((xu_ne _ _ (by decide)).trans hfn) ((xu_ne _ _ (by decide)).trans hfa) (by decide) ?_)
      show xw z NK g 74 20 [(0, .ref (z + 15)), (1, .int (nI i))] [.int (nI fs.length), .int (nI i)] (xu S 16 (.inl pl2)) P
      refine xw.icmp rfl (fun c1 => ?_) (fun c1 => ?_)
      · have c1 := Int32.not_lt.mpr (of_decide_eq_true c1)
        refine xw.ret rfl (fun _ => rfl) ?_
        show P none (xu S 16 (.inl pl2))
        exact hP
      · have c1 := Int32.not_le.mp (of_decide_eq_false c1)
        show xw z NK g 74 23 [(0, .ref (z + 15)), (1, .int (nI i))] [] (xu S 16 (.inl pl2)) P
        exact absurd c1 (nI_nlt (by omega) (by omega))
    | succ d ih =>
      intro i hi pl2 hP
      refine xw.steps 2 (fun _ => rfl) ?_
      refine xw.getf (o := 15) rfl ((xu_ne _ _ (by decide)).trans h15) rfl ?_
      show xw z NK g 74 17 [(0, .ref (z + 15)), (1, .int (nI i))] [.ref (z + 25), .int (nI i)] (xu S 16 (.inl pl2)) P
      refine xw.callO (o := 25) rfl rfl rfl ((xu_ne _ _ (by decide)).trans hf) rfl rfl (c_Code_size ((xu_ne _ _ (by decide)).trans hf) ((xu_ne _ _ (by decide)).trans hfn) ((xu_ne _ _ (by decide)).trans hfa) (by decide) ?_)
      show xw z NK g 74 20 [(0, .ref (z + 15)), (1, .int (nI i))] [.int (nI fs.length), .int (nI i)] (xu S 16 (.inl pl2)) P
      refine xw.icmp rfl (fun c1 => ?_) (fun c1 => ?_)
      · have c1 := Int32.not_lt.mpr (of_decide_eq_true c1)
        show xw z NK g 74 58 [(0, .ref (z + 15)), (1, .int (nI i))] [] (xu S 16 (.inl pl2)) P
        exact absurd (nI_lt (by omega) (by omega)) c1
      · have c1 := Int32.not_le.mp (of_decide_eq_false c1)
        refine xw.steps 1 (fun _ => rfl) ?_
        refine xw.getf (o := 15) rfl ((xu_ne _ _ (by decide)).trans h15) rfl ?_
        refine xw.steps 1 (fun _ => rfl) ?_
        show xw z NK g 74 28 [(0, .ref (z + 15)), (1, .int (nI i))] [.int (nI i), .ref (z + 25)] (xu S 16 (.inl pl2)) P
        refine xw.callO (o := 25) rfl rfl rfl ((xu_ne _ _ (by decide)).trans hf) rfl rfl (c_Code_numberAt ((xu_ne _ _ (by decide)).trans hf) ((xu_ne _ _ (by decide)).trans hfn) ((xu_ne _ _ (by decide)).trans hfa) (by decide) ?_)
        show xw z NK g 74 31 [(0, .ref (z + 15)), (1, .int (nI i))] [.int (nAt fs (nI i))] (xu S 16 (.inl pl2)) P
        refine xw.steps 1 (fun _ => rfl) ?_
        refine xw.icmp rfl (fun c2 => ?_) (fun c2 => ?_)
        · have c2 := of_decide_eq_true c2
          refine xw.steps 2 (fun _ => rfl) ?_
          show xw z NK g 74 12 [(0, .ref (z + 15)), (1, .int ((nI i) + 1))] [] (xu S 16 (.inl pl2)) P
          rw [nI_1]
          exact ih (i + 1) (by omega) _ (by first | simpa [p_places, c1, c2] using hP | simp_all [p_places])
        · have c2 := Decidable.not_not.mp (of_decide_eq_false c2)
          refine xw.steps 1 (fun _ => rfl) ?_
          refine xw.getf (o := 15) rfl ((xu_ne _ _ (by decide)).trans h15) rfl ?_
          refine xw.steps 1 (fun _ => rfl) ?_
          refine xw.getf (o := 15) rfl ((xu_ne _ _ (by decide)).trans h15) rfl ?_
          refine xw.steps 1 (fun _ => rfl) ?_
          show xw z NK g 74 45 [(0, .ref (z + 15)), (1, .int (nI i))] [.int (nI i), .ref (z + 25), .ref (z + 16)] (xu S 16 (.inl pl2)) P
          refine xw.callO (o := 25) rfl rfl rfl ((xu_ne _ _ (by decide)).trans hf) rfl rfl (c_Code_argumentAt ((xu_ne _ _ (by decide)).trans hf) ((xu_ne _ _ (by decide)).trans hfn) ((xu_ne _ _ (by decide)).trans hfa) (by decide) ?_)
          show xw z NK g 74 48 [(0, .ref (z + 15)), (1, .int (nI i))] [.int (nAt ga (nI i)), .ref (z + 16)] (xu S 16 (.inl pl2)) P
          refine xw.steps 1 (fun _ => rfl) ?_
          show xw z NK g 74 49 [(0, .ref (z + 15)), (1, .int (nI i))] [.int (nI i), .int (nAt ga (nI i)), .ref (z + 16)] (xu S 16 (.inl pl2)) P
          refine xw.callN (o := 16) rfl rfl rfl (xu_self _ _ _) rfl rfl (c_change (xu_self _ _ _) ?_)
          show xw z NK g 74 52 [(0, .ref (z + 15)), (1, .int (nI i))] [] (xu (xu S 16 (.inl pl2)) 16 (.inl (nSet pl2 (nAt ga (nI i)) (nI i)))) P
          rw [xu_xu]
          refine xw.steps 2 (fun _ => rfl) ?_
          show xw z NK g 74 12 [(0, .ref (z + 15)), (1, .int ((nI i) + 1))] [] (xu S 16 (.inl (nSet pl2 (nAt ga (nI i)) (nI i)))) P
          rw [nI_1]
          exact ih (i + 1) (by omega) _ (by first | simpa [p_places, c1, c2] using hP | simp_all [p_places])
  refine xw.steps 1 (fun _ => rfl) ?_
  refine xw.getf (o := 15) rfl h15 rfl ?_
  refine xw.steps 2 (fun _ => rfl) ?_
  show xw z NK g 74 7 [(0, .ref (z + 15))] [.int (-1), .int 100, .ref (z + 16)] S P
  refine xw.callN (o := 16) rfl rfl rfl h16 rfl rfl (c_refill h16 (by decide) ?_)
  show xw z NK g 74 10 [(0, .ref (z + 15))] [] (xu S 16 (.inl (List.replicate (100 : Int32).toNatClampNeg (-1)))) P
  refine xw.steps 2 (fun _ => rfl) ?_
  show xw z NK g 74 12 [(0, .ref (z + 15)), (1, .int 0)] [] (xu S 16 (.inl (List.replicate (100 : Int32).toNatClampNeg (-1)))) P
  exact loop fs.length 0 (by omega) _ hP
set_option maxHeartbeats 1000000 in
/-- RowCode$Improver.countUses()V -/
theorem c_uses_B (hJ : iS z S 25 26 28 20 21 23 pl us fs ga ns as) (hb : fs.length < 60000) (hP : P none (xu S 18 (.inl (p_uses pl fs ga fs.length 0 (List.replicate 100 0))))) : xw z NK g 75 0 [(0, .ref (z + 15))] [] S P := by
  obtain ⟨h15, h16, h18, hf, hfn, hfa, ht, htn, hta⟩ := id hJ
  have loop : ∀ (d i : Nat) (hi : i + d = fs.length) (us2 : List Int32) (hP : P none (xu S 18 (.inl (p_uses pl fs ga d i us2)))), xw z NK g 75 12 [(0, .ref (z + 15)), (1, .int (nI i))] [] (xu S 18 (.inl us2)) P := by
    intro d
    induction d with
    | zero =>
      intro i hi us2 hP
      refine xw.steps 2 (fun _ => rfl) ?_
      refine xw.getf (o := 15) rfl ((xu_ne _ _ (by decide)).trans h15) rfl ?_
      show xw z NK g 75 17 [(0, .ref (z + 15)), (1, .int (nI i))] [.ref (z + 25), .int (nI i)] (xu S 18 (.inl us2)) P
      refine xw.callO (o := 25) rfl rfl rfl ((xu_ne _ _ (by decide)).trans hf) rfl rfl (c_Code_size ((xu_ne _ _ (by decide)).trans hf) ((xu_ne _ _ (by decide)).trans hfn) ((xu_ne _ _ (by decide)).trans hfa) (by decide) ?_)
      show xw z NK g 75 20 [(0, .ref (z + 15)), (1, .int (nI i))] [.int (nI fs.length), .int (nI i)] (xu S 18 (.inl us2)) P
      refine xw.icmp rfl (fun c1 => ?_) (fun c1 => ?_)
      · have c1 := Int32.not_lt.mpr (of_decide_eq_true c1)
        refine xw.ret rfl (fun _ => rfl) ?_
        show P none (xu S 18 (.inl us2))
        exact hP
      · have c1 := Int32.not_le.mp (of_decide_eq_false c1)
        show xw z NK g 75 23 [(0, .ref (z + 15)), (1, .int (nI i))] [] (xu S 18 (.inl us2)) P
        exact absurd c1 (nI_nlt (by omega) (by omega))
    | succ d ih =>
      intro i hi us2 hP
      refine xw.steps 2 (fun _ => rfl) ?_
      refine xw.getf (o := 15) rfl ((xu_ne _ _ (by decide)).trans h15) rfl ?_
      show xw z NK g 75 17 [(0, .ref (z + 15)), (1, .int (nI i))] [.ref (z + 25), .int (nI i)] (xu S 18 (.inl us2)) P
      refine xw.callO (o := 25) rfl rfl rfl ((xu_ne _ _ (by decide)).trans hf) rfl rfl (c_Code_size ((xu_ne _ _ (by decide)).trans hf) ((xu_ne _ _ (by decide)).trans hfn) ((xu_ne _ _ (by decide)).trans hfa) (by decide) ?_)
      show xw z NK g 75 20 [(0, .ref (z + 15)), (1, .int (nI i))] [.int (nI fs.length), .int (nI i)] (xu S 18 (.inl us2)) P
      refine xw.icmp rfl (fun c1 => ?_) (fun c1 => ?_)
      · have c1 := Int32.not_lt.mpr (of_decide_eq_true c1)
        show xw z NK g 75 74 [(0, .ref (z + 15)), (1, .int (nI i))] [] (xu S 18 (.inl us2)) P
        exact absurd (nI_lt (by omega) (by omega)) c1
      · have c1 := Int32.not_le.mp (of_decide_eq_false c1)
        refine xw.steps 1 (fun _ => rfl) ?_
        refine xw.getf (o := 15) rfl ((xu_ne _ _ (by decide)).trans h15) rfl ?_
        refine xw.steps 1 (fun _ => rfl) ?_
        show xw z NK g 75 28 [(0, .ref (z + 15)), (1, .int (nI i))] [.int (nI i), .ref (z + 25)] (xu S 18 (.inl us2)) P
        refine xw.callO (o := 25) rfl rfl rfl ((xu_ne _ _ (by decide)).trans hf) rfl rfl (c_Code_numberAt ((xu_ne _ _ (by decide)).trans hf) ((xu_ne _ _ (by decide)).trans hfn) ((xu_ne _ _ (by decide)).trans hfa) (by decide) ?_)
        show xw z NK g 75 31 [(0, .ref (z + 15)), (1, .int (nI i))] [.int (nAt fs (nI i))] (xu S 18 (.inl us2)) P
        show xw z NK g 75 31 [(0, .ref (z + 15)), (1, .int (nI i))] [.int (nAt fs (nI i))] (xu S 18 (.inl us2)) P
        refine xw.callS rfl rfl rfl rfl rfl (c_goesToLabel ?_)
        show xw z NK g 75 34 [(0, .ref (z + 15)), (1, .int (nI i))] [.int (bI (t_goes (nAt fs (nI i))))] (xu S 18 (.inl us2)) P
        refine xw.if_ rfl (fun c2 => ?_) (fun c2 => ?_)
        · have c2 := bI_eq0 (of_decide_eq_true c2)
          refine xw.steps 2 (fun _ => rfl) ?_
          show xw z NK g 75 12 [(0, .ref (z + 15)), (1, .int ((nI i) + 1))] [] (xu S 18 (.inl us2)) P
          rw [nI_1]
          exact ih (i + 1) (by omega) _ (by first | simpa [p_uses, c1, c2] using hP | simp_all [p_uses])
        · have c2 := bI_ne0 (of_decide_eq_false c2)
          refine xw.steps 2 (fun _ => rfl) ?_
          refine xw.getf (o := 15) rfl ((xu_ne _ _ (by decide)).trans h15) rfl ?_
          refine xw.steps 1 (fun _ => rfl) ?_
          show xw z NK g 75 43 [(0, .ref (z + 15)), (1, .int (nI i))] [.int (nI i), .ref (z + 25), .ref (z + 15)] (xu S 18 (.inl us2)) P
          refine xw.callO (o := 25) rfl rfl rfl ((xu_ne _ _ (by decide)).trans hf) rfl rfl (c_Code_argumentAt ((xu_ne _ _ (by decide)).trans hf) ((xu_ne _ _ (by decide)).trans hfn) ((xu_ne _ _ (by decide)).trans hfa) (by decide) ?_)
          show xw z NK g 75 46 [(0, .ref (z + 15)), (1, .int (nI i))] [.int (nAt ga (nI i)), .ref (z + 15)] (xu S 18 (.inl us2)) P
          show xw z NK g 75 46 [(0, .ref (z + 15)), (1, .int (nI i))] [.int (nAt ga (nI i)), .ref (z + 15)] (xu S 18 (.inl us2)) P
          refine xw.callO (o := 15) rfl rfl rfl ((xu_ne _ _ (by decide)).trans h15) rfl rfl (c_far_B ⟨((xu_ne _ _ (by decide)).trans h15), ((xu_ne _ _ (by decide)).trans h16), (xu_self _ _ _), ((xu_ne _ _ (by decide)).trans hf), ((xu_ne _ _ (by decide)).trans hfn), ((xu_ne _ _ (by decide)).trans hfa), ((xu_ne _ _ (by decide)).trans ht), ((xu_ne _ _ (by decide)).trans htn), ((xu_ne _ _ (by decide)).trans hta)⟩ ?_)
          show xw z NK g 75 49 [(0, .ref (z + 15)), (1, .int (nI i))] [.int (p_far pl fs ga 100 (nAt ga (nI i)))] (xu S 18 (.inl us2)) P
          refine xw.steps 2 (fun _ => rfl) ?_
          refine xw.getf (o := 15) rfl ((xu_ne _ _ (by decide)).trans h15) rfl ?_
          refine xw.steps 2 (fun _ => rfl) ?_
          refine xw.getf (o := 15) rfl ((xu_ne _ _ (by decide)).trans h15) rfl ?_
          refine xw.steps 1 (fun _ => rfl) ?_
          show xw z NK g 75 60 [(0, .ref (z + 15)), (1, .int (nI i)), (2, .int (p_far pl fs ga 100 (nAt ga (nI i))))] [.int (p_far pl fs ga 100 (nAt ga (nI i))), .ref (z + 18), .int (p_far pl fs ga 100 (nAt ga (nI i))), .ref (z + 18)] (xu S 18 (.inl us2)) P
          refine xw.callN (o := 18) rfl rfl rfl (xu_self _ _ _) rfl rfl (c_at (xu_self _ _ _) ?_)
          show xw z NK g 75 63 [(0, .ref (z + 15)), (1, .int (nI i)), (2, .int (p_far pl fs ga 100 (nAt ga (nI i))))] [.int (nAt us2 (p_far pl fs ga 100 (nAt ga (nI i)))), .int (p_far pl fs ga 100 (nAt ga (nI i))), .ref (z + 18)] (xu S 18 (.inl us2)) P
          refine xw.steps 2 (fun _ => rfl) ?_
          show xw z NK g 75 65 [(0, .ref (z + 15)), (1, .int (nI i)), (2, .int (p_far pl fs ga 100 (nAt ga (nI i))))] [.int ((nAt us2 (p_far pl fs ga 100 (nAt ga (nI i)))) + 1), .int (p_far pl fs ga 100 (nAt ga (nI i))), .ref (z + 18)] (xu S 18 (.inl us2)) P
          refine xw.callN (o := 18) rfl rfl rfl (xu_self _ _ _) rfl rfl (c_change (xu_self _ _ _) ?_)
          show xw z NK g 75 68 [(0, .ref (z + 15)), (1, .int (nI i)), (2, .int (p_far pl fs ga 100 (nAt ga (nI i))))] [] (xu (xu S 18 (.inl us2)) 18 (.inl (nSet us2 (p_far pl fs ga 100 (nAt ga (nI i))) ((nAt us2 (p_far pl fs ga 100 (nAt ga (nI i)))) + 1)))) P
          rw [xu_xu]
          refine xw.steps 2 (fun _ => rfl) ?_
          show xw z NK g 75 12 [(0, .ref (z + 15)), (1, .int ((nI i) + 1)), (2, .int (p_far pl fs ga 100 (nAt ga (nI i))))] [] (xu S 18 (.inl (nSet us2 (p_far pl fs ga 100 (nAt ga (nI i))) ((nAt us2 (p_far pl fs ga 100 (nAt ga (nI i)))) + 1)))) P
          rw [nI_1]
          refine xw.forget (lv := [(0, .ref (z + 15)), (1, .int (nI (i + 1)))]) lk_75 (show [0, 1].Nodup by decide) (show [0, 1, 2].Nodup by decide) (List.forall_mem_cons.mpr ⟨rfl, List.forall_mem_cons.mpr ⟨rfl, fun _ h => absurd h List.not_mem_nil⟩⟩) ?_
          exact ih (i + 1) (by omega) _ (by first | simpa [p_uses, c1, c2] using hP | simp_all [p_uses])
  refine xw.steps 1 (fun _ => rfl) ?_
  refine xw.getf (o := 15) rfl h15 rfl ?_
  refine xw.steps 2 (fun _ => rfl) ?_
  show xw z NK g 75 7 [(0, .ref (z + 15))] [.int 0, .int 100, .ref (z + 18)] S P
  refine xw.callN (o := 18) rfl rfl rfl h18 rfl rfl (c_refill h18 (by decide) ?_)
  show xw z NK g 75 10 [(0, .ref (z + 15))] [] (xu S 18 (.inl (List.replicate (100 : Int32).toNatClampNeg 0))) P
  refine xw.steps 2 (fun _ => rfl) ?_
  show xw z NK g 75 12 [(0, .ref (z + 15)), (1, .int 0)] [] (xu S 18 (.inl (List.replicate (100 : Int32).toNatClampNeg 0))) P
  exact loop fs.length 0 (by omega) _ hP
set_option maxHeartbeats 8000000 in
/-- RowCode$Improver.rewrite()V -/
theorem c_rewrite_B (hJ : iS z S 25 26 28 20 21 23 pl us fs ga ns as) (hb : fs.length < 60000) (hP : P none (xu (xu S 21 (.inl (p_rew pl us fs ga fs.length 0 false [] []).1)) 23 (.inl (p_rew pl us fs ga fs.length 0 false [] []).2))) : xw z NK g 77 0 [(0, .ref (z + 15))] [] S P := by
  obtain ⟨h15, h16, h18, hf, hfn, hfa, ht, htn, hta⟩ := id hJ
  have loop : ∀ (d i : Nat) (hi : i + d = fs.length) (dd : Bool) (ns2 : List Int32) (as2 : List Int32) (hw1 : ns2.length ≤ 2 * i) (hw2 : as2.length ≤ 2 * i) (hP : P none (xu (xu S 21 (.inl (p_rew pl us fs ga d i dd ns2 as2).1)) 23 (.inl (p_rew pl us fs ga d i dd ns2 as2).2))), xw z NK g 77 12 [(0, .ref (z + 15)), (1, .int (bI dd)), (2, .int (nI i))] [] (xu (xu S 21 (.inl ns2)) 23 (.inl as2)) P := by
    intro d
    induction d with
    | zero =>
      intro i hi dd ns2 as2 hw1 hw2 hP
      refine xw.steps 2 (fun _ => rfl) ?_
      refine xw.getf (o := 15) rfl ((xu_ne _ _ (by decide)).trans ((xu_ne _ _ (by decide)).trans h15)) rfl ?_
      show xw z NK g 77 17 [(0, .ref (z + 15)), (1, .int (bI dd)), (2, .int (nI i))] [.ref (z + 25), .int (nI i)] (xu (xu S 21 (.inl ns2)) 23 (.inl as2)) P
      refine xw.callO (o := 25) rfl rfl rfl ((xu_ne _ _ (by decide)).trans ((xu_ne _ _ (by decide)).trans hf)) rfl rfl (c_Code_size ((xu_ne _ _ (by decide)).trans ((xu_ne _ _ (by decide)).trans hf)) ((xu_ne _ _ (by decide)).trans ((xu_ne _ _ (by decide)).trans hfn)) ((xu_ne _ _ (by decide)).trans ((xu_ne _ _ (by decide)).trans hfa)) (by decide) ?_)
      show xw z NK g 77 20 [(0, .ref (z + 15)), (1, .int (bI dd)), (2, .int (nI i))] [.int (nI fs.length), .int (nI i)] (xu (xu S 21 (.inl ns2)) 23 (.inl as2)) P
      refine xw.icmp rfl (fun c1 => ?_) (fun c1 => ?_)
      · have c1 := Int32.not_lt.mpr (of_decide_eq_true c1)
        refine xw.ret rfl (fun _ => rfl) ?_
        show P none (xu (xu S 21 (.inl ns2)) 23 (.inl as2))
        exact hP
      · have c1 := Int32.not_le.mp (of_decide_eq_false c1)
        show xw z NK g 77 23 [(0, .ref (z + 15)), (1, .int (bI dd)), (2, .int (nI i))] [] (xu (xu S 21 (.inl ns2)) 23 (.inl as2)) P
        exact absurd c1 (nI_nlt (by omega) (by omega))
    | succ d ih =>
      intro i hi dd ns2 as2 hw1 hw2 hP
      refine xw.steps 2 (fun _ => rfl) ?_
      refine xw.getf (o := 15) rfl ((xu_ne _ _ (by decide)).trans ((xu_ne _ _ (by decide)).trans h15)) rfl ?_
      show xw z NK g 77 17 [(0, .ref (z + 15)), (1, .int (bI dd)), (2, .int (nI i))] [.ref (z + 25), .int (nI i)] (xu (xu S 21 (.inl ns2)) 23 (.inl as2)) P
      refine xw.callO (o := 25) rfl rfl rfl ((xu_ne _ _ (by decide)).trans ((xu_ne _ _ (by decide)).trans hf)) rfl rfl (c_Code_size ((xu_ne _ _ (by decide)).trans ((xu_ne _ _ (by decide)).trans hf)) ((xu_ne _ _ (by decide)).trans ((xu_ne _ _ (by decide)).trans hfn)) ((xu_ne _ _ (by decide)).trans ((xu_ne _ _ (by decide)).trans hfa)) (by decide) ?_)
      show xw z NK g 77 20 [(0, .ref (z + 15)), (1, .int (bI dd)), (2, .int (nI i))] [.int (nI fs.length), .int (nI i)] (xu (xu S 21 (.inl ns2)) 23 (.inl as2)) P
      refine xw.icmp rfl (fun c1 => ?_) (fun c1 => ?_)
      · have c1 := Int32.not_lt.mpr (of_decide_eq_true c1)
        show xw z NK g 77 134 [(0, .ref (z + 15)), (1, .int (bI dd)), (2, .int (nI i))] [] (xu (xu S 21 (.inl ns2)) 23 (.inl as2)) P
        exact absurd (nI_lt (by omega) (by omega)) c1
      · have c1 := Int32.not_le.mp (of_decide_eq_false c1)
        refine xw.steps 1 (fun _ => rfl) ?_
        refine xw.getf (o := 15) rfl ((xu_ne _ _ (by decide)).trans ((xu_ne _ _ (by decide)).trans h15)) rfl ?_
        refine xw.steps 1 (fun _ => rfl) ?_
        show xw z NK g 77 28 [(0, .ref (z + 15)), (1, .int (bI dd)), (2, .int (nI i))] [.int (nI i), .ref (z + 25)] (xu (xu S 21 (.inl ns2)) 23 (.inl as2)) P
        refine xw.callO (o := 25) rfl rfl rfl ((xu_ne _ _ (by decide)).trans ((xu_ne _ _ (by decide)).trans hf)) rfl rfl (c_Code_numberAt ((xu_ne _ _ (by decide)).trans ((xu_ne _ _ (by decide)).trans hf)) ((xu_ne _ _ (by decide)).trans ((xu_ne _ _ (by decide)).trans hfn)) ((xu_ne _ _ (by decide)).trans ((xu_ne _ _ (by decide)).trans hfa)) (by decide) ?_)
        show xw z NK g 77 31 [(0, .ref (z + 15)), (1, .int (bI dd)), (2, .int (nI i))] [.int (nAt fs (nI i))] (xu (xu S 21 (.inl ns2)) 23 (.inl as2)) P
        refine xw.steps 2 (fun _ => rfl) ?_
        refine xw.getf (o := 15) rfl ((xu_ne _ _ (by decide)).trans ((xu_ne _ _ (by decide)).trans h15)) rfl ?_
        refine xw.steps 1 (fun _ => rfl) ?_
        show xw z NK g 77 37 [(0, .ref (z + 15)), (1, .int (bI dd)), (2, .int (nI i)), (3, .int (nAt fs (nI i)))] [.int (nI i), .ref (z + 25)] (xu (xu S 21 (.inl ns2)) 23 (.inl as2)) P
        refine xw.callO (o := 25) rfl rfl rfl ((xu_ne _ _ (by decide)).trans ((xu_ne _ _ (by decide)).trans hf)) rfl rfl (c_Code_argumentAt ((xu_ne _ _ (by decide)).trans ((xu_ne _ _ (by decide)).trans hf)) ((xu_ne _ _ (by decide)).trans ((xu_ne _ _ (by decide)).trans hfn)) ((xu_ne _ _ (by decide)).trans ((xu_ne _ _ (by decide)).trans hfa)) (by decide) ?_)
        show xw z NK g 77 40 [(0, .ref (z + 15)), (1, .int (bI dd)), (2, .int (nI i)), (3, .int (nAt fs (nI i)))] [.int (nAt ga (nI i))] (xu (xu S 21 (.inl ns2)) 23 (.inl as2)) P
        refine xw.steps 3 (fun _ => rfl) ?_
        refine xw.icmp rfl (fun c2 => ?_) (fun c2 => ?_)
        · have c2 := of_decide_eq_true c2
          refine xw.steps 1 (fun _ => rfl) ?_
          refine xw.if_ rfl (fun c3 => ?_) (fun c3 => ?_)
          · have c3 := bI_eq0 (of_decide_eq_true c3)
            refine xw.steps 1 (fun _ => rfl) ?_
            show xw z NK g 77 77 [(0, .ref (z + 15)), (1, .int (bI dd)), (2, .int (nI i)), (3, .int (nAt fs (nI i))), (4, .int (nAt ga (nI i)))] [.int (nAt fs (nI i))] (xu (xu S 21 (.inl ns2)) 23 (.inl as2)) P
            refine xw.callS rfl rfl rfl rfl rfl (c_goesToLabel ?_)
            show xw z NK g 77 80 [(0, .ref (z + 15)), (1, .int (bI dd)), (2, .int (nI i)), (3, .int (nAt fs (nI i))), (4, .int (nAt ga (nI i)))] [.int (bI (t_goes (nAt fs (nI i))))] (xu (xu S 21 (.inl ns2)) 23 (.inl as2)) P
            refine xw.if_ rfl (fun c4 => ?_) (fun c4 => ?_)
            · have c4 := bI_eq0 (of_decide_eq_true c4)
              refine xw.steps 5 (fun _ => rfl) ?_
              show xw z NK g 77 100 [(0, .ref (z + 15)), (1, .int (bI dd)), (2, .int (nI i)), (3, .int (nAt fs (nI i))), (4, .int (nAt ga (nI i))), (5, .int (nAt ga (nI i)))] [.int (nAt ga (nI i)), .int (nAt fs (nI i)), .ref (z + 15)] (xu (xu S 21 (.inl ns2)) 23 (.inl as2)) P
              refine xw.callO (o := 15) rfl rfl rfl ((xu_ne _ _ (by decide)).trans ((xu_ne _ _ (by decide)).trans h15)) rfl rfl (c_folds_B ⟨((xu_ne _ _ (by decide)).trans ((xu_ne _ _ (by decide)).trans h15)), ((xu_ne _ _ (by decide)).trans ((xu_ne _ _ (by decide)).trans h16)), ((xu_ne _ _ (by decide)).trans ((xu_ne _ _ (by decide)).trans h18)), ((xu_ne _ _ (by decide)).trans ((xu_ne _ _ (by decide)).trans hf)), ((xu_ne _ _ (by decide)).trans ((xu_ne _ _ (by decide)).trans hfn)), ((xu_ne _ _ (by decide)).trans ((xu_ne _ _ (by decide)).trans hfa)), ((xu_ne _ _ (by decide)).trans ((xu_ne _ _ (by decide)).trans ht)), ((xu_ne _ _ (by decide)).trans (xu_self _ _ _)), (xu_self _ _ _)⟩ (by omega) (by omega) ?_)
              show xw z NK g 77 103 [(0, .ref (z + 15)), (1, .int (bI dd)), (2, .int (nI i)), (3, .int (nAt fs (nI i))), (4, .int (nAt ga (nI i))), (5, .int (nAt ga (nI i)))] [.int (bI (p_folds ns2 as2 (nAt fs (nI i)) (nAt ga (nI i))).2.2)] (xu (xu (xu (xu S 21 (.inl ns2)) 23 (.inl as2)) 21 (.inl (p_folds ns2 as2 (nAt fs (nI i)) (nAt ga (nI i))).1)) 23 (.inl (p_folds ns2 as2 (nAt fs (nI i)) (nAt ga (nI i))).2.1)) P
              rw [xu4 _ (show (21 : Nat) ≠ 23 by decide)]
              refine xw.if_ rfl (fun c5 => ?_) (fun c5 => ?_)
              · have c5 := bI_ne0 (of_decide_eq_true c5)
                refine xw.steps 1 (fun _ => rfl) ?_
                refine xw.getf (o := 15) rfl ((xu_ne _ _ (by decide)).trans ((xu_ne _ _ (by decide)).trans h15)) rfl ?_
                refine xw.steps 1 (fun _ => rfl) ?_
                show xw z NK g 77 121 [(0, .ref (z + 15)), (1, .int (bI dd)), (2, .int (nI i)), (3, .int (nAt fs (nI i))), (4, .int (nAt ga (nI i))), (5, .int (nAt ga (nI i)))] [.int 0, .ref (z + 20)] (xu (xu S 21 (.inl (p_folds ns2 as2 (nAt fs (nI i)) (nAt ga (nI i))).1)) 23 (.inl (p_folds ns2 as2 (nAt fs (nI i)) (nAt ga (nI i))).2.1)) P
                refine xw.callO (o := 20) rfl rfl rfl ((xu_ne _ _ (by decide)).trans ((xu_ne _ _ (by decide)).trans ht)) rfl rfl (c_Code_lastNumber ((xu_ne _ _ (by decide)).trans ((xu_ne _ _ (by decide)).trans ht)) ((xu_ne _ _ (by decide)).trans (xu_self _ _ _)) (xu_self _ _ _) (by decide) ?_)
                show xw z NK g 77 124 [(0, .ref (z + 15)), (1, .int (bI dd)), (2, .int (nI i)), (3, .int (nAt fs (nI i))), (4, .int (nAt ga (nI i))), (5, .int (nAt ga (nI i)))] [.int (p_l (p_folds ns2 as2 (nAt fs (nI i)) (nAt ga (nI i))).1 0)] (xu (xu S 21 (.inl (p_folds ns2 as2 (nAt fs (nI i)) (nAt ga (nI i))).1)) 23 (.inl (p_folds ns2 as2 (nAt fs (nI i)) (nAt ga (nI i))).2.1)) P
                show xw z NK g 77 124 [(0, .ref (z + 15)), (1, .int (bI dd)), (2, .int (nI i)), (3, .int (nAt fs (nI i))), (4, .int (nAt ga (nI i))), (5, .int (nAt ga (nI i)))] [.int (p_l (p_folds ns2 as2 (nAt fs (nI i)) (nAt ga (nI i))).1 0)] (xu (xu S 21 (.inl (p_folds ns2 as2 (nAt fs (nI i)) (nAt ga (nI i))).1)) 23 (.inl (p_folds ns2 as2 (nAt fs (nI i)) (nAt ga (nI i))).2.1)) P
                refine xw.callS rfl rfl rfl rfl rfl (c_endsWay ?_)
                show xw z NK g 77 127 [(0, .ref (z + 15)), (1, .int (bI dd)), (2, .int (nI i)), (3, .int (nAt fs (nI i))), (4, .int (nAt ga (nI i))), (5, .int (nAt ga (nI i)))] [.int (bI (t_ends (p_l (p_folds ns2 as2 (nAt fs (nI i)) (nAt ga (nI i))).1 0)))] (xu (xu S 21 (.inl (p_folds ns2 as2 (nAt fs (nI i)) (nAt ga (nI i))).1)) 23 (.inl (p_folds ns2 as2 (nAt fs (nI i)) (nAt ga (nI i))).2.1)) P
                refine xw.steps 3 (fun _ => rfl) ?_
                show xw z NK g 77 12 [(0, .ref (z + 15)), (1, .int (bI (t_ends (p_l (p_folds ns2 as2 (nAt fs (nI i)) (nAt ga (nI i))).1 0)))), (2, .int ((nI i) + 1)), (3, .int (nAt fs (nI i))), (4, .int (nAt ga (nI i))), (5, .int (nAt ga (nI i)))] [] (xu (xu S 21 (.inl (p_folds ns2 as2 (nAt fs (nI i)) (nAt ga (nI i))).1)) 23 (.inl (p_folds ns2 as2 (nAt fs (nI i)) (nAt ga (nI i))).2.1)) P
                rw [nI_1]
                refine xw.forget (lv := [(0, .ref (z + 15)), (1, .int (bI (t_ends (p_l (p_folds ns2 as2 (nAt fs (nI i)) (nAt ga (nI i))).1 0)))), (2, .int (nI (i + 1)))]) lk_77 (show [0, 1, 2].Nodup by decide) (show [0, 1, 2, 3, 4, 5].Nodup by decide) (List.forall_mem_cons.mpr ⟨rfl, List.forall_mem_cons.mpr ⟨rfl, List.forall_mem_cons.mpr ⟨rfl, fun _ h => absurd h List.not_mem_nil⟩⟩⟩) ?_
                exact ih (i + 1) (by omega) _ _ _ (by have h1 := p_step_len ns2 as2 (nAt fs (nI i)) (nAt ga (nI i)); rw [(show p_step ns2 as2 (nAt fs (nI i)) (nAt ga (nI i)) = ((p_folds ns2 as2 (nAt fs (nI i)) (nAt ga (nI i))).1, (p_folds ns2 as2 (nAt fs (nI i)) (nAt ga (nI i))).2.1) from by unfold p_step; rw [if_pos (by assumption)])] at h1; have h2 := h1.1; dsimp only at h2; omega) (by have h1 := p_step_len ns2 as2 (nAt fs (nI i)) (nAt ga (nI i)); rw [(show p_step ns2 as2 (nAt fs (nI i)) (nAt ga (nI i)) = ((p_folds ns2 as2 (nAt fs (nI i)) (nAt ga (nI i))).1, (p_folds ns2 as2 (nAt fs (nI i)) (nAt ga (nI i))).2.1) from by unfold p_step; rw [if_pos (by assumption)])] at h1; have h2 := h1.2; dsimp only at h2; omega) (by rw [p_rew_go (by first | exact fun u => absurd u.1 (by assumption) | exact fun u => absurd u.2 (by assumption)) (by first | exact fun u => absurd (by assumption) u.2 | exact fun u => Bool.noConfusion (u.1.symm.trans (by assumption))) (show p_goal pl fs ga (nAt fs (nI i)) (nAt ga (nI i)) = (nAt ga (nI i)) from by unfold p_goal; rw [if_neg (by rw [(by assumption : t_goes (nAt fs (nI i)) = false)]; decide)]) (show p_step ns2 as2 (nAt fs (nI i)) (nAt ga (nI i)) = ((p_folds ns2 as2 (nAt fs (nI i)) (nAt ga (nI i))).1, (p_folds ns2 as2 (nAt fs (nI i)) (nAt ga (nI i))).2.1) from by unfold p_step; rw [if_pos (by assumption)])] at hP; exact hP)
              · have c5 := bI_eq0 (Decidable.not_not.mp (of_decide_eq_false c5))
                refine xw.steps 1 (fun _ => rfl) ?_
                refine xw.getf (o := 15) rfl ((xu_ne _ _ (by decide)).trans ((xu_ne _ _ (by decide)).trans h15)) rfl ?_
                refine xw.steps 2 (fun _ => rfl) ?_
                show xw z NK g 77 113 [(0, .ref (z + 15)), (1, .int (bI dd)), (2, .int (nI i)), (3, .int (nAt fs (nI i))), (4, .int (nAt ga (nI i))), (5, .int (nAt ga (nI i)))] [.int (nAt ga (nI i)), .int (nAt fs (nI i)), .ref (z + 20)] (xu (xu S 21 (.inl (p_folds ns2 as2 (nAt fs (nI i)) (nAt ga (nI i))).1)) 23 (.inl (p_folds ns2 as2 (nAt fs (nI i)) (nAt ga (nI i))).2.1)) P
                refine xw.callO (o := 20) rfl rfl rfl ((xu_ne _ _ (by decide)).trans ((xu_ne _ _ (by decide)).trans ht)) rfl rfl (c_Code_append ((xu_ne _ _ (by decide)).trans ((xu_ne _ _ (by decide)).trans ht)) ((xu_ne _ _ (by decide)).trans (xu_self _ _ _)) (xu_self _ _ _) (by decide) (by have h1 := p_folds_len ns2 as2 (nAt fs (nI i)) (nAt ga (nI i)); omega) (by have h1 := p_folds_len ns2 as2 (nAt fs (nI i)) (nAt ga (nI i)); omega) ?_)
                show xw z NK g 77 116 [(0, .ref (z + 15)), (1, .int (bI dd)), (2, .int (nI i)), (3, .int (nAt fs (nI i))), (4, .int (nAt ga (nI i))), (5, .int (nAt ga (nI i)))] [] (xu (xu (xu (xu S 21 (.inl (p_folds ns2 as2 (nAt fs (nI i)) (nAt ga (nI i))).1)) 23 (.inl (p_folds ns2 as2 (nAt fs (nI i)) (nAt ga (nI i))).2.1)) 21 (.inl ((p_folds ns2 as2 (nAt fs (nI i)) (nAt ga (nI i))).1 ++ [(nAt fs (nI i))]))) 23 (.inl ((p_folds ns2 as2 (nAt fs (nI i)) (nAt ga (nI i))).2.1 ++ [(nAt ga (nI i))]))) P
                rw [xu4 _ (show (21 : Nat) ≠ 23 by decide)]
                refine xw.steps 1 (fun _ => rfl) ?_
                refine xw.getf (o := 15) rfl ((xu_ne _ _ (by decide)).trans ((xu_ne _ _ (by decide)).trans h15)) rfl ?_
                refine xw.steps 1 (fun _ => rfl) ?_
                show xw z NK g 77 121 [(0, .ref (z + 15)), (1, .int (bI dd)), (2, .int (nI i)), (3, .int (nAt fs (nI i))), (4, .int (nAt ga (nI i))), (5, .int (nAt ga (nI i)))] [.int 0, .ref (z + 20)] (xu (xu S 21 (.inl ((p_folds ns2 as2 (nAt fs (nI i)) (nAt ga (nI i))).1 ++ [(nAt fs (nI i))]))) 23 (.inl ((p_folds ns2 as2 (nAt fs (nI i)) (nAt ga (nI i))).2.1 ++ [(nAt ga (nI i))]))) P
                refine xw.callO (o := 20) rfl rfl rfl ((xu_ne _ _ (by decide)).trans ((xu_ne _ _ (by decide)).trans ht)) rfl rfl (c_Code_lastNumber ((xu_ne _ _ (by decide)).trans ((xu_ne _ _ (by decide)).trans ht)) ((xu_ne _ _ (by decide)).trans (xu_self _ _ _)) (xu_self _ _ _) (by decide) ?_)
                show xw z NK g 77 124 [(0, .ref (z + 15)), (1, .int (bI dd)), (2, .int (nI i)), (3, .int (nAt fs (nI i))), (4, .int (nAt ga (nI i))), (5, .int (nAt ga (nI i)))] [.int (p_l ((p_folds ns2 as2 (nAt fs (nI i)) (nAt ga (nI i))).1 ++ [(nAt fs (nI i))]) 0)] (xu (xu S 21 (.inl ((p_folds ns2 as2 (nAt fs (nI i)) (nAt ga (nI i))).1 ++ [(nAt fs (nI i))]))) 23 (.inl ((p_folds ns2 as2 (nAt fs (nI i)) (nAt ga (nI i))).2.1 ++ [(nAt ga (nI i))]))) P
                show xw z NK g 77 124 [(0, .ref (z + 15)), (1, .int (bI dd)), (2, .int (nI i)), (3, .int (nAt fs (nI i))), (4, .int (nAt ga (nI i))), (5, .int (nAt ga (nI i)))] [.int (p_l ((p_folds ns2 as2 (nAt fs (nI i)) (nAt ga (nI i))).1 ++ [(nAt fs (nI i))]) 0)] (xu (xu S 21 (.inl ((p_folds ns2 as2 (nAt fs (nI i)) (nAt ga (nI i))).1 ++ [(nAt fs (nI i))]))) 23 (.inl ((p_folds ns2 as2 (nAt fs (nI i)) (nAt ga (nI i))).2.1 ++ [(nAt ga (nI i))]))) P
                refine xw.callS rfl rfl rfl rfl rfl (c_endsWay ?_)
                show xw z NK g 77 127 [(0, .ref (z + 15)), (1, .int (bI dd)), (2, .int (nI i)), (3, .int (nAt fs (nI i))), (4, .int (nAt ga (nI i))), (5, .int (nAt ga (nI i)))] [.int (bI (t_ends (p_l ((p_folds ns2 as2 (nAt fs (nI i)) (nAt ga (nI i))).1 ++ [(nAt fs (nI i))]) 0)))] (xu (xu S 21 (.inl ((p_folds ns2 as2 (nAt fs (nI i)) (nAt ga (nI i))).1 ++ [(nAt fs (nI i))]))) 23 (.inl ((p_folds ns2 as2 (nAt fs (nI i)) (nAt ga (nI i))).2.1 ++ [(nAt ga (nI i))]))) P
                refine xw.steps 3 (fun _ => rfl) ?_
                show xw z NK g 77 12 [(0, .ref (z + 15)), (1, .int (bI (t_ends (p_l ((p_folds ns2 as2 (nAt fs (nI i)) (nAt ga (nI i))).1 ++ [(nAt fs (nI i))]) 0)))), (2, .int ((nI i) + 1)), (3, .int (nAt fs (nI i))), (4, .int (nAt ga (nI i))), (5, .int (nAt ga (nI i)))] [] (xu (xu S 21 (.inl ((p_folds ns2 as2 (nAt fs (nI i)) (nAt ga (nI i))).1 ++ [(nAt fs (nI i))]))) 23 (.inl ((p_folds ns2 as2 (nAt fs (nI i)) (nAt ga (nI i))).2.1 ++ [(nAt ga (nI i))]))) P
                rw [nI_1]
                refine xw.forget (lv := [(0, .ref (z + 15)), (1, .int (bI (t_ends (p_l ((p_folds ns2 as2 (nAt fs (nI i)) (nAt ga (nI i))).1 ++ [(nAt fs (nI i))]) 0)))), (2, .int (nI (i + 1)))]) lk_77 (show [0, 1, 2].Nodup by decide) (show [0, 1, 2, 3, 4, 5].Nodup by decide) (List.forall_mem_cons.mpr ⟨rfl, List.forall_mem_cons.mpr ⟨rfl, List.forall_mem_cons.mpr ⟨rfl, fun _ h => absurd h List.not_mem_nil⟩⟩⟩) ?_
                exact ih (i + 1) (by omega) _ _ _ (by have h1 := p_step_len ns2 as2 (nAt fs (nI i)) (nAt ga (nI i)); rw [(show p_step ns2 as2 (nAt fs (nI i)) (nAt ga (nI i)) = (((p_folds ns2 as2 (nAt fs (nI i)) (nAt ga (nI i))).1 ++ [(nAt fs (nI i))]), ((p_folds ns2 as2 (nAt fs (nI i)) (nAt ga (nI i))).2.1 ++ [(nAt ga (nI i))])) from by unfold p_step; rw [if_neg (by rw [(by assumption : (p_folds ns2 as2 (nAt fs (nI i)) (nAt ga (nI i))).2.2 = false)]; decide)])] at h1; have h2 := h1.1; dsimp only at h2; omega) (by have h1 := p_step_len ns2 as2 (nAt fs (nI i)) (nAt ga (nI i)); rw [(show p_step ns2 as2 (nAt fs (nI i)) (nAt ga (nI i)) = (((p_folds ns2 as2 (nAt fs (nI i)) (nAt ga (nI i))).1 ++ [(nAt fs (nI i))]), ((p_folds ns2 as2 (nAt fs (nI i)) (nAt ga (nI i))).2.1 ++ [(nAt ga (nI i))])) from by unfold p_step; rw [if_neg (by rw [(by assumption : (p_folds ns2 as2 (nAt fs (nI i)) (nAt ga (nI i))).2.2 = false)]; decide)])] at h1; have h2 := h1.2; dsimp only at h2; omega) (by rw [p_rew_go (by first | exact fun u => absurd u.1 (by assumption) | exact fun u => absurd u.2 (by assumption)) (by first | exact fun u => absurd (by assumption) u.2 | exact fun u => Bool.noConfusion (u.1.symm.trans (by assumption))) (show p_goal pl fs ga (nAt fs (nI i)) (nAt ga (nI i)) = (nAt ga (nI i)) from by unfold p_goal; rw [if_neg (by rw [(by assumption : t_goes (nAt fs (nI i)) = false)]; decide)]) (show p_step ns2 as2 (nAt fs (nI i)) (nAt ga (nI i)) = (((p_folds ns2 as2 (nAt fs (nI i)) (nAt ga (nI i))).1 ++ [(nAt fs (nI i))]), ((p_folds ns2 as2 (nAt fs (nI i)) (nAt ga (nI i))).2.1 ++ [(nAt ga (nI i))])) from by unfold p_step; rw [if_neg (by rw [(by assumption : (p_folds ns2 as2 (nAt fs (nI i)) (nAt ga (nI i))).2.2 = false)]; decide)])] at hP; exact hP)
            · have c4 := bI_ne0 (of_decide_eq_false c4)
              refine xw.steps 2 (fun _ => rfl) ?_
              show xw z NK g 77 86 [(0, .ref (z + 15)), (1, .int (bI dd)), (2, .int (nI i)), (3, .int (nAt fs (nI i))), (4, .int (nAt ga (nI i)))] [.int (nAt ga (nI i)), .ref (z + 15)] (xu (xu S 21 (.inl ns2)) 23 (.inl as2)) P
              refine xw.callO (o := 15) rfl rfl rfl ((xu_ne _ _ (by decide)).trans ((xu_ne _ _ (by decide)).trans h15)) rfl rfl (c_far_B ⟨((xu_ne _ _ (by decide)).trans ((xu_ne _ _ (by decide)).trans h15)), ((xu_ne _ _ (by decide)).trans ((xu_ne _ _ (by decide)).trans h16)), ((xu_ne _ _ (by decide)).trans ((xu_ne _ _ (by decide)).trans h18)), ((xu_ne _ _ (by decide)).trans ((xu_ne _ _ (by decide)).trans hf)), ((xu_ne _ _ (by decide)).trans ((xu_ne _ _ (by decide)).trans hfn)), ((xu_ne _ _ (by decide)).trans ((xu_ne _ _ (by decide)).trans hfa)), ((xu_ne _ _ (by decide)).trans ((xu_ne _ _ (by decide)).trans ht)), ((xu_ne _ _ (by decide)).trans (xu_self _ _ _)), (xu_self _ _ _)⟩ ?_)
              show xw z NK g 77 89 [(0, .ref (z + 15)), (1, .int (bI dd)), (2, .int (nI i)), (3, .int (nAt fs (nI i))), (4, .int (nAt ga (nI i)))] [.int (p_far pl fs ga 100 (nAt ga (nI i)))] (xu (xu S 21 (.inl ns2)) 23 (.inl as2)) P
              refine xw.steps 5 (fun _ => rfl) ?_
              show xw z NK g 77 100 [(0, .ref (z + 15)), (1, .int (bI dd)), (2, .int (nI i)), (3, .int (nAt fs (nI i))), (4, .int (nAt ga (nI i))), (5, .int (p_far pl fs ga 100 (nAt ga (nI i))))] [.int (p_far pl fs ga 100 (nAt ga (nI i))), .int (nAt fs (nI i)), .ref (z + 15)] (xu (xu S 21 (.inl ns2)) 23 (.inl as2)) P
              refine xw.callO (o := 15) rfl rfl rfl ((xu_ne _ _ (by decide)).trans ((xu_ne _ _ (by decide)).trans h15)) rfl rfl (c_folds_B ⟨((xu_ne _ _ (by decide)).trans ((xu_ne _ _ (by decide)).trans h15)), ((xu_ne _ _ (by decide)).trans ((xu_ne _ _ (by decide)).trans h16)), ((xu_ne _ _ (by decide)).trans ((xu_ne _ _ (by decide)).trans h18)), ((xu_ne _ _ (by decide)).trans ((xu_ne _ _ (by decide)).trans hf)), ((xu_ne _ _ (by decide)).trans ((xu_ne _ _ (by decide)).trans hfn)), ((xu_ne _ _ (by decide)).trans ((xu_ne _ _ (by decide)).trans hfa)), ((xu_ne _ _ (by decide)).trans ((xu_ne _ _ (by decide)).trans ht)), ((xu_ne _ _ (by decide)).trans (xu_self _ _ _)), (xu_self _ _ _)⟩ (by omega) (by omega) ?_)
              show xw z NK g 77 103 [(0, .ref (z + 15)), (1, .int (bI dd)), (2, .int (nI i)), (3, .int (nAt fs (nI i))), (4, .int (nAt ga (nI i))), (5, .int (p_far pl fs ga 100 (nAt ga (nI i))))] [.int (bI (p_folds ns2 as2 (nAt fs (nI i)) (p_far pl fs ga 100 (nAt ga (nI i)))).2.2)] (xu (xu (xu (xu S 21 (.inl ns2)) 23 (.inl as2)) 21 (.inl (p_folds ns2 as2 (nAt fs (nI i)) (p_far pl fs ga 100 (nAt ga (nI i)))).1)) 23 (.inl (p_folds ns2 as2 (nAt fs (nI i)) (p_far pl fs ga 100 (nAt ga (nI i)))).2.1)) P
              rw [xu4 _ (show (21 : Nat) ≠ 23 by decide)]
              refine xw.if_ rfl (fun c6 => ?_) (fun c6 => ?_)
              · have c6 := bI_ne0 (of_decide_eq_true c6)
                refine xw.steps 1 (fun _ => rfl) ?_
                refine xw.getf (o := 15) rfl ((xu_ne _ _ (by decide)).trans ((xu_ne _ _ (by decide)).trans h15)) rfl ?_
                refine xw.steps 1 (fun _ => rfl) ?_
                show xw z NK g 77 121 [(0, .ref (z + 15)), (1, .int (bI dd)), (2, .int (nI i)), (3, .int (nAt fs (nI i))), (4, .int (nAt ga (nI i))), (5, .int (p_far pl fs ga 100 (nAt ga (nI i))))] [.int 0, .ref (z + 20)] (xu (xu S 21 (.inl (p_folds ns2 as2 (nAt fs (nI i)) (p_far pl fs ga 100 (nAt ga (nI i)))).1)) 23 (.inl (p_folds ns2 as2 (nAt fs (nI i)) (p_far pl fs ga 100 (nAt ga (nI i)))).2.1)) P
                refine xw.callO (o := 20) rfl rfl rfl ((xu_ne _ _ (by decide)).trans ((xu_ne _ _ (by decide)).trans ht)) rfl rfl (c_Code_lastNumber ((xu_ne _ _ (by decide)).trans ((xu_ne _ _ (by decide)).trans ht)) ((xu_ne _ _ (by decide)).trans (xu_self _ _ _)) (xu_self _ _ _) (by decide) ?_)
                show xw z NK g 77 124 [(0, .ref (z + 15)), (1, .int (bI dd)), (2, .int (nI i)), (3, .int (nAt fs (nI i))), (4, .int (nAt ga (nI i))), (5, .int (p_far pl fs ga 100 (nAt ga (nI i))))] [.int (p_l (p_folds ns2 as2 (nAt fs (nI i)) (p_far pl fs ga 100 (nAt ga (nI i)))).1 0)] (xu (xu S 21 (.inl (p_folds ns2 as2 (nAt fs (nI i)) (p_far pl fs ga 100 (nAt ga (nI i)))).1)) 23 (.inl (p_folds ns2 as2 (nAt fs (nI i)) (p_far pl fs ga 100 (nAt ga (nI i)))).2.1)) P
                show xw z NK g 77 124 [(0, .ref (z + 15)), (1, .int (bI dd)), (2, .int (nI i)), (3, .int (nAt fs (nI i))), (4, .int (nAt ga (nI i))), (5, .int (p_far pl fs ga 100 (nAt ga (nI i))))] [.int (p_l (p_folds ns2 as2 (nAt fs (nI i)) (p_far pl fs ga 100 (nAt ga (nI i)))).1 0)] (xu (xu S 21 (.inl (p_folds ns2 as2 (nAt fs (nI i)) (p_far pl fs ga 100 (nAt ga (nI i)))).1)) 23 (.inl (p_folds ns2 as2 (nAt fs (nI i)) (p_far pl fs ga 100 (nAt ga (nI i)))).2.1)) P
                refine xw.callS rfl rfl rfl rfl rfl (c_endsWay ?_)
                show xw z NK g 77 127 [(0, .ref (z + 15)), (1, .int (bI dd)), (2, .int (nI i)), (3, .int (nAt fs (nI i))), (4, .int (nAt ga (nI i))), (5, .int (p_far pl fs ga 100 (nAt ga (nI i))))] [.int (bI (t_ends (p_l (p_folds ns2 as2 (nAt fs (nI i)) (p_far pl fs ga 100 (nAt ga (nI i)))).1 0)))] (xu (xu S 21 (.inl (p_folds ns2 as2 (nAt fs (nI i)) (p_far pl fs ga 100 (nAt ga (nI i)))).1)) 23 (.inl (p_folds ns2 as2 (nAt fs (nI i)) (p_far pl fs ga 100 (nAt ga (nI i)))).2.1)) P
                refine xw.steps 3 (fun _ => rfl) ?_
                show xw z NK g 77 12 [(0, .ref (z + 15)), (1, .int (bI (t_ends (p_l (p_folds ns2 as2 (nAt fs (nI i)) (p_far pl fs ga 100 (nAt ga (nI i)))).1 0)))), (2, .int ((nI i) + 1)), (3, .int (nAt fs (nI i))), (4, .int (nAt ga (nI i))), (5, .int (p_far pl fs ga 100 (nAt ga (nI i))))] [] (xu (xu S 21 (.inl (p_folds ns2 as2 (nAt fs (nI i)) (p_far pl fs ga 100 (nAt ga (nI i)))).1)) 23 (.inl (p_folds ns2 as2 (nAt fs (nI i)) (p_far pl fs ga 100 (nAt ga (nI i)))).2.1)) P
                rw [nI_1]
                refine xw.forget (lv := [(0, .ref (z + 15)), (1, .int (bI (t_ends (p_l (p_folds ns2 as2 (nAt fs (nI i)) (p_far pl fs ga 100 (nAt ga (nI i)))).1 0)))), (2, .int (nI (i + 1)))]) lk_77 (show [0, 1, 2].Nodup by decide) (show [0, 1, 2, 3, 4, 5].Nodup by decide) (List.forall_mem_cons.mpr ⟨rfl, List.forall_mem_cons.mpr ⟨rfl, List.forall_mem_cons.mpr ⟨rfl, fun _ h => absurd h List.not_mem_nil⟩⟩⟩) ?_
                exact ih (i + 1) (by omega) _ _ _ (by have h1 := p_step_len ns2 as2 (nAt fs (nI i)) (p_far pl fs ga 100 (nAt ga (nI i))); rw [(show p_step ns2 as2 (nAt fs (nI i)) (p_far pl fs ga 100 (nAt ga (nI i))) = ((p_folds ns2 as2 (nAt fs (nI i)) (p_far pl fs ga 100 (nAt ga (nI i)))).1, (p_folds ns2 as2 (nAt fs (nI i)) (p_far pl fs ga 100 (nAt ga (nI i)))).2.1) from by unfold p_step; rw [if_pos (by assumption)])] at h1; have h2 := h1.1; dsimp only at h2; omega) (by have h1 := p_step_len ns2 as2 (nAt fs (nI i)) (p_far pl fs ga 100 (nAt ga (nI i))); rw [(show p_step ns2 as2 (nAt fs (nI i)) (p_far pl fs ga 100 (nAt ga (nI i))) = ((p_folds ns2 as2 (nAt fs (nI i)) (p_far pl fs ga 100 (nAt ga (nI i)))).1, (p_folds ns2 as2 (nAt fs (nI i)) (p_far pl fs ga 100 (nAt ga (nI i)))).2.1) from by unfold p_step; rw [if_pos (by assumption)])] at h1; have h2 := h1.2; dsimp only at h2; omega) (by rw [p_rew_go (by first | exact fun u => absurd u.1 (by assumption) | exact fun u => absurd u.2 (by assumption)) (by first | exact fun u => absurd (by assumption) u.2 | exact fun u => Bool.noConfusion (u.1.symm.trans (by assumption))) (show p_goal pl fs ga (nAt fs (nI i)) (nAt ga (nI i)) = (p_far pl fs ga 100 (nAt ga (nI i))) from by unfold p_goal; rw [if_pos (by assumption)]) (show p_step ns2 as2 (nAt fs (nI i)) (p_far pl fs ga 100 (nAt ga (nI i))) = ((p_folds ns2 as2 (nAt fs (nI i)) (p_far pl fs ga 100 (nAt ga (nI i)))).1, (p_folds ns2 as2 (nAt fs (nI i)) (p_far pl fs ga 100 (nAt ga (nI i)))).2.1) from by unfold p_step; rw [if_pos (by assumption)])] at hP; exact hP)
              · have c6 := bI_eq0 (Decidable.not_not.mp (of_decide_eq_false c6))
                refine xw.steps 1 (fun _ => rfl) ?_
                refine xw.getf (o := 15) rfl ((xu_ne _ _ (by decide)).trans ((xu_ne _ _ (by decide)).trans h15)) rfl ?_
                refine xw.steps 2 (fun _ => rfl) ?_
                show xw z NK g 77 113 [(0, .ref (z + 15)), (1, .int (bI dd)), (2, .int (nI i)), (3, .int (nAt fs (nI i))), (4, .int (nAt ga (nI i))), (5, .int (p_far pl fs ga 100 (nAt ga (nI i))))] [.int (p_far pl fs ga 100 (nAt ga (nI i))), .int (nAt fs (nI i)), .ref (z + 20)] (xu (xu S 21 (.inl (p_folds ns2 as2 (nAt fs (nI i)) (p_far pl fs ga 100 (nAt ga (nI i)))).1)) 23 (.inl (p_folds ns2 as2 (nAt fs (nI i)) (p_far pl fs ga 100 (nAt ga (nI i)))).2.1)) P
                refine xw.callO (o := 20) rfl rfl rfl ((xu_ne _ _ (by decide)).trans ((xu_ne _ _ (by decide)).trans ht)) rfl rfl (c_Code_append ((xu_ne _ _ (by decide)).trans ((xu_ne _ _ (by decide)).trans ht)) ((xu_ne _ _ (by decide)).trans (xu_self _ _ _)) (xu_self _ _ _) (by decide) (by have h1 := p_folds_len ns2 as2 (nAt fs (nI i)) (p_far pl fs ga 100 (nAt ga (nI i))); omega) (by have h1 := p_folds_len ns2 as2 (nAt fs (nI i)) (p_far pl fs ga 100 (nAt ga (nI i))); omega) ?_)
                show xw z NK g 77 116 [(0, .ref (z + 15)), (1, .int (bI dd)), (2, .int (nI i)), (3, .int (nAt fs (nI i))), (4, .int (nAt ga (nI i))), (5, .int (p_far pl fs ga 100 (nAt ga (nI i))))] [] (xu (xu (xu (xu S 21 (.inl (p_folds ns2 as2 (nAt fs (nI i)) (p_far pl fs ga 100 (nAt ga (nI i)))).1)) 23 (.inl (p_folds ns2 as2 (nAt fs (nI i)) (p_far pl fs ga 100 (nAt ga (nI i)))).2.1)) 21 (.inl ((p_folds ns2 as2 (nAt fs (nI i)) (p_far pl fs ga 100 (nAt ga (nI i)))).1 ++ [(nAt fs (nI i))]))) 23 (.inl ((p_folds ns2 as2 (nAt fs (nI i)) (p_far pl fs ga 100 (nAt ga (nI i)))).2.1 ++ [(p_far pl fs ga 100 (nAt ga (nI i)))]))) P
                rw [xu4 _ (show (21 : Nat) ≠ 23 by decide)]
                refine xw.steps 1 (fun _ => rfl) ?_
                refine xw.getf (o := 15) rfl ((xu_ne _ _ (by decide)).trans ((xu_ne _ _ (by decide)).trans h15)) rfl ?_
                refine xw.steps 1 (fun _ => rfl) ?_
                show xw z NK g 77 121 [(0, .ref (z + 15)), (1, .int (bI dd)), (2, .int (nI i)), (3, .int (nAt fs (nI i))), (4, .int (nAt ga (nI i))), (5, .int (p_far pl fs ga 100 (nAt ga (nI i))))] [.int 0, .ref (z + 20)] (xu (xu S 21 (.inl ((p_folds ns2 as2 (nAt fs (nI i)) (p_far pl fs ga 100 (nAt ga (nI i)))).1 ++ [(nAt fs (nI i))]))) 23 (.inl ((p_folds ns2 as2 (nAt fs (nI i)) (p_far pl fs ga 100 (nAt ga (nI i)))).2.1 ++ [(p_far pl fs ga 100 (nAt ga (nI i)))]))) P
                refine xw.callO (o := 20) rfl rfl rfl ((xu_ne _ _ (by decide)).trans ((xu_ne _ _ (by decide)).trans ht)) rfl rfl (c_Code_lastNumber ((xu_ne _ _ (by decide)).trans ((xu_ne _ _ (by decide)).trans ht)) ((xu_ne _ _ (by decide)).trans (xu_self _ _ _)) (xu_self _ _ _) (by decide) ?_)
                show xw z NK g 77 124 [(0, .ref (z + 15)), (1, .int (bI dd)), (2, .int (nI i)), (3, .int (nAt fs (nI i))), (4, .int (nAt ga (nI i))), (5, .int (p_far pl fs ga 100 (nAt ga (nI i))))] [.int (p_l ((p_folds ns2 as2 (nAt fs (nI i)) (p_far pl fs ga 100 (nAt ga (nI i)))).1 ++ [(nAt fs (nI i))]) 0)] (xu (xu S 21 (.inl ((p_folds ns2 as2 (nAt fs (nI i)) (p_far pl fs ga 100 (nAt ga (nI i)))).1 ++ [(nAt fs (nI i))]))) 23 (.inl ((p_folds ns2 as2 (nAt fs (nI i)) (p_far pl fs ga 100 (nAt ga (nI i)))).2.1 ++ [(p_far pl fs ga 100 (nAt ga (nI i)))]))) P
                show xw z NK g 77 124 [(0, .ref (z + 15)), (1, .int (bI dd)), (2, .int (nI i)), (3, .int (nAt fs (nI i))), (4, .int (nAt ga (nI i))), (5, .int (p_far pl fs ga 100 (nAt ga (nI i))))] [.int (p_l ((p_folds ns2 as2 (nAt fs (nI i)) (p_far pl fs ga 100 (nAt ga (nI i)))).1 ++ [(nAt fs (nI i))]) 0)] (xu (xu S 21 (.inl ((p_folds ns2 as2 (nAt fs (nI i)) (p_far pl fs ga 100 (nAt ga (nI i)))).1 ++ [(nAt fs (nI i))]))) 23 (.inl ((p_folds ns2 as2 (nAt fs (nI i)) (p_far pl fs ga 100 (nAt ga (nI i)))).2.1 ++ [(p_far pl fs ga 100 (nAt ga (nI i)))]))) P
                refine xw.callS rfl rfl rfl rfl rfl (c_endsWay ?_)
                show xw z NK g 77 127 [(0, .ref (z + 15)), (1, .int (bI dd)), (2, .int (nI i)), (3, .int (nAt fs (nI i))), (4, .int (nAt ga (nI i))), (5, .int (p_far pl fs ga 100 (nAt ga (nI i))))] [.int (bI (t_ends (p_l ((p_folds ns2 as2 (nAt fs (nI i)) (p_far pl fs ga 100 (nAt ga (nI i)))).1 ++ [(nAt fs (nI i))]) 0)))] (xu (xu S 21 (.inl ((p_folds ns2 as2 (nAt fs (nI i)) (p_far pl fs ga 100 (nAt ga (nI i)))).1 ++ [(nAt fs (nI i))]))) 23 (.inl ((p_folds ns2 as2 (nAt fs (nI i)) (p_far pl fs ga 100 (nAt ga (nI i)))).2.1 ++ [(p_far pl fs ga 100 (nAt ga (nI i)))]))) P
                refine xw.steps 3 (fun _ => rfl) ?_
                show xw z NK g 77 12 [(0, .ref (z + 15)), (1, .int (bI (t_ends (p_l ((p_folds ns2 as2 (nAt fs (nI i)) (p_far pl fs ga 100 (nAt ga (nI i)))).1 ++ [(nAt fs (nI i))]) 0)))), (2, .int ((nI i) + 1)), (3, .int (nAt fs (nI i))), (4, .int (nAt ga (nI i))), (5, .int (p_far pl fs ga 100 (nAt ga (nI i))))] [] (xu (xu S 21 (.inl ((p_folds ns2 as2 (nAt fs (nI i)) (p_far pl fs ga 100 (nAt ga (nI i)))).1 ++ [(nAt fs (nI i))]))) 23 (.inl ((p_folds ns2 as2 (nAt fs (nI i)) (p_far pl fs ga 100 (nAt ga (nI i)))).2.1 ++ [(p_far pl fs ga 100 (nAt ga (nI i)))]))) P
                rw [nI_1]
                refine xw.forget (lv := [(0, .ref (z + 15)), (1, .int (bI (t_ends (p_l ((p_folds ns2 as2 (nAt fs (nI i)) (p_far pl fs ga 100 (nAt ga (nI i)))).1 ++ [(nAt fs (nI i))]) 0)))), (2, .int (nI (i + 1)))]) lk_77 (show [0, 1, 2].Nodup by decide) (show [0, 1, 2, 3, 4, 5].Nodup by decide) (List.forall_mem_cons.mpr ⟨rfl, List.forall_mem_cons.mpr ⟨rfl, List.forall_mem_cons.mpr ⟨rfl, fun _ h => absurd h List.not_mem_nil⟩⟩⟩) ?_
                exact ih (i + 1) (by omega) _ _ _ (by have h1 := p_step_len ns2 as2 (nAt fs (nI i)) (p_far pl fs ga 100 (nAt ga (nI i))); rw [(show p_step ns2 as2 (nAt fs (nI i)) (p_far pl fs ga 100 (nAt ga (nI i))) = (((p_folds ns2 as2 (nAt fs (nI i)) (p_far pl fs ga 100 (nAt ga (nI i)))).1 ++ [(nAt fs (nI i))]), ((p_folds ns2 as2 (nAt fs (nI i)) (p_far pl fs ga 100 (nAt ga (nI i)))).2.1 ++ [(p_far pl fs ga 100 (nAt ga (nI i)))])) from by unfold p_step; rw [if_neg (by rw [(by assumption : (p_folds ns2 as2 (nAt fs (nI i)) (p_far pl fs ga 100 (nAt ga (nI i)))).2.2 = false)]; decide)])] at h1; have h2 := h1.1; dsimp only at h2; omega) (by have h1 := p_step_len ns2 as2 (nAt fs (nI i)) (p_far pl fs ga 100 (nAt ga (nI i))); rw [(show p_step ns2 as2 (nAt fs (nI i)) (p_far pl fs ga 100 (nAt ga (nI i))) = (((p_folds ns2 as2 (nAt fs (nI i)) (p_far pl fs ga 100 (nAt ga (nI i)))).1 ++ [(nAt fs (nI i))]), ((p_folds ns2 as2 (nAt fs (nI i)) (p_far pl fs ga 100 (nAt ga (nI i)))).2.1 ++ [(p_far pl fs ga 100 (nAt ga (nI i)))])) from by unfold p_step; rw [if_neg (by rw [(by assumption : (p_folds ns2 as2 (nAt fs (nI i)) (p_far pl fs ga 100 (nAt ga (nI i)))).2.2 = false)]; decide)])] at h1; have h2 := h1.2; dsimp only at h2; omega) (by rw [p_rew_go (by first | exact fun u => absurd u.1 (by assumption) | exact fun u => absurd u.2 (by assumption)) (by first | exact fun u => absurd (by assumption) u.2 | exact fun u => Bool.noConfusion (u.1.symm.trans (by assumption))) (show p_goal pl fs ga (nAt fs (nI i)) (nAt ga (nI i)) = (p_far pl fs ga 100 (nAt ga (nI i))) from by unfold p_goal; rw [if_pos (by assumption)]) (show p_step ns2 as2 (nAt fs (nI i)) (p_far pl fs ga 100 (nAt ga (nI i))) = (((p_folds ns2 as2 (nAt fs (nI i)) (p_far pl fs ga 100 (nAt ga (nI i)))).1 ++ [(nAt fs (nI i))]), ((p_folds ns2 as2 (nAt fs (nI i)) (p_far pl fs ga 100 (nAt ga (nI i)))).2.1 ++ [(p_far pl fs ga 100 (nAt ga (nI i)))])) from by unfold p_step; rw [if_neg (by rw [(by assumption : (p_folds ns2 as2 (nAt fs (nI i)) (p_far pl fs ga 100 (nAt ga (nI i)))).2.2 = false)]; decide)])] at hP; exact hP)
          · have c3 := bI_ne0 (of_decide_eq_false c3)
            refine xw.steps 2 (fun _ => rfl) ?_
            refine xw.icmp rfl (fun c7 => ?_) (fun c7 => ?_)
            · have c7 := of_decide_eq_true c7
              refine xw.steps 1 (fun _ => rfl) ?_
              show xw z NK g 77 77 [(0, .ref (z + 15)), (1, .int (bI dd)), (2, .int (nI i)), (3, .int (nAt fs (nI i))), (4, .int (nAt ga (nI i)))] [.int (nAt fs (nI i))] (xu (xu S 21 (.inl ns2)) 23 (.inl as2)) P
              refine xw.callS rfl rfl rfl rfl rfl (c_goesToLabel ?_)
              show xw z NK g 77 80 [(0, .ref (z + 15)), (1, .int (bI dd)), (2, .int (nI i)), (3, .int (nAt fs (nI i))), (4, .int (nAt ga (nI i)))] [.int (bI (t_goes (nAt fs (nI i))))] (xu (xu S 21 (.inl ns2)) 23 (.inl as2)) P
              refine xw.if_ rfl (fun c8 => ?_) (fun c8 => ?_)
              · have c8 := bI_eq0 (of_decide_eq_true c8)
                refine xw.steps 5 (fun _ => rfl) ?_
                show xw z NK g 77 100 [(0, .ref (z + 15)), (1, .int (bI dd)), (2, .int (nI i)), (3, .int (nAt fs (nI i))), (4, .int (nAt ga (nI i))), (5, .int (nAt ga (nI i)))] [.int (nAt ga (nI i)), .int (nAt fs (nI i)), .ref (z + 15)] (xu (xu S 21 (.inl ns2)) 23 (.inl as2)) P
                refine xw.callO (o := 15) rfl rfl rfl ((xu_ne _ _ (by decide)).trans ((xu_ne _ _ (by decide)).trans h15)) rfl rfl (c_folds_B ⟨((xu_ne _ _ (by decide)).trans ((xu_ne _ _ (by decide)).trans h15)), ((xu_ne _ _ (by decide)).trans ((xu_ne _ _ (by decide)).trans h16)), ((xu_ne _ _ (by decide)).trans ((xu_ne _ _ (by decide)).trans h18)), ((xu_ne _ _ (by decide)).trans ((xu_ne _ _ (by decide)).trans hf)), ((xu_ne _ _ (by decide)).trans ((xu_ne _ _ (by decide)).trans hfn)), ((xu_ne _ _ (by decide)).trans ((xu_ne _ _ (by decide)).trans hfa)), ((xu_ne _ _ (by decide)).trans ((xu_ne _ _ (by decide)).trans ht)), ((xu_ne _ _ (by decide)).trans (xu_self _ _ _)), (xu_self _ _ _)⟩ (by omega) (by omega) ?_)
                show xw z NK g 77 103 [(0, .ref (z + 15)), (1, .int (bI dd)), (2, .int (nI i)), (3, .int (nAt fs (nI i))), (4, .int (nAt ga (nI i))), (5, .int (nAt ga (nI i)))] [.int (bI (p_folds ns2 as2 (nAt fs (nI i)) (nAt ga (nI i))).2.2)] (xu (xu (xu (xu S 21 (.inl ns2)) 23 (.inl as2)) 21 (.inl (p_folds ns2 as2 (nAt fs (nI i)) (nAt ga (nI i))).1)) 23 (.inl (p_folds ns2 as2 (nAt fs (nI i)) (nAt ga (nI i))).2.1)) P
                rw [xu4 _ (show (21 : Nat) ≠ 23 by decide)]
                refine xw.if_ rfl (fun c9 => ?_) (fun c9 => ?_)
                · have c9 := bI_ne0 (of_decide_eq_true c9)
                  refine xw.steps 1 (fun _ => rfl) ?_
                  refine xw.getf (o := 15) rfl ((xu_ne _ _ (by decide)).trans ((xu_ne _ _ (by decide)).trans h15)) rfl ?_
                  refine xw.steps 1 (fun _ => rfl) ?_
                  show xw z NK g 77 121 [(0, .ref (z + 15)), (1, .int (bI dd)), (2, .int (nI i)), (3, .int (nAt fs (nI i))), (4, .int (nAt ga (nI i))), (5, .int (nAt ga (nI i)))] [.int 0, .ref (z + 20)] (xu (xu S 21 (.inl (p_folds ns2 as2 (nAt fs (nI i)) (nAt ga (nI i))).1)) 23 (.inl (p_folds ns2 as2 (nAt fs (nI i)) (nAt ga (nI i))).2.1)) P
                  refine xw.callO (o := 20) rfl rfl rfl ((xu_ne _ _ (by decide)).trans ((xu_ne _ _ (by decide)).trans ht)) rfl rfl (c_Code_lastNumber ((xu_ne _ _ (by decide)).trans ((xu_ne _ _ (by decide)).trans ht)) ((xu_ne _ _ (by decide)).trans (xu_self _ _ _)) (xu_self _ _ _) (by decide) ?_)
                  show xw z NK g 77 124 [(0, .ref (z + 15)), (1, .int (bI dd)), (2, .int (nI i)), (3, .int (nAt fs (nI i))), (4, .int (nAt ga (nI i))), (5, .int (nAt ga (nI i)))] [.int (p_l (p_folds ns2 as2 (nAt fs (nI i)) (nAt ga (nI i))).1 0)] (xu (xu S 21 (.inl (p_folds ns2 as2 (nAt fs (nI i)) (nAt ga (nI i))).1)) 23 (.inl (p_folds ns2 as2 (nAt fs (nI i)) (nAt ga (nI i))).2.1)) P
                  show xw z NK g 77 124 [(0, .ref (z + 15)), (1, .int (bI dd)), (2, .int (nI i)), (3, .int (nAt fs (nI i))), (4, .int (nAt ga (nI i))), (5, .int (nAt ga (nI i)))] [.int (p_l (p_folds ns2 as2 (nAt fs (nI i)) (nAt ga (nI i))).1 0)] (xu (xu S 21 (.inl (p_folds ns2 as2 (nAt fs (nI i)) (nAt ga (nI i))).1)) 23 (.inl (p_folds ns2 as2 (nAt fs (nI i)) (nAt ga (nI i))).2.1)) P
                  refine xw.callS rfl rfl rfl rfl rfl (c_endsWay ?_)
                  show xw z NK g 77 127 [(0, .ref (z + 15)), (1, .int (bI dd)), (2, .int (nI i)), (3, .int (nAt fs (nI i))), (4, .int (nAt ga (nI i))), (5, .int (nAt ga (nI i)))] [.int (bI (t_ends (p_l (p_folds ns2 as2 (nAt fs (nI i)) (nAt ga (nI i))).1 0)))] (xu (xu S 21 (.inl (p_folds ns2 as2 (nAt fs (nI i)) (nAt ga (nI i))).1)) 23 (.inl (p_folds ns2 as2 (nAt fs (nI i)) (nAt ga (nI i))).2.1)) P
                  refine xw.steps 3 (fun _ => rfl) ?_
                  show xw z NK g 77 12 [(0, .ref (z + 15)), (1, .int (bI (t_ends (p_l (p_folds ns2 as2 (nAt fs (nI i)) (nAt ga (nI i))).1 0)))), (2, .int ((nI i) + 1)), (3, .int (nAt fs (nI i))), (4, .int (nAt ga (nI i))), (5, .int (nAt ga (nI i)))] [] (xu (xu S 21 (.inl (p_folds ns2 as2 (nAt fs (nI i)) (nAt ga (nI i))).1)) 23 (.inl (p_folds ns2 as2 (nAt fs (nI i)) (nAt ga (nI i))).2.1)) P
                  rw [nI_1]
                  refine xw.forget (lv := [(0, .ref (z + 15)), (1, .int (bI (t_ends (p_l (p_folds ns2 as2 (nAt fs (nI i)) (nAt ga (nI i))).1 0)))), (2, .int (nI (i + 1)))]) lk_77 (show [0, 1, 2].Nodup by decide) (show [0, 1, 2, 3, 4, 5].Nodup by decide) (List.forall_mem_cons.mpr ⟨rfl, List.forall_mem_cons.mpr ⟨rfl, List.forall_mem_cons.mpr ⟨rfl, fun _ h => absurd h List.not_mem_nil⟩⟩⟩) ?_
                  exact ih (i + 1) (by omega) _ _ _ (by have h1 := p_step_len ns2 as2 (nAt fs (nI i)) (nAt ga (nI i)); rw [(show p_step ns2 as2 (nAt fs (nI i)) (nAt ga (nI i)) = ((p_folds ns2 as2 (nAt fs (nI i)) (nAt ga (nI i))).1, (p_folds ns2 as2 (nAt fs (nI i)) (nAt ga (nI i))).2.1) from by unfold p_step; rw [if_pos (by assumption)])] at h1; have h2 := h1.1; dsimp only at h2; omega) (by have h1 := p_step_len ns2 as2 (nAt fs (nI i)) (nAt ga (nI i)); rw [(show p_step ns2 as2 (nAt fs (nI i)) (nAt ga (nI i)) = ((p_folds ns2 as2 (nAt fs (nI i)) (nAt ga (nI i))).1, (p_folds ns2 as2 (nAt fs (nI i)) (nAt ga (nI i))).2.1) from by unfold p_step; rw [if_pos (by assumption)])] at h1; have h2 := h1.2; dsimp only at h2; omega) (by rw [p_rew_go (by first | exact fun u => absurd u.1 (by assumption) | exact fun u => absurd u.2 (by assumption)) (by first | exact fun u => absurd (by assumption) u.2 | exact fun u => Bool.noConfusion (u.1.symm.trans (by assumption))) (show p_goal pl fs ga (nAt fs (nI i)) (nAt ga (nI i)) = (nAt ga (nI i)) from by unfold p_goal; rw [if_neg (by rw [(by assumption : t_goes (nAt fs (nI i)) = false)]; decide)]) (show p_step ns2 as2 (nAt fs (nI i)) (nAt ga (nI i)) = ((p_folds ns2 as2 (nAt fs (nI i)) (nAt ga (nI i))).1, (p_folds ns2 as2 (nAt fs (nI i)) (nAt ga (nI i))).2.1) from by unfold p_step; rw [if_pos (by assumption)])] at hP; exact hP)
                · have c9 := bI_eq0 (Decidable.not_not.mp (of_decide_eq_false c9))
                  refine xw.steps 1 (fun _ => rfl) ?_
                  refine xw.getf (o := 15) rfl ((xu_ne _ _ (by decide)).trans ((xu_ne _ _ (by decide)).trans h15)) rfl ?_
                  refine xw.steps 2 (fun _ => rfl) ?_
                  show xw z NK g 77 113 [(0, .ref (z + 15)), (1, .int (bI dd)), (2, .int (nI i)), (3, .int (nAt fs (nI i))), (4, .int (nAt ga (nI i))), (5, .int (nAt ga (nI i)))] [.int (nAt ga (nI i)), .int (nAt fs (nI i)), .ref (z + 20)] (xu (xu S 21 (.inl (p_folds ns2 as2 (nAt fs (nI i)) (nAt ga (nI i))).1)) 23 (.inl (p_folds ns2 as2 (nAt fs (nI i)) (nAt ga (nI i))).2.1)) P
                  refine xw.callO (o := 20) rfl rfl rfl ((xu_ne _ _ (by decide)).trans ((xu_ne _ _ (by decide)).trans ht)) rfl rfl (c_Code_append ((xu_ne _ _ (by decide)).trans ((xu_ne _ _ (by decide)).trans ht)) ((xu_ne _ _ (by decide)).trans (xu_self _ _ _)) (xu_self _ _ _) (by decide) (by have h1 := p_folds_len ns2 as2 (nAt fs (nI i)) (nAt ga (nI i)); omega) (by have h1 := p_folds_len ns2 as2 (nAt fs (nI i)) (nAt ga (nI i)); omega) ?_)
                  show xw z NK g 77 116 [(0, .ref (z + 15)), (1, .int (bI dd)), (2, .int (nI i)), (3, .int (nAt fs (nI i))), (4, .int (nAt ga (nI i))), (5, .int (nAt ga (nI i)))] [] (xu (xu (xu (xu S 21 (.inl (p_folds ns2 as2 (nAt fs (nI i)) (nAt ga (nI i))).1)) 23 (.inl (p_folds ns2 as2 (nAt fs (nI i)) (nAt ga (nI i))).2.1)) 21 (.inl ((p_folds ns2 as2 (nAt fs (nI i)) (nAt ga (nI i))).1 ++ [(nAt fs (nI i))]))) 23 (.inl ((p_folds ns2 as2 (nAt fs (nI i)) (nAt ga (nI i))).2.1 ++ [(nAt ga (nI i))]))) P
                  rw [xu4 _ (show (21 : Nat) ≠ 23 by decide)]
                  refine xw.steps 1 (fun _ => rfl) ?_
                  refine xw.getf (o := 15) rfl ((xu_ne _ _ (by decide)).trans ((xu_ne _ _ (by decide)).trans h15)) rfl ?_
                  refine xw.steps 1 (fun _ => rfl) ?_
                  show xw z NK g 77 121 [(0, .ref (z + 15)), (1, .int (bI dd)), (2, .int (nI i)), (3, .int (nAt fs (nI i))), (4, .int (nAt ga (nI i))), (5, .int (nAt ga (nI i)))] [.int 0, .ref (z + 20)] (xu (xu S 21 (.inl ((p_folds ns2 as2 (nAt fs (nI i)) (nAt ga (nI i))).1 ++ [(nAt fs (nI i))]))) 23 (.inl ((p_folds ns2 as2 (nAt fs (nI i)) (nAt ga (nI i))).2.1 ++ [(nAt ga (nI i))]))) P
                  refine xw.callO (o := 20) rfl rfl rfl ((xu_ne _ _ (by decide)).trans ((xu_ne _ _ (by decide)).trans ht)) rfl rfl (c_Code_lastNumber ((xu_ne _ _ (by decide)).trans ((xu_ne _ _ (by decide)).trans ht)) ((xu_ne _ _ (by decide)).trans (xu_self _ _ _)) (xu_self _ _ _) (by decide) ?_)
                  show xw z NK g 77 124 [(0, .ref (z + 15)), (1, .int (bI dd)), (2, .int (nI i)), (3, .int (nAt fs (nI i))), (4, .int (nAt ga (nI i))), (5, .int (nAt ga (nI i)))] [.int (p_l ((p_folds ns2 as2 (nAt fs (nI i)) (nAt ga (nI i))).1 ++ [(nAt fs (nI i))]) 0)] (xu (xu S 21 (.inl ((p_folds ns2 as2 (nAt fs (nI i)) (nAt ga (nI i))).1 ++ [(nAt fs (nI i))]))) 23 (.inl ((p_folds ns2 as2 (nAt fs (nI i)) (nAt ga (nI i))).2.1 ++ [(nAt ga (nI i))]))) P
                  show xw z NK g 77 124 [(0, .ref (z + 15)), (1, .int (bI dd)), (2, .int (nI i)), (3, .int (nAt fs (nI i))), (4, .int (nAt ga (nI i))), (5, .int (nAt ga (nI i)))] [.int (p_l ((p_folds ns2 as2 (nAt fs (nI i)) (nAt ga (nI i))).1 ++ [(nAt fs (nI i))]) 0)] (xu (xu S 21 (.inl ((p_folds ns2 as2 (nAt fs (nI i)) (nAt ga (nI i))).1 ++ [(nAt fs (nI i))]))) 23 (.inl ((p_folds ns2 as2 (nAt fs (nI i)) (nAt ga (nI i))).2.1 ++ [(nAt ga (nI i))]))) P
                  refine xw.callS rfl rfl rfl rfl rfl (c_endsWay ?_)
                  show xw z NK g 77 127 [(0, .ref (z + 15)), (1, .int (bI dd)), (2, .int (nI i)), (3, .int (nAt fs (nI i))), (4, .int (nAt ga (nI i))), (5, .int (nAt ga (nI i)))] [.int (bI (t_ends (p_l ((p_folds ns2 as2 (nAt fs (nI i)) (nAt ga (nI i))).1 ++ [(nAt fs (nI i))]) 0)))] (xu (xu S 21 (.inl ((p_folds ns2 as2 (nAt fs (nI i)) (nAt ga (nI i))).1 ++ [(nAt fs (nI i))]))) 23 (.inl ((p_folds ns2 as2 (nAt fs (nI i)) (nAt ga (nI i))).2.1 ++ [(nAt ga (nI i))]))) P
                  refine xw.steps 3 (fun _ => rfl) ?_
                  show xw z NK g 77 12 [(0, .ref (z + 15)), (1, .int (bI (t_ends (p_l ((p_folds ns2 as2 (nAt fs (nI i)) (nAt ga (nI i))).1 ++ [(nAt fs (nI i))]) 0)))), (2, .int ((nI i) + 1)), (3, .int (nAt fs (nI i))), (4, .int (nAt ga (nI i))), (5, .int (nAt ga (nI i)))] [] (xu (xu S 21 (.inl ((p_folds ns2 as2 (nAt fs (nI i)) (nAt ga (nI i))).1 ++ [(nAt fs (nI i))]))) 23 (.inl ((p_folds ns2 as2 (nAt fs (nI i)) (nAt ga (nI i))).2.1 ++ [(nAt ga (nI i))]))) P
                  rw [nI_1]
                  refine xw.forget (lv := [(0, .ref (z + 15)), (1, .int (bI (t_ends (p_l ((p_folds ns2 as2 (nAt fs (nI i)) (nAt ga (nI i))).1 ++ [(nAt fs (nI i))]) 0)))), (2, .int (nI (i + 1)))]) lk_77 (show [0, 1, 2].Nodup by decide) (show [0, 1, 2, 3, 4, 5].Nodup by decide) (List.forall_mem_cons.mpr ⟨rfl, List.forall_mem_cons.mpr ⟨rfl, List.forall_mem_cons.mpr ⟨rfl, fun _ h => absurd h List.not_mem_nil⟩⟩⟩) ?_
                  exact ih (i + 1) (by omega) _ _ _ (by have h1 := p_step_len ns2 as2 (nAt fs (nI i)) (nAt ga (nI i)); rw [(show p_step ns2 as2 (nAt fs (nI i)) (nAt ga (nI i)) = (((p_folds ns2 as2 (nAt fs (nI i)) (nAt ga (nI i))).1 ++ [(nAt fs (nI i))]), ((p_folds ns2 as2 (nAt fs (nI i)) (nAt ga (nI i))).2.1 ++ [(nAt ga (nI i))])) from by unfold p_step; rw [if_neg (by rw [(by assumption : (p_folds ns2 as2 (nAt fs (nI i)) (nAt ga (nI i))).2.2 = false)]; decide)])] at h1; have h2 := h1.1; dsimp only at h2; omega) (by have h1 := p_step_len ns2 as2 (nAt fs (nI i)) (nAt ga (nI i)); rw [(show p_step ns2 as2 (nAt fs (nI i)) (nAt ga (nI i)) = (((p_folds ns2 as2 (nAt fs (nI i)) (nAt ga (nI i))).1 ++ [(nAt fs (nI i))]), ((p_folds ns2 as2 (nAt fs (nI i)) (nAt ga (nI i))).2.1 ++ [(nAt ga (nI i))])) from by unfold p_step; rw [if_neg (by rw [(by assumption : (p_folds ns2 as2 (nAt fs (nI i)) (nAt ga (nI i))).2.2 = false)]; decide)])] at h1; have h2 := h1.2; dsimp only at h2; omega) (by rw [p_rew_go (by first | exact fun u => absurd u.1 (by assumption) | exact fun u => absurd u.2 (by assumption)) (by first | exact fun u => absurd (by assumption) u.2 | exact fun u => Bool.noConfusion (u.1.symm.trans (by assumption))) (show p_goal pl fs ga (nAt fs (nI i)) (nAt ga (nI i)) = (nAt ga (nI i)) from by unfold p_goal; rw [if_neg (by rw [(by assumption : t_goes (nAt fs (nI i)) = false)]; decide)]) (show p_step ns2 as2 (nAt fs (nI i)) (nAt ga (nI i)) = (((p_folds ns2 as2 (nAt fs (nI i)) (nAt ga (nI i))).1 ++ [(nAt fs (nI i))]), ((p_folds ns2 as2 (nAt fs (nI i)) (nAt ga (nI i))).2.1 ++ [(nAt ga (nI i))])) from by unfold p_step; rw [if_neg (by rw [(by assumption : (p_folds ns2 as2 (nAt fs (nI i)) (nAt ga (nI i))).2.2 = false)]; decide)])] at hP; exact hP)
              · have c8 := bI_ne0 (of_decide_eq_false c8)
                refine xw.steps 2 (fun _ => rfl) ?_
                show xw z NK g 77 86 [(0, .ref (z + 15)), (1, .int (bI dd)), (2, .int (nI i)), (3, .int (nAt fs (nI i))), (4, .int (nAt ga (nI i)))] [.int (nAt ga (nI i)), .ref (z + 15)] (xu (xu S 21 (.inl ns2)) 23 (.inl as2)) P
                refine xw.callO (o := 15) rfl rfl rfl ((xu_ne _ _ (by decide)).trans ((xu_ne _ _ (by decide)).trans h15)) rfl rfl (c_far_B ⟨((xu_ne _ _ (by decide)).trans ((xu_ne _ _ (by decide)).trans h15)), ((xu_ne _ _ (by decide)).trans ((xu_ne _ _ (by decide)).trans h16)), ((xu_ne _ _ (by decide)).trans ((xu_ne _ _ (by decide)).trans h18)), ((xu_ne _ _ (by decide)).trans ((xu_ne _ _ (by decide)).trans hf)), ((xu_ne _ _ (by decide)).trans ((xu_ne _ _ (by decide)).trans hfn)), ((xu_ne _ _ (by decide)).trans ((xu_ne _ _ (by decide)).trans hfa)), ((xu_ne _ _ (by decide)).trans ((xu_ne _ _ (by decide)).trans ht)), ((xu_ne _ _ (by decide)).trans (xu_self _ _ _)), (xu_self _ _ _)⟩ ?_)
                show xw z NK g 77 89 [(0, .ref (z + 15)), (1, .int (bI dd)), (2, .int (nI i)), (3, .int (nAt fs (nI i))), (4, .int (nAt ga (nI i)))] [.int (p_far pl fs ga 100 (nAt ga (nI i)))] (xu (xu S 21 (.inl ns2)) 23 (.inl as2)) P
                refine xw.steps 5 (fun _ => rfl) ?_
                show xw z NK g 77 100 [(0, .ref (z + 15)), (1, .int (bI dd)), (2, .int (nI i)), (3, .int (nAt fs (nI i))), (4, .int (nAt ga (nI i))), (5, .int (p_far pl fs ga 100 (nAt ga (nI i))))] [.int (p_far pl fs ga 100 (nAt ga (nI i))), .int (nAt fs (nI i)), .ref (z + 15)] (xu (xu S 21 (.inl ns2)) 23 (.inl as2)) P
                refine xw.callO (o := 15) rfl rfl rfl ((xu_ne _ _ (by decide)).trans ((xu_ne _ _ (by decide)).trans h15)) rfl rfl (c_folds_B ⟨((xu_ne _ _ (by decide)).trans ((xu_ne _ _ (by decide)).trans h15)), ((xu_ne _ _ (by decide)).trans ((xu_ne _ _ (by decide)).trans h16)), ((xu_ne _ _ (by decide)).trans ((xu_ne _ _ (by decide)).trans h18)), ((xu_ne _ _ (by decide)).trans ((xu_ne _ _ (by decide)).trans hf)), ((xu_ne _ _ (by decide)).trans ((xu_ne _ _ (by decide)).trans hfn)), ((xu_ne _ _ (by decide)).trans ((xu_ne _ _ (by decide)).trans hfa)), ((xu_ne _ _ (by decide)).trans ((xu_ne _ _ (by decide)).trans ht)), ((xu_ne _ _ (by decide)).trans (xu_self _ _ _)), (xu_self _ _ _)⟩ (by omega) (by omega) ?_)
                show xw z NK g 77 103 [(0, .ref (z + 15)), (1, .int (bI dd)), (2, .int (nI i)), (3, .int (nAt fs (nI i))), (4, .int (nAt ga (nI i))), (5, .int (p_far pl fs ga 100 (nAt ga (nI i))))] [.int (bI (p_folds ns2 as2 (nAt fs (nI i)) (p_far pl fs ga 100 (nAt ga (nI i)))).2.2)] (xu (xu (xu (xu S 21 (.inl ns2)) 23 (.inl as2)) 21 (.inl (p_folds ns2 as2 (nAt fs (nI i)) (p_far pl fs ga 100 (nAt ga (nI i)))).1)) 23 (.inl (p_folds ns2 as2 (nAt fs (nI i)) (p_far pl fs ga 100 (nAt ga (nI i)))).2.1)) P
                rw [xu4 _ (show (21 : Nat) ≠ 23 by decide)]
                refine xw.if_ rfl (fun c10 => ?_) (fun c10 => ?_)
                · have c10 := bI_ne0 (of_decide_eq_true c10)
                  refine xw.steps 1 (fun _ => rfl) ?_
                  refine xw.getf (o := 15) rfl ((xu_ne _ _ (by decide)).trans ((xu_ne _ _ (by decide)).trans h15)) rfl ?_
                  refine xw.steps 1 (fun _ => rfl) ?_
                  show xw z NK g 77 121 [(0, .ref (z + 15)), (1, .int (bI dd)), (2, .int (nI i)), (3, .int (nAt fs (nI i))), (4, .int (nAt ga (nI i))), (5, .int (p_far pl fs ga 100 (nAt ga (nI i))))] [.int 0, .ref (z + 20)] (xu (xu S 21 (.inl (p_folds ns2 as2 (nAt fs (nI i)) (p_far pl fs ga 100 (nAt ga (nI i)))).1)) 23 (.inl (p_folds ns2 as2 (nAt fs (nI i)) (p_far pl fs ga 100 (nAt ga (nI i)))).2.1)) P
                  refine xw.callO (o := 20) rfl rfl rfl ((xu_ne _ _ (by decide)).trans ((xu_ne _ _ (by decide)).trans ht)) rfl rfl (c_Code_lastNumber ((xu_ne _ _ (by decide)).trans ((xu_ne _ _ (by decide)).trans ht)) ((xu_ne _ _ (by decide)).trans (xu_self _ _ _)) (xu_self _ _ _) (by decide) ?_)
                  show xw z NK g 77 124 [(0, .ref (z + 15)), (1, .int (bI dd)), (2, .int (nI i)), (3, .int (nAt fs (nI i))), (4, .int (nAt ga (nI i))), (5, .int (p_far pl fs ga 100 (nAt ga (nI i))))] [.int (p_l (p_folds ns2 as2 (nAt fs (nI i)) (p_far pl fs ga 100 (nAt ga (nI i)))).1 0)] (xu (xu S 21 (.inl (p_folds ns2 as2 (nAt fs (nI i)) (p_far pl fs ga 100 (nAt ga (nI i)))).1)) 23 (.inl (p_folds ns2 as2 (nAt fs (nI i)) (p_far pl fs ga 100 (nAt ga (nI i)))).2.1)) P
                  show xw z NK g 77 124 [(0, .ref (z + 15)), (1, .int (bI dd)), (2, .int (nI i)), (3, .int (nAt fs (nI i))), (4, .int (nAt ga (nI i))), (5, .int (p_far pl fs ga 100 (nAt ga (nI i))))] [.int (p_l (p_folds ns2 as2 (nAt fs (nI i)) (p_far pl fs ga 100 (nAt ga (nI i)))).1 0)] (xu (xu S 21 (.inl (p_folds ns2 as2 (nAt fs (nI i)) (p_far pl fs ga 100 (nAt ga (nI i)))).1)) 23 (.inl (p_folds ns2 as2 (nAt fs (nI i)) (p_far pl fs ga 100 (nAt ga (nI i)))).2.1)) P
                  refine xw.callS rfl rfl rfl rfl rfl (c_endsWay ?_)
                  show xw z NK g 77 127 [(0, .ref (z + 15)), (1, .int (bI dd)), (2, .int (nI i)), (3, .int (nAt fs (nI i))), (4, .int (nAt ga (nI i))), (5, .int (p_far pl fs ga 100 (nAt ga (nI i))))] [.int (bI (t_ends (p_l (p_folds ns2 as2 (nAt fs (nI i)) (p_far pl fs ga 100 (nAt ga (nI i)))).1 0)))] (xu (xu S 21 (.inl (p_folds ns2 as2 (nAt fs (nI i)) (p_far pl fs ga 100 (nAt ga (nI i)))).1)) 23 (.inl (p_folds ns2 as2 (nAt fs (nI i)) (p_far pl fs ga 100 (nAt ga (nI i)))).2.1)) P
                  refine xw.steps 3 (fun _ => rfl) ?_
                  show xw z NK g 77 12 [(0, .ref (z + 15)), (1, .int (bI (t_ends (p_l (p_folds ns2 as2 (nAt fs (nI i)) (p_far pl fs ga 100 (nAt ga (nI i)))).1 0)))), (2, .int ((nI i) + 1)), (3, .int (nAt fs (nI i))), (4, .int (nAt ga (nI i))), (5, .int (p_far pl fs ga 100 (nAt ga (nI i))))] [] (xu (xu S 21 (.inl (p_folds ns2 as2 (nAt fs (nI i)) (p_far pl fs ga 100 (nAt ga (nI i)))).1)) 23 (.inl (p_folds ns2 as2 (nAt fs (nI i)) (p_far pl fs ga 100 (nAt ga (nI i)))).2.1)) P
                  rw [nI_1]
                  refine xw.forget (lv := [(0, .ref (z + 15)), (1, .int (bI (t_ends (p_l (p_folds ns2 as2 (nAt fs (nI i)) (p_far pl fs ga 100 (nAt ga (nI i)))).1 0)))), (2, .int (nI (i + 1)))]) lk_77 (show [0, 1, 2].Nodup by decide) (show [0, 1, 2, 3, 4, 5].Nodup by decide) (List.forall_mem_cons.mpr ⟨rfl, List.forall_mem_cons.mpr ⟨rfl, List.forall_mem_cons.mpr ⟨rfl, fun _ h => absurd h List.not_mem_nil⟩⟩⟩) ?_
                  exact ih (i + 1) (by omega) _ _ _ (by have h1 := p_step_len ns2 as2 (nAt fs (nI i)) (p_far pl fs ga 100 (nAt ga (nI i))); rw [(show p_step ns2 as2 (nAt fs (nI i)) (p_far pl fs ga 100 (nAt ga (nI i))) = ((p_folds ns2 as2 (nAt fs (nI i)) (p_far pl fs ga 100 (nAt ga (nI i)))).1, (p_folds ns2 as2 (nAt fs (nI i)) (p_far pl fs ga 100 (nAt ga (nI i)))).2.1) from by unfold p_step; rw [if_pos (by assumption)])] at h1; have h2 := h1.1; dsimp only at h2; omega) (by have h1 := p_step_len ns2 as2 (nAt fs (nI i)) (p_far pl fs ga 100 (nAt ga (nI i))); rw [(show p_step ns2 as2 (nAt fs (nI i)) (p_far pl fs ga 100 (nAt ga (nI i))) = ((p_folds ns2 as2 (nAt fs (nI i)) (p_far pl fs ga 100 (nAt ga (nI i)))).1, (p_folds ns2 as2 (nAt fs (nI i)) (p_far pl fs ga 100 (nAt ga (nI i)))).2.1) from by unfold p_step; rw [if_pos (by assumption)])] at h1; have h2 := h1.2; dsimp only at h2; omega) (by rw [p_rew_go (by first | exact fun u => absurd u.1 (by assumption) | exact fun u => absurd u.2 (by assumption)) (by first | exact fun u => absurd (by assumption) u.2 | exact fun u => Bool.noConfusion (u.1.symm.trans (by assumption))) (show p_goal pl fs ga (nAt fs (nI i)) (nAt ga (nI i)) = (p_far pl fs ga 100 (nAt ga (nI i))) from by unfold p_goal; rw [if_pos (by assumption)]) (show p_step ns2 as2 (nAt fs (nI i)) (p_far pl fs ga 100 (nAt ga (nI i))) = ((p_folds ns2 as2 (nAt fs (nI i)) (p_far pl fs ga 100 (nAt ga (nI i)))).1, (p_folds ns2 as2 (nAt fs (nI i)) (p_far pl fs ga 100 (nAt ga (nI i)))).2.1) from by unfold p_step; rw [if_pos (by assumption)])] at hP; exact hP)
                · have c10 := bI_eq0 (Decidable.not_not.mp (of_decide_eq_false c10))
                  refine xw.steps 1 (fun _ => rfl) ?_
                  refine xw.getf (o := 15) rfl ((xu_ne _ _ (by decide)).trans ((xu_ne _ _ (by decide)).trans h15)) rfl ?_
                  refine xw.steps 2 (fun _ => rfl) ?_
                  show xw z NK g 77 113 [(0, .ref (z + 15)), (1, .int (bI dd)), (2, .int (nI i)), (3, .int (nAt fs (nI i))), (4, .int (nAt ga (nI i))), (5, .int (p_far pl fs ga 100 (nAt ga (nI i))))] [.int (p_far pl fs ga 100 (nAt ga (nI i))), .int (nAt fs (nI i)), .ref (z + 20)] (xu (xu S 21 (.inl (p_folds ns2 as2 (nAt fs (nI i)) (p_far pl fs ga 100 (nAt ga (nI i)))).1)) 23 (.inl (p_folds ns2 as2 (nAt fs (nI i)) (p_far pl fs ga 100 (nAt ga (nI i)))).2.1)) P
                  refine xw.callO (o := 20) rfl rfl rfl ((xu_ne _ _ (by decide)).trans ((xu_ne _ _ (by decide)).trans ht)) rfl rfl (c_Code_append ((xu_ne _ _ (by decide)).trans ((xu_ne _ _ (by decide)).trans ht)) ((xu_ne _ _ (by decide)).trans (xu_self _ _ _)) (xu_self _ _ _) (by decide) (by have h1 := p_folds_len ns2 as2 (nAt fs (nI i)) (p_far pl fs ga 100 (nAt ga (nI i))); omega) (by have h1 := p_folds_len ns2 as2 (nAt fs (nI i)) (p_far pl fs ga 100 (nAt ga (nI i))); omega) ?_)
                  show xw z NK g 77 116 [(0, .ref (z + 15)), (1, .int (bI dd)), (2, .int (nI i)), (3, .int (nAt fs (nI i))), (4, .int (nAt ga (nI i))), (5, .int (p_far pl fs ga 100 (nAt ga (nI i))))] [] (xu (xu (xu (xu S 21 (.inl (p_folds ns2 as2 (nAt fs (nI i)) (p_far pl fs ga 100 (nAt ga (nI i)))).1)) 23 (.inl (p_folds ns2 as2 (nAt fs (nI i)) (p_far pl fs ga 100 (nAt ga (nI i)))).2.1)) 21 (.inl ((p_folds ns2 as2 (nAt fs (nI i)) (p_far pl fs ga 100 (nAt ga (nI i)))).1 ++ [(nAt fs (nI i))]))) 23 (.inl ((p_folds ns2 as2 (nAt fs (nI i)) (p_far pl fs ga 100 (nAt ga (nI i)))).2.1 ++ [(p_far pl fs ga 100 (nAt ga (nI i)))]))) P
                  rw [xu4 _ (show (21 : Nat) ≠ 23 by decide)]
                  refine xw.steps 1 (fun _ => rfl) ?_
                  refine xw.getf (o := 15) rfl ((xu_ne _ _ (by decide)).trans ((xu_ne _ _ (by decide)).trans h15)) rfl ?_
                  refine xw.steps 1 (fun _ => rfl) ?_
                  show xw z NK g 77 121 [(0, .ref (z + 15)), (1, .int (bI dd)), (2, .int (nI i)), (3, .int (nAt fs (nI i))), (4, .int (nAt ga (nI i))), (5, .int (p_far pl fs ga 100 (nAt ga (nI i))))] [.int 0, .ref (z + 20)] (xu (xu S 21 (.inl ((p_folds ns2 as2 (nAt fs (nI i)) (p_far pl fs ga 100 (nAt ga (nI i)))).1 ++ [(nAt fs (nI i))]))) 23 (.inl ((p_folds ns2 as2 (nAt fs (nI i)) (p_far pl fs ga 100 (nAt ga (nI i)))).2.1 ++ [(p_far pl fs ga 100 (nAt ga (nI i)))]))) P
                  refine xw.callO (o := 20) rfl rfl rfl ((xu_ne _ _ (by decide)).trans ((xu_ne _ _ (by decide)).trans ht)) rfl rfl (c_Code_lastNumber ((xu_ne _ _ (by decide)).trans ((xu_ne _ _ (by decide)).trans ht)) ((xu_ne _ _ (by decide)).trans (xu_self _ _ _)) (xu_self _ _ _) (by decide) ?_)
                  show xw z NK g 77 124 [(0, .ref (z + 15)), (1, .int (bI dd)), (2, .int (nI i)), (3, .int (nAt fs (nI i))), (4, .int (nAt ga (nI i))), (5, .int (p_far pl fs ga 100 (nAt ga (nI i))))] [.int (p_l ((p_folds ns2 as2 (nAt fs (nI i)) (p_far pl fs ga 100 (nAt ga (nI i)))).1 ++ [(nAt fs (nI i))]) 0)] (xu (xu S 21 (.inl ((p_folds ns2 as2 (nAt fs (nI i)) (p_far pl fs ga 100 (nAt ga (nI i)))).1 ++ [(nAt fs (nI i))]))) 23 (.inl ((p_folds ns2 as2 (nAt fs (nI i)) (p_far pl fs ga 100 (nAt ga (nI i)))).2.1 ++ [(p_far pl fs ga 100 (nAt ga (nI i)))]))) P
                  show xw z NK g 77 124 [(0, .ref (z + 15)), (1, .int (bI dd)), (2, .int (nI i)), (3, .int (nAt fs (nI i))), (4, .int (nAt ga (nI i))), (5, .int (p_far pl fs ga 100 (nAt ga (nI i))))] [.int (p_l ((p_folds ns2 as2 (nAt fs (nI i)) (p_far pl fs ga 100 (nAt ga (nI i)))).1 ++ [(nAt fs (nI i))]) 0)] (xu (xu S 21 (.inl ((p_folds ns2 as2 (nAt fs (nI i)) (p_far pl fs ga 100 (nAt ga (nI i)))).1 ++ [(nAt fs (nI i))]))) 23 (.inl ((p_folds ns2 as2 (nAt fs (nI i)) (p_far pl fs ga 100 (nAt ga (nI i)))).2.1 ++ [(p_far pl fs ga 100 (nAt ga (nI i)))]))) P
                  refine xw.callS rfl rfl rfl rfl rfl (c_endsWay ?_)
                  show xw z NK g 77 127 [(0, .ref (z + 15)), (1, .int (bI dd)), (2, .int (nI i)), (3, .int (nAt fs (nI i))), (4, .int (nAt ga (nI i))), (5, .int (p_far pl fs ga 100 (nAt ga (nI i))))] [.int (bI (t_ends (p_l ((p_folds ns2 as2 (nAt fs (nI i)) (p_far pl fs ga 100 (nAt ga (nI i)))).1 ++ [(nAt fs (nI i))]) 0)))] (xu (xu S 21 (.inl ((p_folds ns2 as2 (nAt fs (nI i)) (p_far pl fs ga 100 (nAt ga (nI i)))).1 ++ [(nAt fs (nI i))]))) 23 (.inl ((p_folds ns2 as2 (nAt fs (nI i)) (p_far pl fs ga 100 (nAt ga (nI i)))).2.1 ++ [(p_far pl fs ga 100 (nAt ga (nI i)))]))) P
                  refine xw.steps 3 (fun _ => rfl) ?_
                  show xw z NK g 77 12 [(0, .ref (z + 15)), (1, .int (bI (t_ends (p_l ((p_folds ns2 as2 (nAt fs (nI i)) (p_far pl fs ga 100 (nAt ga (nI i)))).1 ++ [(nAt fs (nI i))]) 0)))), (2, .int ((nI i) + 1)), (3, .int (nAt fs (nI i))), (4, .int (nAt ga (nI i))), (5, .int (p_far pl fs ga 100 (nAt ga (nI i))))] [] (xu (xu S 21 (.inl ((p_folds ns2 as2 (nAt fs (nI i)) (p_far pl fs ga 100 (nAt ga (nI i)))).1 ++ [(nAt fs (nI i))]))) 23 (.inl ((p_folds ns2 as2 (nAt fs (nI i)) (p_far pl fs ga 100 (nAt ga (nI i)))).2.1 ++ [(p_far pl fs ga 100 (nAt ga (nI i)))]))) P
                  rw [nI_1]
                  refine xw.forget (lv := [(0, .ref (z + 15)), (1, .int (bI (t_ends (p_l ((p_folds ns2 as2 (nAt fs (nI i)) (p_far pl fs ga 100 (nAt ga (nI i)))).1 ++ [(nAt fs (nI i))]) 0)))), (2, .int (nI (i + 1)))]) lk_77 (show [0, 1, 2].Nodup by decide) (show [0, 1, 2, 3, 4, 5].Nodup by decide) (List.forall_mem_cons.mpr ⟨rfl, List.forall_mem_cons.mpr ⟨rfl, List.forall_mem_cons.mpr ⟨rfl, fun _ h => absurd h List.not_mem_nil⟩⟩⟩) ?_
                  exact ih (i + 1) (by omega) _ _ _ (by have h1 := p_step_len ns2 as2 (nAt fs (nI i)) (p_far pl fs ga 100 (nAt ga (nI i))); rw [(show p_step ns2 as2 (nAt fs (nI i)) (p_far pl fs ga 100 (nAt ga (nI i))) = (((p_folds ns2 as2 (nAt fs (nI i)) (p_far pl fs ga 100 (nAt ga (nI i)))).1 ++ [(nAt fs (nI i))]), ((p_folds ns2 as2 (nAt fs (nI i)) (p_far pl fs ga 100 (nAt ga (nI i)))).2.1 ++ [(p_far pl fs ga 100 (nAt ga (nI i)))])) from by unfold p_step; rw [if_neg (by rw [(by assumption : (p_folds ns2 as2 (nAt fs (nI i)) (p_far pl fs ga 100 (nAt ga (nI i)))).2.2 = false)]; decide)])] at h1; have h2 := h1.1; dsimp only at h2; omega) (by have h1 := p_step_len ns2 as2 (nAt fs (nI i)) (p_far pl fs ga 100 (nAt ga (nI i))); rw [(show p_step ns2 as2 (nAt fs (nI i)) (p_far pl fs ga 100 (nAt ga (nI i))) = (((p_folds ns2 as2 (nAt fs (nI i)) (p_far pl fs ga 100 (nAt ga (nI i)))).1 ++ [(nAt fs (nI i))]), ((p_folds ns2 as2 (nAt fs (nI i)) (p_far pl fs ga 100 (nAt ga (nI i)))).2.1 ++ [(p_far pl fs ga 100 (nAt ga (nI i)))])) from by unfold p_step; rw [if_neg (by rw [(by assumption : (p_folds ns2 as2 (nAt fs (nI i)) (p_far pl fs ga 100 (nAt ga (nI i)))).2.2 = false)]; decide)])] at h1; have h2 := h1.2; dsimp only at h2; omega) (by rw [p_rew_go (by first | exact fun u => absurd u.1 (by assumption) | exact fun u => absurd u.2 (by assumption)) (by first | exact fun u => absurd (by assumption) u.2 | exact fun u => Bool.noConfusion (u.1.symm.trans (by assumption))) (show p_goal pl fs ga (nAt fs (nI i)) (nAt ga (nI i)) = (p_far pl fs ga 100 (nAt ga (nI i))) from by unfold p_goal; rw [if_pos (by assumption)]) (show p_step ns2 as2 (nAt fs (nI i)) (p_far pl fs ga 100 (nAt ga (nI i))) = (((p_folds ns2 as2 (nAt fs (nI i)) (p_far pl fs ga 100 (nAt ga (nI i)))).1 ++ [(nAt fs (nI i))]), ((p_folds ns2 as2 (nAt fs (nI i)) (p_far pl fs ga 100 (nAt ga (nI i)))).2.1 ++ [(p_far pl fs ga 100 (nAt ga (nI i)))])) from by unfold p_step; rw [if_neg (by rw [(by assumption : (p_folds ns2 as2 (nAt fs (nI i)) (p_far pl fs ga 100 (nAt ga (nI i)))).2.2 = false)]; decide)])] at hP; exact hP)
            · have c7 := of_decide_eq_false c7
              refine xw.steps 3 (fun _ => rfl) ?_
              show xw z NK g 77 12 [(0, .ref (z + 15)), (1, .int (bI dd)), (2, .int ((nI i) + 1)), (3, .int (nAt fs (nI i))), (4, .int (nAt ga (nI i)))] [] (xu (xu S 21 (.inl ns2)) 23 (.inl as2)) P
              rw [nI_1]
              refine xw.forget (lv := [(0, .ref (z + 15)), (1, .int (bI dd)), (2, .int (nI (i + 1)))]) lk_77 (show [0, 1, 2].Nodup by decide) (show [0, 1, 2, 3, 4].Nodup by decide) (List.forall_mem_cons.mpr ⟨rfl, List.forall_mem_cons.mpr ⟨rfl, List.forall_mem_cons.mpr ⟨rfl, fun _ h => absurd h List.not_mem_nil⟩⟩⟩) ?_
              exact ih (i + 1) (by omega) _ _ _ (by omega) (by omega) (by rw [p_rew_skip (by first | exact Or.inl ⟨by assumption, by assumption⟩ | exact Or.inr ⟨by assumption, by assumption⟩)] at hP; exact hP)
        · have c2 := Decidable.not_not.mp (of_decide_eq_false c2)
          refine xw.steps 1 (fun _ => rfl) ?_
          refine xw.getf (o := 15) rfl ((xu_ne _ _ (by decide)).trans ((xu_ne _ _ (by decide)).trans h15)) rfl ?_
          refine xw.steps 1 (fun _ => rfl) ?_
          show xw z NK g 77 54 [(0, .ref (z + 15)), (1, .int (bI dd)), (2, .int (nI i)), (3, .int (nAt fs (nI i))), (4, .int (nAt ga (nI i)))] [.int (nAt ga (nI i)), .ref (z + 18)] (xu (xu S 21 (.inl ns2)) 23 (.inl as2)) P
          refine xw.callN (o := 18) rfl rfl rfl ((xu_ne _ _ (by decide)).trans ((xu_ne _ _ (by decide)).trans h18)) rfl rfl (c_at ((xu_ne _ _ (by decide)).trans ((xu_ne _ _ (by decide)).trans h18)) ?_)
          show xw z NK g 77 57 [(0, .ref (z + 15)), (1, .int (bI dd)), (2, .int (nI i)), (3, .int (nAt fs (nI i))), (4, .int (nAt ga (nI i)))] [.int (nAt us (nAt ga (nI i)))] (xu (xu S 21 (.inl ns2)) 23 (.inl as2)) P
          refine xw.if_ rfl (fun c11 => ?_) (fun c11 => ?_)
          · have c11 := of_decide_eq_true c11
            refine xw.steps 1 (fun _ => rfl) ?_
            refine xw.if_ rfl (fun c12 => ?_) (fun c12 => ?_)
            · have c12 := bI_eq0 (of_decide_eq_true c12)
              refine xw.steps 1 (fun _ => rfl) ?_
              show xw z NK g 77 77 [(0, .ref (z + 15)), (1, .int (bI dd)), (2, .int (nI i)), (3, .int (nAt fs (nI i))), (4, .int (nAt ga (nI i)))] [.int (nAt fs (nI i))] (xu (xu S 21 (.inl ns2)) 23 (.inl as2)) P
              refine xw.callS rfl rfl rfl rfl rfl (c_goesToLabel ?_)
              show xw z NK g 77 80 [(0, .ref (z + 15)), (1, .int (bI dd)), (2, .int (nI i)), (3, .int (nAt fs (nI i))), (4, .int (nAt ga (nI i)))] [.int (bI (t_goes (nAt fs (nI i))))] (xu (xu S 21 (.inl ns2)) 23 (.inl as2)) P
              refine xw.if_ rfl (fun c13 => ?_) (fun c13 => ?_)
              · have c13 := bI_eq0 (of_decide_eq_true c13)
                refine xw.steps 5 (fun _ => rfl) ?_
                show xw z NK g 77 100 [(0, .ref (z + 15)), (1, .int (bI dd)), (2, .int (nI i)), (3, .int (nAt fs (nI i))), (4, .int (nAt ga (nI i))), (5, .int (nAt ga (nI i)))] [.int (nAt ga (nI i)), .int (nAt fs (nI i)), .ref (z + 15)] (xu (xu S 21 (.inl ns2)) 23 (.inl as2)) P
                refine xw.callO (o := 15) rfl rfl rfl ((xu_ne _ _ (by decide)).trans ((xu_ne _ _ (by decide)).trans h15)) rfl rfl (c_folds_B ⟨((xu_ne _ _ (by decide)).trans ((xu_ne _ _ (by decide)).trans h15)), ((xu_ne _ _ (by decide)).trans ((xu_ne _ _ (by decide)).trans h16)), ((xu_ne _ _ (by decide)).trans ((xu_ne _ _ (by decide)).trans h18)), ((xu_ne _ _ (by decide)).trans ((xu_ne _ _ (by decide)).trans hf)), ((xu_ne _ _ (by decide)).trans ((xu_ne _ _ (by decide)).trans hfn)), ((xu_ne _ _ (by decide)).trans ((xu_ne _ _ (by decide)).trans hfa)), ((xu_ne _ _ (by decide)).trans ((xu_ne _ _ (by decide)).trans ht)), ((xu_ne _ _ (by decide)).trans (xu_self _ _ _)), (xu_self _ _ _)⟩ (by omega) (by omega) ?_)
                show xw z NK g 77 103 [(0, .ref (z + 15)), (1, .int (bI dd)), (2, .int (nI i)), (3, .int (nAt fs (nI i))), (4, .int (nAt ga (nI i))), (5, .int (nAt ga (nI i)))] [.int (bI (p_folds ns2 as2 (nAt fs (nI i)) (nAt ga (nI i))).2.2)] (xu (xu (xu (xu S 21 (.inl ns2)) 23 (.inl as2)) 21 (.inl (p_folds ns2 as2 (nAt fs (nI i)) (nAt ga (nI i))).1)) 23 (.inl (p_folds ns2 as2 (nAt fs (nI i)) (nAt ga (nI i))).2.1)) P
                rw [xu4 _ (show (21 : Nat) ≠ 23 by decide)]
                refine xw.if_ rfl (fun c14 => ?_) (fun c14 => ?_)
                · have c14 := bI_ne0 (of_decide_eq_true c14)
                  refine xw.steps 1 (fun _ => rfl) ?_
                  refine xw.getf (o := 15) rfl ((xu_ne _ _ (by decide)).trans ((xu_ne _ _ (by decide)).trans h15)) rfl ?_
                  refine xw.steps 1 (fun _ => rfl) ?_
                  show xw z NK g 77 121 [(0, .ref (z + 15)), (1, .int (bI dd)), (2, .int (nI i)), (3, .int (nAt fs (nI i))), (4, .int (nAt ga (nI i))), (5, .int (nAt ga (nI i)))] [.int 0, .ref (z + 20)] (xu (xu S 21 (.inl (p_folds ns2 as2 (nAt fs (nI i)) (nAt ga (nI i))).1)) 23 (.inl (p_folds ns2 as2 (nAt fs (nI i)) (nAt ga (nI i))).2.1)) P
                  refine xw.callO (o := 20) rfl rfl rfl ((xu_ne _ _ (by decide)).trans ((xu_ne _ _ (by decide)).trans ht)) rfl rfl (c_Code_lastNumber ((xu_ne _ _ (by decide)).trans ((xu_ne _ _ (by decide)).trans ht)) ((xu_ne _ _ (by decide)).trans (xu_self _ _ _)) (xu_self _ _ _) (by decide) ?_)
                  show xw z NK g 77 124 [(0, .ref (z + 15)), (1, .int (bI dd)), (2, .int (nI i)), (3, .int (nAt fs (nI i))), (4, .int (nAt ga (nI i))), (5, .int (nAt ga (nI i)))] [.int (p_l (p_folds ns2 as2 (nAt fs (nI i)) (nAt ga (nI i))).1 0)] (xu (xu S 21 (.inl (p_folds ns2 as2 (nAt fs (nI i)) (nAt ga (nI i))).1)) 23 (.inl (p_folds ns2 as2 (nAt fs (nI i)) (nAt ga (nI i))).2.1)) P
                  show xw z NK g 77 124 [(0, .ref (z + 15)), (1, .int (bI dd)), (2, .int (nI i)), (3, .int (nAt fs (nI i))), (4, .int (nAt ga (nI i))), (5, .int (nAt ga (nI i)))] [.int (p_l (p_folds ns2 as2 (nAt fs (nI i)) (nAt ga (nI i))).1 0)] (xu (xu S 21 (.inl (p_folds ns2 as2 (nAt fs (nI i)) (nAt ga (nI i))).1)) 23 (.inl (p_folds ns2 as2 (nAt fs (nI i)) (nAt ga (nI i))).2.1)) P
                  refine xw.callS rfl rfl rfl rfl rfl (c_endsWay ?_)
                  show xw z NK g 77 127 [(0, .ref (z + 15)), (1, .int (bI dd)), (2, .int (nI i)), (3, .int (nAt fs (nI i))), (4, .int (nAt ga (nI i))), (5, .int (nAt ga (nI i)))] [.int (bI (t_ends (p_l (p_folds ns2 as2 (nAt fs (nI i)) (nAt ga (nI i))).1 0)))] (xu (xu S 21 (.inl (p_folds ns2 as2 (nAt fs (nI i)) (nAt ga (nI i))).1)) 23 (.inl (p_folds ns2 as2 (nAt fs (nI i)) (nAt ga (nI i))).2.1)) P
                  refine xw.steps 3 (fun _ => rfl) ?_
                  show xw z NK g 77 12 [(0, .ref (z + 15)), (1, .int (bI (t_ends (p_l (p_folds ns2 as2 (nAt fs (nI i)) (nAt ga (nI i))).1 0)))), (2, .int ((nI i) + 1)), (3, .int (nAt fs (nI i))), (4, .int (nAt ga (nI i))), (5, .int (nAt ga (nI i)))] [] (xu (xu S 21 (.inl (p_folds ns2 as2 (nAt fs (nI i)) (nAt ga (nI i))).1)) 23 (.inl (p_folds ns2 as2 (nAt fs (nI i)) (nAt ga (nI i))).2.1)) P
                  rw [nI_1]
                  refine xw.forget (lv := [(0, .ref (z + 15)), (1, .int (bI (t_ends (p_l (p_folds ns2 as2 (nAt fs (nI i)) (nAt ga (nI i))).1 0)))), (2, .int (nI (i + 1)))]) lk_77 (show [0, 1, 2].Nodup by decide) (show [0, 1, 2, 3, 4, 5].Nodup by decide) (List.forall_mem_cons.mpr ⟨rfl, List.forall_mem_cons.mpr ⟨rfl, List.forall_mem_cons.mpr ⟨rfl, fun _ h => absurd h List.not_mem_nil⟩⟩⟩) ?_
                  exact ih (i + 1) (by omega) _ _ _ (by have h1 := p_step_len ns2 as2 (nAt fs (nI i)) (nAt ga (nI i)); rw [(show p_step ns2 as2 (nAt fs (nI i)) (nAt ga (nI i)) = ((p_folds ns2 as2 (nAt fs (nI i)) (nAt ga (nI i))).1, (p_folds ns2 as2 (nAt fs (nI i)) (nAt ga (nI i))).2.1) from by unfold p_step; rw [if_pos (by assumption)])] at h1; have h2 := h1.1; dsimp only at h2; omega) (by have h1 := p_step_len ns2 as2 (nAt fs (nI i)) (nAt ga (nI i)); rw [(show p_step ns2 as2 (nAt fs (nI i)) (nAt ga (nI i)) = ((p_folds ns2 as2 (nAt fs (nI i)) (nAt ga (nI i))).1, (p_folds ns2 as2 (nAt fs (nI i)) (nAt ga (nI i))).2.1) from by unfold p_step; rw [if_pos (by assumption)])] at h1; have h2 := h1.2; dsimp only at h2; omega) (by rw [p_rew_go (by first | exact fun u => absurd u.1 (by assumption) | exact fun u => absurd u.2 (by assumption)) (by first | exact fun u => absurd (by assumption) u.2 | exact fun u => Bool.noConfusion (u.1.symm.trans (by assumption))) (show p_goal pl fs ga (nAt fs (nI i)) (nAt ga (nI i)) = (nAt ga (nI i)) from by unfold p_goal; rw [if_neg (by rw [(by assumption : t_goes (nAt fs (nI i)) = false)]; decide)]) (show p_step ns2 as2 (nAt fs (nI i)) (nAt ga (nI i)) = ((p_folds ns2 as2 (nAt fs (nI i)) (nAt ga (nI i))).1, (p_folds ns2 as2 (nAt fs (nI i)) (nAt ga (nI i))).2.1) from by unfold p_step; rw [if_pos (by assumption)])] at hP; exact hP)
                · have c14 := bI_eq0 (Decidable.not_not.mp (of_decide_eq_false c14))
                  refine xw.steps 1 (fun _ => rfl) ?_
                  refine xw.getf (o := 15) rfl ((xu_ne _ _ (by decide)).trans ((xu_ne _ _ (by decide)).trans h15)) rfl ?_
                  refine xw.steps 2 (fun _ => rfl) ?_
                  show xw z NK g 77 113 [(0, .ref (z + 15)), (1, .int (bI dd)), (2, .int (nI i)), (3, .int (nAt fs (nI i))), (4, .int (nAt ga (nI i))), (5, .int (nAt ga (nI i)))] [.int (nAt ga (nI i)), .int (nAt fs (nI i)), .ref (z + 20)] (xu (xu S 21 (.inl (p_folds ns2 as2 (nAt fs (nI i)) (nAt ga (nI i))).1)) 23 (.inl (p_folds ns2 as2 (nAt fs (nI i)) (nAt ga (nI i))).2.1)) P
                  refine xw.callO (o := 20) rfl rfl rfl ((xu_ne _ _ (by decide)).trans ((xu_ne _ _ (by decide)).trans ht)) rfl rfl (c_Code_append ((xu_ne _ _ (by decide)).trans ((xu_ne _ _ (by decide)).trans ht)) ((xu_ne _ _ (by decide)).trans (xu_self _ _ _)) (xu_self _ _ _) (by decide) (by have h1 := p_folds_len ns2 as2 (nAt fs (nI i)) (nAt ga (nI i)); omega) (by have h1 := p_folds_len ns2 as2 (nAt fs (nI i)) (nAt ga (nI i)); omega) ?_)
                  show xw z NK g 77 116 [(0, .ref (z + 15)), (1, .int (bI dd)), (2, .int (nI i)), (3, .int (nAt fs (nI i))), (4, .int (nAt ga (nI i))), (5, .int (nAt ga (nI i)))] [] (xu (xu (xu (xu S 21 (.inl (p_folds ns2 as2 (nAt fs (nI i)) (nAt ga (nI i))).1)) 23 (.inl (p_folds ns2 as2 (nAt fs (nI i)) (nAt ga (nI i))).2.1)) 21 (.inl ((p_folds ns2 as2 (nAt fs (nI i)) (nAt ga (nI i))).1 ++ [(nAt fs (nI i))]))) 23 (.inl ((p_folds ns2 as2 (nAt fs (nI i)) (nAt ga (nI i))).2.1 ++ [(nAt ga (nI i))]))) P
                  rw [xu4 _ (show (21 : Nat) ≠ 23 by decide)]
                  refine xw.steps 1 (fun _ => rfl) ?_
                  refine xw.getf (o := 15) rfl ((xu_ne _ _ (by decide)).trans ((xu_ne _ _ (by decide)).trans h15)) rfl ?_
                  refine xw.steps 1 (fun _ => rfl) ?_
                  show xw z NK g 77 121 [(0, .ref (z + 15)), (1, .int (bI dd)), (2, .int (nI i)), (3, .int (nAt fs (nI i))), (4, .int (nAt ga (nI i))), (5, .int (nAt ga (nI i)))] [.int 0, .ref (z + 20)] (xu (xu S 21 (.inl ((p_folds ns2 as2 (nAt fs (nI i)) (nAt ga (nI i))).1 ++ [(nAt fs (nI i))]))) 23 (.inl ((p_folds ns2 as2 (nAt fs (nI i)) (nAt ga (nI i))).2.1 ++ [(nAt ga (nI i))]))) P
                  refine xw.callO (o := 20) rfl rfl rfl ((xu_ne _ _ (by decide)).trans ((xu_ne _ _ (by decide)).trans ht)) rfl rfl (c_Code_lastNumber ((xu_ne _ _ (by decide)).trans ((xu_ne _ _ (by decide)).trans ht)) ((xu_ne _ _ (by decide)).trans (xu_self _ _ _)) (xu_self _ _ _) (by decide) ?_)
                  show xw z NK g 77 124 [(0, .ref (z + 15)), (1, .int (bI dd)), (2, .int (nI i)), (3, .int (nAt fs (nI i))), (4, .int (nAt ga (nI i))), (5, .int (nAt ga (nI i)))] [.int (p_l ((p_folds ns2 as2 (nAt fs (nI i)) (nAt ga (nI i))).1 ++ [(nAt fs (nI i))]) 0)] (xu (xu S 21 (.inl ((p_folds ns2 as2 (nAt fs (nI i)) (nAt ga (nI i))).1 ++ [(nAt fs (nI i))]))) 23 (.inl ((p_folds ns2 as2 (nAt fs (nI i)) (nAt ga (nI i))).2.1 ++ [(nAt ga (nI i))]))) P
                  show xw z NK g 77 124 [(0, .ref (z + 15)), (1, .int (bI dd)), (2, .int (nI i)), (3, .int (nAt fs (nI i))), (4, .int (nAt ga (nI i))), (5, .int (nAt ga (nI i)))] [.int (p_l ((p_folds ns2 as2 (nAt fs (nI i)) (nAt ga (nI i))).1 ++ [(nAt fs (nI i))]) 0)] (xu (xu S 21 (.inl ((p_folds ns2 as2 (nAt fs (nI i)) (nAt ga (nI i))).1 ++ [(nAt fs (nI i))]))) 23 (.inl ((p_folds ns2 as2 (nAt fs (nI i)) (nAt ga (nI i))).2.1 ++ [(nAt ga (nI i))]))) P
                  refine xw.callS rfl rfl rfl rfl rfl (c_endsWay ?_)
                  show xw z NK g 77 127 [(0, .ref (z + 15)), (1, .int (bI dd)), (2, .int (nI i)), (3, .int (nAt fs (nI i))), (4, .int (nAt ga (nI i))), (5, .int (nAt ga (nI i)))] [.int (bI (t_ends (p_l ((p_folds ns2 as2 (nAt fs (nI i)) (nAt ga (nI i))).1 ++ [(nAt fs (nI i))]) 0)))] (xu (xu S 21 (.inl ((p_folds ns2 as2 (nAt fs (nI i)) (nAt ga (nI i))).1 ++ [(nAt fs (nI i))]))) 23 (.inl ((p_folds ns2 as2 (nAt fs (nI i)) (nAt ga (nI i))).2.1 ++ [(nAt ga (nI i))]))) P
                  refine xw.steps 3 (fun _ => rfl) ?_
                  show xw z NK g 77 12 [(0, .ref (z + 15)), (1, .int (bI (t_ends (p_l ((p_folds ns2 as2 (nAt fs (nI i)) (nAt ga (nI i))).1 ++ [(nAt fs (nI i))]) 0)))), (2, .int ((nI i) + 1)), (3, .int (nAt fs (nI i))), (4, .int (nAt ga (nI i))), (5, .int (nAt ga (nI i)))] [] (xu (xu S 21 (.inl ((p_folds ns2 as2 (nAt fs (nI i)) (nAt ga (nI i))).1 ++ [(nAt fs (nI i))]))) 23 (.inl ((p_folds ns2 as2 (nAt fs (nI i)) (nAt ga (nI i))).2.1 ++ [(nAt ga (nI i))]))) P
                  rw [nI_1]
                  refine xw.forget (lv := [(0, .ref (z + 15)), (1, .int (bI (t_ends (p_l ((p_folds ns2 as2 (nAt fs (nI i)) (nAt ga (nI i))).1 ++ [(nAt fs (nI i))]) 0)))), (2, .int (nI (i + 1)))]) lk_77 (show [0, 1, 2].Nodup by decide) (show [0, 1, 2, 3, 4, 5].Nodup by decide) (List.forall_mem_cons.mpr ⟨rfl, List.forall_mem_cons.mpr ⟨rfl, List.forall_mem_cons.mpr ⟨rfl, fun _ h => absurd h List.not_mem_nil⟩⟩⟩) ?_
                  exact ih (i + 1) (by omega) _ _ _ (by have h1 := p_step_len ns2 as2 (nAt fs (nI i)) (nAt ga (nI i)); rw [(show p_step ns2 as2 (nAt fs (nI i)) (nAt ga (nI i)) = (((p_folds ns2 as2 (nAt fs (nI i)) (nAt ga (nI i))).1 ++ [(nAt fs (nI i))]), ((p_folds ns2 as2 (nAt fs (nI i)) (nAt ga (nI i))).2.1 ++ [(nAt ga (nI i))])) from by unfold p_step; rw [if_neg (by rw [(by assumption : (p_folds ns2 as2 (nAt fs (nI i)) (nAt ga (nI i))).2.2 = false)]; decide)])] at h1; have h2 := h1.1; dsimp only at h2; omega) (by have h1 := p_step_len ns2 as2 (nAt fs (nI i)) (nAt ga (nI i)); rw [(show p_step ns2 as2 (nAt fs (nI i)) (nAt ga (nI i)) = (((p_folds ns2 as2 (nAt fs (nI i)) (nAt ga (nI i))).1 ++ [(nAt fs (nI i))]), ((p_folds ns2 as2 (nAt fs (nI i)) (nAt ga (nI i))).2.1 ++ [(nAt ga (nI i))])) from by unfold p_step; rw [if_neg (by rw [(by assumption : (p_folds ns2 as2 (nAt fs (nI i)) (nAt ga (nI i))).2.2 = false)]; decide)])] at h1; have h2 := h1.2; dsimp only at h2; omega) (by rw [p_rew_go (by first | exact fun u => absurd u.1 (by assumption) | exact fun u => absurd u.2 (by assumption)) (by first | exact fun u => absurd (by assumption) u.2 | exact fun u => Bool.noConfusion (u.1.symm.trans (by assumption))) (show p_goal pl fs ga (nAt fs (nI i)) (nAt ga (nI i)) = (nAt ga (nI i)) from by unfold p_goal; rw [if_neg (by rw [(by assumption : t_goes (nAt fs (nI i)) = false)]; decide)]) (show p_step ns2 as2 (nAt fs (nI i)) (nAt ga (nI i)) = (((p_folds ns2 as2 (nAt fs (nI i)) (nAt ga (nI i))).1 ++ [(nAt fs (nI i))]), ((p_folds ns2 as2 (nAt fs (nI i)) (nAt ga (nI i))).2.1 ++ [(nAt ga (nI i))])) from by unfold p_step; rw [if_neg (by rw [(by assumption : (p_folds ns2 as2 (nAt fs (nI i)) (nAt ga (nI i))).2.2 = false)]; decide)])] at hP; exact hP)
              · have c13 := bI_ne0 (of_decide_eq_false c13)
                refine xw.steps 2 (fun _ => rfl) ?_
                show xw z NK g 77 86 [(0, .ref (z + 15)), (1, .int (bI dd)), (2, .int (nI i)), (3, .int (nAt fs (nI i))), (4, .int (nAt ga (nI i)))] [.int (nAt ga (nI i)), .ref (z + 15)] (xu (xu S 21 (.inl ns2)) 23 (.inl as2)) P
                refine xw.callO (o := 15) rfl rfl rfl ((xu_ne _ _ (by decide)).trans ((xu_ne _ _ (by decide)).trans h15)) rfl rfl (c_far_B ⟨((xu_ne _ _ (by decide)).trans ((xu_ne _ _ (by decide)).trans h15)), ((xu_ne _ _ (by decide)).trans ((xu_ne _ _ (by decide)).trans h16)), ((xu_ne _ _ (by decide)).trans ((xu_ne _ _ (by decide)).trans h18)), ((xu_ne _ _ (by decide)).trans ((xu_ne _ _ (by decide)).trans hf)), ((xu_ne _ _ (by decide)).trans ((xu_ne _ _ (by decide)).trans hfn)), ((xu_ne _ _ (by decide)).trans ((xu_ne _ _ (by decide)).trans hfa)), ((xu_ne _ _ (by decide)).trans ((xu_ne _ _ (by decide)).trans ht)), ((xu_ne _ _ (by decide)).trans (xu_self _ _ _)), (xu_self _ _ _)⟩ ?_)
                show xw z NK g 77 89 [(0, .ref (z + 15)), (1, .int (bI dd)), (2, .int (nI i)), (3, .int (nAt fs (nI i))), (4, .int (nAt ga (nI i)))] [.int (p_far pl fs ga 100 (nAt ga (nI i)))] (xu (xu S 21 (.inl ns2)) 23 (.inl as2)) P
                refine xw.steps 5 (fun _ => rfl) ?_
                show xw z NK g 77 100 [(0, .ref (z + 15)), (1, .int (bI dd)), (2, .int (nI i)), (3, .int (nAt fs (nI i))), (4, .int (nAt ga (nI i))), (5, .int (p_far pl fs ga 100 (nAt ga (nI i))))] [.int (p_far pl fs ga 100 (nAt ga (nI i))), .int (nAt fs (nI i)), .ref (z + 15)] (xu (xu S 21 (.inl ns2)) 23 (.inl as2)) P
                refine xw.callO (o := 15) rfl rfl rfl ((xu_ne _ _ (by decide)).trans ((xu_ne _ _ (by decide)).trans h15)) rfl rfl (c_folds_B ⟨((xu_ne _ _ (by decide)).trans ((xu_ne _ _ (by decide)).trans h15)), ((xu_ne _ _ (by decide)).trans ((xu_ne _ _ (by decide)).trans h16)), ((xu_ne _ _ (by decide)).trans ((xu_ne _ _ (by decide)).trans h18)), ((xu_ne _ _ (by decide)).trans ((xu_ne _ _ (by decide)).trans hf)), ((xu_ne _ _ (by decide)).trans ((xu_ne _ _ (by decide)).trans hfn)), ((xu_ne _ _ (by decide)).trans ((xu_ne _ _ (by decide)).trans hfa)), ((xu_ne _ _ (by decide)).trans ((xu_ne _ _ (by decide)).trans ht)), ((xu_ne _ _ (by decide)).trans (xu_self _ _ _)), (xu_self _ _ _)⟩ (by omega) (by omega) ?_)
                show xw z NK g 77 103 [(0, .ref (z + 15)), (1, .int (bI dd)), (2, .int (nI i)), (3, .int (nAt fs (nI i))), (4, .int (nAt ga (nI i))), (5, .int (p_far pl fs ga 100 (nAt ga (nI i))))] [.int (bI (p_folds ns2 as2 (nAt fs (nI i)) (p_far pl fs ga 100 (nAt ga (nI i)))).2.2)] (xu (xu (xu (xu S 21 (.inl ns2)) 23 (.inl as2)) 21 (.inl (p_folds ns2 as2 (nAt fs (nI i)) (p_far pl fs ga 100 (nAt ga (nI i)))).1)) 23 (.inl (p_folds ns2 as2 (nAt fs (nI i)) (p_far pl fs ga 100 (nAt ga (nI i)))).2.1)) P
                rw [xu4 _ (show (21 : Nat) ≠ 23 by decide)]
                refine xw.if_ rfl (fun c15 => ?_) (fun c15 => ?_)
                · have c15 := bI_ne0 (of_decide_eq_true c15)
                  refine xw.steps 1 (fun _ => rfl) ?_
                  refine xw.getf (o := 15) rfl ((xu_ne _ _ (by decide)).trans ((xu_ne _ _ (by decide)).trans h15)) rfl ?_
                  refine xw.steps 1 (fun _ => rfl) ?_
                  show xw z NK g 77 121 [(0, .ref (z + 15)), (1, .int (bI dd)), (2, .int (nI i)), (3, .int (nAt fs (nI i))), (4, .int (nAt ga (nI i))), (5, .int (p_far pl fs ga 100 (nAt ga (nI i))))] [.int 0, .ref (z + 20)] (xu (xu S 21 (.inl (p_folds ns2 as2 (nAt fs (nI i)) (p_far pl fs ga 100 (nAt ga (nI i)))).1)) 23 (.inl (p_folds ns2 as2 (nAt fs (nI i)) (p_far pl fs ga 100 (nAt ga (nI i)))).2.1)) P
                  refine xw.callO (o := 20) rfl rfl rfl ((xu_ne _ _ (by decide)).trans ((xu_ne _ _ (by decide)).trans ht)) rfl rfl (c_Code_lastNumber ((xu_ne _ _ (by decide)).trans ((xu_ne _ _ (by decide)).trans ht)) ((xu_ne _ _ (by decide)).trans (xu_self _ _ _)) (xu_self _ _ _) (by decide) ?_)
                  show xw z NK g 77 124 [(0, .ref (z + 15)), (1, .int (bI dd)), (2, .int (nI i)), (3, .int (nAt fs (nI i))), (4, .int (nAt ga (nI i))), (5, .int (p_far pl fs ga 100 (nAt ga (nI i))))] [.int (p_l (p_folds ns2 as2 (nAt fs (nI i)) (p_far pl fs ga 100 (nAt ga (nI i)))).1 0)] (xu (xu S 21 (.inl (p_folds ns2 as2 (nAt fs (nI i)) (p_far pl fs ga 100 (nAt ga (nI i)))).1)) 23 (.inl (p_folds ns2 as2 (nAt fs (nI i)) (p_far pl fs ga 100 (nAt ga (nI i)))).2.1)) P
                  show xw z NK g 77 124 [(0, .ref (z + 15)), (1, .int (bI dd)), (2, .int (nI i)), (3, .int (nAt fs (nI i))), (4, .int (nAt ga (nI i))), (5, .int (p_far pl fs ga 100 (nAt ga (nI i))))] [.int (p_l (p_folds ns2 as2 (nAt fs (nI i)) (p_far pl fs ga 100 (nAt ga (nI i)))).1 0)] (xu (xu S 21 (.inl (p_folds ns2 as2 (nAt fs (nI i)) (p_far pl fs ga 100 (nAt ga (nI i)))).1)) 23 (.inl (p_folds ns2 as2 (nAt fs (nI i)) (p_far pl fs ga 100 (nAt ga (nI i)))).2.1)) P
                  refine xw.callS rfl rfl rfl rfl rfl (c_endsWay ?_)
                  show xw z NK g 77 127 [(0, .ref (z + 15)), (1, .int (bI dd)), (2, .int (nI i)), (3, .int (nAt fs (nI i))), (4, .int (nAt ga (nI i))), (5, .int (p_far pl fs ga 100 (nAt ga (nI i))))] [.int (bI (t_ends (p_l (p_folds ns2 as2 (nAt fs (nI i)) (p_far pl fs ga 100 (nAt ga (nI i)))).1 0)))] (xu (xu S 21 (.inl (p_folds ns2 as2 (nAt fs (nI i)) (p_far pl fs ga 100 (nAt ga (nI i)))).1)) 23 (.inl (p_folds ns2 as2 (nAt fs (nI i)) (p_far pl fs ga 100 (nAt ga (nI i)))).2.1)) P
                  refine xw.steps 3 (fun _ => rfl) ?_
                  show xw z NK g 77 12 [(0, .ref (z + 15)), (1, .int (bI (t_ends (p_l (p_folds ns2 as2 (nAt fs (nI i)) (p_far pl fs ga 100 (nAt ga (nI i)))).1 0)))), (2, .int ((nI i) + 1)), (3, .int (nAt fs (nI i))), (4, .int (nAt ga (nI i))), (5, .int (p_far pl fs ga 100 (nAt ga (nI i))))] [] (xu (xu S 21 (.inl (p_folds ns2 as2 (nAt fs (nI i)) (p_far pl fs ga 100 (nAt ga (nI i)))).1)) 23 (.inl (p_folds ns2 as2 (nAt fs (nI i)) (p_far pl fs ga 100 (nAt ga (nI i)))).2.1)) P
                  rw [nI_1]
                  refine xw.forget (lv := [(0, .ref (z + 15)), (1, .int (bI (t_ends (p_l (p_folds ns2 as2 (nAt fs (nI i)) (p_far pl fs ga 100 (nAt ga (nI i)))).1 0)))), (2, .int (nI (i + 1)))]) lk_77 (show [0, 1, 2].Nodup by decide) (show [0, 1, 2, 3, 4, 5].Nodup by decide) (List.forall_mem_cons.mpr ⟨rfl, List.forall_mem_cons.mpr ⟨rfl, List.forall_mem_cons.mpr ⟨rfl, fun _ h => absurd h List.not_mem_nil⟩⟩⟩) ?_
                  exact ih (i + 1) (by omega) _ _ _ (by have h1 := p_step_len ns2 as2 (nAt fs (nI i)) (p_far pl fs ga 100 (nAt ga (nI i))); rw [(show p_step ns2 as2 (nAt fs (nI i)) (p_far pl fs ga 100 (nAt ga (nI i))) = ((p_folds ns2 as2 (nAt fs (nI i)) (p_far pl fs ga 100 (nAt ga (nI i)))).1, (p_folds ns2 as2 (nAt fs (nI i)) (p_far pl fs ga 100 (nAt ga (nI i)))).2.1) from by unfold p_step; rw [if_pos (by assumption)])] at h1; have h2 := h1.1; dsimp only at h2; omega) (by have h1 := p_step_len ns2 as2 (nAt fs (nI i)) (p_far pl fs ga 100 (nAt ga (nI i))); rw [(show p_step ns2 as2 (nAt fs (nI i)) (p_far pl fs ga 100 (nAt ga (nI i))) = ((p_folds ns2 as2 (nAt fs (nI i)) (p_far pl fs ga 100 (nAt ga (nI i)))).1, (p_folds ns2 as2 (nAt fs (nI i)) (p_far pl fs ga 100 (nAt ga (nI i)))).2.1) from by unfold p_step; rw [if_pos (by assumption)])] at h1; have h2 := h1.2; dsimp only at h2; omega) (by rw [p_rew_go (by first | exact fun u => absurd u.1 (by assumption) | exact fun u => absurd u.2 (by assumption)) (by first | exact fun u => absurd (by assumption) u.2 | exact fun u => Bool.noConfusion (u.1.symm.trans (by assumption))) (show p_goal pl fs ga (nAt fs (nI i)) (nAt ga (nI i)) = (p_far pl fs ga 100 (nAt ga (nI i))) from by unfold p_goal; rw [if_pos (by assumption)]) (show p_step ns2 as2 (nAt fs (nI i)) (p_far pl fs ga 100 (nAt ga (nI i))) = ((p_folds ns2 as2 (nAt fs (nI i)) (p_far pl fs ga 100 (nAt ga (nI i)))).1, (p_folds ns2 as2 (nAt fs (nI i)) (p_far pl fs ga 100 (nAt ga (nI i)))).2.1) from by unfold p_step; rw [if_pos (by assumption)])] at hP; exact hP)
                · have c15 := bI_eq0 (Decidable.not_not.mp (of_decide_eq_false c15))
                  refine xw.steps 1 (fun _ => rfl) ?_
                  refine xw.getf (o := 15) rfl ((xu_ne _ _ (by decide)).trans ((xu_ne _ _ (by decide)).trans h15)) rfl ?_
                  refine xw.steps 2 (fun _ => rfl) ?_
                  show xw z NK g 77 113 [(0, .ref (z + 15)), (1, .int (bI dd)), (2, .int (nI i)), (3, .int (nAt fs (nI i))), (4, .int (nAt ga (nI i))), (5, .int (p_far pl fs ga 100 (nAt ga (nI i))))] [.int (p_far pl fs ga 100 (nAt ga (nI i))), .int (nAt fs (nI i)), .ref (z + 20)] (xu (xu S 21 (.inl (p_folds ns2 as2 (nAt fs (nI i)) (p_far pl fs ga 100 (nAt ga (nI i)))).1)) 23 (.inl (p_folds ns2 as2 (nAt fs (nI i)) (p_far pl fs ga 100 (nAt ga (nI i)))).2.1)) P
                  refine xw.callO (o := 20) rfl rfl rfl ((xu_ne _ _ (by decide)).trans ((xu_ne _ _ (by decide)).trans ht)) rfl rfl (c_Code_append ((xu_ne _ _ (by decide)).trans ((xu_ne _ _ (by decide)).trans ht)) ((xu_ne _ _ (by decide)).trans (xu_self _ _ _)) (xu_self _ _ _) (by decide) (by have h1 := p_folds_len ns2 as2 (nAt fs (nI i)) (p_far pl fs ga 100 (nAt ga (nI i))); omega) (by have h1 := p_folds_len ns2 as2 (nAt fs (nI i)) (p_far pl fs ga 100 (nAt ga (nI i))); omega) ?_)
                  show xw z NK g 77 116 [(0, .ref (z + 15)), (1, .int (bI dd)), (2, .int (nI i)), (3, .int (nAt fs (nI i))), (4, .int (nAt ga (nI i))), (5, .int (p_far pl fs ga 100 (nAt ga (nI i))))] [] (xu (xu (xu (xu S 21 (.inl (p_folds ns2 as2 (nAt fs (nI i)) (p_far pl fs ga 100 (nAt ga (nI i)))).1)) 23 (.inl (p_folds ns2 as2 (nAt fs (nI i)) (p_far pl fs ga 100 (nAt ga (nI i)))).2.1)) 21 (.inl ((p_folds ns2 as2 (nAt fs (nI i)) (p_far pl fs ga 100 (nAt ga (nI i)))).1 ++ [(nAt fs (nI i))]))) 23 (.inl ((p_folds ns2 as2 (nAt fs (nI i)) (p_far pl fs ga 100 (nAt ga (nI i)))).2.1 ++ [(p_far pl fs ga 100 (nAt ga (nI i)))]))) P
                  rw [xu4 _ (show (21 : Nat) ≠ 23 by decide)]
                  refine xw.steps 1 (fun _ => rfl) ?_
                  refine xw.getf (o := 15) rfl ((xu_ne _ _ (by decide)).trans ((xu_ne _ _ (by decide)).trans h15)) rfl ?_
                  refine xw.steps 1 (fun _ => rfl) ?_
                  show xw z NK g 77 121 [(0, .ref (z + 15)), (1, .int (bI dd)), (2, .int (nI i)), (3, .int (nAt fs (nI i))), (4, .int (nAt ga (nI i))), (5, .int (p_far pl fs ga 100 (nAt ga (nI i))))] [.int 0, .ref (z + 20)] (xu (xu S 21 (.inl ((p_folds ns2 as2 (nAt fs (nI i)) (p_far pl fs ga 100 (nAt ga (nI i)))).1 ++ [(nAt fs (nI i))]))) 23 (.inl ((p_folds ns2 as2 (nAt fs (nI i)) (p_far pl fs ga 100 (nAt ga (nI i)))).2.1 ++ [(p_far pl fs ga 100 (nAt ga (nI i)))]))) P
                  refine xw.callO (o := 20) rfl rfl rfl ((xu_ne _ _ (by decide)).trans ((xu_ne _ _ (by decide)).trans ht)) rfl rfl (c_Code_lastNumber ((xu_ne _ _ (by decide)).trans ((xu_ne _ _ (by decide)).trans ht)) ((xu_ne _ _ (by decide)).trans (xu_self _ _ _)) (xu_self _ _ _) (by decide) ?_)
                  show xw z NK g 77 124 [(0, .ref (z + 15)), (1, .int (bI dd)), (2, .int (nI i)), (3, .int (nAt fs (nI i))), (4, .int (nAt ga (nI i))), (5, .int (p_far pl fs ga 100 (nAt ga (nI i))))] [.int (p_l ((p_folds ns2 as2 (nAt fs (nI i)) (p_far pl fs ga 100 (nAt ga (nI i)))).1 ++ [(nAt fs (nI i))]) 0)] (xu (xu S 21 (.inl ((p_folds ns2 as2 (nAt fs (nI i)) (p_far pl fs ga 100 (nAt ga (nI i)))).1 ++ [(nAt fs (nI i))]))) 23 (.inl ((p_folds ns2 as2 (nAt fs (nI i)) (p_far pl fs ga 100 (nAt ga (nI i)))).2.1 ++ [(p_far pl fs ga 100 (nAt ga (nI i)))]))) P
                  show xw z NK g 77 124 [(0, .ref (z + 15)), (1, .int (bI dd)), (2, .int (nI i)), (3, .int (nAt fs (nI i))), (4, .int (nAt ga (nI i))), (5, .int (p_far pl fs ga 100 (nAt ga (nI i))))] [.int (p_l ((p_folds ns2 as2 (nAt fs (nI i)) (p_far pl fs ga 100 (nAt ga (nI i)))).1 ++ [(nAt fs (nI i))]) 0)] (xu (xu S 21 (.inl ((p_folds ns2 as2 (nAt fs (nI i)) (p_far pl fs ga 100 (nAt ga (nI i)))).1 ++ [(nAt fs (nI i))]))) 23 (.inl ((p_folds ns2 as2 (nAt fs (nI i)) (p_far pl fs ga 100 (nAt ga (nI i)))).2.1 ++ [(p_far pl fs ga 100 (nAt ga (nI i)))]))) P
                  refine xw.callS rfl rfl rfl rfl rfl (c_endsWay ?_)
                  show xw z NK g 77 127 [(0, .ref (z + 15)), (1, .int (bI dd)), (2, .int (nI i)), (3, .int (nAt fs (nI i))), (4, .int (nAt ga (nI i))), (5, .int (p_far pl fs ga 100 (nAt ga (nI i))))] [.int (bI (t_ends (p_l ((p_folds ns2 as2 (nAt fs (nI i)) (p_far pl fs ga 100 (nAt ga (nI i)))).1 ++ [(nAt fs (nI i))]) 0)))] (xu (xu S 21 (.inl ((p_folds ns2 as2 (nAt fs (nI i)) (p_far pl fs ga 100 (nAt ga (nI i)))).1 ++ [(nAt fs (nI i))]))) 23 (.inl ((p_folds ns2 as2 (nAt fs (nI i)) (p_far pl fs ga 100 (nAt ga (nI i)))).2.1 ++ [(p_far pl fs ga 100 (nAt ga (nI i)))]))) P
                  refine xw.steps 3 (fun _ => rfl) ?_
                  show xw z NK g 77 12 [(0, .ref (z + 15)), (1, .int (bI (t_ends (p_l ((p_folds ns2 as2 (nAt fs (nI i)) (p_far pl fs ga 100 (nAt ga (nI i)))).1 ++ [(nAt fs (nI i))]) 0)))), (2, .int ((nI i) + 1)), (3, .int (nAt fs (nI i))), (4, .int (nAt ga (nI i))), (5, .int (p_far pl fs ga 100 (nAt ga (nI i))))] [] (xu (xu S 21 (.inl ((p_folds ns2 as2 (nAt fs (nI i)) (p_far pl fs ga 100 (nAt ga (nI i)))).1 ++ [(nAt fs (nI i))]))) 23 (.inl ((p_folds ns2 as2 (nAt fs (nI i)) (p_far pl fs ga 100 (nAt ga (nI i)))).2.1 ++ [(p_far pl fs ga 100 (nAt ga (nI i)))]))) P
                  rw [nI_1]
                  refine xw.forget (lv := [(0, .ref (z + 15)), (1, .int (bI (t_ends (p_l ((p_folds ns2 as2 (nAt fs (nI i)) (p_far pl fs ga 100 (nAt ga (nI i)))).1 ++ [(nAt fs (nI i))]) 0)))), (2, .int (nI (i + 1)))]) lk_77 (show [0, 1, 2].Nodup by decide) (show [0, 1, 2, 3, 4, 5].Nodup by decide) (List.forall_mem_cons.mpr ⟨rfl, List.forall_mem_cons.mpr ⟨rfl, List.forall_mem_cons.mpr ⟨rfl, fun _ h => absurd h List.not_mem_nil⟩⟩⟩) ?_
                  exact ih (i + 1) (by omega) _ _ _ (by have h1 := p_step_len ns2 as2 (nAt fs (nI i)) (p_far pl fs ga 100 (nAt ga (nI i))); rw [(show p_step ns2 as2 (nAt fs (nI i)) (p_far pl fs ga 100 (nAt ga (nI i))) = (((p_folds ns2 as2 (nAt fs (nI i)) (p_far pl fs ga 100 (nAt ga (nI i)))).1 ++ [(nAt fs (nI i))]), ((p_folds ns2 as2 (nAt fs (nI i)) (p_far pl fs ga 100 (nAt ga (nI i)))).2.1 ++ [(p_far pl fs ga 100 (nAt ga (nI i)))])) from by unfold p_step; rw [if_neg (by rw [(by assumption : (p_folds ns2 as2 (nAt fs (nI i)) (p_far pl fs ga 100 (nAt ga (nI i)))).2.2 = false)]; decide)])] at h1; have h2 := h1.1; dsimp only at h2; omega) (by have h1 := p_step_len ns2 as2 (nAt fs (nI i)) (p_far pl fs ga 100 (nAt ga (nI i))); rw [(show p_step ns2 as2 (nAt fs (nI i)) (p_far pl fs ga 100 (nAt ga (nI i))) = (((p_folds ns2 as2 (nAt fs (nI i)) (p_far pl fs ga 100 (nAt ga (nI i)))).1 ++ [(nAt fs (nI i))]), ((p_folds ns2 as2 (nAt fs (nI i)) (p_far pl fs ga 100 (nAt ga (nI i)))).2.1 ++ [(p_far pl fs ga 100 (nAt ga (nI i)))])) from by unfold p_step; rw [if_neg (by rw [(by assumption : (p_folds ns2 as2 (nAt fs (nI i)) (p_far pl fs ga 100 (nAt ga (nI i)))).2.2 = false)]; decide)])] at h1; have h2 := h1.2; dsimp only at h2; omega) (by rw [p_rew_go (by first | exact fun u => absurd u.1 (by assumption) | exact fun u => absurd u.2 (by assumption)) (by first | exact fun u => absurd (by assumption) u.2 | exact fun u => Bool.noConfusion (u.1.symm.trans (by assumption))) (show p_goal pl fs ga (nAt fs (nI i)) (nAt ga (nI i)) = (p_far pl fs ga 100 (nAt ga (nI i))) from by unfold p_goal; rw [if_pos (by assumption)]) (show p_step ns2 as2 (nAt fs (nI i)) (p_far pl fs ga 100 (nAt ga (nI i))) = (((p_folds ns2 as2 (nAt fs (nI i)) (p_far pl fs ga 100 (nAt ga (nI i)))).1 ++ [(nAt fs (nI i))]), ((p_folds ns2 as2 (nAt fs (nI i)) (p_far pl fs ga 100 (nAt ga (nI i)))).2.1 ++ [(p_far pl fs ga 100 (nAt ga (nI i)))])) from by unfold p_step; rw [if_neg (by rw [(by assumption : (p_folds ns2 as2 (nAt fs (nI i)) (p_far pl fs ga 100 (nAt ga (nI i)))).2.2 = false)]; decide)])] at hP; exact hP)
            · have c12 := bI_ne0 (of_decide_eq_false c12)
              refine xw.steps 2 (fun _ => rfl) ?_
              refine xw.icmp rfl (fun c16 => ?_) (fun c16 => ?_)
              · have c16 := of_decide_eq_true c16
                refine xw.steps 1 (fun _ => rfl) ?_
                show xw z NK g 77 77 [(0, .ref (z + 15)), (1, .int (bI dd)), (2, .int (nI i)), (3, .int (nAt fs (nI i))), (4, .int (nAt ga (nI i)))] [.int (nAt fs (nI i))] (xu (xu S 21 (.inl ns2)) 23 (.inl as2)) P
                refine xw.callS rfl rfl rfl rfl rfl (c_goesToLabel ?_)
                show xw z NK g 77 80 [(0, .ref (z + 15)), (1, .int (bI dd)), (2, .int (nI i)), (3, .int (nAt fs (nI i))), (4, .int (nAt ga (nI i)))] [.int (bI (t_goes (nAt fs (nI i))))] (xu (xu S 21 (.inl ns2)) 23 (.inl as2)) P
                refine xw.if_ rfl (fun c17 => ?_) (fun c17 => ?_)
                · have c17 := bI_eq0 (of_decide_eq_true c17)
                  refine xw.steps 5 (fun _ => rfl) ?_
                  show xw z NK g 77 100 [(0, .ref (z + 15)), (1, .int (bI dd)), (2, .int (nI i)), (3, .int (nAt fs (nI i))), (4, .int (nAt ga (nI i))), (5, .int (nAt ga (nI i)))] [.int (nAt ga (nI i)), .int (nAt fs (nI i)), .ref (z + 15)] (xu (xu S 21 (.inl ns2)) 23 (.inl as2)) P
                  refine xw.callO (o := 15) rfl rfl rfl ((xu_ne _ _ (by decide)).trans ((xu_ne _ _ (by decide)).trans h15)) rfl rfl (c_folds_B ⟨((xu_ne _ _ (by decide)).trans ((xu_ne _ _ (by decide)).trans h15)), ((xu_ne _ _ (by decide)).trans ((xu_ne _ _ (by decide)).trans h16)), ((xu_ne _ _ (by decide)).trans ((xu_ne _ _ (by decide)).trans h18)), ((xu_ne _ _ (by decide)).trans ((xu_ne _ _ (by decide)).trans hf)), ((xu_ne _ _ (by decide)).trans ((xu_ne _ _ (by decide)).trans hfn)), ((xu_ne _ _ (by decide)).trans ((xu_ne _ _ (by decide)).trans hfa)), ((xu_ne _ _ (by decide)).trans ((xu_ne _ _ (by decide)).trans ht)), ((xu_ne _ _ (by decide)).trans (xu_self _ _ _)), (xu_self _ _ _)⟩ (by omega) (by omega) ?_)
                  show xw z NK g 77 103 [(0, .ref (z + 15)), (1, .int (bI dd)), (2, .int (nI i)), (3, .int (nAt fs (nI i))), (4, .int (nAt ga (nI i))), (5, .int (nAt ga (nI i)))] [.int (bI (p_folds ns2 as2 (nAt fs (nI i)) (nAt ga (nI i))).2.2)] (xu (xu (xu (xu S 21 (.inl ns2)) 23 (.inl as2)) 21 (.inl (p_folds ns2 as2 (nAt fs (nI i)) (nAt ga (nI i))).1)) 23 (.inl (p_folds ns2 as2 (nAt fs (nI i)) (nAt ga (nI i))).2.1)) P
                  rw [xu4 _ (show (21 : Nat) ≠ 23 by decide)]
                  refine xw.if_ rfl (fun c18 => ?_) (fun c18 => ?_)
                  · have c18 := bI_ne0 (of_decide_eq_true c18)
                    refine xw.steps 1 (fun _ => rfl) ?_
                    refine xw.getf (o := 15) rfl ((xu_ne _ _ (by decide)).trans ((xu_ne _ _ (by decide)).trans h15)) rfl ?_
                    refine xw.steps 1 (fun _ => rfl) ?_
                    show xw z NK g 77 121 [(0, .ref (z + 15)), (1, .int (bI dd)), (2, .int (nI i)), (3, .int (nAt fs (nI i))), (4, .int (nAt ga (nI i))), (5, .int (nAt ga (nI i)))] [.int 0, .ref (z + 20)] (xu (xu S 21 (.inl (p_folds ns2 as2 (nAt fs (nI i)) (nAt ga (nI i))).1)) 23 (.inl (p_folds ns2 as2 (nAt fs (nI i)) (nAt ga (nI i))).2.1)) P
                    refine xw.callO (o := 20) rfl rfl rfl ((xu_ne _ _ (by decide)).trans ((xu_ne _ _ (by decide)).trans ht)) rfl rfl (c_Code_lastNumber ((xu_ne _ _ (by decide)).trans ((xu_ne _ _ (by decide)).trans ht)) ((xu_ne _ _ (by decide)).trans (xu_self _ _ _)) (xu_self _ _ _) (by decide) ?_)
                    show xw z NK g 77 124 [(0, .ref (z + 15)), (1, .int (bI dd)), (2, .int (nI i)), (3, .int (nAt fs (nI i))), (4, .int (nAt ga (nI i))), (5, .int (nAt ga (nI i)))] [.int (p_l (p_folds ns2 as2 (nAt fs (nI i)) (nAt ga (nI i))).1 0)] (xu (xu S 21 (.inl (p_folds ns2 as2 (nAt fs (nI i)) (nAt ga (nI i))).1)) 23 (.inl (p_folds ns2 as2 (nAt fs (nI i)) (nAt ga (nI i))).2.1)) P
                    show xw z NK g 77 124 [(0, .ref (z + 15)), (1, .int (bI dd)), (2, .int (nI i)), (3, .int (nAt fs (nI i))), (4, .int (nAt ga (nI i))), (5, .int (nAt ga (nI i)))] [.int (p_l (p_folds ns2 as2 (nAt fs (nI i)) (nAt ga (nI i))).1 0)] (xu (xu S 21 (.inl (p_folds ns2 as2 (nAt fs (nI i)) (nAt ga (nI i))).1)) 23 (.inl (p_folds ns2 as2 (nAt fs (nI i)) (nAt ga (nI i))).2.1)) P
                    refine xw.callS rfl rfl rfl rfl rfl (c_endsWay ?_)
                    show xw z NK g 77 127 [(0, .ref (z + 15)), (1, .int (bI dd)), (2, .int (nI i)), (3, .int (nAt fs (nI i))), (4, .int (nAt ga (nI i))), (5, .int (nAt ga (nI i)))] [.int (bI (t_ends (p_l (p_folds ns2 as2 (nAt fs (nI i)) (nAt ga (nI i))).1 0)))] (xu (xu S 21 (.inl (p_folds ns2 as2 (nAt fs (nI i)) (nAt ga (nI i))).1)) 23 (.inl (p_folds ns2 as2 (nAt fs (nI i)) (nAt ga (nI i))).2.1)) P
                    refine xw.steps 3 (fun _ => rfl) ?_
                    show xw z NK g 77 12 [(0, .ref (z + 15)), (1, .int (bI (t_ends (p_l (p_folds ns2 as2 (nAt fs (nI i)) (nAt ga (nI i))).1 0)))), (2, .int ((nI i) + 1)), (3, .int (nAt fs (nI i))), (4, .int (nAt ga (nI i))), (5, .int (nAt ga (nI i)))] [] (xu (xu S 21 (.inl (p_folds ns2 as2 (nAt fs (nI i)) (nAt ga (nI i))).1)) 23 (.inl (p_folds ns2 as2 (nAt fs (nI i)) (nAt ga (nI i))).2.1)) P
                    rw [nI_1]
                    refine xw.forget (lv := [(0, .ref (z + 15)), (1, .int (bI (t_ends (p_l (p_folds ns2 as2 (nAt fs (nI i)) (nAt ga (nI i))).1 0)))), (2, .int (nI (i + 1)))]) lk_77 (show [0, 1, 2].Nodup by decide) (show [0, 1, 2, 3, 4, 5].Nodup by decide) (List.forall_mem_cons.mpr ⟨rfl, List.forall_mem_cons.mpr ⟨rfl, List.forall_mem_cons.mpr ⟨rfl, fun _ h => absurd h List.not_mem_nil⟩⟩⟩) ?_
                    exact ih (i + 1) (by omega) _ _ _ (by have h1 := p_step_len ns2 as2 (nAt fs (nI i)) (nAt ga (nI i)); rw [(show p_step ns2 as2 (nAt fs (nI i)) (nAt ga (nI i)) = ((p_folds ns2 as2 (nAt fs (nI i)) (nAt ga (nI i))).1, (p_folds ns2 as2 (nAt fs (nI i)) (nAt ga (nI i))).2.1) from by unfold p_step; rw [if_pos (by assumption)])] at h1; have h2 := h1.1; dsimp only at h2; omega) (by have h1 := p_step_len ns2 as2 (nAt fs (nI i)) (nAt ga (nI i)); rw [(show p_step ns2 as2 (nAt fs (nI i)) (nAt ga (nI i)) = ((p_folds ns2 as2 (nAt fs (nI i)) (nAt ga (nI i))).1, (p_folds ns2 as2 (nAt fs (nI i)) (nAt ga (nI i))).2.1) from by unfold p_step; rw [if_pos (by assumption)])] at h1; have h2 := h1.2; dsimp only at h2; omega) (by rw [p_rew_go (by first | exact fun u => absurd u.1 (by assumption) | exact fun u => absurd u.2 (by assumption)) (by first | exact fun u => absurd (by assumption) u.2 | exact fun u => Bool.noConfusion (u.1.symm.trans (by assumption))) (show p_goal pl fs ga (nAt fs (nI i)) (nAt ga (nI i)) = (nAt ga (nI i)) from by unfold p_goal; rw [if_neg (by rw [(by assumption : t_goes (nAt fs (nI i)) = false)]; decide)]) (show p_step ns2 as2 (nAt fs (nI i)) (nAt ga (nI i)) = ((p_folds ns2 as2 (nAt fs (nI i)) (nAt ga (nI i))).1, (p_folds ns2 as2 (nAt fs (nI i)) (nAt ga (nI i))).2.1) from by unfold p_step; rw [if_pos (by assumption)])] at hP; exact hP)
                  · have c18 := bI_eq0 (Decidable.not_not.mp (of_decide_eq_false c18))
                    refine xw.steps 1 (fun _ => rfl) ?_
                    refine xw.getf (o := 15) rfl ((xu_ne _ _ (by decide)).trans ((xu_ne _ _ (by decide)).trans h15)) rfl ?_
                    refine xw.steps 2 (fun _ => rfl) ?_
                    show xw z NK g 77 113 [(0, .ref (z + 15)), (1, .int (bI dd)), (2, .int (nI i)), (3, .int (nAt fs (nI i))), (4, .int (nAt ga (nI i))), (5, .int (nAt ga (nI i)))] [.int (nAt ga (nI i)), .int (nAt fs (nI i)), .ref (z + 20)] (xu (xu S 21 (.inl (p_folds ns2 as2 (nAt fs (nI i)) (nAt ga (nI i))).1)) 23 (.inl (p_folds ns2 as2 (nAt fs (nI i)) (nAt ga (nI i))).2.1)) P
                    refine xw.callO (o := 20) rfl rfl rfl ((xu_ne _ _ (by decide)).trans ((xu_ne _ _ (by decide)).trans ht)) rfl rfl (c_Code_append ((xu_ne _ _ (by decide)).trans ((xu_ne _ _ (by decide)).trans ht)) ((xu_ne _ _ (by decide)).trans (xu_self _ _ _)) (xu_self _ _ _) (by decide) (by have h1 := p_folds_len ns2 as2 (nAt fs (nI i)) (nAt ga (nI i)); omega) (by have h1 := p_folds_len ns2 as2 (nAt fs (nI i)) (nAt ga (nI i)); omega) ?_)
                    show xw z NK g 77 116 [(0, .ref (z + 15)), (1, .int (bI dd)), (2, .int (nI i)), (3, .int (nAt fs (nI i))), (4, .int (nAt ga (nI i))), (5, .int (nAt ga (nI i)))] [] (xu (xu (xu (xu S 21 (.inl (p_folds ns2 as2 (nAt fs (nI i)) (nAt ga (nI i))).1)) 23 (.inl (p_folds ns2 as2 (nAt fs (nI i)) (nAt ga (nI i))).2.1)) 21 (.inl ((p_folds ns2 as2 (nAt fs (nI i)) (nAt ga (nI i))).1 ++ [(nAt fs (nI i))]))) 23 (.inl ((p_folds ns2 as2 (nAt fs (nI i)) (nAt ga (nI i))).2.1 ++ [(nAt ga (nI i))]))) P
                    rw [xu4 _ (show (21 : Nat) ≠ 23 by decide)]
                    refine xw.steps 1 (fun _ => rfl) ?_
                    refine xw.getf (o := 15) rfl ((xu_ne _ _ (by decide)).trans ((xu_ne _ _ (by decide)).trans h15)) rfl ?_
                    refine xw.steps 1 (fun _ => rfl) ?_
                    show xw z NK g 77 121 [(0, .ref (z + 15)), (1, .int (bI dd)), (2, .int (nI i)), (3, .int (nAt fs (nI i))), (4, .int (nAt ga (nI i))), (5, .int (nAt ga (nI i)))] [.int 0, .ref (z + 20)] (xu (xu S 21 (.inl ((p_folds ns2 as2 (nAt fs (nI i)) (nAt ga (nI i))).1 ++ [(nAt fs (nI i))]))) 23 (.inl ((p_folds ns2 as2 (nAt fs (nI i)) (nAt ga (nI i))).2.1 ++ [(nAt ga (nI i))]))) P
                    refine xw.callO (o := 20) rfl rfl rfl ((xu_ne _ _ (by decide)).trans ((xu_ne _ _ (by decide)).trans ht)) rfl rfl (c_Code_lastNumber ((xu_ne _ _ (by decide)).trans ((xu_ne _ _ (by decide)).trans ht)) ((xu_ne _ _ (by decide)).trans (xu_self _ _ _)) (xu_self _ _ _) (by decide) ?_)
                    show xw z NK g 77 124 [(0, .ref (z + 15)), (1, .int (bI dd)), (2, .int (nI i)), (3, .int (nAt fs (nI i))), (4, .int (nAt ga (nI i))), (5, .int (nAt ga (nI i)))] [.int (p_l ((p_folds ns2 as2 (nAt fs (nI i)) (nAt ga (nI i))).1 ++ [(nAt fs (nI i))]) 0)] (xu (xu S 21 (.inl ((p_folds ns2 as2 (nAt fs (nI i)) (nAt ga (nI i))).1 ++ [(nAt fs (nI i))]))) 23 (.inl ((p_folds ns2 as2 (nAt fs (nI i)) (nAt ga (nI i))).2.1 ++ [(nAt ga (nI i))]))) P
                    show xw z NK g 77 124 [(0, .ref (z + 15)), (1, .int (bI dd)), (2, .int (nI i)), (3, .int (nAt fs (nI i))), (4, .int (nAt ga (nI i))), (5, .int (nAt ga (nI i)))] [.int (p_l ((p_folds ns2 as2 (nAt fs (nI i)) (nAt ga (nI i))).1 ++ [(nAt fs (nI i))]) 0)] (xu (xu S 21 (.inl ((p_folds ns2 as2 (nAt fs (nI i)) (nAt ga (nI i))).1 ++ [(nAt fs (nI i))]))) 23 (.inl ((p_folds ns2 as2 (nAt fs (nI i)) (nAt ga (nI i))).2.1 ++ [(nAt ga (nI i))]))) P
                    refine xw.callS rfl rfl rfl rfl rfl (c_endsWay ?_)
                    show xw z NK g 77 127 [(0, .ref (z + 15)), (1, .int (bI dd)), (2, .int (nI i)), (3, .int (nAt fs (nI i))), (4, .int (nAt ga (nI i))), (5, .int (nAt ga (nI i)))] [.int (bI (t_ends (p_l ((p_folds ns2 as2 (nAt fs (nI i)) (nAt ga (nI i))).1 ++ [(nAt fs (nI i))]) 0)))] (xu (xu S 21 (.inl ((p_folds ns2 as2 (nAt fs (nI i)) (nAt ga (nI i))).1 ++ [(nAt fs (nI i))]))) 23 (.inl ((p_folds ns2 as2 (nAt fs (nI i)) (nAt ga (nI i))).2.1 ++ [(nAt ga (nI i))]))) P
                    refine xw.steps 3 (fun _ => rfl) ?_
                    show xw z NK g 77 12 [(0, .ref (z + 15)), (1, .int (bI (t_ends (p_l ((p_folds ns2 as2 (nAt fs (nI i)) (nAt ga (nI i))).1 ++ [(nAt fs (nI i))]) 0)))), (2, .int ((nI i) + 1)), (3, .int (nAt fs (nI i))), (4, .int (nAt ga (nI i))), (5, .int (nAt ga (nI i)))] [] (xu (xu S 21 (.inl ((p_folds ns2 as2 (nAt fs (nI i)) (nAt ga (nI i))).1 ++ [(nAt fs (nI i))]))) 23 (.inl ((p_folds ns2 as2 (nAt fs (nI i)) (nAt ga (nI i))).2.1 ++ [(nAt ga (nI i))]))) P
                    rw [nI_1]
                    refine xw.forget (lv := [(0, .ref (z + 15)), (1, .int (bI (t_ends (p_l ((p_folds ns2 as2 (nAt fs (nI i)) (nAt ga (nI i))).1 ++ [(nAt fs (nI i))]) 0)))), (2, .int (nI (i + 1)))]) lk_77 (show [0, 1, 2].Nodup by decide) (show [0, 1, 2, 3, 4, 5].Nodup by decide) (List.forall_mem_cons.mpr ⟨rfl, List.forall_mem_cons.mpr ⟨rfl, List.forall_mem_cons.mpr ⟨rfl, fun _ h => absurd h List.not_mem_nil⟩⟩⟩) ?_
                    exact ih (i + 1) (by omega) _ _ _ (by have h1 := p_step_len ns2 as2 (nAt fs (nI i)) (nAt ga (nI i)); rw [(show p_step ns2 as2 (nAt fs (nI i)) (nAt ga (nI i)) = (((p_folds ns2 as2 (nAt fs (nI i)) (nAt ga (nI i))).1 ++ [(nAt fs (nI i))]), ((p_folds ns2 as2 (nAt fs (nI i)) (nAt ga (nI i))).2.1 ++ [(nAt ga (nI i))])) from by unfold p_step; rw [if_neg (by rw [(by assumption : (p_folds ns2 as2 (nAt fs (nI i)) (nAt ga (nI i))).2.2 = false)]; decide)])] at h1; have h2 := h1.1; dsimp only at h2; omega) (by have h1 := p_step_len ns2 as2 (nAt fs (nI i)) (nAt ga (nI i)); rw [(show p_step ns2 as2 (nAt fs (nI i)) (nAt ga (nI i)) = (((p_folds ns2 as2 (nAt fs (nI i)) (nAt ga (nI i))).1 ++ [(nAt fs (nI i))]), ((p_folds ns2 as2 (nAt fs (nI i)) (nAt ga (nI i))).2.1 ++ [(nAt ga (nI i))])) from by unfold p_step; rw [if_neg (by rw [(by assumption : (p_folds ns2 as2 (nAt fs (nI i)) (nAt ga (nI i))).2.2 = false)]; decide)])] at h1; have h2 := h1.2; dsimp only at h2; omega) (by rw [p_rew_go (by first | exact fun u => absurd u.1 (by assumption) | exact fun u => absurd u.2 (by assumption)) (by first | exact fun u => absurd (by assumption) u.2 | exact fun u => Bool.noConfusion (u.1.symm.trans (by assumption))) (show p_goal pl fs ga (nAt fs (nI i)) (nAt ga (nI i)) = (nAt ga (nI i)) from by unfold p_goal; rw [if_neg (by rw [(by assumption : t_goes (nAt fs (nI i)) = false)]; decide)]) (show p_step ns2 as2 (nAt fs (nI i)) (nAt ga (nI i)) = (((p_folds ns2 as2 (nAt fs (nI i)) (nAt ga (nI i))).1 ++ [(nAt fs (nI i))]), ((p_folds ns2 as2 (nAt fs (nI i)) (nAt ga (nI i))).2.1 ++ [(nAt ga (nI i))])) from by unfold p_step; rw [if_neg (by rw [(by assumption : (p_folds ns2 as2 (nAt fs (nI i)) (nAt ga (nI i))).2.2 = false)]; decide)])] at hP; exact hP)
                · have c17 := bI_ne0 (of_decide_eq_false c17)
                  refine xw.steps 2 (fun _ => rfl) ?_
                  show xw z NK g 77 86 [(0, .ref (z + 15)), (1, .int (bI dd)), (2, .int (nI i)), (3, .int (nAt fs (nI i))), (4, .int (nAt ga (nI i)))] [.int (nAt ga (nI i)), .ref (z + 15)] (xu (xu S 21 (.inl ns2)) 23 (.inl as2)) P
                  refine xw.callO (o := 15) rfl rfl rfl ((xu_ne _ _ (by decide)).trans ((xu_ne _ _ (by decide)).trans h15)) rfl rfl (c_far_B ⟨((xu_ne _ _ (by decide)).trans ((xu_ne _ _ (by decide)).trans h15)), ((xu_ne _ _ (by decide)).trans ((xu_ne _ _ (by decide)).trans h16)), ((xu_ne _ _ (by decide)).trans ((xu_ne _ _ (by decide)).trans h18)), ((xu_ne _ _ (by decide)).trans ((xu_ne _ _ (by decide)).trans hf)), ((xu_ne _ _ (by decide)).trans ((xu_ne _ _ (by decide)).trans hfn)), ((xu_ne _ _ (by decide)).trans ((xu_ne _ _ (by decide)).trans hfa)), ((xu_ne _ _ (by decide)).trans ((xu_ne _ _ (by decide)).trans ht)), ((xu_ne _ _ (by decide)).trans (xu_self _ _ _)), (xu_self _ _ _)⟩ ?_)
                  show xw z NK g 77 89 [(0, .ref (z + 15)), (1, .int (bI dd)), (2, .int (nI i)), (3, .int (nAt fs (nI i))), (4, .int (nAt ga (nI i)))] [.int (p_far pl fs ga 100 (nAt ga (nI i)))] (xu (xu S 21 (.inl ns2)) 23 (.inl as2)) P
                  refine xw.steps 5 (fun _ => rfl) ?_
                  show xw z NK g 77 100 [(0, .ref (z + 15)), (1, .int (bI dd)), (2, .int (nI i)), (3, .int (nAt fs (nI i))), (4, .int (nAt ga (nI i))), (5, .int (p_far pl fs ga 100 (nAt ga (nI i))))] [.int (p_far pl fs ga 100 (nAt ga (nI i))), .int (nAt fs (nI i)), .ref (z + 15)] (xu (xu S 21 (.inl ns2)) 23 (.inl as2)) P
                  refine xw.callO (o := 15) rfl rfl rfl ((xu_ne _ _ (by decide)).trans ((xu_ne _ _ (by decide)).trans h15)) rfl rfl (c_folds_B ⟨((xu_ne _ _ (by decide)).trans ((xu_ne _ _ (by decide)).trans h15)), ((xu_ne _ _ (by decide)).trans ((xu_ne _ _ (by decide)).trans h16)), ((xu_ne _ _ (by decide)).trans ((xu_ne _ _ (by decide)).trans h18)), ((xu_ne _ _ (by decide)).trans ((xu_ne _ _ (by decide)).trans hf)), ((xu_ne _ _ (by decide)).trans ((xu_ne _ _ (by decide)).trans hfn)), ((xu_ne _ _ (by decide)).trans ((xu_ne _ _ (by decide)).trans hfa)), ((xu_ne _ _ (by decide)).trans ((xu_ne _ _ (by decide)).trans ht)), ((xu_ne _ _ (by decide)).trans (xu_self _ _ _)), (xu_self _ _ _)⟩ (by omega) (by omega) ?_)
                  show xw z NK g 77 103 [(0, .ref (z + 15)), (1, .int (bI dd)), (2, .int (nI i)), (3, .int (nAt fs (nI i))), (4, .int (nAt ga (nI i))), (5, .int (p_far pl fs ga 100 (nAt ga (nI i))))] [.int (bI (p_folds ns2 as2 (nAt fs (nI i)) (p_far pl fs ga 100 (nAt ga (nI i)))).2.2)] (xu (xu (xu (xu S 21 (.inl ns2)) 23 (.inl as2)) 21 (.inl (p_folds ns2 as2 (nAt fs (nI i)) (p_far pl fs ga 100 (nAt ga (nI i)))).1)) 23 (.inl (p_folds ns2 as2 (nAt fs (nI i)) (p_far pl fs ga 100 (nAt ga (nI i)))).2.1)) P
                  rw [xu4 _ (show (21 : Nat) ≠ 23 by decide)]
                  refine xw.if_ rfl (fun c19 => ?_) (fun c19 => ?_)
                  · have c19 := bI_ne0 (of_decide_eq_true c19)
                    refine xw.steps 1 (fun _ => rfl) ?_
                    refine xw.getf (o := 15) rfl ((xu_ne _ _ (by decide)).trans ((xu_ne _ _ (by decide)).trans h15)) rfl ?_
                    refine xw.steps 1 (fun _ => rfl) ?_
                    show xw z NK g 77 121 [(0, .ref (z + 15)), (1, .int (bI dd)), (2, .int (nI i)), (3, .int (nAt fs (nI i))), (4, .int (nAt ga (nI i))), (5, .int (p_far pl fs ga 100 (nAt ga (nI i))))] [.int 0, .ref (z + 20)] (xu (xu S 21 (.inl (p_folds ns2 as2 (nAt fs (nI i)) (p_far pl fs ga 100 (nAt ga (nI i)))).1)) 23 (.inl (p_folds ns2 as2 (nAt fs (nI i)) (p_far pl fs ga 100 (nAt ga (nI i)))).2.1)) P
                    refine xw.callO (o := 20) rfl rfl rfl ((xu_ne _ _ (by decide)).trans ((xu_ne _ _ (by decide)).trans ht)) rfl rfl (c_Code_lastNumber ((xu_ne _ _ (by decide)).trans ((xu_ne _ _ (by decide)).trans ht)) ((xu_ne _ _ (by decide)).trans (xu_self _ _ _)) (xu_self _ _ _) (by decide) ?_)
                    show xw z NK g 77 124 [(0, .ref (z + 15)), (1, .int (bI dd)), (2, .int (nI i)), (3, .int (nAt fs (nI i))), (4, .int (nAt ga (nI i))), (5, .int (p_far pl fs ga 100 (nAt ga (nI i))))] [.int (p_l (p_folds ns2 as2 (nAt fs (nI i)) (p_far pl fs ga 100 (nAt ga (nI i)))).1 0)] (xu (xu S 21 (.inl (p_folds ns2 as2 (nAt fs (nI i)) (p_far pl fs ga 100 (nAt ga (nI i)))).1)) 23 (.inl (p_folds ns2 as2 (nAt fs (nI i)) (p_far pl fs ga 100 (nAt ga (nI i)))).2.1)) P
                    show xw z NK g 77 124 [(0, .ref (z + 15)), (1, .int (bI dd)), (2, .int (nI i)), (3, .int (nAt fs (nI i))), (4, .int (nAt ga (nI i))), (5, .int (p_far pl fs ga 100 (nAt ga (nI i))))] [.int (p_l (p_folds ns2 as2 (nAt fs (nI i)) (p_far pl fs ga 100 (nAt ga (nI i)))).1 0)] (xu (xu S 21 (.inl (p_folds ns2 as2 (nAt fs (nI i)) (p_far pl fs ga 100 (nAt ga (nI i)))).1)) 23 (.inl (p_folds ns2 as2 (nAt fs (nI i)) (p_far pl fs ga 100 (nAt ga (nI i)))).2.1)) P
                    refine xw.callS rfl rfl rfl rfl rfl (c_endsWay ?_)
                    show xw z NK g 77 127 [(0, .ref (z + 15)), (1, .int (bI dd)), (2, .int (nI i)), (3, .int (nAt fs (nI i))), (4, .int (nAt ga (nI i))), (5, .int (p_far pl fs ga 100 (nAt ga (nI i))))] [.int (bI (t_ends (p_l (p_folds ns2 as2 (nAt fs (nI i)) (p_far pl fs ga 100 (nAt ga (nI i)))).1 0)))] (xu (xu S 21 (.inl (p_folds ns2 as2 (nAt fs (nI i)) (p_far pl fs ga 100 (nAt ga (nI i)))).1)) 23 (.inl (p_folds ns2 as2 (nAt fs (nI i)) (p_far pl fs ga 100 (nAt ga (nI i)))).2.1)) P
                    refine xw.steps 3 (fun _ => rfl) ?_
                    show xw z NK g 77 12 [(0, .ref (z + 15)), (1, .int (bI (t_ends (p_l (p_folds ns2 as2 (nAt fs (nI i)) (p_far pl fs ga 100 (nAt ga (nI i)))).1 0)))), (2, .int ((nI i) + 1)), (3, .int (nAt fs (nI i))), (4, .int (nAt ga (nI i))), (5, .int (p_far pl fs ga 100 (nAt ga (nI i))))] [] (xu (xu S 21 (.inl (p_folds ns2 as2 (nAt fs (nI i)) (p_far pl fs ga 100 (nAt ga (nI i)))).1)) 23 (.inl (p_folds ns2 as2 (nAt fs (nI i)) (p_far pl fs ga 100 (nAt ga (nI i)))).2.1)) P
                    rw [nI_1]
                    refine xw.forget (lv := [(0, .ref (z + 15)), (1, .int (bI (t_ends (p_l (p_folds ns2 as2 (nAt fs (nI i)) (p_far pl fs ga 100 (nAt ga (nI i)))).1 0)))), (2, .int (nI (i + 1)))]) lk_77 (show [0, 1, 2].Nodup by decide) (show [0, 1, 2, 3, 4, 5].Nodup by decide) (List.forall_mem_cons.mpr ⟨rfl, List.forall_mem_cons.mpr ⟨rfl, List.forall_mem_cons.mpr ⟨rfl, fun _ h => absurd h List.not_mem_nil⟩⟩⟩) ?_
                    exact ih (i + 1) (by omega) _ _ _ (by have h1 := p_step_len ns2 as2 (nAt fs (nI i)) (p_far pl fs ga 100 (nAt ga (nI i))); rw [(show p_step ns2 as2 (nAt fs (nI i)) (p_far pl fs ga 100 (nAt ga (nI i))) = ((p_folds ns2 as2 (nAt fs (nI i)) (p_far pl fs ga 100 (nAt ga (nI i)))).1, (p_folds ns2 as2 (nAt fs (nI i)) (p_far pl fs ga 100 (nAt ga (nI i)))).2.1) from by unfold p_step; rw [if_pos (by assumption)])] at h1; have h2 := h1.1; dsimp only at h2; omega) (by have h1 := p_step_len ns2 as2 (nAt fs (nI i)) (p_far pl fs ga 100 (nAt ga (nI i))); rw [(show p_step ns2 as2 (nAt fs (nI i)) (p_far pl fs ga 100 (nAt ga (nI i))) = ((p_folds ns2 as2 (nAt fs (nI i)) (p_far pl fs ga 100 (nAt ga (nI i)))).1, (p_folds ns2 as2 (nAt fs (nI i)) (p_far pl fs ga 100 (nAt ga (nI i)))).2.1) from by unfold p_step; rw [if_pos (by assumption)])] at h1; have h2 := h1.2; dsimp only at h2; omega) (by rw [p_rew_go (by first | exact fun u => absurd u.1 (by assumption) | exact fun u => absurd u.2 (by assumption)) (by first | exact fun u => absurd (by assumption) u.2 | exact fun u => Bool.noConfusion (u.1.symm.trans (by assumption))) (show p_goal pl fs ga (nAt fs (nI i)) (nAt ga (nI i)) = (p_far pl fs ga 100 (nAt ga (nI i))) from by unfold p_goal; rw [if_pos (by assumption)]) (show p_step ns2 as2 (nAt fs (nI i)) (p_far pl fs ga 100 (nAt ga (nI i))) = ((p_folds ns2 as2 (nAt fs (nI i)) (p_far pl fs ga 100 (nAt ga (nI i)))).1, (p_folds ns2 as2 (nAt fs (nI i)) (p_far pl fs ga 100 (nAt ga (nI i)))).2.1) from by unfold p_step; rw [if_pos (by assumption)])] at hP; exact hP)
                  · have c19 := bI_eq0 (Decidable.not_not.mp (of_decide_eq_false c19))
                    refine xw.steps 1 (fun _ => rfl) ?_
                    refine xw.getf (o := 15) rfl ((xu_ne _ _ (by decide)).trans ((xu_ne _ _ (by decide)).trans h15)) rfl ?_
                    refine xw.steps 2 (fun _ => rfl) ?_
                    show xw z NK g 77 113 [(0, .ref (z + 15)), (1, .int (bI dd)), (2, .int (nI i)), (3, .int (nAt fs (nI i))), (4, .int (nAt ga (nI i))), (5, .int (p_far pl fs ga 100 (nAt ga (nI i))))] [.int (p_far pl fs ga 100 (nAt ga (nI i))), .int (nAt fs (nI i)), .ref (z + 20)] (xu (xu S 21 (.inl (p_folds ns2 as2 (nAt fs (nI i)) (p_far pl fs ga 100 (nAt ga (nI i)))).1)) 23 (.inl (p_folds ns2 as2 (nAt fs (nI i)) (p_far pl fs ga 100 (nAt ga (nI i)))).2.1)) P
                    refine xw.callO (o := 20) rfl rfl rfl ((xu_ne _ _ (by decide)).trans ((xu_ne _ _ (by decide)).trans ht)) rfl rfl (c_Code_append ((xu_ne _ _ (by decide)).trans ((xu_ne _ _ (by decide)).trans ht)) ((xu_ne _ _ (by decide)).trans (xu_self _ _ _)) (xu_self _ _ _) (by decide) (by have h1 := p_folds_len ns2 as2 (nAt fs (nI i)) (p_far pl fs ga 100 (nAt ga (nI i))); omega) (by have h1 := p_folds_len ns2 as2 (nAt fs (nI i)) (p_far pl fs ga 100 (nAt ga (nI i))); omega) ?_)
                    show xw z NK g 77 116 [(0, .ref (z + 15)), (1, .int (bI dd)), (2, .int (nI i)), (3, .int (nAt fs (nI i))), (4, .int (nAt ga (nI i))), (5, .int (p_far pl fs ga 100 (nAt ga (nI i))))] [] (xu (xu (xu (xu S 21 (.inl (p_folds ns2 as2 (nAt fs (nI i)) (p_far pl fs ga 100 (nAt ga (nI i)))).1)) 23 (.inl (p_folds ns2 as2 (nAt fs (nI i)) (p_far pl fs ga 100 (nAt ga (nI i)))).2.1)) 21 (.inl ((p_folds ns2 as2 (nAt fs (nI i)) (p_far pl fs ga 100 (nAt ga (nI i)))).1 ++ [(nAt fs (nI i))]))) 23 (.inl ((p_folds ns2 as2 (nAt fs (nI i)) (p_far pl fs ga 100 (nAt ga (nI i)))).2.1 ++ [(p_far pl fs ga 100 (nAt ga (nI i)))]))) P
                    rw [xu4 _ (show (21 : Nat) ≠ 23 by decide)]
                    refine xw.steps 1 (fun _ => rfl) ?_
                    refine xw.getf (o := 15) rfl ((xu_ne _ _ (by decide)).trans ((xu_ne _ _ (by decide)).trans h15)) rfl ?_
                    refine xw.steps 1 (fun _ => rfl) ?_
                    show xw z NK g 77 121 [(0, .ref (z + 15)), (1, .int (bI dd)), (2, .int (nI i)), (3, .int (nAt fs (nI i))), (4, .int (nAt ga (nI i))), (5, .int (p_far pl fs ga 100 (nAt ga (nI i))))] [.int 0, .ref (z + 20)] (xu (xu S 21 (.inl ((p_folds ns2 as2 (nAt fs (nI i)) (p_far pl fs ga 100 (nAt ga (nI i)))).1 ++ [(nAt fs (nI i))]))) 23 (.inl ((p_folds ns2 as2 (nAt fs (nI i)) (p_far pl fs ga 100 (nAt ga (nI i)))).2.1 ++ [(p_far pl fs ga 100 (nAt ga (nI i)))]))) P
                    refine xw.callO (o := 20) rfl rfl rfl ((xu_ne _ _ (by decide)).trans ((xu_ne _ _ (by decide)).trans ht)) rfl rfl (c_Code_lastNumber ((xu_ne _ _ (by decide)).trans ((xu_ne _ _ (by decide)).trans ht)) ((xu_ne _ _ (by decide)).trans (xu_self _ _ _)) (xu_self _ _ _) (by decide) ?_)
                    show xw z NK g 77 124 [(0, .ref (z + 15)), (1, .int (bI dd)), (2, .int (nI i)), (3, .int (nAt fs (nI i))), (4, .int (nAt ga (nI i))), (5, .int (p_far pl fs ga 100 (nAt ga (nI i))))] [.int (p_l ((p_folds ns2 as2 (nAt fs (nI i)) (p_far pl fs ga 100 (nAt ga (nI i)))).1 ++ [(nAt fs (nI i))]) 0)] (xu (xu S 21 (.inl ((p_folds ns2 as2 (nAt fs (nI i)) (p_far pl fs ga 100 (nAt ga (nI i)))).1 ++ [(nAt fs (nI i))]))) 23 (.inl ((p_folds ns2 as2 (nAt fs (nI i)) (p_far pl fs ga 100 (nAt ga (nI i)))).2.1 ++ [(p_far pl fs ga 100 (nAt ga (nI i)))]))) P
                    show xw z NK g 77 124 [(0, .ref (z + 15)), (1, .int (bI dd)), (2, .int (nI i)), (3, .int (nAt fs (nI i))), (4, .int (nAt ga (nI i))), (5, .int (p_far pl fs ga 100 (nAt ga (nI i))))] [.int (p_l ((p_folds ns2 as2 (nAt fs (nI i)) (p_far pl fs ga 100 (nAt ga (nI i)))).1 ++ [(nAt fs (nI i))]) 0)] (xu (xu S 21 (.inl ((p_folds ns2 as2 (nAt fs (nI i)) (p_far pl fs ga 100 (nAt ga (nI i)))).1 ++ [(nAt fs (nI i))]))) 23 (.inl ((p_folds ns2 as2 (nAt fs (nI i)) (p_far pl fs ga 100 (nAt ga (nI i)))).2.1 ++ [(p_far pl fs ga 100 (nAt ga (nI i)))]))) P
                    refine xw.callS rfl rfl rfl rfl rfl (c_endsWay ?_)
                    show xw z NK g 77 127 [(0, .ref (z + 15)), (1, .int (bI dd)), (2, .int (nI i)), (3, .int (nAt fs (nI i))), (4, .int (nAt ga (nI i))), (5, .int (p_far pl fs ga 100 (nAt ga (nI i))))] [.int (bI (t_ends (p_l ((p_folds ns2 as2 (nAt fs (nI i)) (p_far pl fs ga 100 (nAt ga (nI i)))).1 ++ [(nAt fs (nI i))]) 0)))] (xu (xu S 21 (.inl ((p_folds ns2 as2 (nAt fs (nI i)) (p_far pl fs ga 100 (nAt ga (nI i)))).1 ++ [(nAt fs (nI i))]))) 23 (.inl ((p_folds ns2 as2 (nAt fs (nI i)) (p_far pl fs ga 100 (nAt ga (nI i)))).2.1 ++ [(p_far pl fs ga 100 (nAt ga (nI i)))]))) P
                    refine xw.steps 3 (fun _ => rfl) ?_
                    show xw z NK g 77 12 [(0, .ref (z + 15)), (1, .int (bI (t_ends (p_l ((p_folds ns2 as2 (nAt fs (nI i)) (p_far pl fs ga 100 (nAt ga (nI i)))).1 ++ [(nAt fs (nI i))]) 0)))), (2, .int ((nI i) + 1)), (3, .int (nAt fs (nI i))), (4, .int (nAt ga (nI i))), (5, .int (p_far pl fs ga 100 (nAt ga (nI i))))] [] (xu (xu S 21 (.inl ((p_folds ns2 as2 (nAt fs (nI i)) (p_far pl fs ga 100 (nAt ga (nI i)))).1 ++ [(nAt fs (nI i))]))) 23 (.inl ((p_folds ns2 as2 (nAt fs (nI i)) (p_far pl fs ga 100 (nAt ga (nI i)))).2.1 ++ [(p_far pl fs ga 100 (nAt ga (nI i)))]))) P
                    rw [nI_1]
                    refine xw.forget (lv := [(0, .ref (z + 15)), (1, .int (bI (t_ends (p_l ((p_folds ns2 as2 (nAt fs (nI i)) (p_far pl fs ga 100 (nAt ga (nI i)))).1 ++ [(nAt fs (nI i))]) 0)))), (2, .int (nI (i + 1)))]) lk_77 (show [0, 1, 2].Nodup by decide) (show [0, 1, 2, 3, 4, 5].Nodup by decide) (List.forall_mem_cons.mpr ⟨rfl, List.forall_mem_cons.mpr ⟨rfl, List.forall_mem_cons.mpr ⟨rfl, fun _ h => absurd h List.not_mem_nil⟩⟩⟩) ?_
                    exact ih (i + 1) (by omega) _ _ _ (by have h1 := p_step_len ns2 as2 (nAt fs (nI i)) (p_far pl fs ga 100 (nAt ga (nI i))); rw [(show p_step ns2 as2 (nAt fs (nI i)) (p_far pl fs ga 100 (nAt ga (nI i))) = (((p_folds ns2 as2 (nAt fs (nI i)) (p_far pl fs ga 100 (nAt ga (nI i)))).1 ++ [(nAt fs (nI i))]), ((p_folds ns2 as2 (nAt fs (nI i)) (p_far pl fs ga 100 (nAt ga (nI i)))).2.1 ++ [(p_far pl fs ga 100 (nAt ga (nI i)))])) from by unfold p_step; rw [if_neg (by rw [(by assumption : (p_folds ns2 as2 (nAt fs (nI i)) (p_far pl fs ga 100 (nAt ga (nI i)))).2.2 = false)]; decide)])] at h1; have h2 := h1.1; dsimp only at h2; omega) (by have h1 := p_step_len ns2 as2 (nAt fs (nI i)) (p_far pl fs ga 100 (nAt ga (nI i))); rw [(show p_step ns2 as2 (nAt fs (nI i)) (p_far pl fs ga 100 (nAt ga (nI i))) = (((p_folds ns2 as2 (nAt fs (nI i)) (p_far pl fs ga 100 (nAt ga (nI i)))).1 ++ [(nAt fs (nI i))]), ((p_folds ns2 as2 (nAt fs (nI i)) (p_far pl fs ga 100 (nAt ga (nI i)))).2.1 ++ [(p_far pl fs ga 100 (nAt ga (nI i)))])) from by unfold p_step; rw [if_neg (by rw [(by assumption : (p_folds ns2 as2 (nAt fs (nI i)) (p_far pl fs ga 100 (nAt ga (nI i)))).2.2 = false)]; decide)])] at h1; have h2 := h1.2; dsimp only at h2; omega) (by rw [p_rew_go (by first | exact fun u => absurd u.1 (by assumption) | exact fun u => absurd u.2 (by assumption)) (by first | exact fun u => absurd (by assumption) u.2 | exact fun u => Bool.noConfusion (u.1.symm.trans (by assumption))) (show p_goal pl fs ga (nAt fs (nI i)) (nAt ga (nI i)) = (p_far pl fs ga 100 (nAt ga (nI i))) from by unfold p_goal; rw [if_pos (by assumption)]) (show p_step ns2 as2 (nAt fs (nI i)) (p_far pl fs ga 100 (nAt ga (nI i))) = (((p_folds ns2 as2 (nAt fs (nI i)) (p_far pl fs ga 100 (nAt ga (nI i)))).1 ++ [(nAt fs (nI i))]), ((p_folds ns2 as2 (nAt fs (nI i)) (p_far pl fs ga 100 (nAt ga (nI i)))).2.1 ++ [(p_far pl fs ga 100 (nAt ga (nI i)))])) from by unfold p_step; rw [if_neg (by rw [(by assumption : (p_folds ns2 as2 (nAt fs (nI i)) (p_far pl fs ga 100 (nAt ga (nI i)))).2.2 = false)]; decide)])] at hP; exact hP)
              · have c16 := of_decide_eq_false c16
                refine xw.steps 3 (fun _ => rfl) ?_
                show xw z NK g 77 12 [(0, .ref (z + 15)), (1, .int (bI dd)), (2, .int ((nI i) + 1)), (3, .int (nAt fs (nI i))), (4, .int (nAt ga (nI i)))] [] (xu (xu S 21 (.inl ns2)) 23 (.inl as2)) P
                rw [nI_1]
                refine xw.forget (lv := [(0, .ref (z + 15)), (1, .int (bI dd)), (2, .int (nI (i + 1)))]) lk_77 (show [0, 1, 2].Nodup by decide) (show [0, 1, 2, 3, 4].Nodup by decide) (List.forall_mem_cons.mpr ⟨rfl, List.forall_mem_cons.mpr ⟨rfl, List.forall_mem_cons.mpr ⟨rfl, fun _ h => absurd h List.not_mem_nil⟩⟩⟩) ?_
                exact ih (i + 1) (by omega) _ _ _ (by omega) (by omega) (by rw [p_rew_skip (by first | exact Or.inl ⟨by assumption, by assumption⟩ | exact Or.inr ⟨by assumption, by assumption⟩)] at hP; exact hP)
          · have c11 := Decidable.not_not.mp (of_decide_eq_false c11)
            refine xw.steps 3 (fun _ => rfl) ?_
            show xw z NK g 77 12 [(0, .ref (z + 15)), (1, .int (bI dd)), (2, .int ((nI i) + 1)), (3, .int (nAt fs (nI i))), (4, .int (nAt ga (nI i)))] [] (xu (xu S 21 (.inl ns2)) 23 (.inl as2)) P
            rw [nI_1]
            refine xw.forget (lv := [(0, .ref (z + 15)), (1, .int (bI dd)), (2, .int (nI (i + 1)))]) lk_77 (show [0, 1, 2].Nodup by decide) (show [0, 1, 2, 3, 4].Nodup by decide) (List.forall_mem_cons.mpr ⟨rfl, List.forall_mem_cons.mpr ⟨rfl, List.forall_mem_cons.mpr ⟨rfl, fun _ h => absurd h List.not_mem_nil⟩⟩⟩) ?_
            exact ih (i + 1) (by omega) _ _ _ (by omega) (by omega) (by rw [p_rew_skip (by first | exact Or.inl ⟨by assumption, by assumption⟩ | exact Or.inr ⟨by assumption, by assumption⟩)] at hP; exact hP)
  refine xw.steps 1 (fun _ => rfl) ?_
  refine xw.getf (o := 15) rfl h15 rfl ?_
  refine xw.steps 1 (fun _ => rfl) ?_
  show xw z NK g 77 5 [(0, .ref (z + 15))] [.int 0, .ref (z + 20)] S P
  refine xw.callO (o := 20) rfl rfl rfl ht rfl rfl (c_Code_cutTo ht htn hta (by decide) ?_)
  show xw z NK g 77 8 [(0, .ref (z + 15))] [] (xu (xu S 21 (.inl (nCut ns 0))) 23 (.inl (nCut as 0))) P
  refine xw.steps 4 (fun _ => rfl) ?_
  show xw z NK g 77 12 [(0, .ref (z + 15)), (1, .int 0), (2, .int 0)] [] (xu (xu S 21 (.inl (nCut ns 0))) 23 (.inl (nCut as 0))) P
  have e1 : nCut ns 0 = [] := rfl
  have e2 : nCut as 0 = [] := rfl
  rw [e1, e2]
  exact loop fs.length 0 (by omega) false _ _ (by simp) (by simp) hP
end XQ
