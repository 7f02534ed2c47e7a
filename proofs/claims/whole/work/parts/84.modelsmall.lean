/-! THE REFERENCE: its small methods (walks by wip/gen84.py) -/
theorem fit_free {n k : Int32} (h1 : ¬ n = 1) (h2 : ¬ n = 2) (h7 : ¬ n = 7) (h8 : ¬ n = 8) (h9 : ¬ n = 9) (h10 : ¬ n = 10) (h11 : ¬ n = 11) (h12 : ¬ n = 12) (h13 : ¬ n = 13) : decide (¬ n < 0 ∧ ¬ 20 < n) = j_fit1 n k := by
  have e : (¬ n < 0 ∧ ¬ 20 < n) ↔ fit2 n k := by
    constructor
    · rintro ⟨a, b⟩
      obtain ⟨x, hx, rfl⟩ := nI_of a
      have hb : ¬ 20 < x := fun w => b ((nI_ltI (by omega) hx (a := 20)).mpr w)
      refine ⟨⟨a, (nI_ltI hx (by omega) (b := 21)).mpr (by omega)⟩, fun w => ?_, fun w => absurd w h7, fun w => ?_, fun w => ?_⟩
      · rcases w with w | w
        · exact absurd w h8
        · exact absurd w h9
      · rcases w with w | w
        · exact absurd w h1
        · exact absurd w h2
      · rcases w with w | w
        · have w : nI x = 10 ∨ nI x = 11 ∨ nI x = 12 := by simpa [t_goes] using w
          rcases w with w | w | w
          · exact absurd w h10
          · exact absurd w h11
          · exact absurd w h12
        · exact absurd w h13
    · intro w
      refine ⟨w.1.1, fun q => ?_⟩
      obtain ⟨x, hx, rfl⟩ := nI_of w.1.1
      have h1 := (nI_ltI hx (by omega) (b := 21)).mp w.1.2
      have h2 := (nI_ltI (by omega) hx (a := 20)).mp q
      omega
  cases hb : j_fit1 n k with
  | true => exact decide_eq_true (e.mpr (fit1_iff.mp hb))
  | false => exact decide_eq_false (fun w => by have := fit1_iff.mpr (e.mp w); rw [hb] at this; cases this)
theorem fit_lim {n k m : Int32} (hn : ¬ n < 0 ∧ n < 21) (hm : (x_stat 0).2 n.toNatClampNeg = m) (h0 : ¬ m < 0) : decide (¬ k < 0 ∧ ¬ m < k) = j_fit1 n k := by
  unfold j_fit1
  rw [hm]
  simp only [hn.1, hn.2, h0, not_false_eq_true, true_and, false_or]
theorem tk_dflt {n : Int32} (hn : ¬ n < 0 ∧ n < 21) (h : n.toInt < 2 ∨ 20 < n.toInt) : n = 0 ∨ n = 1 := by
  obtain ⟨x, hx, rfl⟩ := nI_of hn.1
  have h1 := (nI_ltI hx (by omega) (b := 21)).mp hn.2
  rw [nI_toInt hx] at h
  have : x = 0 ∨ x = 1 := by omega
  rcases this with rfl | rfl
  · exact .inl rfl
  · exact .inr rfl
def mgv (n : Int32) : Int32 := if n = 16 then 0 else nI (gvn n) - nI (tkn n)
section MST
variable {z : Nat} {NK : List Nat} {g : mx_G} {S : xS} {P : Option Value → xS → Prop}
set_option maxHeartbeats 1000000 in
/-- RowCodeModel.in(III)Z -/
theorem c_in {x lo hi : Int32} (hP : P (some (.int (bI (decide (¬ x < lo ∧ ¬ hi < x))))) S) : xw z NK g 120 0 [(0, .int x), (1, .int lo), (2, .int hi)] [] S P := by
  refine xw.steps 2 (fun _ => rfl) ?_
  refine xw.icmp rfl (fun c1 => ?_) (fun c1 => ?_)
  · have c1 := of_decide_eq_true c1
    refine xw.steps 1 (fun _ => rfl) ?_
    refine xw.ret rfl (fun _ => rfl) ?_
    show P (some (.int 0)) S
    have e9 : decide (¬ x < lo ∧ ¬ hi < x) = false := by clear hP; simp_all
    rw [e9] at hP
    exact hP
  · have c1 := of_decide_eq_false c1
    refine xw.steps 2 (fun _ => rfl) ?_
    refine xw.icmp rfl (fun c2 => ?_) (fun c2 => ?_)
    · have c2 := of_decide_eq_true c2
      refine xw.steps 1 (fun _ => rfl) ?_
      refine xw.ret rfl (fun _ => rfl) ?_
      show P (some (.int 0)) S
      have e9 : decide (¬ x < lo ∧ ¬ hi < x) = false := by clear hP; simp_all
      rw [e9] at hP
      exact hP
    · have c2 := of_decide_eq_false c2
      refine xw.steps 2 (fun _ => rfl) ?_
      refine xw.ret rfl (fun _ => rfl) ?_
      show P (some (.int 1)) S
      have e9 : decide (¬ x < lo ∧ ¬ hi < x) = true := by clear hP; simp_all
      rw [e9] at hP
      exact hP
set_option maxHeartbeats 1000000 in
/-- RowCodeModel.isGood(II)Z -/
theorem c_good {n k : Int32} (hP : P (some (.int (bI (j_fit1 n k)))) S) : xw z NK g 121 0 [(0, .int n), (1, .int k)] [] S P := by
  refine xw.steps 1 (fun _ => rfl) ?_
  refine xw.table rfl (fun c1 => ?_) ⟨fun c1 => ?_, fun c1 => ?_, fun c1 => ?_, fun c1 => ?_, fun c1 => ?_, fun c1 => ?_, fun c1 => ?_, fun c1 => ?_, fun c1 => ?_, fun c1 => ?_, fun c1 => ?_, fun c1 => ?_, fun c1 => ?_, trivial⟩
  · skip
    have c1_0 : ¬ n = 1 := fun e => by rw [e] at c1; revert c1; decide
    have c1_1 : ¬ n = 2 := fun e => by rw [e] at c1; revert c1; decide
    have c1_2 : ¬ n = 3 := fun e => by rw [e] at c1; revert c1; decide
    have c1_3 : ¬ n = 4 := fun e => by rw [e] at c1; revert c1; decide
    have c1_4 : ¬ n = 5 := fun e => by rw [e] at c1; revert c1; decide
    have c1_5 : ¬ n = 6 := fun e => by rw [e] at c1; revert c1; decide
    have c1_6 : ¬ n = 7 := fun e => by rw [e] at c1; revert c1; decide
    have c1_7 : ¬ n = 8 := fun e => by rw [e] at c1; revert c1; decide
    have c1_8 : ¬ n = 9 := fun e => by rw [e] at c1; revert c1; decide
    have c1_9 : ¬ n = 10 := fun e => by rw [e] at c1; revert c1; decide
    have c1_10 : ¬ n = 11 := fun e => by rw [e] at c1; revert c1; decide
    have c1_11 : ¬ n = 12 := fun e => by rw [e] at c1; revert c1; decide
    have c1_12 : ¬ n = 13 := fun e => by rw [e] at c1; revert c1; decide
    refine xw.steps 3 (fun _ => rfl) ?_
    show xw z NK g 121 103 [(0, .int n), (1, .int k)] [.int 20, .int 0, .int n] S P
    refine xw.callS rfl rfl rfl rfl rfl (c_in ?_)
    show xw z NK g 121 106 [(0, .int n), (1, .int k)] [.int (bI (decide (¬ n < 0 ∧ ¬ 20 < n)))] S P
    refine xw.ret rfl (fun _ => mx_ret_b _ _) ?_
    show P (some (.int (bI (decide (¬ n < 0 ∧ ¬ 20 < n))))) S
    have e9 := fit_free (n := n) (k := k) c1_0 c1_1 c1_6 c1_7 c1_8 c1_9 c1_10 c1_11 c1_12
    rw [e9]
    exact hP
  · have c1 : n = 1 := c1
    refine xw.steps 3 (fun _ => rfl) ?_
    show xw z NK g 121 72 [(0, .int n), (1, .int k)] [.int 15, .int 0, .int k] S P
    refine xw.callS rfl rfl rfl rfl rfl (c_in ?_)
    show xw z NK g 121 75 [(0, .int n), (1, .int k)] [.int (bI (decide (¬ k < 0 ∧ ¬ 15 < k)))] S P
    refine xw.ret rfl (fun _ => mx_ret_b _ _) ?_
    show P (some (.int (bI (decide (¬ k < 0 ∧ ¬ 15 < k))))) S
    have e9 := fit_lim (n := n) (k := k) (m := 15) (by rw [c1]; decide) (by rw [c1]; decide) (by decide)
    rw [e9]
    exact hP
  · have c1 : n = 2 := c1
    refine xw.steps 3 (fun _ => rfl) ?_
    show xw z NK g 121 72 [(0, .int n), (1, .int k)] [.int 15, .int 0, .int k] S P
    refine xw.callS rfl rfl rfl rfl rfl (c_in ?_)
    show xw z NK g 121 75 [(0, .int n), (1, .int k)] [.int (bI (decide (¬ k < 0 ∧ ¬ 15 < k)))] S P
    refine xw.ret rfl (fun _ => mx_ret_b _ _) ?_
    show P (some (.int (bI (decide (¬ k < 0 ∧ ¬ 15 < k))))) S
    have e9 := fit_lim (n := n) (k := k) (m := 15) (by rw [c1]; decide) (by rw [c1]; decide) (by decide)
    rw [e9]
    exact hP
  · have c1 : n = 3 := c1
    refine xw.steps 3 (fun _ => rfl) ?_
    show xw z NK g 121 103 [(0, .int n), (1, .int k)] [.int 20, .int 0, .int n] S P
    refine xw.callS rfl rfl rfl rfl rfl (c_in ?_)
    show xw z NK g 121 106 [(0, .int n), (1, .int k)] [.int (bI (decide (¬ n < 0 ∧ ¬ 20 < n)))] S P
    refine xw.ret rfl (fun _ => mx_ret_b _ _) ?_
    show P (some (.int (bI (decide (¬ n < 0 ∧ ¬ 20 < n))))) S
    have e9 := fit_free (n := n) (k := k) (by rw [c1]; decide) (by rw [c1]; decide) (by rw [c1]; decide) (by rw [c1]; decide) (by rw [c1]; decide) (by rw [c1]; decide) (by rw [c1]; decide) (by rw [c1]; decide) (by rw [c1]; decide)
    rw [e9]
    exact hP
  · have c1 : n = 4 := c1
    refine xw.steps 3 (fun _ => rfl) ?_
    show xw z NK g 121 103 [(0, .int n), (1, .int k)] [.int 20, .int 0, .int n] S P
    refine xw.callS rfl rfl rfl rfl rfl (c_in ?_)
    show xw z NK g 121 106 [(0, .int n), (1, .int k)] [.int (bI (decide (¬ n < 0 ∧ ¬ 20 < n)))] S P
    refine xw.ret rfl (fun _ => mx_ret_b _ _) ?_
    show P (some (.int (bI (decide (¬ n < 0 ∧ ¬ 20 < n))))) S
    have e9 := fit_free (n := n) (k := k) (by rw [c1]; decide) (by rw [c1]; decide) (by rw [c1]; decide) (by rw [c1]; decide) (by rw [c1]; decide) (by rw [c1]; decide) (by rw [c1]; decide) (by rw [c1]; decide) (by rw [c1]; decide)
    rw [e9]
    exact hP
  · have c1 : n = 5 := c1
    refine xw.steps 3 (fun _ => rfl) ?_
    show xw z NK g 121 103 [(0, .int n), (1, .int k)] [.int 20, .int 0, .int n] S P
    refine xw.callS rfl rfl rfl rfl rfl (c_in ?_)
    show xw z NK g 121 106 [(0, .int n), (1, .int k)] [.int (bI (decide (¬ n < 0 ∧ ¬ 20 < n)))] S P
    refine xw.ret rfl (fun _ => mx_ret_b _ _) ?_
    show P (some (.int (bI (decide (¬ n < 0 ∧ ¬ 20 < n))))) S
    have e9 := fit_free (n := n) (k := k) (by rw [c1]; decide) (by rw [c1]; decide) (by rw [c1]; decide) (by rw [c1]; decide) (by rw [c1]; decide) (by rw [c1]; decide) (by rw [c1]; decide) (by rw [c1]; decide) (by rw [c1]; decide)
    rw [e9]
    exact hP
  · have c1 : n = 6 := c1
    refine xw.steps 3 (fun _ => rfl) ?_
    show xw z NK g 121 103 [(0, .int n), (1, .int k)] [.int 20, .int 0, .int n] S P
    refine xw.callS rfl rfl rfl rfl rfl (c_in ?_)
    show xw z NK g 121 106 [(0, .int n), (1, .int k)] [.int (bI (decide (¬ n < 0 ∧ ¬ 20 < n)))] S P
    refine xw.ret rfl (fun _ => mx_ret_b _ _) ?_
    show P (some (.int (bI (decide (¬ n < 0 ∧ ¬ 20 < n))))) S
    have e9 := fit_free (n := n) (k := k) (by rw [c1]; decide) (by rw [c1]; decide) (by rw [c1]; decide) (by rw [c1]; decide) (by rw [c1]; decide) (by rw [c1]; decide) (by rw [c1]; decide) (by rw [c1]; decide) (by rw [c1]; decide)
    rw [e9]
    exact hP
  · have c1 : n = 7 := c1
    refine xw.steps 3 (fun _ => rfl) ?_
    show xw z NK g 121 80 [(0, .int n), (1, .int k)] [.int 10, .int 0, .int k] S P
    refine xw.callS rfl rfl rfl rfl rfl (c_in ?_)
    show xw z NK g 121 83 [(0, .int n), (1, .int k)] [.int (bI (decide (¬ k < 0 ∧ ¬ 10 < k)))] S P
    refine xw.ret rfl (fun _ => mx_ret_b _ _) ?_
    show P (some (.int (bI (decide (¬ k < 0 ∧ ¬ 10 < k))))) S
    have e9 := fit_lim (n := n) (k := k) (m := 10) (by rw [c1]; decide) (by rw [c1]; decide) (by decide)
    rw [e9]
    exact hP
  · have c1 : n = 8 := c1
    refine xw.steps 3 (fun _ => rfl) ?_
    show xw z NK g 121 87 [(0, .int n), (1, .int k)] [.int 5, .int 0, .int k] S P
    refine xw.callS rfl rfl rfl rfl rfl (c_in ?_)
    show xw z NK g 121 90 [(0, .int n), (1, .int k)] [.int (bI (decide (¬ k < 0 ∧ ¬ 5 < k)))] S P
    refine xw.ret rfl (fun _ => mx_ret_b _ _) ?_
    show P (some (.int (bI (decide (¬ k < 0 ∧ ¬ 5 < k))))) S
    have e9 := fit_lim (n := n) (k := k) (m := 5) (by rw [c1]; decide) (by rw [c1]; decide) (by decide)
    rw [e9]
    exact hP
  · have c1 : n = 9 := c1
    refine xw.steps 3 (fun _ => rfl) ?_
    show xw z NK g 121 87 [(0, .int n), (1, .int k)] [.int 5, .int 0, .int k] S P
    refine xw.callS rfl rfl rfl rfl rfl (c_in ?_)
    show xw z NK g 121 90 [(0, .int n), (1, .int k)] [.int (bI (decide (¬ k < 0 ∧ ¬ 5 < k)))] S P
    refine xw.ret rfl (fun _ => mx_ret_b _ _) ?_
    show P (some (.int (bI (decide (¬ k < 0 ∧ ¬ 5 < k))))) S
    have e9 := fit_lim (n := n) (k := k) (m := 5) (by rw [c1]; decide) (by rw [c1]; decide) (by decide)
    rw [e9]
    exact hP
  · have c1 : n = 10 := c1
    refine xw.steps 3 (fun _ => rfl) ?_
    show xw z NK g 121 95 [(0, .int n), (1, .int k)] [.int 99, .int 0, .int k] S P
    refine xw.callS rfl rfl rfl rfl rfl (c_in ?_)
    show xw z NK g 121 98 [(0, .int n), (1, .int k)] [.int (bI (decide (¬ k < 0 ∧ ¬ 99 < k)))] S P
    refine xw.ret rfl (fun _ => mx_ret_b _ _) ?_
    show P (some (.int (bI (decide (¬ k < 0 ∧ ¬ 99 < k))))) S
    have e9 := fit_lim (n := n) (k := k) (m := 99) (by rw [c1]; decide) (by rw [c1]; decide) (by decide)
    rw [e9]
    exact hP
  · have c1 : n = 11 := c1
    refine xw.steps 3 (fun _ => rfl) ?_
    show xw z NK g 121 95 [(0, .int n), (1, .int k)] [.int 99, .int 0, .int k] S P
    refine xw.callS rfl rfl rfl rfl rfl (c_in ?_)
    show xw z NK g 121 98 [(0, .int n), (1, .int k)] [.int (bI (decide (¬ k < 0 ∧ ¬ 99 < k)))] S P
    refine xw.ret rfl (fun _ => mx_ret_b _ _) ?_
    show P (some (.int (bI (decide (¬ k < 0 ∧ ¬ 99 < k))))) S
    have e9 := fit_lim (n := n) (k := k) (m := 99) (by rw [c1]; decide) (by rw [c1]; decide) (by decide)
    rw [e9]
    exact hP
  · have c1 : n = 12 := c1
    refine xw.steps 3 (fun _ => rfl) ?_
    show xw z NK g 121 95 [(0, .int n), (1, .int k)] [.int 99, .int 0, .int k] S P
    refine xw.callS rfl rfl rfl rfl rfl (c_in ?_)
    show xw z NK g 121 98 [(0, .int n), (1, .int k)] [.int (bI (decide (¬ k < 0 ∧ ¬ 99 < k)))] S P
    refine xw.ret rfl (fun _ => mx_ret_b _ _) ?_
    show P (some (.int (bI (decide (¬ k < 0 ∧ ¬ 99 < k))))) S
    have e9 := fit_lim (n := n) (k := k) (m := 99) (by rw [c1]; decide) (by rw [c1]; decide) (by decide)
    rw [e9]
    exact hP
  · have c1 : n = 13 := c1
    refine xw.steps 3 (fun _ => rfl) ?_
    show xw z NK g 121 95 [(0, .int n), (1, .int k)] [.int 99, .int 0, .int k] S P
    refine xw.callS rfl rfl rfl rfl rfl (c_in ?_)
    show xw z NK g 121 98 [(0, .int n), (1, .int k)] [.int (bI (decide (¬ k < 0 ∧ ¬ 99 < k)))] S P
    refine xw.ret rfl (fun _ => mx_ret_b _ _) ?_
    show P (some (.int (bI (decide (¬ k < 0 ∧ ¬ 99 < k))))) S
    have e9 := fit_lim (n := n) (k := k) (m := 99) (by rw [c1]; decide) (by rw [c1]; decide) (by decide)
    rw [e9]
    exact hP
set_option maxHeartbeats 1000000 in
/-- RowCodeModel.takes(I)I -/
theorem c_takes {n : Int32} (hn : ¬ n < 0 ∧ n < 21) (hP : P (some (.int (nI (tkn n)))) S) : xw z NK g 124 0 [(0, .int n)] [] S P := by
  refine xw.steps 1 (fun _ => rfl) ?_
  refine xw.table rfl (fun c1 => ?_) ⟨fun c1 => ?_, fun c1 => ?_, fun c1 => ?_, fun c1 => ?_, fun c1 => ?_, fun c1 => ?_, fun c1 => ?_, fun c1 => ?_, fun c1 => ?_, fun c1 => ?_, fun c1 => ?_, fun c1 => ?_, fun c1 => ?_, fun c1 => ?_, fun c1 => ?_, fun c1 => ?_, fun c1 => ?_, fun c1 => ?_, fun c1 => ?_, trivial⟩
  · skip
    have c1_0 : ¬ n = 2 := fun e => by rw [e] at c1; revert c1; decide
    have c1_1 : ¬ n = 3 := fun e => by rw [e] at c1; revert c1; decide
    have c1_2 : ¬ n = 4 := fun e => by rw [e] at c1; revert c1; decide
    have c1_3 : ¬ n = 5 := fun e => by rw [e] at c1; revert c1; decide
    have c1_4 : ¬ n = 6 := fun e => by rw [e] at c1; revert c1; decide
    have c1_5 : ¬ n = 7 := fun e => by rw [e] at c1; revert c1; decide
    have c1_6 : ¬ n = 8 := fun e => by rw [e] at c1; revert c1; decide
    have c1_7 : ¬ n = 9 := fun e => by rw [e] at c1; revert c1; decide
    have c1_8 : ¬ n = 10 := fun e => by rw [e] at c1; revert c1; decide
    have c1_9 : ¬ n = 11 := fun e => by rw [e] at c1; revert c1; decide
    have c1_10 : ¬ n = 12 := fun e => by rw [e] at c1; revert c1; decide
    have c1_11 : ¬ n = 13 := fun e => by rw [e] at c1; revert c1; decide
    have c1_12 : ¬ n = 14 := fun e => by rw [e] at c1; revert c1; decide
    have c1_13 : ¬ n = 15 := fun e => by rw [e] at c1; revert c1; decide
    have c1_14 : ¬ n = 16 := fun e => by rw [e] at c1; revert c1; decide
    have c1_15 : ¬ n = 17 := fun e => by rw [e] at c1; revert c1; decide
    have c1_16 : ¬ n = 18 := fun e => by rw [e] at c1; revert c1; decide
    have c1_17 : ¬ n = 19 := fun e => by rw [e] at c1; revert c1; decide
    have c1_18 : ¬ n = 20 := fun e => by rw [e] at c1; revert c1; decide
    refine xw.steps 1 (fun _ => rfl) ?_
    refine xw.ret rfl (fun _ => rfl) ?_
    show P (some (.int 0)) S
    have e9 : nI (tkn n) = 0 := by rcases tk_dflt hn c1 with e | e <;> rw [e] <;> decide
    rw [e9] at hP
    exact hP
  · have c1 : n = 2 := c1
    refine xw.steps 1 (fun _ => rfl) ?_
    refine xw.ret rfl (fun _ => rfl) ?_
    show P (some (.int 1)) S
    have e9 : nI (tkn n) = 1 := by rw [c1]; decide
    rw [e9] at hP
    exact hP
  · have c1 : n = 3 := c1
    refine xw.steps 1 (fun _ => rfl) ?_
    refine xw.ret rfl (fun _ => rfl) ?_
    show P (some (.int 1)) S
    have e9 : nI (tkn n) = 1 := by rw [c1]; decide
    rw [e9] at hP
    exact hP
  · have c1 : n = 4 := c1
    refine xw.steps 1 (fun _ => rfl) ?_
    refine xw.ret rfl (fun _ => rfl) ?_
    show P (some (.int 2)) S
    have e9 : nI (tkn n) = 2 := by rw [c1]; decide
    rw [e9] at hP
    exact hP
  · have c1 : n = 5 := c1
    refine xw.steps 1 (fun _ => rfl) ?_
    refine xw.ret rfl (fun _ => rfl) ?_
    show P (some (.int 1)) S
    have e9 : nI (tkn n) = 1 := by rw [c1]; decide
    rw [e9] at hP
    exact hP
  · have c1 : n = 6 := c1
    refine xw.steps 1 (fun _ => rfl) ?_
    refine xw.ret rfl (fun _ => rfl) ?_
    show P (some (.int 1)) S
    have e9 : nI (tkn n) = 1 := by rw [c1]; decide
    rw [e9] at hP
    exact hP
  · have c1 : n = 7 := c1
    refine xw.steps 1 (fun _ => rfl) ?_
    refine xw.ret rfl (fun _ => rfl) ?_
    show P (some (.int 2)) S
    have e9 : nI (tkn n) = 2 := by rw [c1]; decide
    rw [e9] at hP
    exact hP
  · have c1 : n = 8 := c1
    refine xw.steps 1 (fun _ => rfl) ?_
    refine xw.ret rfl (fun _ => rfl) ?_
    show P (some (.int 2)) S
    have e9 : nI (tkn n) = 2 := by rw [c1]; decide
    rw [e9] at hP
    exact hP
  · have c1 : n = 9 := c1
    refine xw.steps 1 (fun _ => rfl) ?_
    refine xw.ret rfl (fun _ => rfl) ?_
    show P (some (.int 2)) S
    have e9 : nI (tkn n) = 2 := by rw [c1]; decide
    rw [e9] at hP
    exact hP
  · have c1 : n = 10 := c1
    refine xw.steps 1 (fun _ => rfl) ?_
    refine xw.ret rfl (fun _ => rfl) ?_
    show P (some (.int 0)) S
    have e9 : nI (tkn n) = 0 := by rw [c1]; decide
    rw [e9] at hP
    exact hP
  · have c1 : n = 11 := c1
    refine xw.steps 1 (fun _ => rfl) ?_
    refine xw.ret rfl (fun _ => rfl) ?_
    show P (some (.int 1)) S
    have e9 : nI (tkn n) = 1 := by rw [c1]; decide
    rw [e9] at hP
    exact hP
  · have c1 : n = 12 := c1
    refine xw.steps 1 (fun _ => rfl) ?_
    refine xw.ret rfl (fun _ => rfl) ?_
    show P (some (.int 1)) S
    have e9 : nI (tkn n) = 1 := by rw [c1]; decide
    rw [e9] at hP
    exact hP
  · have c1 : n = 13 := c1
    refine xw.steps 1 (fun _ => rfl) ?_
    refine xw.ret rfl (fun _ => rfl) ?_
    show P (some (.int 0)) S
    have e9 : nI (tkn n) = 0 := by rw [c1]; decide
    rw [e9] at hP
    exact hP
  · have c1 : n = 14 := c1
    refine xw.steps 1 (fun _ => rfl) ?_
    refine xw.ret rfl (fun _ => rfl) ?_
    show P (some (.int 1)) S
    have e9 : nI (tkn n) = 1 := by rw [c1]; decide
    rw [e9] at hP
    exact hP
  · have c1 : n = 15 := c1
    refine xw.steps 1 (fun _ => rfl) ?_
    refine xw.ret rfl (fun _ => rfl) ?_
    show P (some (.int 0)) S
    have e9 : nI (tkn n) = 0 := by rw [c1]; decide
    rw [e9] at hP
    exact hP
  · have c1 : n = 16 := c1
    refine xw.steps 1 (fun _ => rfl) ?_
    refine xw.ret rfl (fun _ => rfl) ?_
    show P (some (.int 1)) S
    have e9 : nI (tkn n) = 1 := by rw [c1]; decide
    rw [e9] at hP
    exact hP
  · have c1 : n = 17 := c1
    refine xw.steps 1 (fun _ => rfl) ?_
    refine xw.ret rfl (fun _ => rfl) ?_
    show P (some (.int 0)) S
    have e9 : nI (tkn n) = 0 := by rw [c1]; decide
    rw [e9] at hP
    exact hP
  · have c1 : n = 18 := c1
    refine xw.steps 1 (fun _ => rfl) ?_
    refine xw.ret rfl (fun _ => rfl) ?_
    show P (some (.int 1)) S
    have e9 : nI (tkn n) = 1 := by rw [c1]; decide
    rw [e9] at hP
    exact hP
  · have c1 : n = 19 := c1
    refine xw.steps 1 (fun _ => rfl) ?_
    refine xw.ret rfl (fun _ => rfl) ?_
    show P (some (.int 2)) S
    have e9 : nI (tkn n) = 2 := by rw [c1]; decide
    rw [e9] at hP
    exact hP
  · have c1 : n = 20 := c1
    refine xw.steps 1 (fun _ => rfl) ?_
    refine xw.ret rfl (fun _ => rfl) ?_
    show P (some (.int 3)) S
    have e9 : nI (tkn n) = 3 := by rw [c1]; decide
    rw [e9] at hP
    exact hP
set_option maxHeartbeats 1000000 in
/-- RowCodeModel.gives(I)I -/
theorem c_gives {n : Int32} (hn : ¬ n < 0 ∧ n < 21) (hP : P (some (.int (mgv n))) S) : xw z NK g 125 0 [(0, .int n)] [] S P := by
  refine xw.steps 1 (fun _ => rfl) ?_
  refine xw.table rfl (fun c1 => ?_) ⟨fun c1 => ?_, fun c1 => ?_, fun c1 => ?_, fun c1 => ?_, fun c1 => ?_, fun c1 => ?_, fun c1 => ?_, fun c1 => ?_, fun c1 => ?_, fun c1 => ?_, fun c1 => ?_, fun c1 => ?_, fun c1 => ?_, fun c1 => ?_, fun c1 => ?_, fun c1 => ?_, fun c1 => ?_, fun c1 => ?_, fun c1 => ?_, fun c1 => ?_, fun c1 => ?_, trivial⟩
  · skip
    have c1_0 : ¬ n = 0 := fun e => by rw [e] at c1; revert c1; decide
    have c1_1 : ¬ n = 1 := fun e => by rw [e] at c1; revert c1; decide
    have c1_2 : ¬ n = 2 := fun e => by rw [e] at c1; revert c1; decide
    have c1_3 : ¬ n = 3 := fun e => by rw [e] at c1; revert c1; decide
    have c1_4 : ¬ n = 4 := fun e => by rw [e] at c1; revert c1; decide
    have c1_5 : ¬ n = 5 := fun e => by rw [e] at c1; revert c1; decide
    have c1_6 : ¬ n = 6 := fun e => by rw [e] at c1; revert c1; decide
    have c1_7 : ¬ n = 7 := fun e => by rw [e] at c1; revert c1; decide
    have c1_8 : ¬ n = 8 := fun e => by rw [e] at c1; revert c1; decide
    have c1_9 : ¬ n = 9 := fun e => by rw [e] at c1; revert c1; decide
    have c1_10 : ¬ n = 10 := fun e => by rw [e] at c1; revert c1; decide
    have c1_11 : ¬ n = 11 := fun e => by rw [e] at c1; revert c1; decide
    have c1_12 : ¬ n = 12 := fun e => by rw [e] at c1; revert c1; decide
    have c1_13 : ¬ n = 13 := fun e => by rw [e] at c1; revert c1; decide
    have c1_14 : ¬ n = 14 := fun e => by rw [e] at c1; revert c1; decide
    have c1_15 : ¬ n = 15 := fun e => by rw [e] at c1; revert c1; decide
    have c1_16 : ¬ n = 16 := fun e => by rw [e] at c1; revert c1; decide
    have c1_17 : ¬ n = 17 := fun e => by rw [e] at c1; revert c1; decide
    have c1_18 : ¬ n = 18 := fun e => by rw [e] at c1; revert c1; decide
    have c1_19 : ¬ n = 19 := fun e => by rw [e] at c1; revert c1; decide
    have c1_20 : ¬ n = 20 := fun e => by rw [e] at c1; revert c1; decide
    refine xw.steps 1 (fun _ => rfl) ?_
    refine xw.ret rfl (fun _ => rfl) ?_
    show P (some (.int 0)) S
    exfalso
    obtain ⟨x, hx, e⟩ := nI_of hn.1
    have h1 := hn.2
    rw [e] at c1 h1
    rw [nI_toInt hx] at c1
    have h2 := (nI_ltI hx (by omega) (b := 21)).mp h1
    omega
  · have c1 : n = 0 := c1
    refine xw.steps 1 (fun _ => rfl) ?_
    refine xw.ret rfl (fun _ => rfl) ?_
    show P (some (.int 1)) S
    have e9 : mgv n = 1 := by rw [c1]; decide
    rw [e9] at hP
    exact hP
  · have c1 : n = 1 := c1
    refine xw.steps 1 (fun _ => rfl) ?_
    refine xw.ret rfl (fun _ => rfl) ?_
    show P (some (.int 1)) S
    have e9 : mgv n = 1 := by rw [c1]; decide
    rw [e9] at hP
    exact hP
  · have c1 : n = 2 := c1
    refine xw.steps 1 (fun _ => rfl) ?_
    refine xw.ret rfl (fun _ => rfl) ?_
    show P (some (.int (-1))) S
    have e9 : mgv n = (-1) := by rw [c1]; decide
    rw [e9] at hP
    exact hP
  · have c1 : n = 3 := c1
    refine xw.steps 1 (fun _ => rfl) ?_
    refine xw.ret rfl (fun _ => rfl) ?_
    show P (some (.int 0)) S
    have e9 : mgv n = 0 := by rw [c1]; decide
    rw [e9] at hP
    exact hP
  · have c1 : n = 4 := c1
    refine xw.steps 1 (fun _ => rfl) ?_
    refine xw.ret rfl (fun _ => rfl) ?_
    show P (some (.int (-2))) S
    have e9 : mgv n = (-2) := by rw [c1]; decide
    rw [e9] at hP
    exact hP
  · have c1 : n = 5 := c1
    refine xw.steps 1 (fun _ => rfl) ?_
    refine xw.ret rfl (fun _ => rfl) ?_
    show P (some (.int 0)) S
    have e9 : mgv n = 0 := by rw [c1]; decide
    rw [e9] at hP
    exact hP
  · have c1 : n = 6 := c1
    refine xw.steps 1 (fun _ => rfl) ?_
    refine xw.ret rfl (fun _ => rfl) ?_
    show P (some (.int 0)) S
    have e9 : mgv n = 0 := by rw [c1]; decide
    rw [e9] at hP
    exact hP
  · have c1 : n = 7 := c1
    refine xw.steps 1 (fun _ => rfl) ?_
    refine xw.ret rfl (fun _ => rfl) ?_
    show P (some (.int (-1))) S
    have e9 : mgv n = (-1) := by rw [c1]; decide
    rw [e9] at hP
    exact hP
  · have c1 : n = 8 := c1
    refine xw.steps 1 (fun _ => rfl) ?_
    refine xw.ret rfl (fun _ => rfl) ?_
    show P (some (.int (-1))) S
    have e9 : mgv n = (-1) := by rw [c1]; decide
    rw [e9] at hP
    exact hP
  · have c1 : n = 9 := c1
    refine xw.steps 1 (fun _ => rfl) ?_
    refine xw.ret rfl (fun _ => rfl) ?_
    show P (some (.int 0)) S
    have e9 : mgv n = 0 := by rw [c1]; decide
    rw [e9] at hP
    exact hP
  · have c1 : n = 10 := c1
    refine xw.steps 1 (fun _ => rfl) ?_
    refine xw.ret rfl (fun _ => rfl) ?_
    show P (some (.int 0)) S
    have e9 : mgv n = 0 := by rw [c1]; decide
    rw [e9] at hP
    exact hP
  · have c1 : n = 11 := c1
    refine xw.steps 1 (fun _ => rfl) ?_
    refine xw.ret rfl (fun _ => rfl) ?_
    show P (some (.int (-1))) S
    have e9 : mgv n = (-1) := by rw [c1]; decide
    rw [e9] at hP
    exact hP
  · have c1 : n = 12 := c1
    refine xw.steps 1 (fun _ => rfl) ?_
    refine xw.ret rfl (fun _ => rfl) ?_
    show P (some (.int (-1))) S
    have e9 : mgv n = (-1) := by rw [c1]; decide
    rw [e9] at hP
    exact hP
  · have c1 : n = 13 := c1
    refine xw.steps 1 (fun _ => rfl) ?_
    refine xw.ret rfl (fun _ => rfl) ?_
    show P (some (.int 0)) S
    have e9 : mgv n = 0 := by rw [c1]; decide
    rw [e9] at hP
    exact hP
  · have c1 : n = 14 := c1
    refine xw.steps 1 (fun _ => rfl) ?_
    refine xw.ret rfl (fun _ => rfl) ?_
    show P (some (.int (-1))) S
    have e9 : mgv n = (-1) := by rw [c1]; decide
    rw [e9] at hP
    exact hP
  · have c1 : n = 15 := c1
    refine xw.steps 1 (fun _ => rfl) ?_
    refine xw.ret rfl (fun _ => rfl) ?_
    show P (some (.int 0)) S
    have e9 : mgv n = 0 := by rw [c1]; decide
    rw [e9] at hP
    exact hP
  · have c1 : n = 16 := c1
    refine xw.steps 1 (fun _ => rfl) ?_
    refine xw.ret rfl (fun _ => rfl) ?_
    show P (some (.int 0)) S
    have e9 : mgv n = 0 := by rw [c1]; decide
    rw [e9] at hP
    exact hP
  · have c1 : n = 17 := c1
    refine xw.steps 1 (fun _ => rfl) ?_
    refine xw.ret rfl (fun _ => rfl) ?_
    show P (some (.int 0)) S
    have e9 : mgv n = 0 := by rw [c1]; decide
    rw [e9] at hP
    exact hP
  · have c1 : n = 18 := c1
    refine xw.steps 1 (fun _ => rfl) ?_
    refine xw.ret rfl (fun _ => rfl) ?_
    show P (some (.int 0)) S
    have e9 : mgv n = 0 := by rw [c1]; decide
    rw [e9] at hP
    exact hP
  · have c1 : n = 19 := c1
    refine xw.steps 1 (fun _ => rfl) ?_
    refine xw.ret rfl (fun _ => rfl) ?_
    show P (some (.int (-1))) S
    have e9 : mgv n = (-1) := by rw [c1]; decide
    rw [e9] at hP
    exact hP
  · have c1 : n = 20 := c1
    refine xw.steps 1 (fun _ => rfl) ?_
    refine xw.ret rfl (fun _ => rfl) ?_
    show P (some (.int (-3))) S
    have e9 : mgv n = (-3) := by rw [c1]; decide
    rw [e9] at hP
    exact hP
set_option maxHeartbeats 1000000 in
/-- RowCodeModel.compares(III)Z -/
theorem c_compares {k x y : Int32} (hP : P (some (.int (bI (a_holds k x y)))) S) : xw z NK g 134 0 [(0, .int k), (1, .int x), (2, .int y)] [] S P := by
  refine xw.steps 1 (fun _ => rfl) ?_
  refine xw.table rfl (fun c1 => ?_) ⟨fun c1 => ?_, fun c1 => ?_, fun c1 => ?_, fun c1 => ?_, fun c1 => ?_, trivial⟩
  · skip
    have c1_0 : ¬ k = 0 := fun e => by rw [e] at c1; revert c1; decide
    have c1_1 : ¬ k = 1 := fun e => by rw [e] at c1; revert c1; decide
    have c1_2 : ¬ k = 2 := fun e => by rw [e] at c1; revert c1; decide
    have c1_3 : ¬ k = 3 := fun e => by rw [e] at c1; revert c1; decide
    have c1_4 : ¬ k = 4 := fun e => by rw [e] at c1; revert c1; decide
    refine xw.steps 2 (fun _ => rfl) ?_
    refine xw.icmp rfl (fun c2 => ?_) (fun c2 => ?_)
    · have c2 := of_decide_eq_true c2
      refine xw.steps 1 (fun _ => rfl) ?_
      refine xw.ret rfl (fun _ => rfl) ?_
      show P (some (.int 0)) S
      have e9 : a_holds k x y = false := by clear hP; simp_all [a_holds]
      rw [e9] at hP
      exact hP
    · have c2 := of_decide_eq_false c2
      refine xw.steps 2 (fun _ => rfl) ?_
      refine xw.ret rfl (fun _ => rfl) ?_
      show P (some (.int 1)) S
      have e9 : a_holds k x y = true := by clear hP; simp_all [a_holds]
      rw [e9] at hP
      exact hP
  · have c1 : k = 0 := c1
    refine xw.steps 2 (fun _ => rfl) ?_
    refine xw.icmp rfl (fun c3 => ?_) (fun c3 => ?_)
    · have c3 := of_decide_eq_true c3
      refine xw.steps 1 (fun _ => rfl) ?_
      refine xw.ret rfl (fun _ => rfl) ?_
      show P (some (.int 0)) S
      have e9 : a_holds k x y = false := by clear hP; simp_all [a_holds]
      rw [e9] at hP
      exact hP
    · have c3 := Decidable.not_not.mp (of_decide_eq_false c3)
      refine xw.steps 2 (fun _ => rfl) ?_
      refine xw.ret rfl (fun _ => rfl) ?_
      show P (some (.int 1)) S
      have e9 : a_holds k x y = true := by clear hP; simp_all [a_holds]
      rw [e9] at hP
      exact hP
  · have c1 : k = 1 := c1
    refine xw.steps 2 (fun _ => rfl) ?_
    refine xw.icmp rfl (fun c4 => ?_) (fun c4 => ?_)
    · have c4 := of_decide_eq_true c4
      refine xw.steps 1 (fun _ => rfl) ?_
      refine xw.ret rfl (fun _ => rfl) ?_
      show P (some (.int 0)) S
      have e9 : a_holds k x y = false := by clear hP; simp_all [a_holds]
      rw [e9] at hP
      exact hP
    · have c4 := of_decide_eq_false c4
      refine xw.steps 2 (fun _ => rfl) ?_
      refine xw.ret rfl (fun _ => rfl) ?_
      show P (some (.int 1)) S
      have e9 : a_holds k x y = true := by clear hP; simp_all [a_holds]
      rw [e9] at hP
      exact hP
  · have c1 : k = 2 := c1
    refine xw.steps 2 (fun _ => rfl) ?_
    refine xw.icmp rfl (fun c5 => ?_) (fun c5 => ?_)
    · have c5 := Int32.not_lt.mpr (of_decide_eq_true c5)
      refine xw.steps 1 (fun _ => rfl) ?_
      refine xw.ret rfl (fun _ => rfl) ?_
      show P (some (.int 0)) S
      have e9 : a_holds k x y = false := by clear hP; simp_all [a_holds]
      rw [e9] at hP
      exact hP
    · have c5 := Int32.not_le.mp (of_decide_eq_false c5)
      refine xw.steps 2 (fun _ => rfl) ?_
      refine xw.ret rfl (fun _ => rfl) ?_
      show P (some (.int 1)) S
      have e9 : a_holds k x y = true := by clear hP; simp_all [a_holds]
      rw [e9] at hP
      exact hP
  · have c1 : k = 3 := c1
    refine xw.steps 2 (fun _ => rfl) ?_
    refine xw.icmp rfl (fun c6 => ?_) (fun c6 => ?_)
    · have c6 := of_decide_eq_true c6
      refine xw.steps 1 (fun _ => rfl) ?_
      refine xw.ret rfl (fun _ => rfl) ?_
      show P (some (.int 0)) S
      have e9 : a_holds k x y = false := by clear hP; simp_all [a_holds]
      rw [e9] at hP
      exact hP
    · have c6 := of_decide_eq_false c6
      refine xw.steps 2 (fun _ => rfl) ?_
      refine xw.ret rfl (fun _ => rfl) ?_
      show P (some (.int 1)) S
      have e9 : a_holds k x y = true := by clear hP; simp_all [a_holds]
      rw [e9] at hP
      exact hP
  · have c1 : k = 4 := c1
    refine xw.steps 2 (fun _ => rfl) ?_
    refine xw.icmp rfl (fun c7 => ?_) (fun c7 => ?_)
    · have c7 := Int32.not_lt.mpr (of_decide_eq_true c7)
      refine xw.steps 1 (fun _ => rfl) ?_
      refine xw.ret rfl (fun _ => rfl) ?_
      show P (some (.int 0)) S
      have e9 : a_holds k x y = false := by clear hP; simp_all [a_holds]
      rw [e9] at hP
      exact hP
    · have c7 := Int32.not_le.mp (of_decide_eq_false c7)
      refine xw.steps 2 (fun _ => rfl) ?_
      refine xw.ret rfl (fun _ => rfl) ?_
      show P (some (.int 1)) S
      have e9 : a_holds k x y = true := by clear hP; simp_all [a_holds]
      rw [e9] at hP
      exact hP
end MST
