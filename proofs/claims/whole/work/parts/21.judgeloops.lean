/-! JUDGE: the loops (walks by wip/gen21.py) -/
def j_fit1 (n k : Int32) : Bool := decide (¬ n < 0 ∧ n < 21 ∧ ((x_stat 0).2 n.toNatClampNeg < 0 ∨ (¬ k < 0 ∧ ¬ (x_stat 0).2 n.toNatClampNeg < k)))
def j_fit (xs ys : List Int32) : Nat → Nat → Bool
  | 0, _ => true
  | d + 1, i => j_fit1 (nAt xs (nI i)) (nAt ys (nI i)) && j_fit xs ys d (i + 1)
/-- places found, or none where a label is there twice -/
def j_once (xs ys : List Int32) : Nat → Nat → List Int32 → List Int32 × Bool
  | 0, _, pl => (pl, true)
  | d + 1, i, pl => if nAt xs (nI i) = 13 then (if nAt pl (nAt ys (nI i)) = -1 then j_once xs ys d (i + 1) (nSet pl (nAt ys (nI i)) (nI i)) else (pl, false)) else j_once xs ys d (i + 1) pl
def j_there1 (xs ys pl : List Int32) (i : Int32) : Bool := decide (¬ (t_goes (nAt xs i) = true ∧ nAt pl (nAt ys i) = -1) ∧ ¬ (nAt xs i = 18 ∧ ¬ nAt xs (i + 1) = 12))
def j_there (xs ys pl : List Int32) : Nat → Nat → Bool
  | 0, _ => true
  | d + 1, i => j_there1 xs ys pl (nI i) && j_there xs ys pl d (i + 1)
section XJ3
variable {z : Nat} {NK : List Nat} {g : mx_G} {S : xS} {P : Option Value → xS → Prop} {xs ys pl ds cm wt : List Int32} {jd rt : Int32}
set_option maxHeartbeats 1000000 in
/-- RowCode$Judge.argumentsFit()Z -/
theorem c_fit (hJ : jS z S xs ys pl ds cm wt jd rt) (hb : xs.length < 131072) (hP : P (some (.int (bI (j_fit xs ys xs.length 0)))) S) : xw z NK g 59 0 [(0, .ref (z + 6))] [] S P := by
  obtain ⟨h1, h2, h4, h6, h7, h9, h11, h13⟩ := id hJ
  have loop : ∀ (d i : Nat) (hi : i + d = xs.length) (hP : P (some (.int (bI (j_fit xs ys d i)))) S), xw z NK g 59 2 [(0, .ref (z + 6)), (1, .int (nI i))] [] S P := by
    intro d
    induction d with
    | zero =>
      intro i hi  hP
      refine xw.steps 2 (fun _ => rfl) ?_
      refine xw.getf (o := 6) rfl h6 rfl ?_
      show xw z NK g 59 7 [(0, .ref (z + 6)), (1, .int (nI i))] [.ref (z + 1), .int (nI i)] S P
      refine xw.callO (o := 1) rfl rfl rfl h1 rfl rfl (c_Code_size h1 h2 h4 (by decide) ?_)
      show xw z NK g 59 10 [(0, .ref (z + 6)), (1, .int (nI i))] [.int (nI xs.length), .int (nI i)] S P
      refine xw.icmp rfl (fun c1 => ?_) (fun c1 => ?_)
      · have c1 := Int32.not_lt.mpr (of_decide_eq_true c1)
        refine xw.steps 1 (fun _ => rfl) ?_
        refine xw.ret rfl (fun _ => rfl) ?_
        show P (some (.int 1)) S
        exact hP
      · have c1 := Int32.not_le.mp (of_decide_eq_false c1)
        show xw z NK g 59 13 [(0, .ref (z + 6)), (1, .int (nI i))] [] S P
        exact absurd c1 (nI_nlt (by omega) (by omega))
    | succ d ih =>
      intro i hi  hP
      refine xw.steps 2 (fun _ => rfl) ?_
      refine xw.getf (o := 6) rfl h6 rfl ?_
      show xw z NK g 59 7 [(0, .ref (z + 6)), (1, .int (nI i))] [.ref (z + 1), .int (nI i)] S P
      refine xw.callO (o := 1) rfl rfl rfl h1 rfl rfl (c_Code_size h1 h2 h4 (by decide) ?_)
      show xw z NK g 59 10 [(0, .ref (z + 6)), (1, .int (nI i))] [.int (nI xs.length), .int (nI i)] S P
      refine xw.icmp rfl (fun c1 => ?_) (fun c1 => ?_)
      · have c1 := Int32.not_lt.mpr (of_decide_eq_true c1)
        show xw z NK g 59 75 [(0, .ref (z + 6)), (1, .int (nI i))] [] S P
        exact absurd (nI_lt (by omega) (by omega)) c1
      · have c1 := Int32.not_le.mp (of_decide_eq_false c1)
        refine xw.steps 1 (fun _ => rfl) ?_
        refine xw.getf (o := 6) rfl h6 rfl ?_
        refine xw.steps 1 (fun _ => rfl) ?_
        show xw z NK g 59 18 [(0, .ref (z + 6)), (1, .int (nI i))] [.int (nI i), .ref (z + 1)] S P
        refine xw.callO (o := 1) rfl rfl rfl h1 rfl rfl (c_Code_numberAt h1 h2 h4 (by decide) ?_)
        show xw z NK g 59 21 [(0, .ref (z + 6)), (1, .int (nI i))] [.int (nAt xs (nI i))] S P
        refine xw.steps 2 (fun _ => rfl) ?_
        refine xw.if_ rfl (fun c2 => ?_) (fun c2 => ?_)
        · have c2 := of_decide_eq_true c2
          refine xw.steps 1 (fun _ => rfl) ?_
          refine xw.ret rfl (fun _ => rfl) ?_
          show P (some (.int 0)) S
          first | simpa [j_fit, j_fit1, bI, c1, c2] using hP | (simp_all [j_fit, j_fit1, bI])
        · have c2 := of_decide_eq_false c2
          refine xw.steps 1 (fun _ => rfl) ?_
          refine xw.gets rfl ?_
          refine xw.slen rfl (by decide) ?_
          show xw z NK g 59 31 [(0, .ref (z + 6)), (1, .int (nI i)), (2, .int (nAt xs (nI i)))] [.int 21, .int (nAt xs (nI i))] S P
          refine xw.icmp rfl (fun c3 => ?_) (fun c3 => ?_)
          · have c3 := of_decide_eq_true c3
            refine xw.steps 1 (fun _ => rfl) ?_
            refine xw.getf (o := 6) rfl h6 rfl ?_
            refine xw.steps 1 (fun _ => rfl) ?_
            show xw z NK g 59 41 [(0, .ref (z + 6)), (1, .int (nI i)), (2, .int (nAt xs (nI i)))] [.int (nI i), .ref (z + 1)] S P
            refine xw.callO (o := 1) rfl rfl rfl h1 rfl rfl (c_Code_argumentAt h1 h2 h4 (by decide) ?_)
            show xw z NK g 59 44 [(0, .ref (z + 6)), (1, .int (nI i)), (2, .int (nAt xs (nI i)))] [.int (nAt ys (nI i))] S P
            refine xw.steps 1 (fun _ => rfl) ?_
            refine xw.gets rfl ?_
            refine xw.steps 1 (fun _ => rfl) ?_
            refine xw.sald (k := 0) rfl (by decide) (x_in21 (by decide) (by assumption) (by assumption)) ?_
            refine xw.steps 2 (fun _ => rfl) ?_
            refine xw.if_ rfl (fun c4 => ?_) (fun c4 => ?_)
            · have c4 := of_decide_eq_true c4
              refine xw.steps 2 (fun _ => rfl) ?_
              show xw z NK g 59 2 [(0, .ref (z + 6)), (1, .int ((nI i) + 1)), (2, .int (nAt xs (nI i))), (3, .int (nAt ys (nI i))), (4, .int ((x_stat 0).2 (nAt xs (nI i)).toNatClampNeg))] [] S P
              rw [nI_1]
              refine xw.forget (lv := [(0, .ref (z + 6)), (1, .int (nI (i + 1)))]) lk_59 (show [0, 1].Nodup by decide) (show [0, 1, 2, 3, 4].Nodup by decide) (List.forall_mem_cons.mpr ⟨rfl, List.forall_mem_cons.mpr ⟨rfl, fun _ h => absurd h List.not_mem_nil⟩⟩) ?_
              exact ih (i + 1) (by omega) (by first | simpa [j_fit, j_fit1, c1, c2, c3, c4] using hP | simp_all [j_fit, j_fit1])
            · have c4 := of_decide_eq_false c4
              refine xw.steps 1 (fun _ => rfl) ?_
              refine xw.if_ rfl (fun c5 => ?_) (fun c5 => ?_)
              · have c5 := of_decide_eq_true c5
                refine xw.steps 1 (fun _ => rfl) ?_
                refine xw.ret rfl (fun _ => rfl) ?_
                show P (some (.int 0)) S
                first | simpa [j_fit, j_fit1, bI, c1, c2, c3, c4, c5] using hP | (simp_all [j_fit, j_fit1, bI])
              · have c5 := of_decide_eq_false c5
                refine xw.steps 2 (fun _ => rfl) ?_
                refine xw.icmp rfl (fun c6 => ?_) (fun c6 => ?_)
                · have c6 := Int32.not_lt.mpr (of_decide_eq_true c6)
                  refine xw.steps 2 (fun _ => rfl) ?_
                  show xw z NK g 59 2 [(0, .ref (z + 6)), (1, .int ((nI i) + 1)), (2, .int (nAt xs (nI i))), (3, .int (nAt ys (nI i))), (4, .int ((x_stat 0).2 (nAt xs (nI i)).toNatClampNeg))] [] S P
                  rw [nI_1]
                  refine xw.forget (lv := [(0, .ref (z + 6)), (1, .int (nI (i + 1)))]) lk_59 (show [0, 1].Nodup by decide) (show [0, 1, 2, 3, 4].Nodup by decide) (List.forall_mem_cons.mpr ⟨rfl, List.forall_mem_cons.mpr ⟨rfl, fun _ h => absurd h List.not_mem_nil⟩⟩) ?_
                  exact ih (i + 1) (by omega) (by first | simpa [j_fit, j_fit1, c1, c2, c3, c4, c5, c6] using hP | simp_all [j_fit, j_fit1])
                · have c6 := Int32.not_le.mp (of_decide_eq_false c6)
                  refine xw.steps 1 (fun _ => rfl) ?_
                  refine xw.ret rfl (fun _ => rfl) ?_
                  show P (some (.int 0)) S
                  first | simpa [j_fit, j_fit1, bI, c1, c2, c3, c4, c5, c6] using hP | (simp_all [j_fit, j_fit1, bI])
          · have c3 := of_decide_eq_false c3
            refine xw.steps 1 (fun _ => rfl) ?_
            refine xw.ret rfl (fun _ => rfl) ?_
            show P (some (.int 0)) S
            first | simpa [j_fit, j_fit1, bI, c1, c2, c3] using hP | (simp_all [j_fit, j_fit1, bI])
  refine xw.steps 2 (fun _ => rfl) ?_
  exact loop xs.length 0 (by omega) hP
set_option maxHeartbeats 1000000 in
/-- RowCode$Judge.labelsAreOnce()Z -/
theorem c_once (hJ : jS z S xs ys pl ds cm wt jd rt) (hb : xs.length < 131072) (hP : P (some (.int (bI (j_once xs ys xs.length 0 (List.replicate 100 (-1))).2))) (xu S 7 (.inl (j_once xs ys xs.length 0 (List.replicate 100 (-1))).1))) : xw z NK g 60 0 [(0, .ref (z + 6))] [] S P := by
  obtain ⟨h1, h2, h4, h6, h7, h9, h11, h13⟩ := id hJ
  have loop : ∀ (d i : Nat) (hi : i + d = xs.length) (pl2 : List Int32) (hP : P (some (.int (bI (j_once xs ys d i pl2).2))) (xu S 7 (.inl (j_once xs ys d i pl2).1))), xw z NK g 60 12 [(0, .ref (z + 6)), (1, .int (nI i))] [] (xu S 7 (.inl pl2)) P := by
    intro d
    induction d with
    | zero =>
      intro i hi pl2 hP
      refine xw.steps 2 (fun _ => rfl) ?_
      refine xw.getf (o := 6) rfl ((xu_ne _ _ (by decide)).trans h6) rfl ?_
      show xw z NK g 60 17 [(0, .ref (z + 6)), (1, .int (nI i))] [.ref (z + 1), .int (nI i)] (xu S 7 (.inl pl2)) P
      refine xw.callO (o := 1) rfl rfl rfl ((xu_ne _ _ (by decide)).trans h1) rfl rfl (c_Code_size ((xu_ne _ _ (by decide)).trans h1) ((xu_ne _ _ (by decide)).trans h2) ((xu_ne _ _ (by decide)).trans h4) (by decide) ?_)
      show xw z NK g 60 20 [(0, .ref (z + 6)), (1, .int (nI i))] [.int (nI xs.length), .int (nI i)] (xu S 7 (.inl pl2)) P
      refine xw.icmp rfl (fun c1 => ?_) (fun c1 => ?_)
      · have c1 := Int32.not_lt.mpr (of_decide_eq_true c1)
        refine xw.steps 1 (fun _ => rfl) ?_
        refine xw.ret rfl (fun _ => rfl) ?_
        show P (some (.int 1)) (xu S 7 (.inl pl2))
        exact hP
      · have c1 := Int32.not_le.mp (of_decide_eq_false c1)
        show xw z NK g 60 23 [(0, .ref (z + 6)), (1, .int (nI i))] [] (xu S 7 (.inl pl2)) P
        exact absurd c1 (nI_nlt (by omega) (by omega))
    | succ d ih =>
      intro i hi pl2 hP
      refine xw.steps 2 (fun _ => rfl) ?_
      refine xw.getf (o := 6) rfl ((xu_ne _ _ (by decide)).trans h6) rfl ?_
      show xw z NK g 60 17 [(0, .ref (z + 6)), (1, .int (nI i))] [.ref (z + 1), .int (nI i)] (xu S 7 (.inl pl2)) P
      refine xw.callO (o := 1) rfl rfl rfl ((xu_ne _ _ (by decide)).trans h1) rfl rfl (c_Code_size ((xu_ne _ _ (by decide)).trans h1) ((xu_ne _ _ (by decide)).trans h2) ((xu_ne _ _ (by decide)).trans h4) (by decide) ?_)
      show xw z NK g 60 20 [(0, .ref (z + 6)), (1, .int (nI i))] [.int (nI xs.length), .int (nI i)] (xu S 7 (.inl pl2)) P
      refine xw.icmp rfl (fun c1 => ?_) (fun c1 => ?_)
      · have c1 := Int32.not_lt.mpr (of_decide_eq_true c1)
        show xw z NK g 60 74 [(0, .ref (z + 6)), (1, .int (nI i))] [] (xu S 7 (.inl pl2)) P
        exact absurd (nI_lt (by omega) (by omega)) c1
      · have c1 := Int32.not_le.mp (of_decide_eq_false c1)
        refine xw.steps 1 (fun _ => rfl) ?_
        refine xw.getf (o := 6) rfl ((xu_ne _ _ (by decide)).trans h6) rfl ?_
        refine xw.steps 1 (fun _ => rfl) ?_
        show xw z NK g 60 28 [(0, .ref (z + 6)), (1, .int (nI i))] [.int (nI i), .ref (z + 1)] (xu S 7 (.inl pl2)) P
        refine xw.callO (o := 1) rfl rfl rfl ((xu_ne _ _ (by decide)).trans h1) rfl rfl (c_Code_numberAt ((xu_ne _ _ (by decide)).trans h1) ((xu_ne _ _ (by decide)).trans h2) ((xu_ne _ _ (by decide)).trans h4) (by decide) ?_)
        show xw z NK g 60 31 [(0, .ref (z + 6)), (1, .int (nI i))] [.int (nAt xs (nI i))] (xu S 7 (.inl pl2)) P
        refine xw.steps 1 (fun _ => rfl) ?_
        refine xw.icmp rfl (fun c2 => ?_) (fun c2 => ?_)
        · have c2 := of_decide_eq_true c2
          refine xw.steps 2 (fun _ => rfl) ?_
          show xw z NK g 60 12 [(0, .ref (z + 6)), (1, .int ((nI i) + 1))] [] (xu S 7 (.inl pl2)) P
          rw [nI_1]
          exact ih (i + 1) (by omega) pl2 (by first | simpa [j_once, c1, c2] using hP | simp_all [j_once])
        · have c2 := Decidable.not_not.mp (of_decide_eq_false c2)
          refine xw.steps 1 (fun _ => rfl) ?_
          refine xw.getf (o := 6) rfl ((xu_ne _ _ (by decide)).trans h6) rfl ?_
          refine xw.steps 1 (fun _ => rfl) ?_
          show xw z NK g 60 41 [(0, .ref (z + 6)), (1, .int (nI i))] [.int (nI i), .ref (z + 1)] (xu S 7 (.inl pl2)) P
          refine xw.callO (o := 1) rfl rfl rfl ((xu_ne _ _ (by decide)).trans h1) rfl rfl (c_Code_argumentAt ((xu_ne _ _ (by decide)).trans h1) ((xu_ne _ _ (by decide)).trans h2) ((xu_ne _ _ (by decide)).trans h4) (by decide) ?_)
          show xw z NK g 60 44 [(0, .ref (z + 6)), (1, .int (nI i))] [.int (nAt ys (nI i))] (xu S 7 (.inl pl2)) P
          refine xw.steps 2 (fun _ => rfl) ?_
          refine xw.getf (o := 6) rfl ((xu_ne _ _ (by decide)).trans h6) rfl ?_
          refine xw.steps 1 (fun _ => rfl) ?_
          show xw z NK g 60 50 [(0, .ref (z + 6)), (1, .int (nI i)), (2, .int (nAt ys (nI i)))] [.int (nAt ys (nI i)), .ref (z + 7)] (xu S 7 (.inl pl2)) P
          refine xw.callN (o := 7) rfl rfl rfl (xu_self _ _ _) rfl rfl (c_at (xu_self _ _ _) ?_)
          show xw z NK g 60 53 [(0, .ref (z + 6)), (1, .int (nI i)), (2, .int (nAt ys (nI i)))] [.int (nAt pl2 (nAt ys (nI i)))] (xu S 7 (.inl pl2)) P
          refine xw.steps 1 (fun _ => rfl) ?_
          refine xw.icmp rfl (fun c3 => ?_) (fun c3 => ?_)
          · have c3 := of_decide_eq_true c3
            refine xw.steps 1 (fun _ => rfl) ?_
            refine xw.getf (o := 6) rfl ((xu_ne _ _ (by decide)).trans h6) rfl ?_
            refine xw.steps 2 (fun _ => rfl) ?_
            show xw z NK g 60 65 [(0, .ref (z + 6)), (1, .int (nI i)), (2, .int (nAt ys (nI i)))] [.int (nI i), .int (nAt ys (nI i)), .ref (z + 7)] (xu S 7 (.inl pl2)) P
            refine xw.callN (o := 7) rfl rfl rfl (xu_self _ _ _) rfl rfl (c_change (xu_self _ _ _) ?_)
            show xw z NK g 60 68 [(0, .ref (z + 6)), (1, .int (nI i)), (2, .int (nAt ys (nI i)))] [] (xu (xu S 7 (.inl pl2)) 7 (.inl (nSet pl2 (nAt ys (nI i)) (nI i)))) P
            rw [xu_xu]
            refine xw.steps 2 (fun _ => rfl) ?_
            show xw z NK g 60 12 [(0, .ref (z + 6)), (1, .int ((nI i) + 1)), (2, .int (nAt ys (nI i)))] [] (xu S 7 (.inl (nSet pl2 (nAt ys (nI i)) (nI i)))) P
            rw [nI_1]
            refine xw.forget (lv := [(0, .ref (z + 6)), (1, .int (nI (i + 1)))]) lk_60 (show [0, 1].Nodup by decide) (show [0, 1, 2].Nodup by decide) (List.forall_mem_cons.mpr ⟨rfl, List.forall_mem_cons.mpr ⟨rfl, fun _ h => absurd h List.not_mem_nil⟩⟩) ?_
            exact ih (i + 1) (by omega) (nSet pl2 (nAt ys (nI i)) (nI i)) (by first | simpa [j_once, c1, c2, c3] using hP | simp_all [j_once])
          · have c3 := of_decide_eq_false c3
            refine xw.steps 1 (fun _ => rfl) ?_
            refine xw.ret rfl (fun _ => rfl) ?_
            show P (some (.int 0)) (xu S 7 (.inl pl2))
            first | simpa [j_once, bI, c1, c2, c3] using hP | (simp_all [j_once, bI])
  refine xw.steps 1 (fun _ => rfl) ?_
  refine xw.getf (o := 6) rfl h6 rfl ?_
  refine xw.steps 2 (fun _ => rfl) ?_
  show xw z NK g 60 7 [(0, .ref (z + 6))] [.int (-1), .int 100, .ref (z + 7)] S P
  refine xw.callN (o := 7) rfl rfl rfl h7 rfl rfl (c_refill h7 (by decide) ?_)
  show xw z NK g 60 10 [(0, .ref (z + 6))] [] (xu S 7 (.inl (List.replicate (100 : Int32).toNatClampNeg (-1)))) P
  refine xw.steps 2 (fun _ => rfl) ?_
  show xw z NK g 60 12 [(0, .ref (z + 6)), (1, .int 0)] [] (xu S 7 (.inl (List.replicate (100 : Int32).toNatClampNeg (-1)))) P
  exact loop xs.length 0 (by omega) _ hP
set_option maxHeartbeats 1000000 in
/-- RowCode$Judge.goalsAreThere()Z -/
theorem c_there (hJ : jS z S xs ys pl ds cm wt jd rt) (hb : xs.length < 131072) (hP : P (some (.int (bI (j_there xs ys pl xs.length 0)))) S) : xw z NK g 61 0 [(0, .ref (z + 6))] [] S P := by
  obtain ⟨h1, h2, h4, h6, h7, h9, h11, h13⟩ := id hJ
  have loop : ∀ (d i : Nat) (hi : i + d = xs.length) (hP : P (some (.int (bI (j_there xs ys pl d i)))) S), xw z NK g 61 2 [(0, .ref (z + 6)), (1, .int (nI i))] [] S P := by
    intro d
    induction d with
    | zero =>
      intro i hi  hP
      refine xw.steps 2 (fun _ => rfl) ?_
      refine xw.getf (o := 6) rfl h6 rfl ?_
      show xw z NK g 61 7 [(0, .ref (z + 6)), (1, .int (nI i))] [.ref (z + 1), .int (nI i)] S P
      refine xw.callO (o := 1) rfl rfl rfl h1 rfl rfl (c_Code_size h1 h2 h4 (by decide) ?_)
      show xw z NK g 61 10 [(0, .ref (z + 6)), (1, .int (nI i))] [.int (nI xs.length), .int (nI i)] S P
      refine xw.icmp rfl (fun c1 => ?_) (fun c1 => ?_)
      · have c1 := Int32.not_lt.mpr (of_decide_eq_true c1)
        refine xw.steps 1 (fun _ => rfl) ?_
        refine xw.ret rfl (fun _ => rfl) ?_
        show P (some (.int 1)) S
        exact hP
      · have c1 := Int32.not_le.mp (of_decide_eq_false c1)
        show xw z NK g 61 13 [(0, .ref (z + 6)), (1, .int (nI i))] [] S P
        exact absurd c1 (nI_nlt (by omega) (by omega))
    | succ d ih =>
      intro i hi  hP
      refine xw.steps 2 (fun _ => rfl) ?_
      refine xw.getf (o := 6) rfl h6 rfl ?_
      show xw z NK g 61 7 [(0, .ref (z + 6)), (1, .int (nI i))] [.ref (z + 1), .int (nI i)] S P
      refine xw.callO (o := 1) rfl rfl rfl h1 rfl rfl (c_Code_size h1 h2 h4 (by decide) ?_)
      show xw z NK g 61 10 [(0, .ref (z + 6)), (1, .int (nI i))] [.int (nI xs.length), .int (nI i)] S P
      refine xw.icmp rfl (fun c1 => ?_) (fun c1 => ?_)
      · have c1 := Int32.not_lt.mpr (of_decide_eq_true c1)
        show xw z NK g 61 79 [(0, .ref (z + 6)), (1, .int (nI i))] [] S P
        exact absurd (nI_lt (by omega) (by omega)) c1
      · have c1 := Int32.not_le.mp (of_decide_eq_false c1)
        refine xw.steps 1 (fun _ => rfl) ?_
        refine xw.getf (o := 6) rfl h6 rfl ?_
        refine xw.steps 1 (fun _ => rfl) ?_
        show xw z NK g 61 18 [(0, .ref (z + 6)), (1, .int (nI i))] [.int (nI i), .ref (z + 1)] S P
        refine xw.callO (o := 1) rfl rfl rfl h1 rfl rfl (c_Code_numberAt h1 h2 h4 (by decide) ?_)
        show xw z NK g 61 21 [(0, .ref (z + 6)), (1, .int (nI i))] [.int (nAt xs (nI i))] S P
        refine xw.steps 2 (fun _ => rfl) ?_
        show xw z NK g 61 23 [(0, .ref (z + 6)), (1, .int (nI i)), (2, .int (nAt xs (nI i)))] [.int (nAt xs (nI i))] S P
        refine xw.callS rfl rfl rfl rfl rfl (c_goesToLabel ?_)
        show xw z NK g 61 26 [(0, .ref (z + 6)), (1, .int (nI i)), (2, .int (nAt xs (nI i)))] [.int (bI (t_goes (nAt xs (nI i))))] S P
        refine xw.if_ rfl (fun c2 => ?_) (fun c2 => ?_)
        · have c2 := bI_eq0 (of_decide_eq_true c2)
          refine xw.steps 2 (fun _ => rfl) ?_
          refine xw.icmp rfl (fun c3 => ?_) (fun c3 => ?_)
          · have c3 := of_decide_eq_true c3
            refine xw.steps 2 (fun _ => rfl) ?_
            show xw z NK g 61 2 [(0, .ref (z + 6)), (1, .int ((nI i) + 1)), (2, .int (nAt xs (nI i)))] [] S P
            rw [nI_1]
            refine xw.forget (lv := [(0, .ref (z + 6)), (1, .int (nI (i + 1)))]) lk_61 (show [0, 1].Nodup by decide) (show [0, 1, 2].Nodup by decide) (List.forall_mem_cons.mpr ⟨rfl, List.forall_mem_cons.mpr ⟨rfl, fun _ h => absurd h List.not_mem_nil⟩⟩) ?_
            exact ih (i + 1) (by omega) (by first | simpa [j_there, j_there1, c1, c2, c3] using hP | simp_all [j_there, j_there1])
          · have c3 := Decidable.not_not.mp (of_decide_eq_false c3)
            refine xw.steps 1 (fun _ => rfl) ?_
            refine xw.getf (o := 6) rfl h6 rfl ?_
            refine xw.steps 3 (fun _ => rfl) ?_
            show xw z NK g 61 63 [(0, .ref (z + 6)), (1, .int (nI i)), (2, .int (nAt xs (nI i)))] [.int ((nI i) + 1), .ref (z + 1)] S P
            refine xw.callO (o := 1) rfl rfl rfl h1 rfl rfl (c_Code_numberAt h1 h2 h4 (by decide) ?_)
            show xw z NK g 61 66 [(0, .ref (z + 6)), (1, .int (nI i)), (2, .int (nAt xs (nI i)))] [.int (nAt xs ((nI i) + 1))] S P
            refine xw.steps 1 (fun _ => rfl) ?_
            refine xw.icmp rfl (fun c4 => ?_) (fun c4 => ?_)
            · have c4 := of_decide_eq_true c4
              refine xw.steps 2 (fun _ => rfl) ?_
              show xw z NK g 61 2 [(0, .ref (z + 6)), (1, .int ((nI i) + 1)), (2, .int (nAt xs (nI i)))] [] S P
              rw [nI_1]
              refine xw.forget (lv := [(0, .ref (z + 6)), (1, .int (nI (i + 1)))]) lk_61 (show [0, 1].Nodup by decide) (show [0, 1, 2].Nodup by decide) (List.forall_mem_cons.mpr ⟨rfl, List.forall_mem_cons.mpr ⟨rfl, fun _ h => absurd h List.not_mem_nil⟩⟩) ?_
              exact ih (i + 1) (by omega) (by first | simpa [j_there, j_there1, c1, c2, c3, c4] using hP | simp_all [j_there, j_there1])
            · have c4 := of_decide_eq_false c4
              refine xw.steps 1 (fun _ => rfl) ?_
              refine xw.ret rfl (fun _ => rfl) ?_
              show P (some (.int 0)) S
              first | simpa [j_there, j_there1, bI, c1, c2, c3, c4] using hP | (simp_all [j_there, j_there1, bI])
        · have c2 := bI_ne0 (of_decide_eq_false c2)
          refine xw.steps 1 (fun _ => rfl) ?_
          refine xw.getf (o := 6) rfl h6 rfl ?_
          refine xw.steps 1 (fun _ => rfl) ?_
          refine xw.getf (o := 6) rfl h6 rfl ?_
          refine xw.steps 1 (fun _ => rfl) ?_
          show xw z NK g 61 38 [(0, .ref (z + 6)), (1, .int (nI i)), (2, .int (nAt xs (nI i)))] [.int (nI i), .ref (z + 1), .ref (z + 7)] S P
          refine xw.callO (o := 1) rfl rfl rfl h1 rfl rfl (c_Code_argumentAt h1 h2 h4 (by decide) ?_)
          show xw z NK g 61 41 [(0, .ref (z + 6)), (1, .int (nI i)), (2, .int (nAt xs (nI i)))] [.int (nAt ys (nI i)), .ref (z + 7)] S P
          show xw z NK g 61 41 [(0, .ref (z + 6)), (1, .int (nI i)), (2, .int (nAt xs (nI i)))] [.int (nAt ys (nI i)), .ref (z + 7)] S P
          refine xw.callN (o := 7) rfl rfl rfl h7 rfl rfl (c_at h7 ?_)
          show xw z NK g 61 44 [(0, .ref (z + 6)), (1, .int (nI i)), (2, .int (nAt xs (nI i)))] [.int (nAt pl (nAt ys (nI i)))] S P
          refine xw.steps 1 (fun _ => rfl) ?_
          refine xw.icmp rfl (fun c5 => ?_) (fun c5 => ?_)
          · have c5 := of_decide_eq_true c5
            refine xw.steps 2 (fun _ => rfl) ?_
            refine xw.icmp rfl (fun c6 => ?_) (fun c6 => ?_)
            · have c6 := of_decide_eq_true c6
              refine xw.steps 2 (fun _ => rfl) ?_
              show xw z NK g 61 2 [(0, .ref (z + 6)), (1, .int ((nI i) + 1)), (2, .int (nAt xs (nI i)))] [] S P
              rw [nI_1]
              refine xw.forget (lv := [(0, .ref (z + 6)), (1, .int (nI (i + 1)))]) lk_61 (show [0, 1].Nodup by decide) (show [0, 1, 2].Nodup by decide) (List.forall_mem_cons.mpr ⟨rfl, List.forall_mem_cons.mpr ⟨rfl, fun _ h => absurd h List.not_mem_nil⟩⟩) ?_
              exact ih (i + 1) (by omega) (by first | simpa [j_there, j_there1, c1, c2, c5, c6] using hP | simp_all [j_there, j_there1])
            · have c6 := Decidable.not_not.mp (of_decide_eq_false c6)
              refine xw.steps 1 (fun _ => rfl) ?_
              refine xw.getf (o := 6) rfl h6 rfl ?_
              refine xw.steps 3 (fun _ => rfl) ?_
              show xw z NK g 61 63 [(0, .ref (z + 6)), (1, .int (nI i)), (2, .int (nAt xs (nI i)))] [.int ((nI i) + 1), .ref (z + 1)] S P
              refine xw.callO (o := 1) rfl rfl rfl h1 rfl rfl (c_Code_numberAt h1 h2 h4 (by decide) ?_)
              show xw z NK g 61 66 [(0, .ref (z + 6)), (1, .int (nI i)), (2, .int (nAt xs (nI i)))] [.int (nAt xs ((nI i) + 1))] S P
              refine xw.steps 1 (fun _ => rfl) ?_
              refine xw.icmp rfl (fun c7 => ?_) (fun c7 => ?_)
              · have c7 := of_decide_eq_true c7
                refine xw.steps 2 (fun _ => rfl) ?_
                show xw z NK g 61 2 [(0, .ref (z + 6)), (1, .int ((nI i) + 1)), (2, .int (nAt xs (nI i)))] [] S P
                rw [nI_1]
                refine xw.forget (lv := [(0, .ref (z + 6)), (1, .int (nI (i + 1)))]) lk_61 (show [0, 1].Nodup by decide) (show [0, 1, 2].Nodup by decide) (List.forall_mem_cons.mpr ⟨rfl, List.forall_mem_cons.mpr ⟨rfl, fun _ h => absurd h List.not_mem_nil⟩⟩) ?_
                exact ih (i + 1) (by omega) (by first | simpa [j_there, j_there1, c1, c2, c5, c6, c7] using hP | simp_all [j_there, j_there1])
              · have c7 := of_decide_eq_false c7
                refine xw.steps 1 (fun _ => rfl) ?_
                refine xw.ret rfl (fun _ => rfl) ?_
                show P (some (.int 0)) S
                first | simpa [j_there, j_there1, bI, c1, c2, c5, c6, c7] using hP | (simp_all [j_there, j_there1, bI])
          · have c5 := Decidable.not_not.mp (of_decide_eq_false c5)
            refine xw.steps 1 (fun _ => rfl) ?_
            refine xw.ret rfl (fun _ => rfl) ?_
            show P (some (.int 0)) S
            first | simpa [j_there, j_there1, bI, c1, c2, c5] using hP | (simp_all [j_there, j_there1, bI])
  refine xw.steps 2 (fun _ => rfl) ?_
  show xw z NK g 61 2 [(0, .ref (z + 6)), (1, .int 0)] [] S P
  exact loop xs.length 0 (by omega) hP
set_option maxHeartbeats 1000000 in
/-- RowCode$Judge.isReached(I)Z -/
theorem c_isReached (hJ : jS z S xs ys pl ds cm wt jd rt) {i : Int32} (hP : P (some (.int (bI (decide (¬ nAt ds i = -1))))) S) : xw z NK g 57 0 [(0, .ref (z + 6)), (1, .int i)] [] S P := by
  obtain ⟨h1, h2, h4, h6, h7, h9, h11, h13⟩ := id hJ
  refine xw.steps 1 (fun _ => rfl) ?_
  refine xw.getf (o := 6) rfl h6 rfl ?_
  refine xw.steps 1 (fun _ => rfl) ?_
  show xw z NK g 57 5 [(0, .ref (z + 6)), (1, .int i)] [.int i, .ref (z + 9)] S P
  refine xw.callN (o := 9) rfl rfl rfl h9 rfl rfl (c_at h9 ?_)
  show xw z NK g 57 8 [(0, .ref (z + 6)), (1, .int i)] [.int (nAt ds i)] S P
  refine xw.steps 1 (fun _ => rfl) ?_
  refine xw.icmp rfl (fun c1 => ?_) (fun c1 => ?_)
  · have c1 := of_decide_eq_true c1
    refine xw.steps 1 (fun _ => rfl) ?_
    refine xw.ret rfl (fun _ => rfl) ?_
    show P (some (.int 0)) S
    first | simpa [bI, c1] using hP | simp_all [bI]
  · have c1 := of_decide_eq_false c1
    refine xw.steps 2 (fun _ => rfl) ?_
    refine xw.ret rfl (fun _ => rfl) ?_
    show P (some (.int 1)) S
    first | simpa [bI, c1] using hP | simp_all [bI]
set_option maxHeartbeats 1000000 in
/-- RowCode$Judge.depthAtLabel(I)I -/
theorem c_depthAtLabel (hJ : jS z S xs ys pl ds cm wt jd rt) {l : Int32} (hP : P (some (.int (nAt ds (nAt pl l)))) S) : xw z NK g 58 0 [(0, .ref (z + 6)), (1, .int l)] [] S P := by
  obtain ⟨h1, h2, h4, h6, h7, h9, h11, h13⟩ := id hJ
  refine xw.steps 1 (fun _ => rfl) ?_
  refine xw.getf (o := 6) rfl h6 rfl ?_
  refine xw.steps 1 (fun _ => rfl) ?_
  refine xw.getf (o := 6) rfl h6 rfl ?_
  refine xw.steps 1 (fun _ => rfl) ?_
  show xw z NK g 58 9 [(0, .ref (z + 6)), (1, .int l)] [.int l, .ref (z + 7), .ref (z + 9)] S P
  refine xw.callN (o := 7) rfl rfl rfl h7 rfl rfl (c_at h7 ?_)
  show xw z NK g 58 12 [(0, .ref (z + 6)), (1, .int l)] [.int (nAt pl l), .ref (z + 9)] S P
  show xw z NK g 58 12 [(0, .ref (z + 6)), (1, .int l)] [.int (nAt pl l), .ref (z + 9)] S P
  refine xw.callN (o := 9) rfl rfl rfl h9 rfl rfl (c_at h9 ?_)
  show xw z NK g 58 15 [(0, .ref (z + 6)), (1, .int l)] [.int (nAt ds (nAt pl l))] S P
  refine xw.ret rfl (fun _ => rfl) ?_
  show P (some (.int (nAt ds (nAt pl l)))) S
  exact hP
end XJ3
def j_free (xs ds : List Int32) (i : Int32) : Bool := decide (¬ nAt ds i = -1 ∧ ¬ nAt xs i = 15)
def j_inc (xs ds cm : List Int32) (i : Int32) : List Int32 := if j_free xs ds i = true then nSet cm i (nAt cm i + 1) else cm
def j_dec (xs ds cm : List Int32) (i : Int32) : List Int32 := if j_free xs ds i = true then nSet cm i (nAt cm i - 1) else cm
def j_decW (xs ds cm wt : List Int32) (i : Int32) : List Int32 := if j_free xs ds i = true ∧ nAt (j_dec xs ds cm i) i = 0 then wt ++ [i] else wt
theorem j_decW_len (xs ds cm wt : List Int32) (i : Int32) : (j_decW xs ds cm wt i).length ≤ wt.length + 1 := by
  unfold j_decW
  split <;> simp
theorem j_leave_len (xs ys pl ds wt : List Int32) (i : Int32) : (j_leave xs ys pl ds wt i).2.1.length ≤ wt.length + 2 := by
  unfold j_leave
  have h1 := fun ds i => j_arrW_len ds wt i
  split
  · dsimp only
    split
    · simp
    · have h2 : ∀ ds1 q, (j_arrW ds1 (if j_next xs i = -1 then wt else j_arrW ds wt (j_next xs i)) q).length ≤ wt.length + 2 := by
        intro ds1 q
        refine Nat.le_trans (j_arrW_len _ _ _) ?_
        split
        · omega
        · have := h1 ds (j_next xs i); omega
      have h3 : (if j_next xs i = -1 then wt else j_arrW ds wt (j_next xs i)).length ≤ wt.length + 2 := by
        split
        · omega
        · have := h1 ds (j_next xs i); omega
      split
      · exact h3
      · split
        · exact h3
        · exact h2 _ _
  · simp
def j_ways (xs ys pl : List Int32) : Nat → List Int32 → List Int32 → List Int32 × List Int32 × Bool
  | 0, ds, wt => (ds, wt, true)
  | d + 1, ds, wt => if 0 < nI wt.length then
      (if (j_leave xs ys pl ds wt.dropLast (nLast wt)).2.2 = true then j_ways xs ys pl d (j_leave xs ys pl ds wt.dropLast (nLast wt)).1 (j_leave xs ys pl ds wt.dropLast (nLast wt)).2.1 else ((j_leave xs ys pl ds wt.dropLast (nLast wt)).1, (j_leave xs ys pl ds wt.dropLast (nLast wt)).2.1, false))
      else (ds, wt, true)
def j_cnt (xs ys pl ds : List Int32) : Nat → Nat → List Int32 → Int32 → List Int32 × Int32
  | 0, _, cm, lf => (cm, lf)
  | d + 1, i, cm, lf => if j_free xs ds (nI i) = true then j_cnt xs ys pl ds d (i + 1) (j_inc xs ds (j_inc xs ds cm (j_next xs (nI i))) (j_goal xs ys pl (nI i))) (lf + 1) else j_cnt xs ys pl ds d (i + 1) cm lf
def j_roots (xs ds cm : List Int32) : Nat → Nat → List Int32 → List Int32
  | 0, _, wt => wt
  | d + 1, i, wt => if j_free xs ds (nI i) = true ∧ nAt cm (nI i) = 0 then j_roots xs ds cm d (i + 1) (wt ++ [nI i]) else j_roots xs ds cm d (i + 1) wt
def j_peel (xs ys pl ds : List Int32) : Nat → List Int32 → List Int32 → Int32 → List Int32 × List Int32 × Int32
  | 0, cm, wt, lf => (cm, wt, lf)
  | d + 1, cm, wt, lf => if 0 < nI wt.length then
      (let i := nLast wt
       let cm1 := j_dec xs ds cm (j_next xs i)
       let wt1 := j_decW xs ds cm wt.dropLast (j_next xs i)
       j_peel xs ys pl ds d (j_dec xs ds cm1 (j_goal xs ys pl i)) (j_decW xs ds cm1 wt1 (j_goal xs ys pl i)) (lf + (-1)))
      else (cm, wt, lf)
section XJ4
variable {z : Nat} {NK : List Nat} {g : mx_G} {S : xS} {P : Option Value → xS → Prop} {xs ys pl ds cm wt : List Int32} {jd rt : Int32}
set_option maxHeartbeats 1000000 in
/-- RowCode$Judge.isFree(I)Z -/
theorem c_isFree (hJ : jS z S xs ys pl ds cm wt jd rt) {i : Int32} (hP : P (some (.int (bI (j_free xs ds i)))) S) : xw z NK g 68 0 [(0, .ref (z + 6)), (1, .int i)] [] S P := by
  obtain ⟨h1, h2, h4, h6, h7, h9, h11, h13⟩ := id hJ
  refine xw.steps 1 (fun _ => rfl) ?_
  refine xw.getf (o := 6) rfl h6 rfl ?_
  refine xw.steps 1 (fun _ => rfl) ?_
  show xw z NK g 68 5 [(0, .ref (z + 6)), (1, .int i)] [.int i, .ref (z + 9)] S P
  refine xw.callN (o := 9) rfl rfl rfl h9 rfl rfl (c_at h9 ?_)
  show xw z NK g 68 8 [(0, .ref (z + 6)), (1, .int i)] [.int (nAt ds i)] S P
  refine xw.steps 1 (fun _ => rfl) ?_
  refine xw.icmp rfl (fun c1 => ?_) (fun c1 => ?_)
  · have c1 := of_decide_eq_true c1
    refine xw.steps 1 (fun _ => rfl) ?_
    refine xw.ret rfl (fun _ => rfl) ?_
    show P (some (.int 0)) S
    first | simpa [bI, j_free, c1] using hP | simp_all [bI, j_free]
  · have c1 := of_decide_eq_false c1
    refine xw.steps 1 (fun _ => rfl) ?_
    refine xw.getf (o := 6) rfl h6 rfl ?_
    refine xw.steps 1 (fun _ => rfl) ?_
    show xw z NK g 68 17 [(0, .ref (z + 6)), (1, .int i)] [.int i, .ref (z + 1)] S P
    refine xw.callO (o := 1) rfl rfl rfl h1 rfl rfl (c_Code_numberAt h1 h2 h4 (by decide) ?_)
    show xw z NK g 68 20 [(0, .ref (z + 6)), (1, .int i)] [.int (nAt xs i)] S P
    refine xw.steps 1 (fun _ => rfl) ?_
    refine xw.icmp rfl (fun c2 => ?_) (fun c2 => ?_)
    · have c2 := of_decide_eq_true c2
      refine xw.steps 1 (fun _ => rfl) ?_
      refine xw.ret rfl (fun _ => rfl) ?_
      show P (some (.int 0)) S
      first | simpa [bI, j_free, c1, c2] using hP | simp_all [bI, j_free]
    · have c2 := of_decide_eq_false c2
      refine xw.steps 2 (fun _ => rfl) ?_
      refine xw.ret rfl (fun _ => rfl) ?_
      show P (some (.int 1)) S
      first | simpa [bI, j_free, c1, c2] using hP | simp_all [bI, j_free]
set_option maxHeartbeats 1000000 in
/-- RowCode$Judge.countComer(I)V -/
theorem c_countComer (hJ : jS z S xs ys pl ds cm wt jd rt) {i : Int32} (hP : P none (xu S 11 (.inl (j_inc xs ds cm i)))) : xw z NK g 69 0 [(0, .ref (z + 6)), (1, .int i)] [] S P := by
  obtain ⟨h1, h2, h4, h6, h7, h9, h11, h13⟩ := id hJ
  refine xw.steps 2 (fun _ => rfl) ?_
  show xw z NK g 69 2 [(0, .ref (z + 6)), (1, .int i)] [.int i, .ref (z + 6)] S P
  refine xw.callO (o := 6) rfl rfl rfl h6 rfl rfl (c_isFree ⟨h1, h2, h4, h6, h7, h9, h11, h13⟩ ?_)
  show xw z NK g 69 5 [(0, .ref (z + 6)), (1, .int i)] [.int (bI (j_free xs ds i))] S P
  refine xw.if_ rfl (fun c1 => ?_) (fun c1 => ?_)
  · have c1 := bI_eq0 (of_decide_eq_true c1)
    refine xw.ret rfl (fun _ => rfl) ?_
    show P none S
    first | simpa [j_inc, xu_same h11, c1] using hP | simp_all [j_inc, xu_same h11]
  · have c1 := bI_ne0 (of_decide_eq_false c1)
    refine xw.steps 1 (fun _ => rfl) ?_
    refine xw.getf (o := 6) rfl h6 rfl ?_
    refine xw.steps 2 (fun _ => rfl) ?_
    refine xw.getf (o := 6) rfl h6 rfl ?_
    refine xw.steps 1 (fun _ => rfl) ?_
    show xw z NK g 69 18 [(0, .ref (z + 6)), (1, .int i)] [.int i, .ref (z + 11), .int i, .ref (z + 11)] S P
    refine xw.callN (o := 11) rfl rfl rfl h11 rfl rfl (c_at h11 ?_)
    show xw z NK g 69 21 [(0, .ref (z + 6)), (1, .int i)] [.int (nAt cm i), .int i, .ref (z + 11)] S P
    refine xw.steps 2 (fun _ => rfl) ?_
    show xw z NK g 69 23 [(0, .ref (z + 6)), (1, .int i)] [.int ((nAt cm i) + 1), .int i, .ref (z + 11)] S P
    refine xw.callN (o := 11) rfl rfl rfl h11 rfl rfl (c_change h11 ?_)
    show xw z NK g 69 26 [(0, .ref (z + 6)), (1, .int i)] [] (xu S 11 (.inl (nSet cm i ((nAt cm i) + 1)))) P
    refine xw.ret rfl (fun _ => rfl) ?_
    show P none (xu S 11 (.inl (nSet cm i ((nAt cm i) + 1))))
    first | simpa [j_inc, xu_same h11, c1] using hP | simp_all [j_inc, xu_same h11]
set_option maxHeartbeats 1000000 in
/-- RowCode$Judge.loseComer(I)V -/
theorem c_loseComer (hJ : jS z S xs ys pl ds cm wt jd rt) (hw : wt.length < 131072) {i : Int32} (hP : P none (xu (xu S 11 (.inl (j_dec xs ds cm i))) 13 (.inl (j_decW xs ds cm wt i)))) : xw z NK g 70 0 [(0, .ref (z + 6)), (1, .int i)] [] S P := by
  obtain ⟨h1, h2, h4, h6, h7, h9, h11, h13⟩ := id hJ
  refine xw.steps 2 (fun _ => rfl) ?_
  show xw z NK g 70 2 [(0, .ref (z + 6)), (1, .int i)] [.int i, .ref (z + 6)] S P
  refine xw.callO (o := 6) rfl rfl rfl h6 rfl rfl (c_isFree ⟨h1, h2, h4, h6, h7, h9, h11, h13⟩ ?_)
  show xw z NK g 70 5 [(0, .ref (z + 6)), (1, .int i)] [.int (bI (j_free xs ds i))] S P
  refine xw.if_ rfl (fun c1 => ?_) (fun c1 => ?_)
  · have c1 := bI_eq0 (of_decide_eq_true c1)
    refine xw.ret rfl (fun _ => rfl) ?_
    show P none S
    first | simpa [j_dec, j_decW, xu_same h11, xu_same h13, xu_same (show xu S 11 (.inl (nSet cm i (nAt cm i - 1))) 13 = some (.inl wt) from (xu_ne _ _ (by decide)).trans h13), c1] using hP | simp_all [j_dec, j_decW, xu_same h11, xu_same h13, xu_same (show xu S 11 (.inl (nSet cm i (nAt cm i - 1))) 13 = some (.inl wt) from (xu_ne _ _ (by decide)).trans h13)]
  · have c1 := bI_ne0 (of_decide_eq_false c1)
    refine xw.steps 1 (fun _ => rfl) ?_
    refine xw.getf (o := 6) rfl h6 rfl ?_
    refine xw.steps 2 (fun _ => rfl) ?_
    refine xw.getf (o := 6) rfl h6 rfl ?_
    refine xw.steps 1 (fun _ => rfl) ?_
    show xw z NK g 70 18 [(0, .ref (z + 6)), (1, .int i)] [.int i, .ref (z + 11), .int i, .ref (z + 11)] S P
    refine xw.callN (o := 11) rfl rfl rfl h11 rfl rfl (c_at h11 ?_)
    show xw z NK g 70 21 [(0, .ref (z + 6)), (1, .int i)] [.int (nAt cm i), .int i, .ref (z + 11)] S P
    refine xw.steps 2 (fun _ => rfl) ?_
    show xw z NK g 70 23 [(0, .ref (z + 6)), (1, .int i)] [.int ((nAt cm i) - 1), .int i, .ref (z + 11)] S P
    refine xw.callN (o := 11) rfl rfl rfl h11 rfl rfl (c_change h11 ?_)
    show xw z NK g 70 26 [(0, .ref (z + 6)), (1, .int i)] [] (xu S 11 (.inl (nSet cm i ((nAt cm i) - 1)))) P
    refine xw.steps 1 (fun _ => rfl) ?_
    refine xw.getf (o := 6) rfl ((xu_ne _ _ (by decide)).trans h6) rfl ?_
    refine xw.steps 1 (fun _ => rfl) ?_
    show xw z NK g 70 31 [(0, .ref (z + 6)), (1, .int i)] [.int i, .ref (z + 11)] (xu S 11 (.inl (nSet cm i ((nAt cm i) - 1)))) P
    refine xw.callN (o := 11) rfl rfl rfl (xu_self _ _ _) rfl rfl (c_at (xu_self _ _ _) ?_)
    show xw z NK g 70 34 [(0, .ref (z + 6)), (1, .int i)] [.int (nAt (nSet cm i ((nAt cm i) - 1)) i)] (xu S 11 (.inl (nSet cm i ((nAt cm i) - 1)))) P
    refine xw.if_ rfl (fun c2 => ?_) (fun c2 => ?_)
    · have c2 := of_decide_eq_true c2
      refine xw.ret rfl (fun _ => rfl) ?_
      show P none (xu S 11 (.inl (nSet cm i ((nAt cm i) - 1))))
      first | simpa [j_dec, j_decW, xu_same h11, xu_same h13, xu_same (show xu S 11 (.inl (nSet cm i (nAt cm i - 1))) 13 = some (.inl wt) from (xu_ne _ _ (by decide)).trans h13), c1, c2] using hP | simp_all [j_dec, j_decW, xu_same h11, xu_same h13, xu_same (show xu S 11 (.inl (nSet cm i (nAt cm i - 1))) 13 = some (.inl wt) from (xu_ne _ _ (by decide)).trans h13)]
    · have c2 := Decidable.not_not.mp (of_decide_eq_false c2)
      refine xw.steps 1 (fun _ => rfl) ?_
      refine xw.getf (o := 6) rfl ((xu_ne _ _ (by decide)).trans h6) rfl ?_
      refine xw.steps 1 (fun _ => rfl) ?_
      show xw z NK g 70 42 [(0, .ref (z + 6)), (1, .int i)] [.int i, .ref (z + 13)] (xu S 11 (.inl (nSet cm i ((nAt cm i) - 1)))) P
      refine xw.callN (o := 13) rfl rfl rfl ((xu_ne _ _ (by decide)).trans h13) rfl rfl (c_append (xs := wt) ((xu_ne _ _ (by decide)).trans h13) (by first | assumption | (unfold nCut; rw [List.length_take]; omega) | exact Nat.lt_of_le_of_lt (j_arrW_len _ _ _) (by omega)) ?_)
      show xw z NK g 70 45 [(0, .ref (z + 6)), (1, .int i)] [] (xu (xu S 11 (.inl (nSet cm i ((nAt cm i) - 1)))) 13 (.inl (wt ++ [i]))) P
      refine xw.ret rfl (fun _ => rfl) ?_
      show P none (xu (xu S 11 (.inl (nSet cm i ((nAt cm i) - 1)))) 13 (.inl (wt ++ [i])))
      first | simpa [j_dec, j_decW, xu_same h11, xu_same h13, xu_same (show xu S 11 (.inl (nSet cm i (nAt cm i - 1))) 13 = some (.inl wt) from (xu_ne _ _ (by decide)).trans h13), c1, c2] using hP | simp_all [j_dec, j_decW, xu_same h11, xu_same h13, xu_same (show xu S 11 (.inl (nSet cm i (nAt cm i - 1))) 13 = some (.inl wt) from (xu_ne _ _ (by decide)).trans h13)]
end XJ4
