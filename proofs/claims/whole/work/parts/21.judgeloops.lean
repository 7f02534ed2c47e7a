/-! JUDGE: the loops (walks by wip/gen21.py) -/
def j_fit1 (n k : Int32) : Bool := decide (¬ n < 0 ∧ n < 21 ∧ ((x_stat 0).2 n.toNatClampNeg < 0 ∨ (¬ k < 0 ∧ ¬ (x_stat 0).2 n.toNatClampNeg < k)))
def j_fit (xs ys : List Int32) : Nat → Nat → Bool
  | 0, _ => true
  | d + 1, i => j_fit1 (nAt xs (nI i)) (nAt ys (nI i)) && j_fit xs ys d (i + 1)
/-- places found, or none where a label is there twice -/
def j_once (xs ys : List Int32) : Nat → Nat → List Int32 → List Int32 × Bool
  | 0, _, pl => (pl, true)
  | d + 1, i, pl => if nAt xs (nI i) = 13 then (if nAt pl (nAt ys (nI i)) = -1 then j_once xs ys d (i + 1) (nSet pl (nAt ys (nI i)) (nI i)) else (pl, false)) else j_once xs ys d (i + 1) pl
def j_there1 (xs ys pl : List Int32) (i : Int32) : Bool := decide (¬ (t_goes (nAt xs i) = true ∧ nAt pl (nAt ys i) = -1) ∧ ¬ (nAt xs i = 18 ∧ ¬ nAt xs (i + 1) = 12))
def j_there (xs ys pl : List Int32) : Nat → Nat → Bool
  | 0, _ => true
  | d + 1, i => j_there1 xs ys pl (nI i) && j_there xs ys pl d (i + 1)
section XJ3
variable {z : Nat} {NK : List Nat} {g : mx_G} {S : xS} {P : Option Value → xS → Prop} {xs ys pl ds cm wt : List Int32} {jd rt : Int32}
set_option maxHeartbeats 1000000 in
/-- RowCode$Judge.argumentsFit()Z -/
theorem c_fit (hJ : jS z S xs ys pl ds cm wt jd rt) (hb : xs.length < 131072) (hP : P (some (.int (bI (j_fit xs ys xs.length 0)))) S) : xw z NK g 59 0 [(0, .ref (z + 6))] [] S P := by
  obtain ⟨h1, h2, h4, h6, h7, h9, h11, h13⟩ := id hJ
  have loop : ∀ (d i : Nat) (hi : i + d = xs.length) (hP : P (some (.int (bI (j_fit xs ys d i)))) S), xw z NK g 59 2 [(0, .ref (z + 6)), (1, .int (nI i))] [] S P := by
    intro d
    induction d with
    | zero =>
      intro i hi  hP
      refine xw.steps 2 (fun _ => rfl) ?_
      refine xw.getf (o := 6) rfl h6 rfl ?_
      show xw z NK g 59 7 [(0, .ref (z + 6)), (1, .int (nI i))] [.ref (z + 1), .int (nI i)] S P
      refine xw.callO (o := 1) rfl rfl rfl h1 rfl rfl (c_Code_size h1 h2 h4 (by decide) ?_)
      show xw z NK g 59 10 [(0, .ref (z + 6)), (1, .int (nI i))] [.int (nI xs.length), .int (nI i)] S P
      refine xw.icmp rfl (fun c1 => ?_) (fun c1 => ?_)
      · have c1 := Int32.not_lt.mpr (of_decide_eq_true c1)
        refine xw.steps 1 (fun _ => rfl) ?_
        refine xw.ret rfl (fun _ => rfl) ?_
        show P (some (.int 1)) S
        exact hP
      · have c1 := Int32.not_le.mp (of_decide_eq_false c1)
        show xw z NK g 59 13 [(0, .ref (z + 6)), (1, .int (nI i))] [] S P
        exact absurd c1 (nI_nlt (by omega) (by omega))
    | succ d ih =>
      intro i hi  hP
      refine xw.steps 2 (fun _ => rfl) ?_
      refine xw.getf (o := 6) rfl h6 rfl ?_
      show xw z NK g 59 7 [(0, .ref (z + 6)), (1, .int (nI i))] [.ref (z + 1), .int (nI i)] S P
      refine xw.callO (o := 1) rfl rfl rfl h1 rfl rfl (c_Code_size h1 h2 h4 (by decide) ?_)
      show xw z NK g 59 10 [(0, .ref (z + 6)), (1, .int (nI i))] [.int (nI xs.length), .int (nI i)] S P
      refine xw.icmp rfl (fun c1 => ?_) (fun c1 => ?_)
      · have c1 := Int32.not_lt.mpr (of_decide_eq_true c1)
        show xw z NK g 59 75 [(0, .ref (z + 6)), (1, .int (nI i))] [] S P
        exact absurd (nI_lt (by omega) (by omega)) c1
      · have c1 := Int32.not_le.mp (of_decide_eq_false c1)
        refine xw.steps 1 (fun _ => rfl) ?_
        refine xw.getf (o := 6) rfl h6 rfl ?_
        refine xw.steps 1 (fun _ => rfl) ?_
        show xw z NK g 59 18 [(0, .ref (z + 6)), (1, .int (nI i))] [.int (nI i), .ref (z + 1)] S P
        refine xw.callO (o := 1) rfl rfl rfl h1 rfl rfl (c_Code_numberAt h1 h2 h4 (by decide) ?_)
        show xw z NK g 59 21 [(0, .ref (z + 6)), (1, .int (nI i))] [.int (nAt xs (nI i))] S P
        refine xw.steps 2 (fun _ => rfl) ?_
        refine xw.if_ rfl (fun c2 => ?_) (fun c2 => ?_)
        · have c2 := of_decide_eq_true c2
          refine xw.steps 1 (fun _ => rfl) ?_
          refine xw.ret rfl (fun _ => rfl) ?_
          show P (some (.int 0)) S
          first | simpa [j_fit, j_fit1, bI, c1, c2] using hP | (simp_all [j_fit, j_fit1, bI])
        · have c2 := of_decide_eq_false c2
          refine xw.steps 1 (fun _ => rfl) ?_
          refine xw.gets rfl ?_
          refine xw.slen rfl (by decide) ?_
          show xw z NK g 59 31 [(0, .ref (z + 6)), (1, .int (nI i)), (2, .int (nAt xs (nI i)))] [.int 21, .int (nAt xs (nI i))] S P
          refine xw.icmp rfl (fun c3 => ?_) (fun c3 => ?_)
          · have c3 := of_decide_eq_true c3
            refine xw.steps 1 (fun _ => rfl) ?_
            refine xw.getf (o := 6) rfl h6 rfl ?_
            refine xw.steps 1 (fun _ => rfl) ?_
            show xw z NK g 59 41 [(0, .ref (z + 6)), (1, .int (nI i)), (2, .int (nAt xs (nI i)))] [.int (nI i), .ref (z + 1)] S P
            refine xw.callO (o := 1) rfl rfl rfl h1 rfl rfl (c_Code_argumentAt h1 h2 h4 (by decide) ?_)
            show xw z NK g 59 44 [(0, .ref (z + 6)), (1, .int (nI i)), (2, .int (nAt xs (nI i)))] [.int (nAt ys (nI i))] S P
            refine xw.steps 1 (fun _ => rfl) ?_
            refine xw.gets rfl ?_
            refine xw.steps 1 (fun _ => rfl) ?_
            refine xw.sald (k := 0) rfl (by decide) (x_in21 (by decide) (by assumption) (by assumption)) ?_
            refine xw.steps 2 (fun _ => rfl) ?_
            refine xw.if_ rfl (fun c4 => ?_) (fun c4 => ?_)
            · have c4 := of_decide_eq_true c4
              refine xw.steps 2 (fun _ => rfl) ?_
              show xw z NK g 59 2 [(0, .ref (z + 6)), (1, .int ((nI i) + 1)), (2, .int (nAt xs (nI i))), (3, .int (nAt ys (nI i))), (4, .int ((x_stat 0).2 (nAt xs (nI i)).toNatClampNeg))] [] S P
              rw [nI_1]
              refine xw.forget (lv := [(0, .ref (z + 6)), (1, .int (nI (i + 1)))]) lk_59 (show [0, 1].Nodup by decide) (show [0, 1, 2, 3, 4].Nodup by decide) (List.forall_mem_cons.mpr ⟨rfl, List.forall_mem_cons.mpr ⟨rfl, fun _ h => absurd h List.not_mem_nil⟩⟩) ?_
              exact ih (i + 1) (by omega) (by first | simpa [j_fit, j_fit1, c1, c2, c3, c4] using hP | simp_all [j_fit, j_fit1])
            · have c4 := of_decide_eq_false c4
              refine xw.steps 1 (fun _ => rfl) ?_
              refine xw.if_ rfl (fun c5 => ?_) (fun c5 => ?_)
              · have c5 := of_decide_eq_true c5
                refine xw.steps 1 (fun _ => rfl) ?_
                refine xw.ret rfl (fun _ => rfl) ?_
                show P (some (.int 0)) S
                first | simpa [j_fit, j_fit1, bI, c1, c2, c3, c4, c5] using hP | (simp_all [j_fit, j_fit1, bI])
              · have c5 := of_decide_eq_false c5
                refine xw.steps 2 (fun _ => rfl) ?_
                refine xw.icmp rfl (fun c6 => ?_) (fun c6 => ?_)
                · have c6 := Int32.not_lt.mpr (of_decide_eq_true c6)
                  refine xw.steps 2 (fun _ => rfl) ?_
                  show xw z NK g 59 2 [(0, .ref (z + 6)), (1, .int ((nI i) + 1)), (2, .int (nAt xs (nI i))), (3, .int (nAt ys (nI i))), (4, .int ((x_stat 0).2 (nAt xs (nI i)).toNatClampNeg))] [] S P
                  rw [nI_1]
                  refine xw.forget (lv := [(0, .ref (z + 6)), (1, .int (nI (i + 1)))]) lk_59 (show [0, 1].Nodup by decide) (show [0, 1, 2, 3, 4].Nodup by decide) (List.forall_mem_cons.mpr ⟨rfl, List.forall_mem_cons.mpr ⟨rfl, fun _ h => absurd h List.not_mem_nil⟩⟩) ?_
                  exact ih (i + 1) (by omega) (by first | simpa [j_fit, j_fit1, c1, c2, c3, c4, c5, c6] using hP | simp_all [j_fit, j_fit1])
                · have c6 := Int32.not_le.mp (of_decide_eq_false c6)
                  refine xw.steps 1 (fun _ => rfl) ?_
                  refine xw.ret rfl (fun _ => rfl) ?_
                  show P (some (.int 0)) S
                  first | simpa [j_fit, j_fit1, bI, c1, c2, c3, c4, c5, c6] using hP | (simp_all [j_fit, j_fit1, bI])
          · have c3 := of_decide_eq_false c3
            refine xw.steps 1 (fun _ => rfl) ?_
            refine xw.ret rfl (fun _ => rfl) ?_
            show P (some (.int 0)) S
            first | simpa [j_fit, j_fit1, bI, c1, c2, c3] using hP | (simp_all [j_fit, j_fit1, bI])
  refine xw.steps 2 (fun _ => rfl) ?_
  exact loop xs.length 0 (by omega) hP
end XJ3
