/-! JUDGE: waysAgree, roundsSpend, findsRight (walks by wip/gen22.py) -/
section XJ5
variable {z : Nat} {NK : List Nat} {g : mx_G} {S : xS} {P : Option Value → xS → Prop} {xs ys pl ds cm wt : List Int32} {jd rt : Int32}
set_option maxHeartbeats 4000000 in
/-- RowCode$Judge.waysAgree()Z -/
theorem c_ways (hJ : jS z S xs ys pl ds cm wt jd rt) (hb : xs.length < 100000) (hP : P (some (.int (bI (j_ways xs ys pl xs.length (j_arrD (List.replicate xs.length (-1)) 0 0) (j_arrW (List.replicate xs.length (-1)) [] 0)).2.2))) (xu (xu S 9 (.inl (j_ways xs ys pl xs.length (j_arrD (List.replicate xs.length (-1)) 0 0) (j_arrW (List.replicate xs.length (-1)) [] 0)).1)) 13 (.inl (j_ways xs ys pl xs.length (j_arrD (List.replicate xs.length (-1)) 0 0) (j_arrW (List.replicate xs.length (-1)) [] 0)).2.1))) : xw z NK g 64 0 [(0, .ref (z + 6))] [] S P := by
  obtain ⟨h1, h2, h4, h6, h7, h9, h11, h13⟩ := id hJ
  have loop : ∀ (d i : Nat) (hi : i + d = xs.length) (ds2 : List Int32) (wt2 : List Int32) (hw : wt2.length ≤ i + 1) (hP : P (some (.int (bI (j_ways xs ys pl d ds2 wt2).2.2))) (xu (xu S 9 (.inl (j_ways xs ys pl d ds2 wt2).1)) 13 (.inl (j_ways xs ys pl d ds2 wt2).2.1))), xw z NK g 64 32 [(0, .ref (z + 6)), (1, .int (nI i))] [] (xu (xu S 9 (.inl ds2)) 13 (.inl wt2)) P := by
    intro d
    induction d with
    | zero =>
      intro i hi ds2 wt2 hw hP
      refine xw.steps 2 (fun _ => rfl) ?_
      refine xw.getf (o := 6) rfl ((xu_ne _ _ (by decide)).trans ((xu_ne _ _ (by decide)).trans h6)) rfl ?_
      show xw z NK g 64 37 [(0, .ref (z + 6)), (1, .int (nI i))] [.ref (z + 1), .int (nI i)] (xu (xu S 9 (.inl ds2)) 13 (.inl wt2)) P
      refine xw.callO (o := 1) rfl rfl rfl ((xu_ne _ _ (by decide)).trans ((xu_ne _ _ (by decide)).trans h1)) rfl rfl (c_Code_size ((xu_ne _ _ (by decide)).trans ((xu_ne _ _ (by decide)).trans h1)) ((xu_ne _ _ (by decide)).trans ((xu_ne _ _ (by decide)).trans h2)) ((xu_ne _ _ (by decide)).trans ((xu_ne _ _ (by decide)).trans h4)) (by decide) ?_)
      show xw z NK g 64 40 [(0, .ref (z + 6)), (1, .int (nI i))] [.int (nI xs.length), .int (nI i)] (xu (xu S 9 (.inl ds2)) 13 (.inl wt2)) P
      refine xw.icmp rfl (fun c1 => ?_) (fun c1 => ?_)
      · have c1 := Int32.not_lt.mpr (of_decide_eq_true c1)
        refine xw.steps 1 (fun _ => rfl) ?_
        refine xw.ret rfl (fun _ => rfl) ?_
        show P (some (.int 1)) (xu (xu S 9 (.inl ds2)) 13 (.inl wt2))
        exact hP
      · have c1 := Int32.not_le.mp (of_decide_eq_false c1)
        show xw z NK g 64 43 [(0, .ref (z + 6)), (1, .int (nI i))] [] (xu (xu S 9 (.inl ds2)) 13 (.inl wt2)) P
        exact absurd c1 (nI_nlt (by omega) (by omega))
    | succ d ih =>
      intro i hi ds2 wt2 hw hP
      refine xw.steps 2 (fun _ => rfl) ?_
      refine xw.getf (o := 6) rfl ((xu_ne _ _ (by decide)).trans ((xu_ne _ _ (by decide)).trans h6)) rfl ?_
      show xw z NK g 64 37 [(0, .ref (z + 6)), (1, .int (nI i))] [.ref (z + 1), .int (nI i)] (xu (xu S 9 (.inl ds2)) 13 (.inl wt2)) P
      refine xw.callO (o := 1) rfl rfl rfl ((xu_ne _ _ (by decide)).trans ((xu_ne _ _ (by decide)).trans h1)) rfl rfl (c_Code_size ((xu_ne _ _ (by decide)).trans ((xu_ne _ _ (by decide)).trans h1)) ((xu_ne _ _ (by decide)).trans ((xu_ne _ _ (by decide)).trans h2)) ((xu_ne _ _ (by decide)).trans ((xu_ne _ _ (by decide)).trans h4)) (by decide) ?_)
      show xw z NK g 64 40 [(0, .ref (z + 6)), (1, .int (nI i))] [.int (nI xs.length), .int (nI i)] (xu (xu S 9 (.inl ds2)) 13 (.inl wt2)) P
      refine xw.icmp rfl (fun c1 => ?_) (fun c1 => ?_)
      · have c1 := Int32.not_lt.mpr (of_decide_eq_true c1)
        show xw z NK g 64 75 [(0, .ref (z + 6)), (1, .int (nI i))] [] (xu (xu S 9 (.inl ds2)) 13 (.inl wt2)) P
        exact absurd (nI_lt (by omega) (by omega)) c1
      · have c1 := Int32.not_le.mp (of_decide_eq_false c1)
        refine xw.steps 1 (fun _ => rfl) ?_
        refine xw.getf (o := 6) rfl ((xu_ne _ _ (by decide)).trans ((xu_ne _ _ (by decide)).trans h6)) rfl ?_
        show xw z NK g 64 47 [(0, .ref (z + 6)), (1, .int (nI i))] [.ref (z + 13)] (xu (xu S 9 (.inl ds2)) 13 (.inl wt2)) P
        refine xw.callN (o := 13) rfl rfl rfl (xu_self _ _ _) rfl rfl (c_size (xu_self _ _ _) ?_)
        show xw z NK g 64 50 [(0, .ref (z + 6)), (1, .int (nI i))] [.int (nI wt2.length)] (xu (xu S 9 (.inl ds2)) 13 (.inl wt2)) P
        refine xw.if_ rfl (fun c2 => ?_) (fun c2 => ?_)
        · have c2 := Int32.not_lt.mpr (of_decide_eq_true c2)
          show xw z NK g 64 75 [(0, .ref (z + 6)), (1, .int (nI i))] [] (xu (xu S 9 (.inl ds2)) 13 (.inl wt2)) P
          refine xw.steps 1 (fun _ => rfl) ?_
          refine xw.ret rfl (fun _ => rfl) ?_
          show P (some (.int 1)) (xu (xu S 9 (.inl ds2)) 13 (.inl wt2))
          first | simpa [j_ways, bI, c1, c2] using hP | (simp_all [j_ways, bI])
        · have c2 := Int32.not_le.mp (of_decide_eq_false c2)
          refine xw.steps 2 (fun _ => rfl) ?_
          refine xw.getf (o := 6) rfl ((xu_ne _ _ (by decide)).trans ((xu_ne _ _ (by decide)).trans h6)) rfl ?_
          show xw z NK g 64 58 [(0, .ref (z + 6)), (1, .int (nI i))] [.ref (z + 13), .ref (z + 6)] (xu (xu S 9 (.inl ds2)) 13 (.inl wt2)) P
          refine xw.callN (o := 13) rfl rfl rfl (xu_self _ _ _) rfl rfl (c_takeLast (xu_self _ _ _) ?_)
          show xw z NK g 64 61 [(0, .ref (z + 6)), (1, .int (nI i))] [.int (nLast wt2), .ref (z + 6)] (xu (xu (xu S 9 (.inl ds2)) 13 (.inl wt2)) 13 (.inl wt2.dropLast)) P
          rw [xu_xu]
          show xw z NK g 64 61 [(0, .ref (z + 6)), (1, .int (nI i))] [.int (nLast wt2), .ref (z + 6)] (xu (xu S 9 (.inl ds2)) 13 (.inl wt2.dropLast)) P
          refine xw.callO (o := 6) rfl rfl rfl ((xu_ne _ _ (by decide)).trans ((xu_ne _ _ (by decide)).trans h6)) rfl rfl (c_leaves ⟨((xu_ne _ _ (by decide)).trans ((xu_ne _ _ (by decide)).trans h1)), ((xu_ne _ _ (by decide)).trans ((xu_ne _ _ (by decide)).trans h2)), ((xu_ne _ _ (by decide)).trans ((xu_ne _ _ (by decide)).trans h4)), ((xu_ne _ _ (by decide)).trans ((xu_ne _ _ (by decide)).trans h6)), ((xu_ne _ _ (by decide)).trans ((xu_ne _ _ (by decide)).trans h7)), ((xu_ne _ _ (by decide)).trans (xu_self _ _ _)), ((xu_ne _ _ (by decide)).trans ((xu_ne _ _ (by decide)).trans h11)), (xu_self _ _ _)⟩ (by rw [List.length_dropLast]; omega) ?_)
          show xw z NK g 64 64 [(0, .ref (z + 6)), (1, .int (nI i))] [.int (bI (j_leave xs ys pl ds2 wt2.dropLast (nLast wt2)).2.2)] (xu (xu (xu (xu S 9 (.inl ds2)) 13 (.inl wt2.dropLast)) 9 (.inl (j_leave xs ys pl ds2 wt2.dropLast (nLast wt2)).1)) 13 (.inl (j_leave xs ys pl ds2 wt2.dropLast (nLast wt2)).2.1)) P
          rw [xu4 _ (show (9 : Nat) ≠ 13 by decide)]
          refine xw.if_ rfl (fun c3 => ?_) (fun c3 => ?_)
          · have c3 := bI_ne0 (of_decide_eq_true c3)
            refine xw.steps 2 (fun _ => rfl) ?_
            show xw z NK g 64 32 [(0, .ref (z + 6)), (1, .int ((nI i) + 1))] [] (xu (xu S 9 (.inl (j_leave xs ys pl ds2 wt2.dropLast (nLast wt2)).1)) 13 (.inl (j_leave xs ys pl ds2 wt2.dropLast (nLast wt2)).2.1)) P
            rw [nI_1]
            exact ih (i + 1) (by omega) _ _ (Nat.le_trans (j_leave_len _ _ _ _ _ _) (by rw [List.length_dropLast]; omega)) (by first | simpa [j_ways, c1, c2, c3] using hP | simp_all [j_ways])
          · have c3 := bI_eq0 (Decidable.not_not.mp (of_decide_eq_false c3))
            refine xw.steps 1 (fun _ => rfl) ?_
            refine xw.ret rfl (fun _ => rfl) ?_
            show P (some (.int 0)) (xu (xu S 9 (.inl (j_leave xs ys pl ds2 wt2.dropLast (nLast wt2)).1)) 13 (.inl (j_leave xs ys pl ds2 wt2.dropLast (nLast wt2)).2.1))
            first | simpa [j_ways, bI, c1, c2, c3] using hP | (simp_all [j_ways, bI])
  refine xw.steps 1 (fun _ => rfl) ?_
  refine xw.getf (o := 6) rfl h6 rfl ?_
  refine xw.steps 1 (fun _ => rfl) ?_
  refine xw.getf (o := 6) rfl h6 rfl ?_
  show xw z NK g 64 8 [(0, .ref (z + 6))] [.ref (z + 1), .ref (z + 9)] S P
  refine xw.callO (o := 1) rfl rfl rfl h1 rfl rfl (c_Code_size h1 h2 h4 (by decide) ?_)
  show xw z NK g 64 11 [(0, .ref (z + 6))] [.int (nI xs.length), .ref (z + 9)] S P
  refine xw.steps 1 (fun _ => rfl) ?_
  show xw z NK g 64 12 [(0, .ref (z + 6))] [.int (-1), .int (nI xs.length), .ref (z + 9)] S P
  refine xw.callN (o := 9) rfl rfl rfl h9 rfl rfl (c_refill h9 (by rw [nI_clamp (by omega)]; omega) ?_)
  show xw z NK g 64 15 [(0, .ref (z + 6))] [] (xu S 9 (.inl (List.replicate (nI xs.length).toNatClampNeg (-1)))) P
  refine xw.steps 1 (fun _ => rfl) ?_
  refine xw.getf (o := 6) rfl ((xu_ne _ _ (by decide)).trans h6) rfl ?_
  refine xw.steps 1 (fun _ => rfl) ?_
  show xw z NK g 64 20 [(0, .ref (z + 6))] [.int 0, .ref (z + 13)] (xu S 9 (.inl (List.replicate (nI xs.length).toNatClampNeg (-1)))) P
  refine xw.callN (o := 13) rfl rfl rfl ((xu_ne _ _ (by decide)).trans h13) rfl rfl (c_cutTo ((xu_ne _ _ (by decide)).trans h13) ?_)
  show xw z NK g 64 23 [(0, .ref (z + 6))] [] (xu (xu S 9 (.inl (List.replicate (nI xs.length).toNatClampNeg (-1)))) 13 (.inl (nCut wt 0))) P
  refine xw.steps 3 (fun _ => rfl) ?_
  show xw z NK g 64 26 [(0, .ref (z + 6))] [.int 0, .int 0, .ref (z + 6)] (xu (xu S 9 (.inl (List.replicate (nI xs.length).toNatClampNeg (-1)))) 13 (.inl (nCut wt 0))) P
  refine xw.callO (o := 6) rfl rfl rfl ((xu_ne _ _ (by decide)).trans ((xu_ne _ _ (by decide)).trans h6)) rfl rfl (c_arrives ⟨((xu_ne _ _ (by decide)).trans ((xu_ne _ _ (by decide)).trans h1)), ((xu_ne _ _ (by decide)).trans ((xu_ne _ _ (by decide)).trans h2)), ((xu_ne _ _ (by decide)).trans ((xu_ne _ _ (by decide)).trans h4)), ((xu_ne _ _ (by decide)).trans ((xu_ne _ _ (by decide)).trans h6)), ((xu_ne _ _ (by decide)).trans ((xu_ne _ _ (by decide)).trans h7)), ((xu_ne _ _ (by decide)).trans (xu_self _ _ _)), ((xu_ne _ _ (by decide)).trans ((xu_ne _ _ (by decide)).trans h11)), (xu_self _ _ _)⟩ (by show ([] : List Int32).length < _; decide) ?_)
  show xw z NK g 64 29 [(0, .ref (z + 6))] [.int (bI (j_arrB (List.replicate (nI xs.length).toNatClampNeg (-1)) 0 0))] (xu (xu (xu (xu S 9 (.inl (List.replicate (nI xs.length).toNatClampNeg (-1)))) 13 (.inl (nCut wt 0))) 9 (.inl (j_arrD (List.replicate (nI xs.length).toNatClampNeg (-1)) 0 0))) 13 (.inl (j_arrW (List.replicate (nI xs.length).toNatClampNeg (-1)) (nCut wt 0) 0))) P
  rw [xu4 _ (show (9 : Nat) ≠ 13 by decide)]
  refine xw.steps 3 (fun _ => rfl) ?_
  show xw z NK g 64 32 [(0, .ref (z + 6)), (1, .int 0)] [] (xu (xu S 9 (.inl (j_arrD (List.replicate (nI xs.length).toNatClampNeg (-1)) 0 0))) 13 (.inl (j_arrW (List.replicate (nI xs.length).toNatClampNeg (-1)) (nCut wt 0) 0))) P
  have er : (nI xs.length).toNatClampNeg = xs.length := nI_clamp (by omega)
  have ec : nCut wt 0 = [] := rfl
  rw [er, ec]
  exact loop xs.length 0 (by omega) _ _ (Nat.le_trans (j_arrW_len _ _ _) (by simp)) hP
theorem x_pos {n : Nat} (h : 0 < nI n) : 0 < n := by
  rcases Nat.eq_zero_or_pos n with w | w
  · subst w; exact absurd h (by decide)
  · exact w
set_option maxHeartbeats 4000000 in
/-- RowCode$Judge.roundsSpend()Z -/
theorem c_rounds (hJ : jS z S xs ys pl ds cm wt jd rt) (hb : xs.length < 60000) (hP : P (some (.int (bI (decide ((j_peel xs ys pl ds xs.length (j_cnt xs ys pl ds xs.length 0 (List.replicate xs.length 0) 0).1 (j_roots xs ds (j_cnt xs ys pl ds xs.length 0 (List.replicate xs.length 0) 0).1 xs.length 0 []) (j_cnt xs ys pl ds xs.length 0 (List.replicate xs.length 0) 0).2).2.2 = 0))))) (xu (xu S 11 (.inl (j_peel xs ys pl ds xs.length (j_cnt xs ys pl ds xs.length 0 (List.replicate xs.length 0) 0).1 (j_roots xs ds (j_cnt xs ys pl ds xs.length 0 (List.replicate xs.length 0) 0).1 xs.length 0 []) (j_cnt xs ys pl ds xs.length 0 (List.replicate xs.length 0) 0).2).1)) 13 (.inl (j_peel xs ys pl ds xs.length (j_cnt xs ys pl ds xs.length 0 (List.replicate xs.length 0) 0).1 (j_roots xs ds (j_cnt xs ys pl ds xs.length 0 (List.replicate xs.length 0) 0).1 xs.length 0 []) (j_cnt xs ys pl ds xs.length 0 (List.replicate xs.length 0) 0).2).2.1))) : xw z NK g 67 0 [(0, .ref (z + 6))] [] S P := by
  obtain ⟨h1, h2, h4, h6, h7, h9, h11, h13⟩ := id hJ
  have loop3 : ∀ (d i : Nat) (hi : i + d = xs.length) (cm2 : List Int32) (wt2 : List Int32) (lf : Int32) (hw : wt2.length ≤ xs.length + i) (hP : P (some (.int (bI (decide ((j_peel xs ys pl ds d cm2 wt2 lf).2.2 = 0))))) (xu (xu S 11 (.inl (j_peel xs ys pl ds d cm2 wt2 lf).1)) 13 (.inl (j_peel xs ys pl ds d cm2 wt2 lf).2.1))), xw z NK g 67 121 [(0, .ref (z + 6)), (1, .int lf), (2, .int (nI i))] [] (xu (xu S 11 (.inl cm2)) 13 (.inl wt2)) P := by
    intro d
    induction d with
    | zero =>
      intro i hi cm2 wt2 lf hw hP
      refine xw.steps 2 (fun _ => rfl) ?_
      refine xw.getf (o := 6) rfl ((xu_ne _ _ (by decide)).trans ((xu_ne _ _ (by decide)).trans h6)) rfl ?_
      show xw z NK g 67 126 [(0, .ref (z + 6)), (1, .int lf), (2, .int (nI i))] [.ref (z + 1), .int (nI i)] (xu (xu S 11 (.inl cm2)) 13 (.inl wt2)) P
      refine xw.callO (o := 1) rfl rfl rfl ((xu_ne _ _ (by decide)).trans ((xu_ne _ _ (by decide)).trans h1)) rfl rfl (c_Code_size ((xu_ne _ _ (by decide)).trans ((xu_ne _ _ (by decide)).trans h1)) ((xu_ne _ _ (by decide)).trans ((xu_ne _ _ (by decide)).trans h2)) ((xu_ne _ _ (by decide)).trans ((xu_ne _ _ (by decide)).trans h4)) (by decide) ?_)
      show xw z NK g 67 129 [(0, .ref (z + 6)), (1, .int lf), (2, .int (nI i))] [.int (nI xs.length), .int (nI i)] (xu (xu S 11 (.inl cm2)) 13 (.inl wt2)) P
      refine xw.icmp rfl (fun c1 => ?_) (fun c1 => ?_)
      · have c1 := Int32.not_lt.mpr (of_decide_eq_true c1)
        refine xw.steps 1 (fun _ => rfl) ?_
        refine xw.if_ rfl (fun c2 => ?_) (fun c2 => ?_)
        · have c2 := of_decide_eq_true c2
          refine xw.steps 1 (fun _ => rfl) ?_
          refine xw.ret rfl (fun _ => rfl) ?_
          show P (some (.int 0)) (xu (xu S 11 (.inl cm2)) 13 (.inl wt2))
          first | simpa [j_peel, bI, c1, c2] using hP | simp_all [j_peel, bI]
        · have c2 := Decidable.not_not.mp (of_decide_eq_false c2)
          refine xw.steps 2 (fun _ => rfl) ?_
          refine xw.ret rfl (fun _ => rfl) ?_
          show P (some (.int 1)) (xu (xu S 11 (.inl cm2)) 13 (.inl wt2))
          first | simpa [j_peel, bI, c1, c2] using hP | simp_all [j_peel, bI]
      · have c1 := Int32.not_le.mp (of_decide_eq_false c1)
        show xw z NK g 67 132 [(0, .ref (z + 6)), (1, .int lf), (2, .int (nI i))] [] (xu (xu S 11 (.inl cm2)) 13 (.inl wt2)) P
        exact absurd c1 (nI_nlt (by omega) (by omega))
    | succ d ih =>
      intro i hi cm2 wt2 lf hw hP
      refine xw.steps 2 (fun _ => rfl) ?_
      refine xw.getf (o := 6) rfl ((xu_ne _ _ (by decide)).trans ((xu_ne _ _ (by decide)).trans h6)) rfl ?_
      show xw z NK g 67 126 [(0, .ref (z + 6)), (1, .int lf), (2, .int (nI i))] [.ref (z + 1), .int (nI i)] (xu (xu S 11 (.inl cm2)) 13 (.inl wt2)) P
      refine xw.callO (o := 1) rfl rfl rfl ((xu_ne _ _ (by decide)).trans ((xu_ne _ _ (by decide)).trans h1)) rfl rfl (c_Code_size ((xu_ne _ _ (by decide)).trans ((xu_ne _ _ (by decide)).trans h1)) ((xu_ne _ _ (by decide)).trans ((xu_ne _ _ (by decide)).trans h2)) ((xu_ne _ _ (by decide)).trans ((xu_ne _ _ (by decide)).trans h4)) (by decide) ?_)
      show xw z NK g 67 129 [(0, .ref (z + 6)), (1, .int lf), (2, .int (nI i))] [.int (nI xs.length), .int (nI i)] (xu (xu S 11 (.inl cm2)) 13 (.inl wt2)) P
      refine xw.icmp rfl (fun c1 => ?_) (fun c1 => ?_)
      · have c1 := Int32.not_lt.mpr (of_decide_eq_true c1)
        show xw z NK g 67 177 [(0, .ref (z + 6)), (1, .int lf), (2, .int (nI i))] [] (xu (xu S 11 (.inl cm2)) 13 (.inl wt2)) P
        exact absurd (nI_lt (by omega) (by omega)) c1
      · have c1 := Int32.not_le.mp (of_decide_eq_false c1)
        refine xw.steps 1 (fun _ => rfl) ?_
        refine xw.getf (o := 6) rfl ((xu_ne _ _ (by decide)).trans ((xu_ne _ _ (by decide)).trans h6)) rfl ?_
        show xw z NK g 67 136 [(0, .ref (z + 6)), (1, .int lf), (2, .int (nI i))] [.ref (z + 13)] (xu (xu S 11 (.inl cm2)) 13 (.inl wt2)) P
        refine xw.callN (o := 13) rfl rfl rfl (xu_self _ _ _) rfl rfl (c_size (xu_self _ _ _) ?_)
        show xw z NK g 67 139 [(0, .ref (z + 6)), (1, .int lf), (2, .int (nI i))] [.int (nI wt2.length)] (xu (xu S 11 (.inl cm2)) 13 (.inl wt2)) P
        refine xw.if_ rfl (fun c2 => ?_) (fun c2 => ?_)
        · have c2 := Int32.not_lt.mpr (of_decide_eq_true c2)
          show xw z NK g 67 177 [(0, .ref (z + 6)), (1, .int lf), (2, .int (nI i))] [] (xu (xu S 11 (.inl cm2)) 13 (.inl wt2)) P
          refine xw.steps 1 (fun _ => rfl) ?_
          refine xw.if_ rfl (fun c3 => ?_) (fun c3 => ?_)
          · have c3 := of_decide_eq_true c3
            refine xw.steps 1 (fun _ => rfl) ?_
            refine xw.ret rfl (fun _ => rfl) ?_
            show P (some (.int 0)) (xu (xu S 11 (.inl cm2)) 13 (.inl wt2))
            first | simpa [j_peel, bI, c1, c2, c3] using hP | simp_all [j_peel, bI]
          · have c3 := Decidable.not_not.mp (of_decide_eq_false c3)
            refine xw.steps 2 (fun _ => rfl) ?_
            refine xw.ret rfl (fun _ => rfl) ?_
            show P (some (.int 1)) (xu (xu S 11 (.inl cm2)) 13 (.inl wt2))
            first | simpa [j_peel, bI, c1, c2, c3] using hP | simp_all [j_peel, bI]
        · have c2 := Int32.not_le.mp (of_decide_eq_false c2)
          refine xw.steps 1 (fun _ => rfl) ?_
          refine xw.getf (o := 6) rfl ((xu_ne _ _ (by decide)).trans ((xu_ne _ _ (by decide)).trans h6)) rfl ?_
          show xw z NK g 67 146 [(0, .ref (z + 6)), (1, .int lf), (2, .int (nI i))] [.ref (z + 13)] (xu (xu S 11 (.inl cm2)) 13 (.inl wt2)) P
          refine xw.callN (o := 13) rfl rfl rfl (xu_self _ _ _) rfl rfl (c_takeLast (xu_self _ _ _) ?_)
          show xw z NK g 67 149 [(0, .ref (z + 6)), (1, .int lf), (2, .int (nI i))] [.int (nLast wt2)] (xu (xu (xu S 11 (.inl cm2)) 13 (.inl wt2)) 13 (.inl wt2.dropLast)) P
          rw [xu_xu]
          refine xw.steps 5 (fun _ => rfl) ?_
          show xw z NK g 67 156 [(0, .ref (z + 6)), (1, .int (lf + (-1))), (2, .int (nI i)), (3, .int (nLast wt2))] [.int (nLast wt2), .ref (z + 6), .ref (z + 6)] (xu (xu S 11 (.inl cm2)) 13 (.inl wt2.dropLast)) P
          refine xw.callO (o := 6) rfl rfl rfl ((xu_ne _ _ (by decide)).trans ((xu_ne _ _ (by decide)).trans h6)) rfl rfl (c_following ⟨((xu_ne _ _ (by decide)).trans ((xu_ne _ _ (by decide)).trans h1)), ((xu_ne _ _ (by decide)).trans ((xu_ne _ _ (by decide)).trans h2)), ((xu_ne _ _ (by decide)).trans ((xu_ne _ _ (by decide)).trans h4)), ((xu_ne _ _ (by decide)).trans ((xu_ne _ _ (by decide)).trans h6)), ((xu_ne _ _ (by decide)).trans ((xu_ne _ _ (by decide)).trans h7)), ((xu_ne _ _ (by decide)).trans ((xu_ne _ _ (by decide)).trans h9)), ((xu_ne _ _ (by decide)).trans (xu_self _ _ _)), (xu_self _ _ _)⟩ ?_)
          show xw z NK g 67 159 [(0, .ref (z + 6)), (1, .int (lf + (-1))), (2, .int (nI i)), (3, .int (nLast wt2))] [.int (j_next xs (nLast wt2)), .ref (z + 6)] (xu (xu S 11 (.inl cm2)) 13 (.inl wt2.dropLast)) P
          show xw z NK g 67 159 [(0, .ref (z + 6)), (1, .int (lf + (-1))), (2, .int (nI i)), (3, .int (nLast wt2))] [.int (j_next xs (nLast wt2)), .ref (z + 6)] (xu (xu S 11 (.inl cm2)) 13 (.inl wt2.dropLast)) P
          refine xw.callO (o := 6) rfl rfl rfl ((xu_ne _ _ (by decide)).trans ((xu_ne _ _ (by decide)).trans h6)) rfl rfl (c_loseComer ⟨((xu_ne _ _ (by decide)).trans ((xu_ne _ _ (by decide)).trans h1)), ((xu_ne _ _ (by decide)).trans ((xu_ne _ _ (by decide)).trans h2)), ((xu_ne _ _ (by decide)).trans ((xu_ne _ _ (by decide)).trans h4)), ((xu_ne _ _ (by decide)).trans ((xu_ne _ _ (by decide)).trans h6)), ((xu_ne _ _ (by decide)).trans ((xu_ne _ _ (by decide)).trans h7)), ((xu_ne _ _ (by decide)).trans ((xu_ne _ _ (by decide)).trans h9)), ((xu_ne _ _ (by decide)).trans (xu_self _ _ _)), (xu_self _ _ _)⟩ (by rw [List.length_dropLast]; omega) ?_)
          show xw z NK g 67 162 [(0, .ref (z + 6)), (1, .int (lf + (-1))), (2, .int (nI i)), (3, .int (nLast wt2))] [] (xu (xu (xu (xu S 11 (.inl cm2)) 13 (.inl wt2.dropLast)) 11 (.inl (j_dec xs ds cm2 (j_next xs (nLast wt2))))) 13 (.inl (j_decW xs ds cm2 wt2.dropLast (j_next xs (nLast wt2))))) P
          rw [xu4 _ (show (11 : Nat) ≠ 13 by decide)]
          refine xw.steps 3 (fun _ => rfl) ?_
          show xw z NK g 67 165 [(0, .ref (z + 6)), (1, .int (lf + (-1))), (2, .int (nI i)), (3, .int (nLast wt2))] [.int (nLast wt2), .ref (z + 6), .ref (z + 6)] (xu (xu S 11 (.inl (j_dec xs ds cm2 (j_next xs (nLast wt2))))) 13 (.inl (j_decW xs ds cm2 wt2.dropLast (j_next xs (nLast wt2))))) P
          refine xw.callO (o := 6) rfl rfl rfl ((xu_ne _ _ (by decide)).trans ((xu_ne _ _ (by decide)).trans h6)) rfl rfl (c_goal ⟨((xu_ne _ _ (by decide)).trans ((xu_ne _ _ (by decide)).trans h1)), ((xu_ne _ _ (by decide)).trans ((xu_ne _ _ (by decide)).trans h2)), ((xu_ne _ _ (by decide)).trans ((xu_ne _ _ (by decide)).trans h4)), ((xu_ne _ _ (by decide)).trans ((xu_ne _ _ (by decide)).trans h6)), ((xu_ne _ _ (by decide)).trans ((xu_ne _ _ (by decide)).trans h7)), ((xu_ne _ _ (by decide)).trans ((xu_ne _ _ (by decide)).trans h9)), ((xu_ne _ _ (by decide)).trans (xu_self _ _ _)), (xu_self _ _ _)⟩ ?_)
          show xw z NK g 67 168 [(0, .ref (z + 6)), (1, .int (lf + (-1))), (2, .int (nI i)), (3, .int (nLast wt2))] [.int (j_goal xs ys pl (nLast wt2)), .ref (z + 6)] (xu (xu S 11 (.inl (j_dec xs ds cm2 (j_next xs (nLast wt2))))) 13 (.inl (j_decW xs ds cm2 wt2.dropLast (j_next xs (nLast wt2))))) P
          show xw z NK g 67 168 [(0, .ref (z + 6)), (1, .int (lf + (-1))), (2, .int (nI i)), (3, .int (nLast wt2))] [.int (j_goal xs ys pl (nLast wt2)), .ref (z + 6)] (xu (xu S 11 (.inl (j_dec xs ds cm2 (j_next xs (nLast wt2))))) 13 (.inl (j_decW xs ds cm2 wt2.dropLast (j_next xs (nLast wt2))))) P
          refine xw.callO (o := 6) rfl rfl rfl ((xu_ne _ _ (by decide)).trans ((xu_ne _ _ (by decide)).trans h6)) rfl rfl (c_loseComer ⟨((xu_ne _ _ (by decide)).trans ((xu_ne _ _ (by decide)).trans h1)), ((xu_ne _ _ (by decide)).trans ((xu_ne _ _ (by decide)).trans h2)), ((xu_ne _ _ (by decide)).trans ((xu_ne _ _ (by decide)).trans h4)), ((xu_ne _ _ (by decide)).trans ((xu_ne _ _ (by decide)).trans h6)), ((xu_ne _ _ (by decide)).trans ((xu_ne _ _ (by decide)).trans h7)), ((xu_ne _ _ (by decide)).trans ((xu_ne _ _ (by decide)).trans h9)), ((xu_ne _ _ (by decide)).trans (xu_self _ _ _)), (xu_self _ _ _)⟩ (Nat.lt_of_le_of_lt (j_decW_len _ _ _ _ _) (by rw [List.length_dropLast]; omega)) ?_)
          show xw z NK g 67 171 [(0, .ref (z + 6)), (1, .int (lf + (-1))), (2, .int (nI i)), (3, .int (nLast wt2))] [] (xu (xu (xu (xu S 11 (.inl (j_dec xs ds cm2 (j_next xs (nLast wt2))))) 13 (.inl (j_decW xs ds cm2 wt2.dropLast (j_next xs (nLast wt2))))) 11 (.inl (j_dec xs ds (j_dec xs ds cm2 (j_next xs (nLast wt2))) (j_goal xs ys pl (nLast wt2))))) 13 (.inl (j_decW xs ds (j_dec xs ds cm2 (j_next xs (nLast wt2))) (j_decW xs ds cm2 wt2.dropLast (j_next xs (nLast wt2))) (j_goal xs ys pl (nLast wt2))))) P
          rw [xu4 _ (show (11 : Nat) ≠ 13 by decide)]
          refine xw.steps 2 (fun _ => rfl) ?_
          show xw z NK g 67 121 [(0, .ref (z + 6)), (1, .int (lf + (-1))), (2, .int ((nI i) + 1)), (3, .int (nLast wt2))] [] (xu (xu S 11 (.inl (j_dec xs ds (j_dec xs ds cm2 (j_next xs (nLast wt2))) (j_goal xs ys pl (nLast wt2))))) 13 (.inl (j_decW xs ds (j_dec xs ds cm2 (j_next xs (nLast wt2))) (j_decW xs ds cm2 wt2.dropLast (j_next xs (nLast wt2))) (j_goal xs ys pl (nLast wt2))))) P
          rw [nI_1]
          refine xw.forget (lv := [(0, .ref (z + 6)), (1, .int (lf + (-1))), (2, .int (nI (i + 1)))]) lk_67 (show [0, 1, 2].Nodup by decide) (show [0, 1, 2, 3].Nodup by decide) (List.forall_mem_cons.mpr ⟨rfl, List.forall_mem_cons.mpr ⟨rfl, List.forall_mem_cons.mpr ⟨rfl, fun _ h => absurd h List.not_mem_nil⟩⟩⟩) ?_
          exact ih (i + 1) (by omega) _ _ _ (Nat.le_trans (j_decW_len _ _ _ _ _) (Nat.le_trans (Nat.succ_le_succ (j_decW_len _ _ _ _ _)) (by rw [List.length_dropLast]; have := x_pos c2; omega))) (by first | simpa [j_peel, c1, c2] using hP | simp_all [j_peel])
  have loop2 : ∀ (d i : Nat) (hi : i + d = xs.length) (cm2 : List Int32) (wt2 : List Int32) (lf : Int32) (hw : wt2.length ≤ i) (hP : P (some (.int (bI (decide ((j_peel xs ys pl ds xs.length cm2 (j_roots xs ds cm2 d i wt2) lf).2.2 = 0))))) (xu (xu S 11 (.inl (j_peel xs ys pl ds xs.length cm2 (j_roots xs ds cm2 d i wt2) lf).1)) 13 (.inl (j_peel xs ys pl ds xs.length cm2 (j_roots xs ds cm2 d i wt2) lf).2.1))), xw z NK g 67 75 [(0, .ref (z + 6)), (1, .int lf), (2, .int (nI i))] [] (xu (xu S 11 (.inl cm2)) 13 (.inl wt2)) P := by
    intro d
    induction d with
    | zero =>
      intro i hi cm2 wt2 lf hw hP
      refine xw.steps 2 (fun _ => rfl) ?_
      refine xw.getf (o := 6) rfl ((xu_ne _ _ (by decide)).trans ((xu_ne _ _ (by decide)).trans h6)) rfl ?_
      show xw z NK g 67 80 [(0, .ref (z + 6)), (1, .int lf), (2, .int (nI i))] [.ref (z + 1), .int (nI i)] (xu (xu S 11 (.inl cm2)) 13 (.inl wt2)) P
      refine xw.callO (o := 1) rfl rfl rfl ((xu_ne _ _ (by decide)).trans ((xu_ne _ _ (by decide)).trans h1)) rfl rfl (c_Code_size ((xu_ne _ _ (by decide)).trans ((xu_ne _ _ (by decide)).trans h1)) ((xu_ne _ _ (by decide)).trans ((xu_ne _ _ (by decide)).trans h2)) ((xu_ne _ _ (by decide)).trans ((xu_ne _ _ (by decide)).trans h4)) (by decide) ?_)
      show xw z NK g 67 83 [(0, .ref (z + 6)), (1, .int lf), (2, .int (nI i))] [.int (nI xs.length), .int (nI i)] (xu (xu S 11 (.inl cm2)) 13 (.inl wt2)) P
      refine xw.icmp rfl (fun c1 => ?_) (fun c1 => ?_)
      · have c1 := Int32.not_lt.mpr (of_decide_eq_true c1)
        refine xw.steps 2 (fun _ => rfl) ?_
        show xw z NK g 67 121 [(0, .ref (z + 6)), (1, .int lf), (2, .int 0)] [] (xu (xu S 11 (.inl cm2)) 13 (.inl wt2)) P
        exact loop3 xs.length 0 (by omega) _ _ _ (by omega) hP
      · have c1 := Int32.not_le.mp (of_decide_eq_false c1)
        show xw z NK g 67 86 [(0, .ref (z + 6)), (1, .int lf), (2, .int (nI i))] [] (xu (xu S 11 (.inl cm2)) 13 (.inl wt2)) P
        exact absurd c1 (nI_nlt (by omega) (by omega))
    | succ d ih =>
      intro i hi cm2 wt2 lf hw hP
      refine xw.steps 2 (fun _ => rfl) ?_
      refine xw.getf (o := 6) rfl ((xu_ne _ _ (by decide)).trans ((xu_ne _ _ (by decide)).trans h6)) rfl ?_
      show xw z NK g 67 80 [(0, .ref (z + 6)), (1, .int lf), (2, .int (nI i))] [.ref (z + 1), .int (nI i)] (xu (xu S 11 (.inl cm2)) 13 (.inl wt2)) P
      refine xw.callO (o := 1) rfl rfl rfl ((xu_ne _ _ (by decide)).trans ((xu_ne _ _ (by decide)).trans h1)) rfl rfl (c_Code_size ((xu_ne _ _ (by decide)).trans ((xu_ne _ _ (by decide)).trans h1)) ((xu_ne _ _ (by decide)).trans ((xu_ne _ _ (by decide)).trans h2)) ((xu_ne _ _ (by decide)).trans ((xu_ne _ _ (by decide)).trans h4)) (by decide) ?_)
      show xw z NK g 67 83 [(0, .ref (z + 6)), (1, .int lf), (2, .int (nI i))] [.int (nI xs.length), .int (nI i)] (xu (xu S 11 (.inl cm2)) 13 (.inl wt2)) P
      refine xw.icmp rfl (fun c1 => ?_) (fun c1 => ?_)
      · have c1 := Int32.not_lt.mpr (of_decide_eq_true c1)
        show xw z NK g 67 119 [(0, .ref (z + 6)), (1, .int lf), (2, .int (nI i))] [] (xu (xu S 11 (.inl cm2)) 13 (.inl wt2)) P
        exact absurd (nI_lt (by omega) (by omega)) c1
      · have c1 := Int32.not_le.mp (of_decide_eq_false c1)
        refine xw.steps 2 (fun _ => rfl) ?_
        show xw z NK g 67 88 [(0, .ref (z + 6)), (1, .int lf), (2, .int (nI i))] [.int (nI i), .ref (z + 6)] (xu (xu S 11 (.inl cm2)) 13 (.inl wt2)) P
        refine xw.callO (o := 6) rfl rfl rfl ((xu_ne _ _ (by decide)).trans ((xu_ne _ _ (by decide)).trans h6)) rfl rfl (c_isFree ⟨((xu_ne _ _ (by decide)).trans ((xu_ne _ _ (by decide)).trans h1)), ((xu_ne _ _ (by decide)).trans ((xu_ne _ _ (by decide)).trans h2)), ((xu_ne _ _ (by decide)).trans ((xu_ne _ _ (by decide)).trans h4)), ((xu_ne _ _ (by decide)).trans ((xu_ne _ _ (by decide)).trans h6)), ((xu_ne _ _ (by decide)).trans ((xu_ne _ _ (by decide)).trans h7)), ((xu_ne _ _ (by decide)).trans ((xu_ne _ _ (by decide)).trans h9)), ((xu_ne _ _ (by decide)).trans (xu_self _ _ _)), (xu_self _ _ _)⟩ ?_)
        show xw z NK g 67 91 [(0, .ref (z + 6)), (1, .int lf), (2, .int (nI i))] [.int (bI (j_free xs ds (nI i)))] (xu (xu S 11 (.inl cm2)) 13 (.inl wt2)) P
        refine xw.if_ rfl (fun c2 => ?_) (fun c2 => ?_)
        · have c2 := bI_eq0 (of_decide_eq_true c2)
          refine xw.steps 2 (fun _ => rfl) ?_
          show xw z NK g 67 75 [(0, .ref (z + 6)), (1, .int lf), (2, .int ((nI i) + 1))] [] (xu (xu S 11 (.inl cm2)) 13 (.inl wt2)) P
          rw [nI_1]
          exact ih (i + 1) (by omega) _ _ _ (by first | omega | (simp; omega)) (by first | simpa [j_roots, c1, c2] using hP | simp_all [j_roots])
        · have c2 := bI_ne0 (of_decide_eq_false c2)
          refine xw.steps 1 (fun _ => rfl) ?_
          refine xw.getf (o := 6) rfl ((xu_ne _ _ (by decide)).trans ((xu_ne _ _ (by decide)).trans h6)) rfl ?_
          refine xw.steps 1 (fun _ => rfl) ?_
          show xw z NK g 67 99 [(0, .ref (z + 6)), (1, .int lf), (2, .int (nI i))] [.int (nI i), .ref (z + 11)] (xu (xu S 11 (.inl cm2)) 13 (.inl wt2)) P
          refine xw.callN (o := 11) rfl rfl rfl ((xu_ne _ _ (by decide)).trans (xu_self _ _ _)) rfl rfl (c_at ((xu_ne _ _ (by decide)).trans (xu_self _ _ _)) ?_)
          show xw z NK g 67 102 [(0, .ref (z + 6)), (1, .int lf), (2, .int (nI i))] [.int (nAt cm2 (nI i))] (xu (xu S 11 (.inl cm2)) 13 (.inl wt2)) P
          refine xw.if_ rfl (fun c3 => ?_) (fun c3 => ?_)
          · have c3 := of_decide_eq_true c3
            refine xw.steps 2 (fun _ => rfl) ?_
            show xw z NK g 67 75 [(0, .ref (z + 6)), (1, .int lf), (2, .int ((nI i) + 1))] [] (xu (xu S 11 (.inl cm2)) 13 (.inl wt2)) P
            rw [nI_1]
            exact ih (i + 1) (by omega) _ _ _ (by first | omega | (simp; omega)) (by first | simpa [j_roots, c1, c2, c3] using hP | simp_all [j_roots])
          · have c3 := Decidable.not_not.mp (of_decide_eq_false c3)
            refine xw.steps 1 (fun _ => rfl) ?_
            refine xw.getf (o := 6) rfl ((xu_ne _ _ (by decide)).trans ((xu_ne _ _ (by decide)).trans h6)) rfl ?_
            refine xw.steps 1 (fun _ => rfl) ?_
            show xw z NK g 67 110 [(0, .ref (z + 6)), (1, .int lf), (2, .int (nI i))] [.int (nI i), .ref (z + 13)] (xu (xu S 11 (.inl cm2)) 13 (.inl wt2)) P
            refine xw.callN (o := 13) rfl rfl rfl (xu_self _ _ _) rfl rfl (c_append (xu_self _ _ _) (by omega) ?_)
            show xw z NK g 67 113 [(0, .ref (z + 6)), (1, .int lf), (2, .int (nI i))] [] (xu (xu (xu S 11 (.inl cm2)) 13 (.inl wt2)) 13 (.inl (wt2 ++ [(nI i)]))) P
            rw [xu_xu]
            refine xw.steps 2 (fun _ => rfl) ?_
            show xw z NK g 67 75 [(0, .ref (z + 6)), (1, .int lf), (2, .int ((nI i) + 1))] [] (xu (xu S 11 (.inl cm2)) 13 (.inl (wt2 ++ [(nI i)]))) P
            rw [nI_1]
            exact ih (i + 1) (by omega) _ _ _ (by first | omega | (simp; omega)) (by first | simpa [j_roots, c1, c2, c3] using hP | simp_all [j_roots])
  have loop1 : ∀ (d i : Nat) (hi : i + d = xs.length) (cm2 : List Int32) (lf : Int32) (hP : P (some (.int (bI (decide ((j_peel xs ys pl ds xs.length (j_cnt xs ys pl ds d i cm2 lf).1 (j_roots xs ds (j_cnt xs ys pl ds d i cm2 lf).1 xs.length 0 []) (j_cnt xs ys pl ds d i cm2 lf).2).2.2 = 0))))) (xu (xu S 11 (.inl (j_peel xs ys pl ds xs.length (j_cnt xs ys pl ds d i cm2 lf).1 (j_roots xs ds (j_cnt xs ys pl ds d i cm2 lf).1 xs.length 0 []) (j_cnt xs ys pl ds d i cm2 lf).2).1)) 13 (.inl (j_peel xs ys pl ds xs.length (j_cnt xs ys pl ds d i cm2 lf).1 (j_roots xs ds (j_cnt xs ys pl ds d i cm2 lf).1 xs.length 0 []) (j_cnt xs ys pl ds d i cm2 lf).2).2.1))), xw z NK g 67 19 [(0, .ref (z + 6)), (1, .int lf), (2, .int (nI i))] [] (xu S 11 (.inl cm2)) P := by
    intro d
    induction d with
    | zero =>
      intro i hi cm2 lf hP
      refine xw.steps 2 (fun _ => rfl) ?_
      refine xw.getf (o := 6) rfl ((xu_ne _ _ (by decide)).trans h6) rfl ?_
      show xw z NK g 67 24 [(0, .ref (z + 6)), (1, .int lf), (2, .int (nI i))] [.ref (z + 1), .int (nI i)] (xu S 11 (.inl cm2)) P
      refine xw.callO (o := 1) rfl rfl rfl ((xu_ne _ _ (by decide)).trans h1) rfl rfl (c_Code_size ((xu_ne _ _ (by decide)).trans h1) ((xu_ne _ _ (by decide)).trans h2) ((xu_ne _ _ (by decide)).trans h4) (by decide) ?_)
      show xw z NK g 67 27 [(0, .ref (z + 6)), (1, .int lf), (2, .int (nI i))] [.int (nI xs.length), .int (nI i)] (xu S 11 (.inl cm2)) P
      refine xw.icmp rfl (fun c1 => ?_) (fun c1 => ?_)
      · have c1 := Int32.not_lt.mpr (of_decide_eq_true c1)
        refine xw.steps 1 (fun _ => rfl) ?_
        refine xw.getf (o := 6) rfl ((xu_ne _ _ (by decide)).trans h6) rfl ?_
        refine xw.steps 1 (fun _ => rfl) ?_
        show xw z NK g 67 70 [(0, .ref (z + 6)), (1, .int lf), (2, .int (nI i))] [.int 0, .ref (z + 13)] (xu S 11 (.inl cm2)) P
        refine xw.callN (o := 13) rfl rfl rfl ((xu_ne _ _ (by decide)).trans h13) rfl rfl (c_cutTo ((xu_ne _ _ (by decide)).trans h13) ?_)
        show xw z NK g 67 73 [(0, .ref (z + 6)), (1, .int lf), (2, .int (nI i))] [] (xu (xu S 11 (.inl cm2)) 13 (.inl (nCut wt 0))) P
        refine xw.steps 2 (fun _ => rfl) ?_
        show xw z NK g 67 75 [(0, .ref (z + 6)), (1, .int lf), (2, .int 0)] [] (xu (xu S 11 (.inl cm2)) 13 (.inl (nCut wt 0))) P
        have ec : nCut wt 0 = [] := rfl
        rw [ec]
        exact loop2 xs.length 0 (by omega) _ _ _ (by simp) hP
      · have c1 := Int32.not_le.mp (of_decide_eq_false c1)
        show xw z NK g 67 30 [(0, .ref (z + 6)), (1, .int lf), (2, .int (nI i))] [] (xu S 11 (.inl cm2)) P
        exact absurd c1 (nI_nlt (by omega) (by omega))
    | succ d ih =>
      intro i hi cm2 lf hP
      refine xw.steps 2 (fun _ => rfl) ?_
      refine xw.getf (o := 6) rfl ((xu_ne _ _ (by decide)).trans h6) rfl ?_
      show xw z NK g 67 24 [(0, .ref (z + 6)), (1, .int lf), (2, .int (nI i))] [.ref (z + 1), .int (nI i)] (xu S 11 (.inl cm2)) P
      refine xw.callO (o := 1) rfl rfl rfl ((xu_ne _ _ (by decide)).trans h1) rfl rfl (c_Code_size ((xu_ne _ _ (by decide)).trans h1) ((xu_ne _ _ (by decide)).trans h2) ((xu_ne _ _ (by decide)).trans h4) (by decide) ?_)
      show xw z NK g 67 27 [(0, .ref (z + 6)), (1, .int lf), (2, .int (nI i))] [.int (nI xs.length), .int (nI i)] (xu S 11 (.inl cm2)) P
      refine xw.icmp rfl (fun c1 => ?_) (fun c1 => ?_)
      · have c1 := Int32.not_lt.mpr (of_decide_eq_true c1)
        show xw z NK g 67 65 [(0, .ref (z + 6)), (1, .int lf), (2, .int (nI i))] [] (xu S 11 (.inl cm2)) P
        exact absurd (nI_lt (by omega) (by omega)) c1
      · have c1 := Int32.not_le.mp (of_decide_eq_false c1)
        refine xw.steps 2 (fun _ => rfl) ?_
        show xw z NK g 67 32 [(0, .ref (z + 6)), (1, .int lf), (2, .int (nI i))] [.int (nI i), .ref (z + 6)] (xu S 11 (.inl cm2)) P
        refine xw.callO (o := 6) rfl rfl rfl ((xu_ne _ _ (by decide)).trans h6) rfl rfl (c_isFree ⟨((xu_ne _ _ (by decide)).trans h1), ((xu_ne _ _ (by decide)).trans h2), ((xu_ne _ _ (by decide)).trans h4), ((xu_ne _ _ (by decide)).trans h6), ((xu_ne _ _ (by decide)).trans h7), ((xu_ne _ _ (by decide)).trans h9), (xu_self _ _ _), ((xu_ne _ _ (by decide)).trans h13)⟩ ?_)
        show xw z NK g 67 35 [(0, .ref (z + 6)), (1, .int lf), (2, .int (nI i))] [.int (bI (j_free xs ds (nI i)))] (xu S 11 (.inl cm2)) P
        refine xw.if_ rfl (fun c2 => ?_) (fun c2 => ?_)
        · have c2 := bI_eq0 (of_decide_eq_true c2)
          refine xw.steps 2 (fun _ => rfl) ?_
          show xw z NK g 67 19 [(0, .ref (z + 6)), (1, .int lf), (2, .int ((nI i) + 1))] [] (xu S 11 (.inl cm2)) P
          rw [nI_1]
          exact ih (i + 1) (by omega) _ _ (by first | simpa [j_cnt, c1, c2] using hP | simp_all [j_cnt])
        · have c2 := bI_ne0 (of_decide_eq_false c2)
          refine xw.steps 4 (fun _ => rfl) ?_
          show xw z NK g 67 44 [(0, .ref (z + 6)), (1, .int (lf + 1)), (2, .int (nI i))] [.int (nI i), .ref (z + 6), .ref (z + 6)] (xu S 11 (.inl cm2)) P
          refine xw.callO (o := 6) rfl rfl rfl ((xu_ne _ _ (by decide)).trans h6) rfl rfl (c_following ⟨((xu_ne _ _ (by decide)).trans h1), ((xu_ne _ _ (by decide)).trans h2), ((xu_ne _ _ (by decide)).trans h4), ((xu_ne _ _ (by decide)).trans h6), ((xu_ne _ _ (by decide)).trans h7), ((xu_ne _ _ (by decide)).trans h9), (xu_self _ _ _), ((xu_ne _ _ (by decide)).trans h13)⟩ ?_)
          show xw z NK g 67 47 [(0, .ref (z + 6)), (1, .int (lf + 1)), (2, .int (nI i))] [.int (j_next xs (nI i)), .ref (z + 6)] (xu S 11 (.inl cm2)) P
          show xw z NK g 67 47 [(0, .ref (z + 6)), (1, .int (lf + 1)), (2, .int (nI i))] [.int (j_next xs (nI i)), .ref (z + 6)] (xu S 11 (.inl cm2)) P
          refine xw.callO (o := 6) rfl rfl rfl ((xu_ne _ _ (by decide)).trans h6) rfl rfl (c_countComer ⟨((xu_ne _ _ (by decide)).trans h1), ((xu_ne _ _ (by decide)).trans h2), ((xu_ne _ _ (by decide)).trans h4), ((xu_ne _ _ (by decide)).trans h6), ((xu_ne _ _ (by decide)).trans h7), ((xu_ne _ _ (by decide)).trans h9), (xu_self _ _ _), ((xu_ne _ _ (by decide)).trans h13)⟩ ?_)
          show xw z NK g 67 50 [(0, .ref (z + 6)), (1, .int (lf + 1)), (2, .int (nI i))] [] (xu (xu S 11 (.inl cm2)) 11 (.inl (j_inc xs ds cm2 (j_next xs (nI i))))) P
          rw [xu_xu]
          refine xw.steps 3 (fun _ => rfl) ?_
          show xw z NK g 67 53 [(0, .ref (z + 6)), (1, .int (lf + 1)), (2, .int (nI i))] [.int (nI i), .ref (z + 6), .ref (z + 6)] (xu S 11 (.inl (j_inc xs ds cm2 (j_next xs (nI i))))) P
          refine xw.callO (o := 6) rfl rfl rfl ((xu_ne _ _ (by decide)).trans h6) rfl rfl (c_goal ⟨((xu_ne _ _ (by decide)).trans h1), ((xu_ne _ _ (by decide)).trans h2), ((xu_ne _ _ (by decide)).trans h4), ((xu_ne _ _ (by decide)).trans h6), ((xu_ne _ _ (by decide)).trans h7), ((xu_ne _ _ (by decide)).trans h9), (xu_self _ _ _), ((xu_ne _ _ (by decide)).trans h13)⟩ ?_)
          show xw z NK g 67 56 [(0, .ref (z + 6)), (1, .int (lf + 1)), (2, .int (nI i))] [.int (j_goal xs ys pl (nI i)), .ref (z + 6)] (xu S 11 (.inl (j_inc xs ds cm2 (j_next xs (nI i))))) P
          show xw z NK g 67 56 [(0, .ref (z + 6)), (1, .int (lf + 1)), (2, .int (nI i))] [.int (j_goal xs ys pl (nI i)), .ref (z + 6)] (xu S 11 (.inl (j_inc xs ds cm2 (j_next xs (nI i))))) P
          refine xw.callO (o := 6) rfl rfl rfl ((xu_ne _ _ (by decide)).trans h6) rfl rfl (c_countComer ⟨((xu_ne _ _ (by decide)).trans h1), ((xu_ne _ _ (by decide)).trans h2), ((xu_ne _ _ (by decide)).trans h4), ((xu_ne _ _ (by decide)).trans h6), ((xu_ne _ _ (by decide)).trans h7), ((xu_ne _ _ (by decide)).trans h9), (xu_self _ _ _), ((xu_ne _ _ (by decide)).trans h13)⟩ ?_)
          show xw z NK g 67 59 [(0, .ref (z + 6)), (1, .int (lf + 1)), (2, .int (nI i))] [] (xu (xu S 11 (.inl (j_inc xs ds cm2 (j_next xs (nI i))))) 11 (.inl (j_inc xs ds (j_inc xs ds cm2 (j_next xs (nI i))) (j_goal xs ys pl (nI i))))) P
          rw [xu_xu]
          refine xw.steps 2 (fun _ => rfl) ?_
          show xw z NK g 67 19 [(0, .ref (z + 6)), (1, .int (lf + 1)), (2, .int ((nI i) + 1))] [] (xu S 11 (.inl (j_inc xs ds (j_inc xs ds cm2 (j_next xs (nI i))) (j_goal xs ys pl (nI i))))) P
          rw [nI_1]
          exact ih (i + 1) (by omega) _ _ (by first | simpa [j_cnt, c1, c2] using hP | simp_all [j_cnt])
  refine xw.steps 1 (fun _ => rfl) ?_
  refine xw.getf (o := 6) rfl h6 rfl ?_
  refine xw.steps 1 (fun _ => rfl) ?_
  refine xw.getf (o := 6) rfl h6 rfl ?_
  show xw z NK g 67 8 [(0, .ref (z + 6))] [.ref (z + 1), .ref (z + 11)] S P
  refine xw.callO (o := 1) rfl rfl rfl h1 rfl rfl (c_Code_size h1 h2 h4 (by decide) ?_)
  show xw z NK g 67 11 [(0, .ref (z + 6))] [.int (nI xs.length), .ref (z + 11)] S P
  refine xw.steps 1 (fun _ => rfl) ?_
  show xw z NK g 67 12 [(0, .ref (z + 6))] [.int 0, .int (nI xs.length), .ref (z + 11)] S P
  refine xw.callN (o := 11) rfl rfl rfl h11 rfl rfl (c_refill h11 (by rw [nI_clamp (by omega)]; omega) ?_)
  show xw z NK g 67 15 [(0, .ref (z + 6))] [] (xu S 11 (.inl (List.replicate (nI xs.length).toNatClampNeg 0))) P
  refine xw.steps 4 (fun _ => rfl) ?_
  show xw z NK g 67 19 [(0, .ref (z + 6)), (1, .int 0), (2, .int 0)] [] (xu S 11 (.inl (List.replicate (nI xs.length).toNatClampNeg 0))) P
  have er : (nI xs.length).toNatClampNeg = xs.length := nI_clamp (by omega)
  rw [er]
  exact loop1 xs.length 0 (by omega) _ _ hP
end XJ5
