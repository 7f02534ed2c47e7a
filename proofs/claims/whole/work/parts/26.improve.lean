/-! IMPROVER: copyReached, improve (walks by wip/gen26.py) -/
def p_keep (xs ds : List Int32) (i : Int32) : Bool := decide ((nAt xs (i - 1) = 18 ∧ ¬ nAt ds (i - 1) = -1) ∨ ¬ nAt ds i = -1)
def p_copy (xs ys ds : List Int32) : Nat → Nat → List Int32 → List Int32 → List Int32 × List Int32
  | 0, _, ns, as => (ns, as)
  | d + 1, i, ns, as => if p_keep xs ds (nI i) = true then p_copy xs ys ds d (i + 1) (ns ++ [nAt xs (nI i)]) (as ++ [nAt ys (nI i)]) else p_copy xs ys ds d (i + 1) ns as
def p_pls (c : List Int32 × List Int32) : List Int32 := p_places c.1 c.2 c.1.length 0 (List.replicate 100 (-1))
def p_uss (c : List Int32 × List Int32) : List Int32 := p_uses (p_pls c) c.1 c.2 c.1.length 0 (List.replicate 100 0)
def p_pass (c : List Int32 × List Int32) : List Int32 × List Int32 := p_rew (p_pls c) (p_uss c) c.1 c.2 c.1.length 0 false [] []
theorem p_keep_1 {xs ds : List Int32} {i : Int32} (h : nAt xs (i - 1) = 18) (h2 : ¬ nAt ds (i - 1) = -1) : p_keep xs ds i = true := decide_eq_true (Or.inl ⟨h, h2⟩)
section XR
variable {z : Nat} {NK : List Nat} {g : mx_G} {S : xS} {P : Option Value → xS → Prop} {xs ys pj ds cm wt pl us fs ga ns as : List Int32} {jd rt : Int32}
set_option maxHeartbeats 4000000 in
/-- RowCode$Improver.copyReached(LRowCode$Code;LRowCode$Judge;)V -/
theorem c_copy (hK : jS z S xs ys pj ds cm wt jd rt) (hJ : iS z S 20 21 23 25 26 28 pl us fs ga ns as) (hb : xs.length < 60000) (hP : P none (xu (xu S 26 (.inl (p_copy xs ys ds xs.length 0 [] []).1)) 28 (.inl (p_copy xs ys ds xs.length 0 [] []).2))) : xw z NK g 73 0 [(0, .ref (z + 15)), (1, .ref (z + 1)), (2, .ref (z + 6))] [] S P := by
  obtain ⟨h1, h2, h4, h6, h7, h9, h11, h13⟩ := id hK
  obtain ⟨h15, h16, h18, hf, hfn, hfa, ht, htn, hta⟩ := id hJ
  have loop : ∀ (d i : Nat) (hi : i + d = xs.length) (ns2 : List Int32) (as2 : List Int32) (hw1 : ns2.length ≤ i) (hw2 : as2.length ≤ i) (hP : P none (xu (xu S 26 (.inl (p_copy xs ys ds d i ns2 as2).1)) 28 (.inl (p_copy xs ys ds d i ns2 as2).2))), xw z NK g 73 10 [(0, .ref (z + 15)), (1, .ref (z + 1)), (2, .ref (z + 6)), (3, .int (nI i))] [] (xu (xu S 26 (.inl ns2)) 28 (.inl as2)) P := by
    intro d
    induction d with
    | zero =>
      intro i hi ns2 as2 hw1 hw2 hP
      refine xw.steps 2 (fun _ => rfl) ?_
      show xw z NK g 73 12 [(0, .ref (z + 15)), (1, .ref (z + 1)), (2, .ref (z + 6)), (3, .int (nI i))] [.ref (z + 1), .int (nI i)] (xu (xu S 26 (.inl ns2)) 28 (.inl as2)) P
      refine xw.callO (o := 1) rfl rfl rfl ((xu_ne _ _ (by decide)).trans ((xu_ne _ _ (by decide)).trans h1)) rfl rfl (c_Code_size ((xu_ne _ _ (by decide)).trans ((xu_ne _ _ (by decide)).trans h1)) ((xu_ne _ _ (by decide)).trans ((xu_ne _ _ (by decide)).trans h2)) ((xu_ne _ _ (by decide)).trans ((xu_ne _ _ (by decide)).trans h4)) (by decide) ?_)
      show xw z NK g 73 15 [(0, .ref (z + 15)), (1, .ref (z + 1)), (2, .ref (z + 6)), (3, .int (nI i))] [.int (nI xs.length), .int (nI i)] (xu (xu S 26 (.inl ns2)) 28 (.inl as2)) P
      refine xw.icmp rfl (fun c1 => ?_) (fun c1 => ?_)
      · have c1 := Int32.not_lt.mpr (of_decide_eq_true c1)
        refine xw.ret rfl (fun _ => rfl) ?_
        show P none (xu (xu S 26 (.inl ns2)) 28 (.inl as2))
        exact hP
      · have c1 := Int32.not_le.mp (of_decide_eq_false c1)
        show xw z NK g 73 18 [(0, .ref (z + 15)), (1, .ref (z + 1)), (2, .ref (z + 6)), (3, .int (nI i))] [] (xu (xu S 26 (.inl ns2)) 28 (.inl as2)) P
        exact absurd c1 (nI_nlt (by omega) (by omega))
    | succ d ih =>
      intro i hi ns2 as2 hw1 hw2 hP
      refine xw.steps 2 (fun _ => rfl) ?_
      show xw z NK g 73 12 [(0, .ref (z + 15)), (1, .ref (z + 1)), (2, .ref (z + 6)), (3, .int (nI i))] [.ref (z + 1), .int (nI i)] (xu (xu S 26 (.inl ns2)) 28 (.inl as2)) P
      refine xw.callO (o := 1) rfl rfl rfl ((xu_ne _ _ (by decide)).trans ((xu_ne _ _ (by decide)).trans h1)) rfl rfl (c_Code_size ((xu_ne _ _ (by decide)).trans ((xu_ne _ _ (by decide)).trans h1)) ((xu_ne _ _ (by decide)).trans ((xu_ne _ _ (by decide)).trans h2)) ((xu_ne _ _ (by decide)).trans ((xu_ne _ _ (by decide)).trans h4)) (by decide) ?_)
      show xw z NK g 73 15 [(0, .ref (z + 15)), (1, .ref (z + 1)), (2, .ref (z + 6)), (3, .int (nI i))] [.int (nI xs.length), .int (nI i)] (xu (xu S 26 (.inl ns2)) 28 (.inl as2)) P
      refine xw.icmp rfl (fun c1 => ?_) (fun c1 => ?_)
      · have c1 := Int32.not_lt.mpr (of_decide_eq_true c1)
        show xw z NK g 73 83 [(0, .ref (z + 15)), (1, .ref (z + 1)), (2, .ref (z + 6)), (3, .int (nI i))] [] (xu (xu S 26 (.inl ns2)) 28 (.inl as2)) P
        exact absurd (nI_lt (by omega) (by omega)) c1
      · have c1 := Int32.not_le.mp (of_decide_eq_false c1)
        refine xw.steps 4 (fun _ => rfl) ?_
        show xw z NK g 73 22 [(0, .ref (z + 15)), (1, .ref (z + 1)), (2, .ref (z + 6)), (3, .int (nI i))] [.int ((nI i) - 1), .ref (z + 1)] (xu (xu S 26 (.inl ns2)) 28 (.inl as2)) P
        refine xw.callO (o := 1) rfl rfl rfl ((xu_ne _ _ (by decide)).trans ((xu_ne _ _ (by decide)).trans h1)) rfl rfl (c_Code_numberAt ((xu_ne _ _ (by decide)).trans ((xu_ne _ _ (by decide)).trans h1)) ((xu_ne _ _ (by decide)).trans ((xu_ne _ _ (by decide)).trans h2)) ((xu_ne _ _ (by decide)).trans ((xu_ne _ _ (by decide)).trans h4)) (by decide) ?_)
        show xw z NK g 73 25 [(0, .ref (z + 15)), (1, .ref (z + 1)), (2, .ref (z + 6)), (3, .int (nI i))] [.int (nAt xs ((nI i) - 1))] (xu (xu S 26 (.inl ns2)) 28 (.inl as2)) P
        refine xw.steps 1 (fun _ => rfl) ?_
        refine xw.icmp rfl (fun c2 => ?_) (fun c2 => ?_)
        · have c2 := of_decide_eq_true c2
          refine xw.steps 3 (fun _ => rfl) ?_
          refine xw.steps 1 (pc' := 52) (fun _ => rfl) ?_
          refine xw.steps 2 (fun _ => rfl) ?_
          show xw z NK g 73 54 [(0, .ref (z + 15)), (1, .ref (z + 1)), (2, .ref (z + 6)), (3, .int (nI i)), (4, .int 0)] [.int (nI i), .ref (z + 6)] (xu (xu S 26 (.inl ns2)) 28 (.inl as2)) P
          refine xw.callO (o := 6) rfl rfl rfl ((xu_ne _ _ (by decide)).trans ((xu_ne _ _ (by decide)).trans h6)) rfl rfl (c_isReached ⟨((xu_ne _ _ (by decide)).trans ((xu_ne _ _ (by decide)).trans h1)), ((xu_ne _ _ (by decide)).trans ((xu_ne _ _ (by decide)).trans h2)), ((xu_ne _ _ (by decide)).trans ((xu_ne _ _ (by decide)).trans h4)), ((xu_ne _ _ (by decide)).trans ((xu_ne _ _ (by decide)).trans h6)), ((xu_ne _ _ (by decide)).trans ((xu_ne _ _ (by decide)).trans h7)), ((xu_ne _ _ (by decide)).trans ((xu_ne _ _ (by decide)).trans h9)), ((xu_ne _ _ (by decide)).trans ((xu_ne _ _ (by decide)).trans h11)), ((xu_ne _ _ (by decide)).trans ((xu_ne _ _ (by decide)).trans h13))⟩ ?_)
          show xw z NK g 73 57 [(0, .ref (z + 15)), (1, .ref (z + 1)), (2, .ref (z + 6)), (3, .int (nI i)), (4, .int 0)] [.int (bI (decide (¬ nAt ds (nI i) = -1)))] (xu (xu S 26 (.inl ns2)) 28 (.inl as2)) P
          refine xw.if_ rfl (fun c3 => ?_) (fun c3 => ?_)
          · have c3 := bI_eq0 (of_decide_eq_true c3)
            refine xw.steps 2 (fun _ => rfl) ?_
            show xw z NK g 73 10 [(0, .ref (z + 15)), (1, .ref (z + 1)), (2, .ref (z + 6)), (3, .int ((nI i) + 1)), (4, .int 0)] [] (xu (xu S 26 (.inl ns2)) 28 (.inl as2)) P
            rw [nI_1]
            refine xw.forget (lv := [(0, .ref (z + 15)), (1, .ref (z + 1)), (2, .ref (z + 6)), (3, .int (nI (i + 1)))]) lk_73 (show [0, 1, 2, 3].Nodup by decide) (show [0, 1, 2, 3, 4].Nodup by decide) (List.forall_mem_cons.mpr ⟨rfl, List.forall_mem_cons.mpr ⟨rfl, List.forall_mem_cons.mpr ⟨rfl, List.forall_mem_cons.mpr ⟨rfl, fun _ h => absurd h List.not_mem_nil⟩⟩⟩⟩) ?_
            exact ih (i + 1) (by omega) _ _ (by omega) (by omega) (by first | simpa [p_copy, p_keep, c1, c2, c3] using hP | simp_all [p_copy, p_keep])
          · have c3 := bI_ne0 (of_decide_eq_false c3)
            refine xw.steps 1 (fun _ => rfl) ?_
            refine xw.getf (o := 15) rfl ((xu_ne _ _ (by decide)).trans ((xu_ne _ _ (by decide)).trans h15)) rfl ?_
            refine xw.steps 2 (fun _ => rfl) ?_
            show xw z NK g 73 66 [(0, .ref (z + 15)), (1, .ref (z + 1)), (2, .ref (z + 6)), (3, .int (nI i)), (4, .int 0)] [.int (nI i), .ref (z + 1), .ref (z + 25)] (xu (xu S 26 (.inl ns2)) 28 (.inl as2)) P
            refine xw.callO (o := 1) rfl rfl rfl ((xu_ne _ _ (by decide)).trans ((xu_ne _ _ (by decide)).trans h1)) rfl rfl (c_Code_numberAt ((xu_ne _ _ (by decide)).trans ((xu_ne _ _ (by decide)).trans h1)) ((xu_ne _ _ (by decide)).trans ((xu_ne _ _ (by decide)).trans h2)) ((xu_ne _ _ (by decide)).trans ((xu_ne _ _ (by decide)).trans h4)) (by decide) ?_)
            show xw z NK g 73 69 [(0, .ref (z + 15)), (1, .ref (z + 1)), (2, .ref (z + 6)), (3, .int (nI i)), (4, .int 0)] [.int (nAt xs (nI i)), .ref (z + 25)] (xu (xu S 26 (.inl ns2)) 28 (.inl as2)) P
            refine xw.steps 2 (fun _ => rfl) ?_
            show xw z NK g 73 71 [(0, .ref (z + 15)), (1, .ref (z + 1)), (2, .ref (z + 6)), (3, .int (nI i)), (4, .int 0)] [.int (nI i), .ref (z + 1), .int (nAt xs (nI i)), .ref (z + 25)] (xu (xu S 26 (.inl ns2)) 28 (.inl as2)) P
            refine xw.callO (o := 1) rfl rfl rfl ((xu_ne _ _ (by decide)).trans ((xu_ne _ _ (by decide)).trans h1)) rfl rfl (c_Code_argumentAt ((xu_ne _ _ (by decide)).trans ((xu_ne _ _ (by decide)).trans h1)) ((xu_ne _ _ (by decide)).trans ((xu_ne _ _ (by decide)).trans h2)) ((xu_ne _ _ (by decide)).trans ((xu_ne _ _ (by decide)).trans h4)) (by decide) ?_)
            show xw z NK g 73 74 [(0, .ref (z + 15)), (1, .ref (z + 1)), (2, .ref (z + 6)), (3, .int (nI i)), (4, .int 0)] [.int (nAt ys (nI i)), .int (nAt xs (nI i)), .ref (z + 25)] (xu (xu S 26 (.inl ns2)) 28 (.inl as2)) P
            show xw z NK g 73 74 [(0, .ref (z + 15)), (1, .ref (z + 1)), (2, .ref (z + 6)), (3, .int (nI i)), (4, .int 0)] [.int (nAt ys (nI i)), .int (nAt xs (nI i)), .ref (z + 25)] (xu (xu S 26 (.inl ns2)) 28 (.inl as2)) P
            refine xw.callO (o := 25) rfl rfl rfl ((xu_ne _ _ (by decide)).trans ((xu_ne _ _ (by decide)).trans ht)) rfl rfl (c_Code_append ((xu_ne _ _ (by decide)).trans ((xu_ne _ _ (by decide)).trans ht)) ((xu_ne _ _ (by decide)).trans (xu_self _ _ _)) (xu_self _ _ _) (by decide) (by omega) (by omega) ?_)
            show xw z NK g 73 77 [(0, .ref (z + 15)), (1, .ref (z + 1)), (2, .ref (z + 6)), (3, .int (nI i)), (4, .int 0)] [] (xu (xu (xu (xu S 26 (.inl ns2)) 28 (.inl as2)) 26 (.inl (ns2 ++ [(nAt xs (nI i))]))) 28 (.inl (as2 ++ [(nAt ys (nI i))]))) P
            rw [xu4 _ (show (26 : Nat) ≠ 28 by decide)]
            refine xw.steps 2 (fun _ => rfl) ?_
            show xw z NK g 73 10 [(0, .ref (z + 15)), (1, .ref (z + 1)), (2, .ref (z + 6)), (3, .int ((nI i) + 1)), (4, .int 0)] [] (xu (xu S 26 (.inl (ns2 ++ [(nAt xs (nI i))]))) 28 (.inl (as2 ++ [(nAt ys (nI i))]))) P
            rw [nI_1]
            refine xw.forget (lv := [(0, .ref (z + 15)), (1, .ref (z + 1)), (2, .ref (z + 6)), (3, .int (nI (i + 1)))]) lk_73 (show [0, 1, 2, 3].Nodup by decide) (show [0, 1, 2, 3, 4].Nodup by decide) (List.forall_mem_cons.mpr ⟨rfl, List.forall_mem_cons.mpr ⟨rfl, List.forall_mem_cons.mpr ⟨rfl, List.forall_mem_cons.mpr ⟨rfl, fun _ h => absurd h List.not_mem_nil⟩⟩⟩⟩) ?_
            exact ih (i + 1) (by omega) _ _ (by simp; omega) (by simp; omega) (by first | simpa [p_copy, p_keep, c1, c2, c3] using hP | simp_all [p_copy, p_keep])
        · have c2 := Decidable.not_not.mp (of_decide_eq_false c2)
          refine xw.steps 4 (fun _ => rfl) ?_
          show xw z NK g 73 34 [(0, .ref (z + 15)), (1, .ref (z + 1)), (2, .ref (z + 6)), (3, .int (nI i))] [.int ((nI i) - 1), .ref (z + 6)] (xu (xu S 26 (.inl ns2)) 28 (.inl as2)) P
          refine xw.callO (o := 6) rfl rfl rfl ((xu_ne _ _ (by decide)).trans ((xu_ne _ _ (by decide)).trans h6)) rfl rfl (c_isReached ⟨((xu_ne _ _ (by decide)).trans ((xu_ne _ _ (by decide)).trans h1)), ((xu_ne _ _ (by decide)).trans ((xu_ne _ _ (by decide)).trans h2)), ((xu_ne _ _ (by decide)).trans ((xu_ne _ _ (by decide)).trans h4)), ((xu_ne _ _ (by decide)).trans ((xu_ne _ _ (by decide)).trans h6)), ((xu_ne _ _ (by decide)).trans ((xu_ne _ _ (by decide)).trans h7)), ((xu_ne _ _ (by decide)).trans ((xu_ne _ _ (by decide)).trans h9)), ((xu_ne _ _ (by decide)).trans ((xu_ne _ _ (by decide)).trans h11)), ((xu_ne _ _ (by decide)).trans ((xu_ne _ _ (by decide)).trans h13))⟩ ?_)
          show xw z NK g 73 37 [(0, .ref (z + 15)), (1, .ref (z + 1)), (2, .ref (z + 6)), (3, .int (nI i))] [.int (bI (decide (¬ nAt ds ((nI i) - 1) = -1)))] (xu (xu S 26 (.inl ns2)) 28 (.inl as2)) P
          refine xw.if_ rfl (fun c4 => ?_) (fun c4 => ?_)
          · have c4 := bI_eq0 (of_decide_eq_true c4)
            refine xw.steps 3 (fun _ => rfl) ?_
            refine xw.steps 1 (pc' := 52) (fun _ => rfl) ?_
            refine xw.steps 2 (fun _ => rfl) ?_
            show xw z NK g 73 54 [(0, .ref (z + 15)), (1, .ref (z + 1)), (2, .ref (z + 6)), (3, .int (nI i)), (4, .int 0)] [.int (nI i), .ref (z + 6)] (xu (xu S 26 (.inl ns2)) 28 (.inl as2)) P
            refine xw.callO (o := 6) rfl rfl rfl ((xu_ne _ _ (by decide)).trans ((xu_ne _ _ (by decide)).trans h6)) rfl rfl (c_isReached ⟨((xu_ne _ _ (by decide)).trans ((xu_ne _ _ (by decide)).trans h1)), ((xu_ne _ _ (by decide)).trans ((xu_ne _ _ (by decide)).trans h2)), ((xu_ne _ _ (by decide)).trans ((xu_ne _ _ (by decide)).trans h4)), ((xu_ne _ _ (by decide)).trans ((xu_ne _ _ (by decide)).trans h6)), ((xu_ne _ _ (by decide)).trans ((xu_ne _ _ (by decide)).trans h7)), ((xu_ne _ _ (by decide)).trans ((xu_ne _ _ (by decide)).trans h9)), ((xu_ne _ _ (by decide)).trans ((xu_ne _ _ (by decide)).trans h11)), ((xu_ne _ _ (by decide)).trans ((xu_ne _ _ (by decide)).trans h13))⟩ ?_)
            show xw z NK g 73 57 [(0, .ref (z + 15)), (1, .ref (z + 1)), (2, .ref (z + 6)), (3, .int (nI i)), (4, .int 0)] [.int (bI (decide (¬ nAt ds (nI i) = -1)))] (xu (xu S 26 (.inl ns2)) 28 (.inl as2)) P
            refine xw.if_ rfl (fun c5 => ?_) (fun c5 => ?_)
            · have c5 := bI_eq0 (of_decide_eq_true c5)
              refine xw.steps 2 (fun _ => rfl) ?_
              show xw z NK g 73 10 [(0, .ref (z + 15)), (1, .ref (z + 1)), (2, .ref (z + 6)), (3, .int ((nI i) + 1)), (4, .int 0)] [] (xu (xu S 26 (.inl ns2)) 28 (.inl as2)) P
              rw [nI_1]
              refine xw.forget (lv := [(0, .ref (z + 15)), (1, .ref (z + 1)), (2, .ref (z + 6)), (3, .int (nI (i + 1)))]) lk_73 (show [0, 1, 2, 3].Nodup by decide) (show [0, 1, 2, 3, 4].Nodup by decide) (List.forall_mem_cons.mpr ⟨rfl, List.forall_mem_cons.mpr ⟨rfl, List.forall_mem_cons.mpr ⟨rfl, List.forall_mem_cons.mpr ⟨rfl, fun _ h => absurd h List.not_mem_nil⟩⟩⟩⟩) ?_
              exact ih (i + 1) (by omega) _ _ (by omega) (by omega) (by first | simpa [p_copy, p_keep, c1, c2, c4, c5] using hP | simp_all [p_copy, p_keep])
            · have c5 := bI_ne0 (of_decide_eq_false c5)
              refine xw.steps 1 (fun _ => rfl) ?_
              refine xw.getf (o := 15) rfl ((xu_ne _ _ (by decide)).trans ((xu_ne _ _ (by decide)).trans h15)) rfl ?_
              refine xw.steps 2 (fun _ => rfl) ?_
              show xw z NK g 73 66 [(0, .ref (z + 15)), (1, .ref (z + 1)), (2, .ref (z + 6)), (3, .int (nI i)), (4, .int 0)] [.int (nI i), .ref (z + 1), .ref (z + 25)] (xu (xu S 26 (.inl ns2)) 28 (.inl as2)) P
              refine xw.callO (o := 1) rfl rfl rfl ((xu_ne _ _ (by decide)).trans ((xu_ne _ _ (by decide)).trans h1)) rfl rfl (c_Code_numberAt ((xu_ne _ _ (by decide)).trans ((xu_ne _ _ (by decide)).trans h1)) ((xu_ne _ _ (by decide)).trans ((xu_ne _ _ (by decide)).trans h2)) ((xu_ne _ _ (by decide)).trans ((xu_ne _ _ (by decide)).trans h4)) (by decide) ?_)
              show xw z NK g 73 69 [(0, .ref (z + 15)), (1, .ref (z + 1)), (2, .ref (z + 6)), (3, .int (nI i)), (4, .int 0)] [.int (nAt xs (nI i)), .ref (z + 25)] (xu (xu S 26 (.inl ns2)) 28 (.inl as2)) P
              refine xw.steps 2 (fun _ => rfl) ?_
              show xw z NK g 73 71 [(0, .ref (z + 15)), (1, .ref (z + 1)), (2, .ref (z + 6)), (3, .int (nI i)), (4, .int 0)] [.int (nI i), .ref (z + 1), .int (nAt xs (nI i)), .ref (z + 25)] (xu (xu S 26 (.inl ns2)) 28 (.inl as2)) P
              refine xw.callO (o := 1) rfl rfl rfl ((xu_ne _ _ (by decide)).trans ((xu_ne _ _ (by decide)).trans h1)) rfl rfl (c_Code_argumentAt ((xu_ne _ _ (by decide)).trans ((xu_ne _ _ (by decide)).trans h1)) ((xu_ne _ _ (by decide)).trans ((xu_ne _ _ (by decide)).trans h2)) ((xu_ne _ _ (by decide)).trans ((xu_ne _ _ (by decide)).trans h4)) (by decide) ?_)
              show xw z NK g 73 74 [(0, .ref (z + 15)), (1, .ref (z + 1)), (2, .ref (z + 6)), (3, .int (nI i)), (4, .int 0)] [.int (nAt ys (nI i)), .int (nAt xs (nI i)), .ref (z + 25)] (xu (xu S 26 (.inl ns2)) 28 (.inl as2)) P
              show xw z NK g 73 74 [(0, .ref (z + 15)), (1, .ref (z + 1)), (2, .ref (z + 6)), (3, .int (nI i)), (4, .int 0)] [.int (nAt ys (nI i)), .int (nAt xs (nI i)), .ref (z + 25)] (xu (xu S 26 (.inl ns2)) 28 (.inl as2)) P
              refine xw.callO (o := 25) rfl rfl rfl ((xu_ne _ _ (by decide)).trans ((xu_ne _ _ (by decide)).trans ht)) rfl rfl (c_Code_append ((xu_ne _ _ (by decide)).trans ((xu_ne _ _ (by decide)).trans ht)) ((xu_ne _ _ (by decide)).trans (xu_self _ _ _)) (xu_self _ _ _) (by decide) (by omega) (by omega) ?_)
              show xw z NK g 73 77 [(0, .ref (z + 15)), (1, .ref (z + 1)), (2, .ref (z + 6)), (3, .int (nI i)), (4, .int 0)] [] (xu (xu (xu (xu S 26 (.inl ns2)) 28 (.inl as2)) 26 (.inl (ns2 ++ [(nAt xs (nI i))]))) 28 (.inl (as2 ++ [(nAt ys (nI i))]))) P
              rw [xu4 _ (show (26 : Nat) ≠ 28 by decide)]
              refine xw.steps 2 (fun _ => rfl) ?_
              show xw z NK g 73 10 [(0, .ref (z + 15)), (1, .ref (z + 1)), (2, .ref (z + 6)), (3, .int ((nI i) + 1)), (4, .int 0)] [] (xu (xu S 26 (.inl (ns2 ++ [(nAt xs (nI i))]))) 28 (.inl (as2 ++ [(nAt ys (nI i))]))) P
              rw [nI_1]
              refine xw.forget (lv := [(0, .ref (z + 15)), (1, .ref (z + 1)), (2, .ref (z + 6)), (3, .int (nI (i + 1)))]) lk_73 (show [0, 1, 2, 3].Nodup by decide) (show [0, 1, 2, 3, 4].Nodup by decide) (List.forall_mem_cons.mpr ⟨rfl, List.forall_mem_cons.mpr ⟨rfl, List.forall_mem_cons.mpr ⟨rfl, List.forall_mem_cons.mpr ⟨rfl, fun _ h => absurd h List.not_mem_nil⟩⟩⟩⟩) ?_
              exact ih (i + 1) (by omega) _ _ (by simp; omega) (by simp; omega) (by first | simpa [p_copy, p_keep, c1, c2, c4, c5] using hP | simp_all [p_copy, p_keep])
          · have c4 := bI_ne0 (of_decide_eq_false c4)
            refine xw.steps 4 (fun _ => rfl) ?_
            refine xw.steps 1 (pc' := 60) (fun _ => rfl) ?_
            refine xw.steps 1 (fun _ => rfl) ?_
            refine xw.getf (o := 15) rfl ((xu_ne _ _ (by decide)).trans ((xu_ne _ _ (by decide)).trans h15)) rfl ?_
            refine xw.steps 2 (fun _ => rfl) ?_
            show xw z NK g 73 66 [(0, .ref (z + 15)), (1, .ref (z + 1)), (2, .ref (z + 6)), (3, .int (nI i)), (4, .int 1)] [.int (nI i), .ref (z + 1), .ref (z + 25)] (xu (xu S 26 (.inl ns2)) 28 (.inl as2)) P
            refine xw.callO (o := 1) rfl rfl rfl ((xu_ne _ _ (by decide)).trans ((xu_ne _ _ (by decide)).trans h1)) rfl rfl (c_Code_numberAt ((xu_ne _ _ (by decide)).trans ((xu_ne _ _ (by decide)).trans h1)) ((xu_ne _ _ (by decide)).trans ((xu_ne _ _ (by decide)).trans h2)) ((xu_ne _ _ (by decide)).trans ((xu_ne _ _ (by decide)).trans h4)) (by decide) ?_)
            show xw z NK g 73 69 [(0, .ref (z + 15)), (1, .ref (z + 1)), (2, .ref (z + 6)), (3, .int (nI i)), (4, .int 1)] [.int (nAt xs (nI i)), .ref (z + 25)] (xu (xu S 26 (.inl ns2)) 28 (.inl as2)) P
            refine xw.steps 2 (fun _ => rfl) ?_
            show xw z NK g 73 71 [(0, .ref (z + 15)), (1, .ref (z + 1)), (2, .ref (z + 6)), (3, .int (nI i)), (4, .int 1)] [.int (nI i), .ref (z + 1), .int (nAt xs (nI i)), .ref (z + 25)] (xu (xu S 26 (.inl ns2)) 28 (.inl as2)) P
            refine xw.callO (o := 1) rfl rfl rfl ((xu_ne _ _ (by decide)).trans ((xu_ne _ _ (by decide)).trans h1)) rfl rfl (c_Code_argumentAt ((xu_ne _ _ (by decide)).trans ((xu_ne _ _ (by decide)).trans h1)) ((xu_ne _ _ (by decide)).trans ((xu_ne _ _ (by decide)).trans h2)) ((xu_ne _ _ (by decide)).trans ((xu_ne _ _ (by decide)).trans h4)) (by decide) ?_)
            show xw z NK g 73 74 [(0, .ref (z + 15)), (1, .ref (z + 1)), (2, .ref (z + 6)), (3, .int (nI i)), (4, .int 1)] [.int (nAt ys (nI i)), .int (nAt xs (nI i)), .ref (z + 25)] (xu (xu S 26 (.inl ns2)) 28 (.inl as2)) P
            show xw z NK g 73 74 [(0, .ref (z + 15)), (1, .ref (z + 1)), (2, .ref (z + 6)), (3, .int (nI i)), (4, .int 1)] [.int (nAt ys (nI i)), .int (nAt xs (nI i)), .ref (z + 25)] (xu (xu S 26 (.inl ns2)) 28 (.inl as2)) P
            refine xw.callO (o := 25) rfl rfl rfl ((xu_ne _ _ (by decide)).trans ((xu_ne _ _ (by decide)).trans ht)) rfl rfl (c_Code_append ((xu_ne _ _ (by decide)).trans ((xu_ne _ _ (by decide)).trans ht)) ((xu_ne _ _ (by decide)).trans (xu_self _ _ _)) (xu_self _ _ _) (by decide) (by omega) (by omega) ?_)
            show xw z NK g 73 77 [(0, .ref (z + 15)), (1, .ref (z + 1)), (2, .ref (z + 6)), (3, .int (nI i)), (4, .int 1)] [] (xu (xu (xu (xu S 26 (.inl ns2)) 28 (.inl as2)) 26 (.inl (ns2 ++ [(nAt xs (nI i))]))) 28 (.inl (as2 ++ [(nAt ys (nI i))]))) P
            rw [xu4 _ (show (26 : Nat) ≠ 28 by decide)]
            refine xw.steps 2 (fun _ => rfl) ?_
            show xw z NK g 73 10 [(0, .ref (z + 15)), (1, .ref (z + 1)), (2, .ref (z + 6)), (3, .int ((nI i) + 1)), (4, .int 1)] [] (xu (xu S 26 (.inl (ns2 ++ [(nAt xs (nI i))]))) 28 (.inl (as2 ++ [(nAt ys (nI i))]))) P
            rw [nI_1]
            refine xw.forget (lv := [(0, .ref (z + 15)), (1, .ref (z + 1)), (2, .ref (z + 6)), (3, .int (nI (i + 1)))]) lk_73 (show [0, 1, 2, 3].Nodup by decide) (show [0, 1, 2, 3, 4].Nodup by decide) (List.forall_mem_cons.mpr ⟨rfl, List.forall_mem_cons.mpr ⟨rfl, List.forall_mem_cons.mpr ⟨rfl, List.forall_mem_cons.mpr ⟨rfl, fun _ h => absurd h List.not_mem_nil⟩⟩⟩⟩) ?_
            exact ih (i + 1) (by omega) _ _ (by simp; omega) (by simp; omega) (by first | simpa [p_copy, p_keep, c1, c2, c4] using hP | simp_all [p_copy, p_keep])
  refine xw.steps 1 (fun _ => rfl) ?_
  refine xw.getf (o := 15) rfl h15 rfl ?_
  refine xw.steps 1 (fun _ => rfl) ?_
  show xw z NK g 73 5 [(0, .ref (z + 15)), (1, .ref (z + 1)), (2, .ref (z + 6))] [.int 0, .ref (z + 25)] S P
  refine xw.callO (o := 25) rfl rfl rfl ht rfl rfl (c_Code_cutTo ht htn hta (by decide) ?_)
  show xw z NK g 73 8 [(0, .ref (z + 15)), (1, .ref (z + 1)), (2, .ref (z + 6))] [] (xu (xu S 26 (.inl (nCut ns 0))) 28 (.inl (nCut as 0))) P
  refine xw.steps 2 (fun _ => rfl) ?_
  show xw z NK g 73 10 [(0, .ref (z + 15)), (1, .ref (z + 1)), (2, .ref (z + 6)), (3, .int 0)] [] (xu (xu S 26 (.inl (nCut ns 0))) 28 (.inl (nCut as 0))) P
  have e1 : nCut ns 0 = [] := rfl
  have e2 : nCut as 0 = [] := rfl
  rw [e1, e2]
  exact loop xs.length 0 (by omega) _ _ (by simp) (by simp) hP
end XR
