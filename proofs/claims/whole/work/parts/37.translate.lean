/-! TRANSLATOR: translate (walks by wip/gen37.py) -/
/-- one instruction of the row -/
def tr_one (dl : Int32 → Int32) (t : TT) (i : Int32 × Int32) : TT :=
  if i.1 = 0 then tr_lay t 2 i.2 else if i.1 = 1 then tr_lay t 3 i.2 else if i.1 = 2 then tr_store t i.2 else if i.1 = 3 then tr_top t 8 else if i.1 = 4 then tr_drop (tr_write (tr_meet t false).1 9 0) 2 else if i.1 = 5 then tr_top t 10 else if i.1 = 6 then tr_top t 11 else if i.1 = 7 then tr_leave (tr_write (tr_meet t (a_commutes i.2)).1 12 i.2) else if i.1 = 8 then tr_leave (tr_write (tr_meet t true).1 13 (if (tr_meet t true).2 = true then a_mir i.2 else i.2)) else if i.1 = 9 then tr_keep t i.2 else if i.1 = 10 then tr_row (tr_write (tr_settle (t.2.1.length - 0) 0 t) 20 i.2) 0 else if i.1 = 11 then tr_goIf t 21 i.2 else if i.1 = 12 then tr_goIf t 22 i.2 else if i.1 = 13 then tr_row (tr_write (tr_settle (t.2.1.length - 0) 0 t) 0 i.2) (dl i.2) else if i.1 = 14 then tr_drop t 1 else if i.1 = 15 then tr_write t 17 0 else if i.1 = 16 then tr_row (tr_write (tr_toA t (nI t.2.1.length - 1)) 18 0) 0 else if i.1 = 17 then tr_row (tr_write t 19 0) 0 else if i.1 = 19 then tr_leave (tr_write (tr_meet t false).1 15 0) else if i.1 = 20 then tr_byte t else t
theorem tne {a b c : Int32} (h : ¬ a = c) : ¬ ((a, b) : Int32 × Int32).1 = c := h
section TRO
variable {dl : Int32 → Int32} {t : TT} {k : Int32}
theorem tro_0 : tr_one dl t (0, k) = tr_lay t 2 k := by
  rw [tr_one, if_pos rfl]
theorem tro_1 : tr_one dl t (1, k) = tr_lay t 3 k := by
  rw [tr_one, if_neg (tne (by decide)), if_pos rfl]
theorem tro_2 : tr_one dl t (2, k) = tr_store t k := by
  rw [tr_one, if_neg (tne (by decide)), if_neg (tne (by decide)), if_pos rfl]
theorem tro_3 : tr_one dl t (3, k) = tr_top t 8 := by
  rw [tr_one, if_neg (tne (by decide)), if_neg (tne (by decide)), if_neg (tne (by decide)), if_pos rfl]
theorem tro_4 : tr_one dl t (4, k) = tr_drop (tr_write (tr_meet t false).1 9 0) 2 := by
  rw [tr_one, if_neg (tne (by decide)), if_neg (tne (by decide)), if_neg (tne (by decide)), if_neg (tne (by decide)), if_pos rfl]
theorem tro_5 : tr_one dl t (5, k) = tr_top t 10 := by
  rw [tr_one, if_neg (tne (by decide)), if_neg (tne (by decide)), if_neg (tne (by decide)), if_neg (tne (by decide)), if_neg (tne (by decide)), if_pos rfl]
theorem tro_6 : tr_one dl t (6, k) = tr_top t 11 := by
  rw [tr_one, if_neg (tne (by decide)), if_neg (tne (by decide)), if_neg (tne (by decide)), if_neg (tne (by decide)), if_neg (tne (by decide)), if_neg (tne (by decide)), if_pos rfl]
theorem tro_7 : tr_one dl t (7, k) = tr_leave (tr_write (tr_meet t (a_commutes k)).1 12 k) := by
  rw [tr_one, if_neg (tne (by decide)), if_neg (tne (by decide)), if_neg (tne (by decide)), if_neg (tne (by decide)), if_neg (tne (by decide)), if_neg (tne (by decide)), if_neg (tne (by decide)), if_pos rfl]
theorem tro_8 : tr_one dl t (8, k) = tr_leave (tr_write (tr_meet t true).1 13 (if (tr_meet t true).2 = true then a_mir k else k)) := by
  rw [tr_one, if_neg (tne (by decide)), if_neg (tne (by decide)), if_neg (tne (by decide)), if_neg (tne (by decide)), if_neg (tne (by decide)), if_neg (tne (by decide)), if_neg (tne (by decide)), if_neg (tne (by decide)), if_pos rfl]
theorem tro_9 : tr_one dl t (9, k) = tr_keep t k := by
  rw [tr_one, if_neg (tne (by decide)), if_neg (tne (by decide)), if_neg (tne (by decide)), if_neg (tne (by decide)), if_neg (tne (by decide)), if_neg (tne (by decide)), if_neg (tne (by decide)), if_neg (tne (by decide)), if_neg (tne (by decide)), if_pos rfl]
theorem tro_10 : tr_one dl t (10, k) = tr_row (tr_write (tr_settle (t.2.1.length - 0) 0 t) 20 k) 0 := by
  rw [tr_one, if_neg (tne (by decide)), if_neg (tne (by decide)), if_neg (tne (by decide)), if_neg (tne (by decide)), if_neg (tne (by decide)), if_neg (tne (by decide)), if_neg (tne (by decide)), if_neg (tne (by decide)), if_neg (tne (by decide)), if_neg (tne (by decide)), if_pos rfl]
theorem tro_11 : tr_one dl t (11, k) = tr_goIf t 21 k := by
  rw [tr_one, if_neg (tne (by decide)), if_neg (tne (by decide)), if_neg (tne (by decide)), if_neg (tne (by decide)), if_neg (tne (by decide)), if_neg (tne (by decide)), if_neg (tne (by decide)), if_neg (tne (by decide)), if_neg (tne (by decide)), if_neg (tne (by decide)), if_neg (tne (by decide)), if_pos rfl]
theorem tro_12 : tr_one dl t (12, k) = tr_goIf t 22 k := by
  rw [tr_one, if_neg (tne (by decide)), if_neg (tne (by decide)), if_neg (tne (by decide)), if_neg (tne (by decide)), if_neg (tne (by decide)), if_neg (tne (by decide)), if_neg (tne (by decide)), if_neg (tne (by decide)), if_neg (tne (by decide)), if_neg (tne (by decide)), if_neg (tne (by decide)), if_neg (tne (by decide)), if_pos rfl]
theorem tro_13 : tr_one dl t (13, k) = tr_row (tr_write (tr_settle (t.2.1.length - 0) 0 t) 0 k) (dl k) := by
  rw [tr_one, if_neg (tne (by decide)), if_neg (tne (by decide)), if_neg (tne (by decide)), if_neg (tne (by decide)), if_neg (tne (by decide)), if_neg (tne (by decide)), if_neg (tne (by decide)), if_neg (tne (by decide)), if_neg (tne (by decide)), if_neg (tne (by decide)), if_neg (tne (by decide)), if_neg (tne (by decide)), if_neg (tne (by decide)), if_pos rfl]
theorem tro_14 : tr_one dl t (14, k) = tr_drop t 1 := by
  rw [tr_one, if_neg (tne (by decide)), if_neg (tne (by decide)), if_neg (tne (by decide)), if_neg (tne (by decide)), if_neg (tne (by decide)), if_neg (tne (by decide)), if_neg (tne (by decide)), if_neg (tne (by decide)), if_neg (tne (by decide)), if_neg (tne (by decide)), if_neg (tne (by decide)), if_neg (tne (by decide)), if_neg (tne (by decide)), if_neg (tne (by decide)), if_pos rfl]
theorem tro_15 : tr_one dl t (15, k) = tr_write t 17 0 := by
  rw [tr_one, if_neg (tne (by decide)), if_neg (tne (by decide)), if_neg (tne (by decide)), if_neg (tne (by decide)), if_neg (tne (by decide)), if_neg (tne (by decide)), if_neg (tne (by decide)), if_neg (tne (by decide)), if_neg (tne (by decide)), if_neg (tne (by decide)), if_neg (tne (by decide)), if_neg (tne (by decide)), if_neg (tne (by decide)), if_neg (tne (by decide)), if_neg (tne (by decide)), if_pos rfl]
theorem tro_16 : tr_one dl t (16, k) = tr_row (tr_write (tr_toA t (nI t.2.1.length - 1)) 18 0) 0 := by
  rw [tr_one, if_neg (tne (by decide)), if_neg (tne (by decide)), if_neg (tne (by decide)), if_neg (tne (by decide)), if_neg (tne (by decide)), if_neg (tne (by decide)), if_neg (tne (by decide)), if_neg (tne (by decide)), if_neg (tne (by decide)), if_neg (tne (by decide)), if_neg (tne (by decide)), if_neg (tne (by decide)), if_neg (tne (by decide)), if_neg (tne (by decide)), if_neg (tne (by decide)), if_neg (tne (by decide)), if_pos rfl]
theorem tro_17 : tr_one dl t (17, k) = tr_row (tr_write t 19 0) 0 := by
  rw [tr_one, if_neg (tne (by decide)), if_neg (tne (by decide)), if_neg (tne (by decide)), if_neg (tne (by decide)), if_neg (tne (by decide)), if_neg (tne (by decide)), if_neg (tne (by decide)), if_neg (tne (by decide)), if_neg (tne (by decide)), if_neg (tne (by decide)), if_neg (tne (by decide)), if_neg (tne (by decide)), if_neg (tne (by decide)), if_neg (tne (by decide)), if_neg (tne (by decide)), if_neg (tne (by decide)), if_neg (tne (by decide)), if_pos rfl]
theorem tro_19 : tr_one dl t (19, k) = tr_leave (tr_write (tr_meet t false).1 15 0) := by
  rw [tr_one, if_neg (tne (by decide)), if_neg (tne (by decide)), if_neg (tne (by decide)), if_neg (tne (by decide)), if_neg (tne (by decide)), if_neg (tne (by decide)), if_neg (tne (by decide)), if_neg (tne (by decide)), if_neg (tne (by decide)), if_neg (tne (by decide)), if_neg (tne (by decide)), if_neg (tne (by decide)), if_neg (tne (by decide)), if_neg (tne (by decide)), if_neg (tne (by decide)), if_neg (tne (by decide)), if_neg (tne (by decide)), if_neg (tne (by decide)), if_pos rfl]
theorem tro_20 : tr_one dl t (20, k) = tr_byte t := by
  rw [tr_one, if_neg (tne (by decide)), if_neg (tne (by decide)), if_neg (tne (by decide)), if_neg (tne (by decide)), if_neg (tne (by decide)), if_neg (tne (by decide)), if_neg (tne (by decide)), if_neg (tne (by decide)), if_neg (tne (by decide)), if_neg (tne (by decide)), if_neg (tne (by decide)), if_neg (tne (by decide)), if_neg (tne (by decide)), if_neg (tne (by decide)), if_neg (tne (by decide)), if_neg (tne (by decide)), if_neg (tne (by decide)), if_neg (tne (by decide)), if_neg (tne (by decide)), if_pos rfl]
end TRO
def tr_nx (xs ys : List Int32) (dl : Int32 → Int32) (i : Nat) (t : TT) : Nat × TT :=
  if nAt xs (nI i) = 8 ∧ t_cond (nAt xs (nI i + 1)) = true then (i + 1 + 1, tr_cgo t (nAt ys (nI i)) (nAt xs (nI i + 1)) (nAt ys (nI i + 1)))
  else if nAt xs (nI i) = 18 then (i + 1 + 1, tr_case t (nAt ys (nI i)) (nAt ys (nI i + 1)))
  else (i + 1, tr_one dl t (nAt xs (nI i), nAt ys (nI i)))
def tr_loop (xs ys : List Int32) (dl : Int32 → Int32) : Nat → Nat → TT → TT
  | 0, _, t => t
  | d + 1, i, t => if nI i < nI xs.length then tr_loop xs ys dl d (tr_nx xs ys dl i t).1 (tr_nx xs ys dl i t).2 else t
/-- what the translator's methods ask for -/
def tr_need (n : Int32) (t : TT) : Prop := t.1.length + 6 * t.2.1.length + 60 ≤ 131072 ∧ t.2.2.1.length = t.2.1.length ∧ (n = 2 ∨ n = 11 ∨ n = 12 ∨ n = 18 → 1 ≤ t.2.1.length) ∧ (n = 8 → 2 ≤ t.2.1.length) ∧ (n = 20 → 3 ≤ t.2.1.length)
def tr_pre (xs ys : List Int32) (dl : Int32 → Int32) : Nat → Nat → TT → Prop
  | 0, _, _ => True
  | d + 1, i, t => nI i < nI xs.length → tr_need (nAt xs (nI i)) t ∧ (dl (nAt ys (nI i))).toNatClampNeg ≤ 131072 ∧ tr_pre xs ys dl d (tr_nx xs ys dl i t).1 (tr_nx xs ys dl i t).2
section XT7
variable {z : Nat} {NK : List Nat} {g : mx_G} {S : xS} {P : Option Value → xS → Prop} {im ki de xs ys x0 y0 pj ds cm wt : List Int32} {iA iB jd rt : Int32}
set_option maxRecDepth 8000 in
set_option maxHeartbeats 8000000 in
/-- RowCode$Translator.translate(LRowCode$Code;LRowCode$Judge;)LRowCode$Numbers; -/
theorem c_translate (hK : jS z S x0 y0 pj ds cm wt jd rt) (h25 : S 25 = some (.inr (.inr (1, [.ref (z + 26), .ref (z + 28)])))) (h26 : S 26 = some (.inl xs)) (h28 : S 28 = some (.inl ys)) (hb : xs.length < 60000) (hpre : tr_pre xs ys (fun k => nAt ds (nAt pj k)) (xs.length + 1) 0 ([], [], [], -1, -1)) (hP : P (some (.ref (z + 31))) (tput z S (tr_loop xs ys (fun k => nAt ds (nAt pj k)) (xs.length + 1) 0 ([], [], [], -1, -1)))) : xw z NK g 87 0 [(0, .ref (z + 30)), (1, .ref (z + 25)), (2, .ref (z + 6))] [] (tput z S (im, ki, de, iA, iB)) P := by
  obtain ⟨h1, h2, h4, h6, h7, h9, h11, h13⟩ := id hK
  have loop : ∀ (d i : Nat) (hi : xs.length ≤ i + d) (hi2 : i ≤ xs.length + 1) (u : TT) (hp : tr_pre xs ys (fun k => nAt ds (nAt pj k)) d i u) (hP : P (some (.ref (z + 31))) (tput z S (tr_loop xs ys (fun k => nAt ds (nAt pj k)) d i u))), xw z NK g 87 15 [(0, .ref (z + 30)), (1, .ref (z + 25)), (2, .ref (z + 6)), (3, .int (nI i))] [] (tput z S u) P := by
    intro d
    induction d with
    | zero =>
      intro i hi hi2 u hp hP
      refine xw.steps 2 (fun _ => rfl) ?_
      show xw z NK g 87 17 [(0, .ref (z + 30)), (1, .ref (z + 25)), (2, .ref (z + 6)), (3, .int (nI i))] [.ref (z + 25), .int (nI i)] (tput z S u) P
      refine xw.callO (o := 25) rfl rfl rfl ((tput_ne _ _ _ (by decide)).trans h25) rfl rfl (c_Code_size ((tput_ne _ _ _ (by decide)).trans h25) ((tput_ne _ _ _ (by decide)).trans h26) ((tput_ne _ _ _ (by decide)).trans h28) (by decide) ?_)
      show xw z NK g 87 20 [(0, .ref (z + 30)), (1, .ref (z + 25)), (2, .ref (z + 6)), (3, .int (nI i))] [.int (nI xs.length), .int (nI i)] (tput z S u) P
      refine xw.icmp rfl (fun c1 => ?_) (fun c1 => ?_)
      · have c1 := Int32.not_lt.mpr (of_decide_eq_true c1)
        refine xw.steps 1 (fun _ => rfl) ?_
        refine xw.getf (o := 30) rfl (tput_30 _ _ _) rfl ?_
        refine xw.ret rfl (fun _ => rfl) ?_
        show P (some (.ref (z + 31))) (tput z S u)
        exact hP
      · have c1 := Int32.not_le.mp (of_decide_eq_false c1)
        show xw z NK g 87 23 [(0, .ref (z + 30)), (1, .ref (z + 25)), (2, .ref (z + 6)), (3, .int (nI i))] [] (tput z S u) P
        exact absurd c1 (nI_nlt (by omega) (by omega))
    | succ d ih =>
      intro i hi hi2 u hp hP
      refine xw.steps 2 (fun _ => rfl) ?_
      show xw z NK g 87 17 [(0, .ref (z + 30)), (1, .ref (z + 25)), (2, .ref (z + 6)), (3, .int (nI i))] [.ref (z + 25), .int (nI i)] (tput z S u) P
      refine xw.callO (o := 25) rfl rfl rfl ((tput_ne _ _ _ (by decide)).trans h25) rfl rfl (c_Code_size ((tput_ne _ _ _ (by decide)).trans h25) ((tput_ne _ _ _ (by decide)).trans h26) ((tput_ne _ _ _ (by decide)).trans h28) (by decide) ?_)
      show xw z NK g 87 20 [(0, .ref (z + 30)), (1, .ref (z + 25)), (2, .ref (z + 6)), (3, .int (nI i))] [.int (nI xs.length), .int (nI i)] (tput z S u) P
      refine xw.icmp rfl (fun c1 => ?_) (fun c1 => ?_)
      · have c1 := Int32.not_lt.mpr (of_decide_eq_true c1)
        refine xw.steps 1 (fun _ => rfl) ?_
        refine xw.getf (o := 30) rfl (tput_30 _ _ _) rfl ?_
        refine xw.ret rfl (fun _ => rfl) ?_
        show P (some (.ref (z + 31))) (tput z S u)
        rw [show tr_loop xs ys (fun k => nAt ds (nAt pj k)) (d + 1) i u = u from if_neg c1] at hP
        exact hP
      · have c1 := Int32.not_le.mp (of_decide_eq_false c1)
        show xw z NK g 87 23 [(0, .ref (z + 30)), (1, .ref (z + 25)), (2, .ref (z + 6)), (3, .int (nI i))] [] (tput z S u) P
        have hlt := (nI_ltI (by omega) (by omega)).mp c1
        obtain ⟨⟨hn1, hn2, hn3, hn4, hn5⟩, hn13, hpn⟩ := hp c1
        have hP := hP
        rw [show tr_loop xs ys (fun k => nAt ds (nAt pj k)) (d + 1) i u = tr_loop xs ys (fun k => nAt ds (nAt pj k)) d (tr_nx xs ys (fun k => nAt ds (nAt pj k)) i u).1 (tr_nx xs ys (fun k => nAt ds (nAt pj k)) i u).2 from if_pos c1] at hP
        refine xw.steps 2 (fun _ => rfl) ?_
        show xw z NK g 87 25 [(0, .ref (z + 30)), (1, .ref (z + 25)), (2, .ref (z + 6)), (3, .int (nI i))] [.int (nI i), .ref (z + 25)] (tput z S u) P
        refine xw.callO (o := 25) rfl rfl rfl ((tput_ne _ _ _ (by decide)).trans h25) rfl rfl (c_Code_numberAt ((tput_ne _ _ _ (by decide)).trans h25) ((tput_ne _ _ _ (by decide)).trans h26) ((tput_ne _ _ _ (by decide)).trans h28) (by decide) ?_)
        show xw z NK g 87 28 [(0, .ref (z + 30)), (1, .ref (z + 25)), (2, .ref (z + 6)), (3, .int (nI i))] [.int (nAt xs (nI i))] (tput z S u) P
        refine xw.steps 3 (fun _ => rfl) ?_
        show xw z NK g 87 32 [(0, .ref (z + 30)), (1, .ref (z + 25)), (2, .ref (z + 6)), (3, .int (nI i)), (4, .int (nAt xs (nI i)))] [.int (nI i), .ref (z + 25)] (tput z S u) P
        refine xw.callO (o := 25) rfl rfl rfl ((tput_ne _ _ _ (by decide)).trans h25) rfl rfl (c_Code_argumentAt ((tput_ne _ _ _ (by decide)).trans h25) ((tput_ne _ _ _ (by decide)).trans h26) ((tput_ne _ _ _ (by decide)).trans h28) (by decide) ?_)
        show xw z NK g 87 35 [(0, .ref (z + 30)), (1, .ref (z + 25)), (2, .ref (z + 6)), (3, .int (nI i)), (4, .int (nAt xs (nI i)))] [.int (nAt ys (nI i))] (tput z S u) P
        refine xw.steps 2 (fun _ => rfl) ?_
        refine xw.table rfl (fun c2 => ?_) ⟨fun c2 => ?_, fun c2 => ?_, fun c2 => ?_, fun c2 => ?_, fun c2 => ?_, fun c2 => ?_, fun c2 => ?_, fun c2 => ?_, fun c2 => ?_, fun c2 => ?_, fun c2 => ?_, fun c2 => ?_, fun c2 => ?_, fun c2 => ?_, fun c2 => ?_, fun c2 => ?_, fun c2 => ?_, fun c2 => ?_, fun c2 => ?_, fun c2 => ?_, fun c2 => ?_, trivial⟩
        · skip
          have c2_0 : ¬ (nAt xs (nI i)) = 0 := fun e => by rw [e] at c2; revert c2; decide
          have c2_1 : ¬ (nAt xs (nI i)) = 1 := fun e => by rw [e] at c2; revert c2; decide
          have c2_2 : ¬ (nAt xs (nI i)) = 2 := fun e => by rw [e] at c2; revert c2; decide
          have c2_3 : ¬ (nAt xs (nI i)) = 3 := fun e => by rw [e] at c2; revert c2; decide
          have c2_4 : ¬ (nAt xs (nI i)) = 4 := fun e => by rw [e] at c2; revert c2; decide
          have c2_5 : ¬ (nAt xs (nI i)) = 5 := fun e => by rw [e] at c2; revert c2; decide
          have c2_6 : ¬ (nAt xs (nI i)) = 6 := fun e => by rw [e] at c2; revert c2; decide
          have c2_7 : ¬ (nAt xs (nI i)) = 7 := fun e => by rw [e] at c2; revert c2; decide
          have c2_8 : ¬ (nAt xs (nI i)) = 8 := fun e => by rw [e] at c2; revert c2; decide
          have c2_9 : ¬ (nAt xs (nI i)) = 9 := fun e => by rw [e] at c2; revert c2; decide
          have c2_10 : ¬ (nAt xs (nI i)) = 10 := fun e => by rw [e] at c2; revert c2; decide
          have c2_11 : ¬ (nAt xs (nI i)) = 11 := fun e => by rw [e] at c2; revert c2; decide
          have c2_12 : ¬ (nAt xs (nI i)) = 12 := fun e => by rw [e] at c2; revert c2; decide
          have c2_13 : ¬ (nAt xs (nI i)) = 13 := fun e => by rw [e] at c2; revert c2; decide
          have c2_14 : ¬ (nAt xs (nI i)) = 14 := fun e => by rw [e] at c2; revert c2; decide
          have c2_15 : ¬ (nAt xs (nI i)) = 15 := fun e => by rw [e] at c2; revert c2; decide
          have c2_16 : ¬ (nAt xs (nI i)) = 16 := fun e => by rw [e] at c2; revert c2; decide
          have c2_17 : ¬ (nAt xs (nI i)) = 17 := fun e => by rw [e] at c2; revert c2; decide
          have c2_18 : ¬ (nAt xs (nI i)) = 18 := fun e => by rw [e] at c2; revert c2; decide
          have c2_19 : ¬ (nAt xs (nI i)) = 19 := fun e => by rw [e] at c2; revert c2; decide
          have c2_20 : ¬ (nAt xs (nI i)) = 20 := fun e => by rw [e] at c2; revert c2; decide
          refine xw.steps 2 (fun _ => rfl) ?_
          show xw z NK g 87 15 [(0, .ref (z + 30)), (1, .ref (z + 25)), (2, .ref (z + 6)), (3, .int ((nI i) + 1)), (4, .int (nAt xs (nI i))), (5, .int (nAt ys (nI i)))] [] (tput z S u) P
          rw [nI_1]
          refine xw.forget (lv := [(0, .ref (z + 30)), (1, .ref (z + 25)), (2, .ref (z + 6)), (3, .int (nI (i + 1)))]) lk_87 (show [0, 1, 2, 3].Nodup by decide) (show [0, 1, 2, 3, 4, 5].Nodup by decide) (List.forall_mem_cons.mpr ⟨rfl, List.forall_mem_cons.mpr ⟨rfl, List.forall_mem_cons.mpr ⟨rfl, List.forall_mem_cons.mpr ⟨rfl, fun _ h => absurd h List.not_mem_nil⟩⟩⟩⟩) ?_
          have hs : tr_nx xs ys (fun k => nAt ds (nAt pj k)) i u = ((i + 1), u) := by rw [tr_nx, if_neg (fun w => c2_8 w.1), if_neg c2_18, tr_one]; simp only [c2_0, c2_1, c2_2, c2_3, c2_4, c2_5, c2_6, c2_7, c2_8, c2_9, c2_10, c2_11, c2_12, c2_13, c2_14, c2_15, c2_16, c2_17, c2_18, c2_19, c2_20, if_false]
          rw [hs] at hpn hP
          exact ih _ (by omega) (by omega) _ hpn hP
        · have c2 : (nAt xs (nI i)) = 0 := c2
          refine xw.steps 3 (fun _ => rfl) ?_
          show xw z NK g 87 140 [(0, .ref (z + 30)), (1, .ref (z + 25)), (2, .ref (z + 6)), (3, .int (nI i)), (4, .int (nAt xs (nI i))), (5, .int (nAt ys (nI i)))] [.int (nAt ys (nI i)), .int 2, .ref (z + 30)] (tput z S u) P
          refine xw.callO (o := 30) rfl rfl rfl (tput_30 _ _ _) rfl rfl (c_lay (im := u.1) (ki := u.2.1) (de := u.2.2.1) (iA := u.2.2.2.1) (iB := u.2.2.2.2) (by omega) (by omega) ?_)
          show xw z NK g 87 143 [(0, .ref (z + 30)), (1, .ref (z + 25)), (2, .ref (z + 6)), (3, .int (nI i)), (4, .int (nAt xs (nI i))), (5, .int (nAt ys (nI i)))] [] (tput z S (tr_lay u 2 (nAt ys (nI i)))) P
          obtain ⟨t1, et1⟩ : ∃ t, t = (tr_lay u 2 (nAt ys (nI i))) := ⟨_, rfl⟩
          show xw z NK g 87 _ _ _ (tput z S (tr_lay u 2 (nAt ys (nI i)))) P
          rw [← et1]
          show xw z NK g 87 143 [(0, .ref (z + 30)), (1, .ref (z + 25)), (2, .ref (z + 6)), (3, .int (nI i)), (4, .int (nAt xs (nI i))), (5, .int (nAt ys (nI i)))] [] (tput z S t1) P
          refine xw.steps 3 (fun _ => rfl) ?_
          show xw z NK g 87 15 [(0, .ref (z + 30)), (1, .ref (z + 25)), (2, .ref (z + 6)), (3, .int ((nI i) + 1)), (4, .int (nAt xs (nI i))), (5, .int (nAt ys (nI i)))] [] (tput z S t1) P
          rw [nI_1]
          refine xw.forget (lv := [(0, .ref (z + 30)), (1, .ref (z + 25)), (2, .ref (z + 6)), (3, .int (nI (i + 1)))]) lk_87 (show [0, 1, 2, 3].Nodup by decide) (show [0, 1, 2, 3, 4, 5].Nodup by decide) (List.forall_mem_cons.mpr ⟨rfl, List.forall_mem_cons.mpr ⟨rfl, List.forall_mem_cons.mpr ⟨rfl, List.forall_mem_cons.mpr ⟨rfl, fun _ h => absurd h List.not_mem_nil⟩⟩⟩⟩) ?_
          subst et1
          have hs : tr_nx xs ys (fun k => nAt ds (nAt pj k)) i u = ((i + 1), tr_lay u 2 (nAt ys (nI i))) := by rw [tr_nx, if_neg (fun w => absurd w.1 (by rw [c2]; decide)), if_neg (by rw [c2]; decide), c2, tro_0]
          rw [hs] at hpn hP
          exact ih _ (by omega) (by omega) _ hpn hP
        · have c2 : (nAt xs (nI i)) = 1 := c2
          refine xw.steps 3 (fun _ => rfl) ?_
          show xw z NK g 87 150 [(0, .ref (z + 30)), (1, .ref (z + 25)), (2, .ref (z + 6)), (3, .int (nI i)), (4, .int (nAt xs (nI i))), (5, .int (nAt ys (nI i)))] [.int (nAt ys (nI i)), .int 3, .ref (z + 30)] (tput z S u) P
          refine xw.callO (o := 30) rfl rfl rfl (tput_30 _ _ _) rfl rfl (c_lay (im := u.1) (ki := u.2.1) (de := u.2.2.1) (iA := u.2.2.2.1) (iB := u.2.2.2.2) (by omega) (by omega) ?_)
          show xw z NK g 87 153 [(0, .ref (z + 30)), (1, .ref (z + 25)), (2, .ref (z + 6)), (3, .int (nI i)), (4, .int (nAt xs (nI i))), (5, .int (nAt ys (nI i)))] [] (tput z S (tr_lay u 3 (nAt ys (nI i)))) P
          obtain ⟨t2, et2⟩ : ∃ t, t = (tr_lay u 3 (nAt ys (nI i))) := ⟨_, rfl⟩
          show xw z NK g 87 _ _ _ (tput z S (tr_lay u 3 (nAt ys (nI i)))) P
          rw [← et2]
          show xw z NK g 87 153 [(0, .ref (z + 30)), (1, .ref (z + 25)), (2, .ref (z + 6)), (3, .int (nI i)), (4, .int (nAt xs (nI i))), (5, .int (nAt ys (nI i)))] [] (tput z S t2) P
          refine xw.steps 3 (fun _ => rfl) ?_
          show xw z NK g 87 15 [(0, .ref (z + 30)), (1, .ref (z + 25)), (2, .ref (z + 6)), (3, .int ((nI i) + 1)), (4, .int (nAt xs (nI i))), (5, .int (nAt ys (nI i)))] [] (tput z S t2) P
          rw [nI_1]
          refine xw.forget (lv := [(0, .ref (z + 30)), (1, .ref (z + 25)), (2, .ref (z + 6)), (3, .int (nI (i + 1)))]) lk_87 (show [0, 1, 2, 3].Nodup by decide) (show [0, 1, 2, 3, 4, 5].Nodup by decide) (List.forall_mem_cons.mpr ⟨rfl, List.forall_mem_cons.mpr ⟨rfl, List.forall_mem_cons.mpr ⟨rfl, List.forall_mem_cons.mpr ⟨rfl, fun _ h => absurd h List.not_mem_nil⟩⟩⟩⟩) ?_
          subst et2
          have hs : tr_nx xs ys (fun k => nAt ds (nAt pj k)) i u = ((i + 1), tr_lay u 3 (nAt ys (nI i))) := by rw [tr_nx, if_neg (fun w => absurd w.1 (by rw [c2]; decide)), if_neg (by rw [c2]; decide), c2, tro_1]
          rw [hs] at hpn hP
          exact ih _ (by omega) (by omega) _ hpn hP
        · have c2 : (nAt xs (nI i)) = 2 := c2
          show xw z NK g 87 156 [(0, .ref (z + 30)), (1, .ref (z + 25)), (2, .ref (z + 6)), (3, .int (nI i)), (4, .int (nAt xs (nI i))), (5, .int (nAt ys (nI i)))] [] (tput z S u) P
          have hl := hn3 (by rw [c2]; decide)
          refine xw.steps 2 (fun _ => rfl) ?_
          show xw z NK g 87 159 [(0, .ref (z + 30)), (1, .ref (z + 25)), (2, .ref (z + 6)), (3, .int (nI i)), (4, .int (nAt xs (nI i))), (5, .int (nAt ys (nI i)))] [.int (nAt ys (nI i)), .ref (z + 30)] (tput z S u) P
          refine xw.callO (o := 30) rfl rfl rfl (tput_30 _ _ _) rfl rfl (c_storeLocal (im := u.1) (ki := u.2.1) (de := u.2.2.1) (iA := u.2.2.2.1) (iB := u.2.2.2.2) (by omega) (by omega) ?_)
          show xw z NK g 87 162 [(0, .ref (z + 30)), (1, .ref (z + 25)), (2, .ref (z + 6)), (3, .int (nI i)), (4, .int (nAt xs (nI i))), (5, .int (nAt ys (nI i)))] [] (tput z S (tr_store u (nAt ys (nI i)))) P
          obtain ⟨t3, et3⟩ : ∃ t, t = (tr_store u (nAt ys (nI i))) := ⟨_, rfl⟩
          show xw z NK g 87 _ _ _ (tput z S (tr_store u (nAt ys (nI i)))) P
          rw [← et3]
          show xw z NK g 87 162 [(0, .ref (z + 30)), (1, .ref (z + 25)), (2, .ref (z + 6)), (3, .int (nI i)), (4, .int (nAt xs (nI i))), (5, .int (nAt ys (nI i)))] [] (tput z S t3) P
          refine xw.steps 3 (fun _ => rfl) ?_
          show xw z NK g 87 15 [(0, .ref (z + 30)), (1, .ref (z + 25)), (2, .ref (z + 6)), (3, .int ((nI i) + 1)), (4, .int (nAt xs (nI i))), (5, .int (nAt ys (nI i)))] [] (tput z S t3) P
          rw [nI_1]
          refine xw.forget (lv := [(0, .ref (z + 30)), (1, .ref (z + 25)), (2, .ref (z + 6)), (3, .int (nI (i + 1)))]) lk_87 (show [0, 1, 2, 3].Nodup by decide) (show [0, 1, 2, 3, 4, 5].Nodup by decide) (List.forall_mem_cons.mpr ⟨rfl, List.forall_mem_cons.mpr ⟨rfl, List.forall_mem_cons.mpr ⟨rfl, List.forall_mem_cons.mpr ⟨rfl, fun _ h => absurd h List.not_mem_nil⟩⟩⟩⟩) ?_
          subst et3
          have hs : tr_nx xs ys (fun k => nAt ds (nAt pj k)) i u = ((i + 1), tr_store u (nAt ys (nI i))) := by rw [tr_nx, if_neg (fun w => absurd w.1 (by rw [c2]; decide)), if_neg (by rw [c2]; decide), c2, tro_2]
          rw [hs] at hpn hP
          exact ih _ (by omega) (by omega) _ hpn hP
        · have c2 : (nAt xs (nI i)) = 3 := c2
          refine xw.steps 2 (fun _ => rfl) ?_
          show xw z NK g 87 168 [(0, .ref (z + 30)), (1, .ref (z + 25)), (2, .ref (z + 6)), (3, .int (nI i)), (4, .int (nAt xs (nI i))), (5, .int (nAt ys (nI i)))] [.int 8, .ref (z + 30)] (tput z S u) P
          refine xw.callO (o := 30) rfl rfl rfl (tput_30 _ _ _) rfl rfl (c_changeTop (im := u.1) (ki := u.2.1) (de := u.2.2.1) (iA := u.2.2.2.1) (iB := u.2.2.2.2) (by omega) ?_)
          show xw z NK g 87 171 [(0, .ref (z + 30)), (1, .ref (z + 25)), (2, .ref (z + 6)), (3, .int (nI i)), (4, .int (nAt xs (nI i))), (5, .int (nAt ys (nI i)))] [] (tput z S (tr_top u 8)) P
          obtain ⟨t4, et4⟩ : ∃ t, t = (tr_top u 8) := ⟨_, rfl⟩
          show xw z NK g 87 _ _ _ (tput z S (tr_top u 8)) P
          rw [← et4]
          show xw z NK g 87 171 [(0, .ref (z + 30)), (1, .ref (z + 25)), (2, .ref (z + 6)), (3, .int (nI i)), (4, .int (nAt xs (nI i))), (5, .int (nAt ys (nI i)))] [] (tput z S t4) P
          refine xw.steps 3 (fun _ => rfl) ?_
          show xw z NK g 87 15 [(0, .ref (z + 30)), (1, .ref (z + 25)), (2, .ref (z + 6)), (3, .int ((nI i) + 1)), (4, .int (nAt xs (nI i))), (5, .int (nAt ys (nI i)))] [] (tput z S t4) P
          rw [nI_1]
          refine xw.forget (lv := [(0, .ref (z + 30)), (1, .ref (z + 25)), (2, .ref (z + 6)), (3, .int (nI (i + 1)))]) lk_87 (show [0, 1, 2, 3].Nodup by decide) (show [0, 1, 2, 3, 4, 5].Nodup by decide) (List.forall_mem_cons.mpr ⟨rfl, List.forall_mem_cons.mpr ⟨rfl, List.forall_mem_cons.mpr ⟨rfl, List.forall_mem_cons.mpr ⟨rfl, fun _ h => absurd h List.not_mem_nil⟩⟩⟩⟩) ?_
          subst et4
          have hs : tr_nx xs ys (fun k => nAt ds (nAt pj k)) i u = ((i + 1), tr_top u 8) := by rw [tr_nx, if_neg (fun w => absurd w.1 (by rw [c2]; decide)), if_neg (by rw [c2]; decide), c2, tro_3]
          rw [hs] at hpn hP
          exact ih _ (by omega) (by omega) _ hpn hP
        · have c2 : (nAt xs (nI i)) = 4 := c2
          refine xw.steps 2 (fun _ => rfl) ?_
          show xw z NK g 87 176 [(0, .ref (z + 30)), (1, .ref (z + 25)), (2, .ref (z + 6)), (3, .int (nI i)), (4, .int (nAt xs (nI i))), (5, .int (nAt ys (nI i)))] [.int 0, .ref (z + 30)] (tput z S u) P
          refine xw.callO (o := 30) rfl rfl rfl (tput_30 _ _ _) rfl rfl (c_meet (im := u.1) (ki := u.2.1) (de := u.2.2.1) (iA := u.2.2.2.1) (iB := u.2.2.2.2) (m := false) (by omega) ?_)
          show xw z NK g 87 179 [(0, .ref (z + 30)), (1, .ref (z + 25)), (2, .ref (z + 6)), (3, .int (nI i)), (4, .int (nAt xs (nI i))), (5, .int (nAt ys (nI i)))] [.int (bI (tr_meet u false).2)] (tput z S (tr_meet u false).1) P
          obtain ⟨t5, et5⟩ : ∃ t, t = (tr_meet u false) := ⟨_, rfl⟩
          have lt5 := tr_meet_len u false
          rw [← et5] at lt5
          try dsimp only at lt5
          have mt5 := congrArg List.length lt5.2.2
          rw [← et5]
          show xw z NK g 87 179 [(0, .ref (z + 30)), (1, .ref (z + 25)), (2, .ref (z + 6)), (3, .int (nI i)), (4, .int (nAt xs (nI i))), (5, .int (nAt ys (nI i)))] [.int (bI t5.2)] (tput z S t5.1) P
          refine xw.steps 4 (fun _ => rfl) ?_
          show xw z NK g 87 184 [(0, .ref (z + 30)), (1, .ref (z + 25)), (2, .ref (z + 6)), (3, .int (nI i)), (4, .int (nAt xs (nI i))), (5, .int (nAt ys (nI i)))] [.int 0, .int 9, .ref (z + 30)] (tput z S t5.1) P
          refine xw.callO (o := 30) rfl rfl rfl (tput_30 _ _ _) rfl rfl (c_write (im := t5.1.1) (ki := t5.1.2.1) (de := t5.1.2.2.1) (iA := t5.1.2.2.2.1) (iB := t5.1.2.2.2.2) (by omega) ?_)
          show xw z NK g 87 187 [(0, .ref (z + 30)), (1, .ref (z + 25)), (2, .ref (z + 6)), (3, .int (nI i)), (4, .int (nAt xs (nI i))), (5, .int (nAt ys (nI i)))] [] (tput z S (tr_write t5.1 9 0)) P
          obtain ⟨t6, et6⟩ : ∃ t, t = (tr_write t5.1 9 0) := ⟨_, rfl⟩
          have lt6 := tr_write_len t5.1 9 0
          rw [← et6] at lt6
          try dsimp only at lt6
          have pt6 : t6.2.1.length = t5.1.2.1.length := by rw [lt6.2]
          have rt6 : t6.2.2.1.length = t5.1.2.2.1.length := by rw [lt6.2]
          show xw z NK g 87 _ _ _ (tput z S (tr_write t5.1 9 0)) P
          rw [← et6]
          show xw z NK g 87 187 [(0, .ref (z + 30)), (1, .ref (z + 25)), (2, .ref (z + 6)), (3, .int (nI i)), (4, .int (nAt xs (nI i))), (5, .int (nAt ys (nI i)))] [] (tput z S t6) P
          refine xw.steps 2 (fun _ => rfl) ?_
          show xw z NK g 87 189 [(0, .ref (z + 30)), (1, .ref (z + 25)), (2, .ref (z + 6)), (3, .int (nI i)), (4, .int (nAt xs (nI i))), (5, .int (nAt ys (nI i)))] [.int 2, .ref (z + 30)] (tput z S t6) P
          refine xw.callO (o := 30) rfl rfl rfl (tput_30 _ _ _) rfl rfl (c_tdrop (im := t6.1) (ki := t6.2.1) (de := t6.2.2.1) (iA := t6.2.2.2.1) (iB := t6.2.2.2.2)  ?_)
          show xw z NK g 87 192 [(0, .ref (z + 30)), (1, .ref (z + 25)), (2, .ref (z + 6)), (3, .int (nI i)), (4, .int (nAt xs (nI i))), (5, .int (nAt ys (nI i)))] [] (tput z S (tr_drop t6 2)) P
          obtain ⟨t7, et7⟩ : ∃ t, t = (tr_drop t6 2) := ⟨_, rfl⟩
          show xw z NK g 87 _ _ _ (tput z S (tr_drop t6 2)) P
          rw [← et7]
          show xw z NK g 87 192 [(0, .ref (z + 30)), (1, .ref (z + 25)), (2, .ref (z + 6)), (3, .int (nI i)), (4, .int (nAt xs (nI i))), (5, .int (nAt ys (nI i)))] [] (tput z S t7) P
          refine xw.steps 3 (fun _ => rfl) ?_
          show xw z NK g 87 15 [(0, .ref (z + 30)), (1, .ref (z + 25)), (2, .ref (z + 6)), (3, .int ((nI i) + 1)), (4, .int (nAt xs (nI i))), (5, .int (nAt ys (nI i)))] [] (tput z S t7) P
          rw [nI_1]
          refine xw.forget (lv := [(0, .ref (z + 30)), (1, .ref (z + 25)), (2, .ref (z + 6)), (3, .int (nI (i + 1)))]) lk_87 (show [0, 1, 2, 3].Nodup by decide) (show [0, 1, 2, 3, 4, 5].Nodup by decide) (List.forall_mem_cons.mpr ⟨rfl, List.forall_mem_cons.mpr ⟨rfl, List.forall_mem_cons.mpr ⟨rfl, List.forall_mem_cons.mpr ⟨rfl, fun _ h => absurd h List.not_mem_nil⟩⟩⟩⟩) ?_
          subst et7 et6 et5
          have hs : tr_nx xs ys (fun k => nAt ds (nAt pj k)) i u = ((i + 1), tr_drop (tr_write (tr_meet u false).1 9 0) 2) := by rw [tr_nx, if_neg (fun w => absurd w.1 (by rw [c2]; decide)), if_neg (by rw [c2]; decide), c2, tro_4]
          rw [hs] at hpn hP
          exact ih _ (by omega) (by omega) _ hpn hP
        · have c2 : (nAt xs (nI i)) = 5 := c2
          refine xw.steps 2 (fun _ => rfl) ?_
          show xw z NK g 87 198 [(0, .ref (z + 30)), (1, .ref (z + 25)), (2, .ref (z + 6)), (3, .int (nI i)), (4, .int (nAt xs (nI i))), (5, .int (nAt ys (nI i)))] [.int 10, .ref (z + 30)] (tput z S u) P
          refine xw.callO (o := 30) rfl rfl rfl (tput_30 _ _ _) rfl rfl (c_changeTop (im := u.1) (ki := u.2.1) (de := u.2.2.1) (iA := u.2.2.2.1) (iB := u.2.2.2.2) (by omega) ?_)
          show xw z NK g 87 201 [(0, .ref (z + 30)), (1, .ref (z + 25)), (2, .ref (z + 6)), (3, .int (nI i)), (4, .int (nAt xs (nI i))), (5, .int (nAt ys (nI i)))] [] (tput z S (tr_top u 10)) P
          obtain ⟨t8, et8⟩ : ∃ t, t = (tr_top u 10) := ⟨_, rfl⟩
          show xw z NK g 87 _ _ _ (tput z S (tr_top u 10)) P
          rw [← et8]
          show xw z NK g 87 201 [(0, .ref (z + 30)), (1, .ref (z + 25)), (2, .ref (z + 6)), (3, .int (nI i)), (4, .int (nAt xs (nI i))), (5, .int (nAt ys (nI i)))] [] (tput z S t8) P
          refine xw.steps 3 (fun _ => rfl) ?_
          show xw z NK g 87 15 [(0, .ref (z + 30)), (1, .ref (z + 25)), (2, .ref (z + 6)), (3, .int ((nI i) + 1)), (4, .int (nAt xs (nI i))), (5, .int (nAt ys (nI i)))] [] (tput z S t8) P
          rw [nI_1]
          refine xw.forget (lv := [(0, .ref (z + 30)), (1, .ref (z + 25)), (2, .ref (z + 6)), (3, .int (nI (i + 1)))]) lk_87 (show [0, 1, 2, 3].Nodup by decide) (show [0, 1, 2, 3, 4, 5].Nodup by decide) (List.forall_mem_cons.mpr ⟨rfl, List.forall_mem_cons.mpr ⟨rfl, List.forall_mem_cons.mpr ⟨rfl, List.forall_mem_cons.mpr ⟨rfl, fun _ h => absurd h List.not_mem_nil⟩⟩⟩⟩) ?_
          subst et8
          have hs : tr_nx xs ys (fun k => nAt ds (nAt pj k)) i u = ((i + 1), tr_top u 10) := by rw [tr_nx, if_neg (fun w => absurd w.1 (by rw [c2]; decide)), if_neg (by rw [c2]; decide), c2, tro_5]
          rw [hs] at hpn hP
          exact ih _ (by omega) (by omega) _ hpn hP
        · have c2 : (nAt xs (nI i)) = 6 := c2
          refine xw.steps 2 (fun _ => rfl) ?_
          show xw z NK g 87 207 [(0, .ref (z + 30)), (1, .ref (z + 25)), (2, .ref (z + 6)), (3, .int (nI i)), (4, .int (nAt xs (nI i))), (5, .int (nAt ys (nI i)))] [.int 11, .ref (z + 30)] (tput z S u) P
          refine xw.callO (o := 30) rfl rfl rfl (tput_30 _ _ _) rfl rfl (c_changeTop (im := u.1) (ki := u.2.1) (de := u.2.2.1) (iA := u.2.2.2.1) (iB := u.2.2.2.2) (by omega) ?_)
          show xw z NK g 87 210 [(0, .ref (z + 30)), (1, .ref (z + 25)), (2, .ref (z + 6)), (3, .int (nI i)), (4, .int (nAt xs (nI i))), (5, .int (nAt ys (nI i)))] [] (tput z S (tr_top u 11)) P
          obtain ⟨t9, et9⟩ : ∃ t, t = (tr_top u 11) := ⟨_, rfl⟩
          show xw z NK g 87 _ _ _ (tput z S (tr_top u 11)) P
          rw [← et9]
          show xw z NK g 87 210 [(0, .ref (z + 30)), (1, .ref (z + 25)), (2, .ref (z + 6)), (3, .int (nI i)), (4, .int (nAt xs (nI i))), (5, .int (nAt ys (nI i)))] [] (tput z S t9) P
          refine xw.steps 3 (fun _ => rfl) ?_
          show xw z NK g 87 15 [(0, .ref (z + 30)), (1, .ref (z + 25)), (2, .ref (z + 6)), (3, .int ((nI i) + 1)), (4, .int (nAt xs (nI i))), (5, .int (nAt ys (nI i)))] [] (tput z S t9) P
          rw [nI_1]
          refine xw.forget (lv := [(0, .ref (z + 30)), (1, .ref (z + 25)), (2, .ref (z + 6)), (3, .int (nI (i + 1)))]) lk_87 (show [0, 1, 2, 3].Nodup by decide) (show [0, 1, 2, 3, 4, 5].Nodup by decide) (List.forall_mem_cons.mpr ⟨rfl, List.forall_mem_cons.mpr ⟨rfl, List.forall_mem_cons.mpr ⟨rfl, List.forall_mem_cons.mpr ⟨rfl, fun _ h => absurd h List.not_mem_nil⟩⟩⟩⟩) ?_
          subst et9
          have hs : tr_nx xs ys (fun k => nAt ds (nAt pj k)) i u = ((i + 1), tr_top u 11) := by rw [tr_nx, if_neg (fun w => absurd w.1 (by rw [c2]; decide)), if_neg (by rw [c2]; decide), c2, tro_6]
          rw [hs] at hpn hP
          exact ih _ (by omega) (by omega) _ hpn hP
        · have c2 : (nAt xs (nI i)) = 7 := c2
          refine xw.steps 2 (fun _ => rfl) ?_
          show xw z NK g 87 216 [(0, .ref (z + 30)), (1, .ref (z + 25)), (2, .ref (z + 6)), (3, .int (nI i)), (4, .int (nAt xs (nI i))), (5, .int (nAt ys (nI i)))] [.int (nAt ys (nI i)), .ref (z + 30)] (tput z S u) P
          refine xw.callS rfl rfl rfl rfl rfl (c_commutes ?_)
          show xw z NK g 87 219 [(0, .ref (z + 30)), (1, .ref (z + 25)), (2, .ref (z + 6)), (3, .int (nI i)), (4, .int (nAt xs (nI i))), (5, .int (nAt ys (nI i)))] [.int (bI (a_commutes (nAt ys (nI i)))), .ref (z + 30)] (tput z S u) P
          show xw z NK g 87 219 [(0, .ref (z + 30)), (1, .ref (z + 25)), (2, .ref (z + 6)), (3, .int (nI i)), (4, .int (nAt xs (nI i))), (5, .int (nAt ys (nI i)))] [.int (bI (a_commutes (nAt ys (nI i)))), .ref (z + 30)] (tput z S u) P
          refine xw.callO (o := 30) rfl rfl rfl (tput_30 _ _ _) rfl rfl (c_meet (im := u.1) (ki := u.2.1) (de := u.2.2.1) (iA := u.2.2.2.1) (iB := u.2.2.2.2) (m := (a_commutes (nAt ys (nI i)))) (by omega) ?_)
          show xw z NK g 87 222 [(0, .ref (z + 30)), (1, .ref (z + 25)), (2, .ref (z + 6)), (3, .int (nI i)), (4, .int (nAt xs (nI i))), (5, .int (nAt ys (nI i)))] [.int (bI (tr_meet u (a_commutes (nAt ys (nI i)))).2)] (tput z S (tr_meet u (a_commutes (nAt ys (nI i)))).1) P
          obtain ⟨t10, et10⟩ : ∃ t, t = (tr_meet u (a_commutes (nAt ys (nI i)))) := ⟨_, rfl⟩
          have lt10 := tr_meet_len u (a_commutes (nAt ys (nI i)))
          rw [← et10] at lt10
          try dsimp only at lt10
          have mt10 := congrArg List.length lt10.2.2
          rw [← et10]
          show xw z NK g 87 222 [(0, .ref (z + 30)), (1, .ref (z + 25)), (2, .ref (z + 6)), (3, .int (nI i)), (4, .int (nAt xs (nI i))), (5, .int (nAt ys (nI i)))] [.int (bI t10.2)] (tput z S t10.1) P
          refine xw.steps 4 (fun _ => rfl) ?_
          show xw z NK g 87 228 [(0, .ref (z + 30)), (1, .ref (z + 25)), (2, .ref (z + 6)), (3, .int (nI i)), (4, .int (nAt xs (nI i))), (5, .int (nAt ys (nI i)))] [.int (nAt ys (nI i)), .int 12, .ref (z + 30)] (tput z S t10.1) P
          refine xw.callO (o := 30) rfl rfl rfl (tput_30 _ _ _) rfl rfl (c_write (im := t10.1.1) (ki := t10.1.2.1) (de := t10.1.2.2.1) (iA := t10.1.2.2.2.1) (iB := t10.1.2.2.2.2) (by omega) ?_)
          show xw z NK g 87 231 [(0, .ref (z + 30)), (1, .ref (z + 25)), (2, .ref (z + 6)), (3, .int (nI i)), (4, .int (nAt xs (nI i))), (5, .int (nAt ys (nI i)))] [] (tput z S (tr_write t10.1 12 (nAt ys (nI i)))) P
          obtain ⟨t11, et11⟩ : ∃ t, t = (tr_write t10.1 12 (nAt ys (nI i))) := ⟨_, rfl⟩
          have lt11 := tr_write_len t10.1 12 (nAt ys (nI i))
          rw [← et11] at lt11
          try dsimp only at lt11
          have pt11 : t11.2.1.length = t10.1.2.1.length := by rw [lt11.2]
          have rt11 : t11.2.2.1.length = t10.1.2.2.1.length := by rw [lt11.2]
          show xw z NK g 87 _ _ _ (tput z S (tr_write t10.1 12 (nAt ys (nI i)))) P
          rw [← et11]
          show xw z NK g 87 231 [(0, .ref (z + 30)), (1, .ref (z + 25)), (2, .ref (z + 6)), (3, .int (nI i)), (4, .int (nAt xs (nI i))), (5, .int (nAt ys (nI i)))] [] (tput z S t11) P
          refine xw.steps 1 (fun _ => rfl) ?_
          show xw z NK g 87 232 [(0, .ref (z + 30)), (1, .ref (z + 25)), (2, .ref (z + 6)), (3, .int (nI i)), (4, .int (nAt xs (nI i))), (5, .int (nAt ys (nI i)))] [.ref (z + 30)] (tput z S t11) P
          refine xw.callO (o := 30) rfl rfl rfl (tput_30 _ _ _) rfl rfl (c_leave (im := t11.1) (ki := t11.2.1) (de := t11.2.2.1) (iA := t11.2.2.2.1) (iB := t11.2.2.2.2) (by omega) (by omega) ?_)
          show xw z NK g 87 235 [(0, .ref (z + 30)), (1, .ref (z + 25)), (2, .ref (z + 6)), (3, .int (nI i)), (4, .int (nAt xs (nI i))), (5, .int (nAt ys (nI i)))] [] (tput z S (tr_leave t11)) P
          obtain ⟨t12, et12⟩ : ∃ t, t = (tr_leave t11) := ⟨_, rfl⟩
          show xw z NK g 87 _ _ _ (tput z S (tr_leave t11)) P
          rw [← et12]
          show xw z NK g 87 235 [(0, .ref (z + 30)), (1, .ref (z + 25)), (2, .ref (z + 6)), (3, .int (nI i)), (4, .int (nAt xs (nI i))), (5, .int (nAt ys (nI i)))] [] (tput z S t12) P
          refine xw.steps 3 (fun _ => rfl) ?_
          show xw z NK g 87 15 [(0, .ref (z + 30)), (1, .ref (z + 25)), (2, .ref (z + 6)), (3, .int ((nI i) + 1)), (4, .int (nAt xs (nI i))), (5, .int (nAt ys (nI i)))] [] (tput z S t12) P
          rw [nI_1]
          refine xw.forget (lv := [(0, .ref (z + 30)), (1, .ref (z + 25)), (2, .ref (z + 6)), (3, .int (nI (i + 1)))]) lk_87 (show [0, 1, 2, 3].Nodup by decide) (show [0, 1, 2, 3, 4, 5].Nodup by decide) (List.forall_mem_cons.mpr ⟨rfl, List.forall_mem_cons.mpr ⟨rfl, List.forall_mem_cons.mpr ⟨rfl, List.forall_mem_cons.mpr ⟨rfl, fun _ h => absurd h List.not_mem_nil⟩⟩⟩⟩) ?_
          subst et12 et11 et10
          have hs : tr_nx xs ys (fun k => nAt ds (nAt pj k)) i u = ((i + 1), tr_leave (tr_write (tr_meet u (a_commutes (nAt ys (nI i)))).1 12 (nAt ys (nI i)))) := by rw [tr_nx, if_neg (fun w => absurd w.1 (by rw [c2]; decide)), if_neg (by rw [c2]; decide), c2, tro_7]
          rw [hs] at hpn hP
          exact ih _ (by omega) (by omega) _ hpn hP
        · have c2 : (nAt xs (nI i)) = 8 := c2
          show xw z NK g 87 238 [(0, .ref (z + 30)), (1, .ref (z + 25)), (2, .ref (z + 6)), (3, .int (nI i)), (4, .int (nAt xs (nI i))), (5, .int (nAt ys (nI i)))] [] (tput z S u) P
          have hl := hn4 c2
          refine xw.steps 4 (fun _ => rfl) ?_
          show xw z NK g 87 242 [(0, .ref (z + 30)), (1, .ref (z + 25)), (2, .ref (z + 6)), (3, .int (nI i)), (4, .int (nAt xs (nI i))), (5, .int (nAt ys (nI i)))] [.int ((nI i) + 1), .ref (z + 25)] (tput z S u) P
          refine xw.callO (o := 25) rfl rfl rfl ((tput_ne _ _ _ (by decide)).trans h25) rfl rfl (c_Code_numberAt ((tput_ne _ _ _ (by decide)).trans h25) ((tput_ne _ _ _ (by decide)).trans h26) ((tput_ne _ _ _ (by decide)).trans h28) (by decide) ?_)
          show xw z NK g 87 245 [(0, .ref (z + 30)), (1, .ref (z + 25)), (2, .ref (z + 6)), (3, .int (nI i)), (4, .int (nAt xs (nI i))), (5, .int (nAt ys (nI i)))] [.int (nAt xs ((nI i) + 1))] (tput z S u) P
          show xw z NK g 87 245 [(0, .ref (z + 30)), (1, .ref (z + 25)), (2, .ref (z + 6)), (3, .int (nI i)), (4, .int (nAt xs (nI i))), (5, .int (nAt ys (nI i)))] [.int (nAt xs ((nI i) + 1))] (tput z S u) P
          refine xw.callS rfl rfl rfl rfl rfl (c_isCondition ?_)
          show xw z NK g 87 248 [(0, .ref (z + 30)), (1, .ref (z + 25)), (2, .ref (z + 6)), (3, .int (nI i)), (4, .int (nAt xs (nI i))), (5, .int (nAt ys (nI i)))] [.int (bI (t_cond (nAt xs ((nI i) + 1))))] (tput z S u) P
          refine xw.if_ rfl (fun c3 => ?_) (fun c3 => ?_)
          · have c3 := bI_eq0 (of_decide_eq_true c3)
            refine xw.steps 4 (fun _ => rfl) ?_
            show xw z NK g 87 278 [(0, .ref (z + 30)), (1, .ref (z + 25)), (2, .ref (z + 6)), (3, .int (nI i)), (4, .int (nAt xs (nI i))), (5, .int (nAt ys (nI i)))] [.int 1, .ref (z + 30), .int 13, .ref (z + 30)] (tput z S u) P
            refine xw.callO (o := 30) rfl rfl rfl (tput_30 _ _ _) rfl rfl (c_meet (im := u.1) (ki := u.2.1) (de := u.2.2.1) (iA := u.2.2.2.1) (iB := u.2.2.2.2) (m := true) (by omega) ?_)
            show xw z NK g 87 281 [(0, .ref (z + 30)), (1, .ref (z + 25)), (2, .ref (z + 6)), (3, .int (nI i)), (4, .int (nAt xs (nI i))), (5, .int (nAt ys (nI i)))] [.int (bI (tr_meet u true).2), .int 13, .ref (z + 30)] (tput z S (tr_meet u true).1) P
            obtain ⟨t13, et13⟩ : ∃ t, t = (tr_meet u true) := ⟨_, rfl⟩
            have lt13 := tr_meet_len u true
            rw [← et13] at lt13
            try dsimp only at lt13
            have mt13 := congrArg List.length lt13.2.2
            rw [← et13]
            show xw z NK g 87 281 [(0, .ref (z + 30)), (1, .ref (z + 25)), (2, .ref (z + 6)), (3, .int (nI i)), (4, .int (nAt xs (nI i))), (5, .int (nAt ys (nI i)))] [.int (bI t13.2), .int 13, .ref (z + 30)] (tput z S t13.1) P
            refine xw.if_ rfl (fun c4 => ?_) (fun c4 => ?_)
            · have c4 := bI_eq0 (of_decide_eq_true c4)
              refine xw.steps 1 (fun _ => rfl) ?_
              show xw z NK g 87 294 [(0, .ref (z + 30)), (1, .ref (z + 25)), (2, .ref (z + 6)), (3, .int (nI i)), (4, .int (nAt xs (nI i))), (5, .int (nAt ys (nI i)))] [.int (nAt ys (nI i)), .int 13, .ref (z + 30)] (tput z S t13.1) P
              refine xw.callO (o := 30) rfl rfl rfl (tput_30 _ _ _) rfl rfl (c_write (im := t13.1.1) (ki := t13.1.2.1) (de := t13.1.2.2.1) (iA := t13.1.2.2.2.1) (iB := t13.1.2.2.2.2) (by omega) ?_)
              show xw z NK g 87 297 [(0, .ref (z + 30)), (1, .ref (z + 25)), (2, .ref (z + 6)), (3, .int (nI i)), (4, .int (nAt xs (nI i))), (5, .int (nAt ys (nI i)))] [] (tput z S (tr_write t13.1 13 (nAt ys (nI i)))) P
              obtain ⟨t14, et14⟩ : ∃ t, t = (tr_write t13.1 13 (nAt ys (nI i))) := ⟨_, rfl⟩
              have lt14 := tr_write_len t13.1 13 (nAt ys (nI i))
              rw [← et14] at lt14
              try dsimp only at lt14
              have pt14 : t14.2.1.length = t13.1.2.1.length := by rw [lt14.2]
              have rt14 : t14.2.2.1.length = t13.1.2.2.1.length := by rw [lt14.2]
              show xw z NK g 87 _ _ _ (tput z S (tr_write t13.1 13 (nAt ys (nI i)))) P
              rw [← et14]
              show xw z NK g 87 297 [(0, .ref (z + 30)), (1, .ref (z + 25)), (2, .ref (z + 6)), (3, .int (nI i)), (4, .int (nAt xs (nI i))), (5, .int (nAt ys (nI i)))] [] (tput z S t14) P
              refine xw.steps 1 (fun _ => rfl) ?_
              show xw z NK g 87 298 [(0, .ref (z + 30)), (1, .ref (z + 25)), (2, .ref (z + 6)), (3, .int (nI i)), (4, .int (nAt xs (nI i))), (5, .int (nAt ys (nI i)))] [.ref (z + 30)] (tput z S t14) P
              refine xw.callO (o := 30) rfl rfl rfl (tput_30 _ _ _) rfl rfl (c_leave (im := t14.1) (ki := t14.2.1) (de := t14.2.2.1) (iA := t14.2.2.2.1) (iB := t14.2.2.2.2) (by omega) (by omega) ?_)
              show xw z NK g 87 301 [(0, .ref (z + 30)), (1, .ref (z + 25)), (2, .ref (z + 6)), (3, .int (nI i)), (4, .int (nAt xs (nI i))), (5, .int (nAt ys (nI i)))] [] (tput z S (tr_leave t14)) P
              obtain ⟨t15, et15⟩ : ∃ t, t = (tr_leave t14) := ⟨_, rfl⟩
              show xw z NK g 87 _ _ _ (tput z S (tr_leave t14)) P
              rw [← et15]
              show xw z NK g 87 301 [(0, .ref (z + 30)), (1, .ref (z + 25)), (2, .ref (z + 6)), (3, .int (nI i)), (4, .int (nAt xs (nI i))), (5, .int (nAt ys (nI i)))] [] (tput z S t15) P
              refine xw.steps 3 (fun _ => rfl) ?_
              show xw z NK g 87 15 [(0, .ref (z + 30)), (1, .ref (z + 25)), (2, .ref (z + 6)), (3, .int ((nI i) + 1)), (4, .int (nAt xs (nI i))), (5, .int (nAt ys (nI i)))] [] (tput z S t15) P
              rw [nI_1]
              refine xw.forget (lv := [(0, .ref (z + 30)), (1, .ref (z + 25)), (2, .ref (z + 6)), (3, .int (nI (i + 1)))]) lk_87 (show [0, 1, 2, 3].Nodup by decide) (show [0, 1, 2, 3, 4, 5].Nodup by decide) (List.forall_mem_cons.mpr ⟨rfl, List.forall_mem_cons.mpr ⟨rfl, List.forall_mem_cons.mpr ⟨rfl, List.forall_mem_cons.mpr ⟨rfl, fun _ h => absurd h List.not_mem_nil⟩⟩⟩⟩) ?_
              subst et15 et14 et13
              have hs : tr_nx xs ys (fun k => nAt ds (nAt pj k)) i u = ((i + 1), tr_leave (tr_write (tr_meet u true).1 13 (nAt ys (nI i)))) := by rw [tr_nx, if_neg (fun w => by rw [c3] at w; exact absurd w.2 (by decide)), if_neg (by rw [c2]; decide), c2, tro_8, if_neg (by rw [c4]; decide)]
              rw [hs] at hpn hP
              exact ih _ (by omega) (by omega) _ hpn hP
            · have c4 := bI_ne0 (of_decide_eq_false c4)
              show xw z NK g 87 284 [(0, .ref (z + 30)), (1, .ref (z + 25)), (2, .ref (z + 6)), (3, .int (nI i)), (4, .int (nAt xs (nI i))), (5, .int (nAt ys (nI i)))] [.int 13, .ref (z + 30)] (tput z S t13.1) P
              refine xw.steps 1 (fun _ => rfl) ?_
              show xw z NK g 87 286 [(0, .ref (z + 30)), (1, .ref (z + 25)), (2, .ref (z + 6)), (3, .int (nI i)), (4, .int (nAt xs (nI i))), (5, .int (nAt ys (nI i)))] [.int (nAt ys (nI i)), .int 13, .ref (z + 30)] (tput z S t13.1) P
              refine xw.callS rfl rfl rfl rfl rfl (c_mirrored ?_)
              show xw z NK g 87 289 [(0, .ref (z + 30)), (1, .ref (z + 25)), (2, .ref (z + 6)), (3, .int (nI i)), (4, .int (nAt xs (nI i))), (5, .int (nAt ys (nI i)))] [.int (a_mir (nAt ys (nI i))), .int 13, .ref (z + 30)] (tput z S t13.1) P
              refine xw.steps 1 (fun _ => rfl) ?_
              show xw z NK g 87 294 [(0, .ref (z + 30)), (1, .ref (z + 25)), (2, .ref (z + 6)), (3, .int (nI i)), (4, .int (nAt xs (nI i))), (5, .int (nAt ys (nI i)))] [.int (a_mir (nAt ys (nI i))), .int 13, .ref (z + 30)] (tput z S t13.1) P
              refine xw.callO (o := 30) rfl rfl rfl (tput_30 _ _ _) rfl rfl (c_write (im := t13.1.1) (ki := t13.1.2.1) (de := t13.1.2.2.1) (iA := t13.1.2.2.2.1) (iB := t13.1.2.2.2.2) (by omega) ?_)
              show xw z NK g 87 297 [(0, .ref (z + 30)), (1, .ref (z + 25)), (2, .ref (z + 6)), (3, .int (nI i)), (4, .int (nAt xs (nI i))), (5, .int (nAt ys (nI i)))] [] (tput z S (tr_write t13.1 13 (a_mir (nAt ys (nI i))))) P
              obtain ⟨t16, et16⟩ : ∃ t, t = (tr_write t13.1 13 (a_mir (nAt ys (nI i)))) := ⟨_, rfl⟩
              have lt16 := tr_write_len t13.1 13 (a_mir (nAt ys (nI i)))
              rw [← et16] at lt16
              try dsimp only at lt16
              have pt16 : t16.2.1.length = t13.1.2.1.length := by rw [lt16.2]
              have rt16 : t16.2.2.1.length = t13.1.2.2.1.length := by rw [lt16.2]
              show xw z NK g 87 _ _ _ (tput z S (tr_write t13.1 13 (a_mir (nAt ys (nI i))))) P
              rw [← et16]
              show xw z NK g 87 297 [(0, .ref (z + 30)), (1, .ref (z + 25)), (2, .ref (z + 6)), (3, .int (nI i)), (4, .int (nAt xs (nI i))), (5, .int (nAt ys (nI i)))] [] (tput z S t16) P
              refine xw.steps 1 (fun _ => rfl) ?_
              show xw z NK g 87 298 [(0, .ref (z + 30)), (1, .ref (z + 25)), (2, .ref (z + 6)), (3, .int (nI i)), (4, .int (nAt xs (nI i))), (5, .int (nAt ys (nI i)))] [.ref (z + 30)] (tput z S t16) P
              refine xw.callO (o := 30) rfl rfl rfl (tput_30 _ _ _) rfl rfl (c_leave (im := t16.1) (ki := t16.2.1) (de := t16.2.2.1) (iA := t16.2.2.2.1) (iB := t16.2.2.2.2) (by omega) (by omega) ?_)
              show xw z NK g 87 301 [(0, .ref (z + 30)), (1, .ref (z + 25)), (2, .ref (z + 6)), (3, .int (nI i)), (4, .int (nAt xs (nI i))), (5, .int (nAt ys (nI i)))] [] (tput z S (tr_leave t16)) P
              obtain ⟨t17, et17⟩ : ∃ t, t = (tr_leave t16) := ⟨_, rfl⟩
              show xw z NK g 87 _ _ _ (tput z S (tr_leave t16)) P
              rw [← et17]
              show xw z NK g 87 301 [(0, .ref (z + 30)), (1, .ref (z + 25)), (2, .ref (z + 6)), (3, .int (nI i)), (4, .int (nAt xs (nI i))), (5, .int (nAt ys (nI i)))] [] (tput z S t17) P
              refine xw.steps 3 (fun _ => rfl) ?_
              show xw z NK g 87 15 [(0, .ref (z + 30)), (1, .ref (z + 25)), (2, .ref (z + 6)), (3, .int ((nI i) + 1)), (4, .int (nAt xs (nI i))), (5, .int (nAt ys (nI i)))] [] (tput z S t17) P
              rw [nI_1]
              refine xw.forget (lv := [(0, .ref (z + 30)), (1, .ref (z + 25)), (2, .ref (z + 6)), (3, .int (nI (i + 1)))]) lk_87 (show [0, 1, 2, 3].Nodup by decide) (show [0, 1, 2, 3, 4, 5].Nodup by decide) (List.forall_mem_cons.mpr ⟨rfl, List.forall_mem_cons.mpr ⟨rfl, List.forall_mem_cons.mpr ⟨rfl, List.forall_mem_cons.mpr ⟨rfl, fun _ h => absurd h List.not_mem_nil⟩⟩⟩⟩) ?_
              subst et17 et16 et13
              have hs : tr_nx xs ys (fun k => nAt ds (nAt pj k)) i u = ((i + 1), tr_leave (tr_write (tr_meet u true).1 13 (a_mir (nAt ys (nI i))))) := by rw [tr_nx, if_neg (fun w => by rw [c3] at w; exact absurd w.2 (by decide)), if_neg (by rw [c2]; decide), c2, tro_8, if_pos c4]
              rw [hs] at hpn hP
              exact ih _ (by omega) (by omega) _ hpn hP
          · have c3 := bI_ne0 (of_decide_eq_false c3)
            refine xw.steps 5 (fun _ => rfl) ?_
            show xw z NK g 87 259 [(0, .ref (z + 30)), (1, .ref (z + 25)), (2, .ref (z + 6)), (3, .int ((nI i) + 1)), (4, .int (nAt xs (nI i))), (5, .int (nAt ys (nI i)))] [.int ((nI i) + 1), .ref (z + 25), .int (nAt ys (nI i)), .ref (z + 30)] (tput z S u) P
            refine xw.callO (o := 25) rfl rfl rfl ((tput_ne _ _ _ (by decide)).trans h25) rfl rfl (c_Code_numberAt ((tput_ne _ _ _ (by decide)).trans h25) ((tput_ne _ _ _ (by decide)).trans h26) ((tput_ne _ _ _ (by decide)).trans h28) (by decide) ?_)
            show xw z NK g 87 262 [(0, .ref (z + 30)), (1, .ref (z + 25)), (2, .ref (z + 6)), (3, .int ((nI i) + 1)), (4, .int (nAt xs (nI i))), (5, .int (nAt ys (nI i)))] [.int (nAt xs ((nI i) + 1)), .int (nAt ys (nI i)), .ref (z + 30)] (tput z S u) P
            refine xw.steps 2 (fun _ => rfl) ?_
            show xw z NK g 87 264 [(0, .ref (z + 30)), (1, .ref (z + 25)), (2, .ref (z + 6)), (3, .int ((nI i) + 1)), (4, .int (nAt xs (nI i))), (5, .int (nAt ys (nI i)))] [.int ((nI i) + 1), .ref (z + 25), .int (nAt xs ((nI i) + 1)), .int (nAt ys (nI i)), .ref (z + 30)] (tput z S u) P
            refine xw.callO (o := 25) rfl rfl rfl ((tput_ne _ _ _ (by decide)).trans h25) rfl rfl (c_Code_argumentAt ((tput_ne _ _ _ (by decide)).trans h25) ((tput_ne _ _ _ (by decide)).trans h26) ((tput_ne _ _ _ (by decide)).trans h28) (by decide) ?_)
            show xw z NK g 87 267 [(0, .ref (z + 30)), (1, .ref (z + 25)), (2, .ref (z + 6)), (3, .int ((nI i) + 1)), (4, .int (nAt xs (nI i))), (5, .int (nAt ys (nI i)))] [.int (nAt ys ((nI i) + 1)), .int (nAt xs ((nI i) + 1)), .int (nAt ys (nI i)), .ref (z + 30)] (tput z S u) P
            show xw z NK g 87 267 [(0, .ref (z + 30)), (1, .ref (z + 25)), (2, .ref (z + 6)), (3, .int ((nI i) + 1)), (4, .int (nAt xs (nI i))), (5, .int (nAt ys (nI i)))] [.int (nAt ys ((nI i) + 1)), .int (nAt xs ((nI i) + 1)), .int (nAt ys (nI i)), .ref (z + 30)] (tput z S u) P
            refine xw.callO (o := 30) rfl rfl rfl (tput_30 _ _ _) rfl rfl (c_cgo (im := u.1) (ki := u.2.1) (de := u.2.2.1) (iA := u.2.2.2.1) (iB := u.2.2.2.2) (by omega) (by omega) ?_)
            show xw z NK g 87 270 [(0, .ref (z + 30)), (1, .ref (z + 25)), (2, .ref (z + 6)), (3, .int ((nI i) + 1)), (4, .int (nAt xs (nI i))), (5, .int (nAt ys (nI i)))] [] (tput z S (tr_cgo u (nAt ys (nI i)) (nAt xs ((nI i) + 1)) (nAt ys ((nI i) + 1)))) P
            obtain ⟨t18, et18⟩ : ∃ t, t = (tr_cgo u (nAt ys (nI i)) (nAt xs ((nI i) + 1)) (nAt ys ((nI i) + 1))) := ⟨_, rfl⟩
            show xw z NK g 87 _ _ _ (tput z S (tr_cgo u (nAt ys (nI i)) (nAt xs ((nI i) + 1)) (nAt ys ((nI i) + 1)))) P
            rw [← et18]
            show xw z NK g 87 270 [(0, .ref (z + 30)), (1, .ref (z + 25)), (2, .ref (z + 6)), (3, .int ((nI i) + 1)), (4, .int (nAt xs (nI i))), (5, .int (nAt ys (nI i)))] [] (tput z S t18) P
            refine xw.steps 3 (fun _ => rfl) ?_
            show xw z NK g 87 15 [(0, .ref (z + 30)), (1, .ref (z + 25)), (2, .ref (z + 6)), (3, .int (((nI i) + 1) + 1)), (4, .int (nAt xs (nI i))), (5, .int (nAt ys (nI i)))] [] (tput z S t18) P
            rw [nI_1, nI_1]
            refine xw.forget (lv := [(0, .ref (z + 30)), (1, .ref (z + 25)), (2, .ref (z + 6)), (3, .int (nI (i + 1 + 1)))]) lk_87 (show [0, 1, 2, 3].Nodup by decide) (show [0, 1, 2, 3, 4, 5].Nodup by decide) (List.forall_mem_cons.mpr ⟨rfl, List.forall_mem_cons.mpr ⟨rfl, List.forall_mem_cons.mpr ⟨rfl, List.forall_mem_cons.mpr ⟨rfl, fun _ h => absurd h List.not_mem_nil⟩⟩⟩⟩) ?_
            subst et18
            have hs : tr_nx xs ys (fun k => nAt ds (nAt pj k)) i u = ((i + 1 + 1), tr_cgo u (nAt ys (nI i)) (nAt xs (nI i + 1)) (nAt ys (nI i + 1))) := by rw [tr_nx, if_pos ⟨c2, c3⟩]
            rw [hs] at hpn hP
            exact ih _ (by omega) (by omega) _ hpn hP
        · have c2 : (nAt xs (nI i)) = 9 := c2
          refine xw.steps 2 (fun _ => rfl) ?_
          show xw z NK g 87 307 [(0, .ref (z + 30)), (1, .ref (z + 25)), (2, .ref (z + 6)), (3, .int (nI i)), (4, .int (nAt xs (nI i))), (5, .int (nAt ys (nI i)))] [.int (nAt ys (nI i)), .ref (z + 30)] (tput z S u) P
          refine xw.callO (o := 30) rfl rfl rfl (tput_30 _ _ _) rfl rfl (c_keep (im := u.1) (ki := u.2.1) (de := u.2.2.1) (iA := u.2.2.2.1) (iB := u.2.2.2.2) (by omega) ?_)
          show xw z NK g 87 310 [(0, .ref (z + 30)), (1, .ref (z + 25)), (2, .ref (z + 6)), (3, .int (nI i)), (4, .int (nAt xs (nI i))), (5, .int (nAt ys (nI i)))] [] (tput z S (tr_keep u (nAt ys (nI i)))) P
          obtain ⟨t19, et19⟩ : ∃ t, t = (tr_keep u (nAt ys (nI i))) := ⟨_, rfl⟩
          show xw z NK g 87 _ _ _ (tput z S (tr_keep u (nAt ys (nI i)))) P
          rw [← et19]
          show xw z NK g 87 310 [(0, .ref (z + 30)), (1, .ref (z + 25)), (2, .ref (z + 6)), (3, .int (nI i)), (4, .int (nAt xs (nI i))), (5, .int (nAt ys (nI i)))] [] (tput z S t19) P
          refine xw.steps 3 (fun _ => rfl) ?_
          show xw z NK g 87 15 [(0, .ref (z + 30)), (1, .ref (z + 25)), (2, .ref (z + 6)), (3, .int ((nI i) + 1)), (4, .int (nAt xs (nI i))), (5, .int (nAt ys (nI i)))] [] (tput z S t19) P
          rw [nI_1]
          refine xw.forget (lv := [(0, .ref (z + 30)), (1, .ref (z + 25)), (2, .ref (z + 6)), (3, .int (nI (i + 1)))]) lk_87 (show [0, 1, 2, 3].Nodup by decide) (show [0, 1, 2, 3, 4, 5].Nodup by decide) (List.forall_mem_cons.mpr ⟨rfl, List.forall_mem_cons.mpr ⟨rfl, List.forall_mem_cons.mpr ⟨rfl, List.forall_mem_cons.mpr ⟨rfl, fun _ h => absurd h List.not_mem_nil⟩⟩⟩⟩) ?_
          subst et19
          have hs : tr_nx xs ys (fun k => nAt ds (nAt pj k)) i u = ((i + 1), tr_keep u (nAt ys (nI i))) := by rw [tr_nx, if_neg (fun w => absurd w.1 (by rw [c2]; decide)), if_neg (by rw [c2]; decide), c2, tro_9]
          rw [hs] at hpn hP
          exact ih _ (by omega) (by omega) _ hpn hP
        · have c2 : (nAt xs (nI i)) = 10 := c2
          refine xw.steps 3 (fun _ => rfl) ?_
          refine xw.getf (o := 30) rfl (tput_30 _ _ _) rfl ?_
          show xw z NK g 87 319 [(0, .ref (z + 30)), (1, .ref (z + 25)), (2, .ref (z + 6)), (3, .int (nI i)), (4, .int (nAt xs (nI i))), (5, .int (nAt ys (nI i)))] [.ref (z + 33), .int 0, .ref (z + 30)] (tput z S u) P
          refine xw.callN (o := 33) rfl rfl rfl (tput_33 _ _ _) rfl rfl (c_size (tput_33 _ _ _) ?_)
          show xw z NK g 87 322 [(0, .ref (z + 30)), (1, .ref (z + 25)), (2, .ref (z + 6)), (3, .int (nI i)), (4, .int (nAt xs (nI i))), (5, .int (nAt ys (nI i)))] [.int (nI u.2.1.length), .int 0, .ref (z + 30)] (tput z S u) P
          show xw z NK g 87 322 [(0, .ref (z + 30)), (1, .ref (z + 25)), (2, .ref (z + 6)), (3, .int (nI i)), (4, .int (nAt xs (nI i))), (5, .int (nAt ys (nI i)))] [.int (nI u.2.1.length), .int 0, .ref (z + 30)] (tput z S u) P
          refine xw.callO (o := 30) rfl rfl rfl (tput_30 _ _ _) rfl rfl (c_settleX (t := u) (a := 0) (b := u.2.1.length) rfl rfl (by omega) (by omega) (by first | omega | (dsimp only; omega)) ?_)
          show xw z NK g 87 325 [(0, .ref (z + 30)), (1, .ref (z + 25)), (2, .ref (z + 6)), (3, .int (nI i)), (4, .int (nAt xs (nI i))), (5, .int (nAt ys (nI i)))] [] (tput z S (tr_settle (u.2.1.length - 0) 0 u)) P
          obtain ⟨t20, et20⟩ : ∃ t, t = (tr_settle (u.2.1.length - 0) 0 u) := ⟨_, rfl⟩
          have lt20 := tr_settle_len (u.2.1.length - 0) 0 u
          rw [← et20] at lt20
          try dsimp only at lt20
          rw [← et20]
          show xw z NK g 87 325 [(0, .ref (z + 30)), (1, .ref (z + 25)), (2, .ref (z + 6)), (3, .int (nI i)), (4, .int (nAt xs (nI i))), (5, .int (nAt ys (nI i)))] [] (tput z S t20) P
          refine xw.steps 3 (fun _ => rfl) ?_
          show xw z NK g 87 330 [(0, .ref (z + 30)), (1, .ref (z + 25)), (2, .ref (z + 6)), (3, .int (nI i)), (4, .int (nAt xs (nI i))), (5, .int (nAt ys (nI i)))] [.int (nAt ys (nI i)), .int 20, .ref (z + 30)] (tput z S t20) P
          refine xw.callO (o := 30) rfl rfl rfl (tput_30 _ _ _) rfl rfl (c_write (im := t20.1) (ki := t20.2.1) (de := t20.2.2.1) (iA := t20.2.2.2.1) (iB := t20.2.2.2.2) (by omega) ?_)
          show xw z NK g 87 333 [(0, .ref (z + 30)), (1, .ref (z + 25)), (2, .ref (z + 6)), (3, .int (nI i)), (4, .int (nAt xs (nI i))), (5, .int (nAt ys (nI i)))] [] (tput z S (tr_write t20 20 (nAt ys (nI i)))) P
          obtain ⟨t21, et21⟩ : ∃ t, t = (tr_write t20 20 (nAt ys (nI i))) := ⟨_, rfl⟩
          have lt21 := tr_write_len t20 20 (nAt ys (nI i))
          rw [← et21] at lt21
          try dsimp only at lt21
          have pt21 : t21.2.1.length = t20.2.1.length := by rw [lt21.2]
          have rt21 : t21.2.2.1.length = t20.2.2.1.length := by rw [lt21.2]
          show xw z NK g 87 _ _ _ (tput z S (tr_write t20 20 (nAt ys (nI i)))) P
          rw [← et21]
          show xw z NK g 87 333 [(0, .ref (z + 30)), (1, .ref (z + 25)), (2, .ref (z + 6)), (3, .int (nI i)), (4, .int (nAt xs (nI i))), (5, .int (nAt ys (nI i)))] [] (tput z S t21) P
          refine xw.steps 2 (fun _ => rfl) ?_
          show xw z NK g 87 335 [(0, .ref (z + 30)), (1, .ref (z + 25)), (2, .ref (z + 6)), (3, .int (nI i)), (4, .int (nAt xs (nI i))), (5, .int (nAt ys (nI i)))] [.int 0, .ref (z + 30)] (tput z S t21) P
          refine xw.callO (o := 30) rfl rfl rfl (tput_30 _ _ _) rfl rfl (c_layRow (im := t21.1) (ki := t21.2.1) (de := t21.2.2.1) (iA := t21.2.2.2.1) (iB := t21.2.2.2.2) (by first | decide | assumption) ?_)
          show xw z NK g 87 338 [(0, .ref (z + 30)), (1, .ref (z + 25)), (2, .ref (z + 6)), (3, .int (nI i)), (4, .int (nAt xs (nI i))), (5, .int (nAt ys (nI i)))] [] (tput z S (tr_row t21 0)) P
          obtain ⟨t22, et22⟩ : ∃ t, t = (tr_row t21 0) := ⟨_, rfl⟩
          show xw z NK g 87 _ _ _ (tput z S (tr_row t21 0)) P
          rw [← et22]
          show xw z NK g 87 338 [(0, .ref (z + 30)), (1, .ref (z + 25)), (2, .ref (z + 6)), (3, .int (nI i)), (4, .int (nAt xs (nI i))), (5, .int (nAt ys (nI i)))] [] (tput z S t22) P
          refine xw.steps 3 (fun _ => rfl) ?_
          show xw z NK g 87 15 [(0, .ref (z + 30)), (1, .ref (z + 25)), (2, .ref (z + 6)), (3, .int ((nI i) + 1)), (4, .int (nAt xs (nI i))), (5, .int (nAt ys (nI i)))] [] (tput z S t22) P
          rw [nI_1]
          refine xw.forget (lv := [(0, .ref (z + 30)), (1, .ref (z + 25)), (2, .ref (z + 6)), (3, .int (nI (i + 1)))]) lk_87 (show [0, 1, 2, 3].Nodup by decide) (show [0, 1, 2, 3, 4, 5].Nodup by decide) (List.forall_mem_cons.mpr ⟨rfl, List.forall_mem_cons.mpr ⟨rfl, List.forall_mem_cons.mpr ⟨rfl, List.forall_mem_cons.mpr ⟨rfl, fun _ h => absurd h List.not_mem_nil⟩⟩⟩⟩) ?_
          subst et22 et21 et20
          have hs : tr_nx xs ys (fun k => nAt ds (nAt pj k)) i u = ((i + 1), tr_row (tr_write (tr_settle (u.2.1.length - 0) 0 u) 20 (nAt ys (nI i))) 0) := by rw [tr_nx, if_neg (fun w => absurd w.1 (by rw [c2]; decide)), if_neg (by rw [c2]; decide), c2, tro_10]
          rw [hs] at hpn hP
          exact ih _ (by omega) (by omega) _ hpn hP
        · have c2 : (nAt xs (nI i)) = 11 := c2
          show xw z NK g 87 341 [(0, .ref (z + 30)), (1, .ref (z + 25)), (2, .ref (z + 6)), (3, .int (nI i)), (4, .int (nAt xs (nI i))), (5, .int (nAt ys (nI i)))] [] (tput z S u) P
          have hl := hn3 (by rw [c2]; decide)
          refine xw.steps 3 (fun _ => rfl) ?_
          show xw z NK g 87 346 [(0, .ref (z + 30)), (1, .ref (z + 25)), (2, .ref (z + 6)), (3, .int (nI i)), (4, .int (nAt xs (nI i))), (5, .int (nAt ys (nI i)))] [.int (nAt ys (nI i)), .int 21, .ref (z + 30)] (tput z S u) P
          refine xw.callO (o := 30) rfl rfl rfl (tput_30 _ _ _) rfl rfl (c_goIf (im := u.1) (ki := u.2.1) (de := u.2.2.1) (iA := u.2.2.2.1) (iB := u.2.2.2.2) (by omega) (by omega) ?_)
          show xw z NK g 87 349 [(0, .ref (z + 30)), (1, .ref (z + 25)), (2, .ref (z + 6)), (3, .int (nI i)), (4, .int (nAt xs (nI i))), (5, .int (nAt ys (nI i)))] [] (tput z S (tr_goIf u 21 (nAt ys (nI i)))) P
          obtain ⟨t23, et23⟩ : ∃ t, t = (tr_goIf u 21 (nAt ys (nI i))) := ⟨_, rfl⟩
          show xw z NK g 87 _ _ _ (tput z S (tr_goIf u 21 (nAt ys (nI i)))) P
          rw [← et23]
          show xw z NK g 87 349 [(0, .ref (z + 30)), (1, .ref (z + 25)), (2, .ref (z + 6)), (3, .int (nI i)), (4, .int (nAt xs (nI i))), (5, .int (nAt ys (nI i)))] [] (tput z S t23) P
          refine xw.steps 3 (fun _ => rfl) ?_
          show xw z NK g 87 15 [(0, .ref (z + 30)), (1, .ref (z + 25)), (2, .ref (z + 6)), (3, .int ((nI i) + 1)), (4, .int (nAt xs (nI i))), (5, .int (nAt ys (nI i)))] [] (tput z S t23) P
          rw [nI_1]
          refine xw.forget (lv := [(0, .ref (z + 30)), (1, .ref (z + 25)), (2, .ref (z + 6)), (3, .int (nI (i + 1)))]) lk_87 (show [0, 1, 2, 3].Nodup by decide) (show [0, 1, 2, 3, 4, 5].Nodup by decide) (List.forall_mem_cons.mpr ⟨rfl, List.forall_mem_cons.mpr ⟨rfl, List.forall_mem_cons.mpr ⟨rfl, List.forall_mem_cons.mpr ⟨rfl, fun _ h => absurd h List.not_mem_nil⟩⟩⟩⟩) ?_
          subst et23
          have hs : tr_nx xs ys (fun k => nAt ds (nAt pj k)) i u = ((i + 1), tr_goIf u 21 (nAt ys (nI i))) := by rw [tr_nx, if_neg (fun w => absurd w.1 (by rw [c2]; decide)), if_neg (by rw [c2]; decide), c2, tro_11]
          rw [hs] at hpn hP
          exact ih _ (by omega) (by omega) _ hpn hP
        · have c2 : (nAt xs (nI i)) = 12 := c2
          show xw z NK g 87 352 [(0, .ref (z + 30)), (1, .ref (z + 25)), (2, .ref (z + 6)), (3, .int (nI i)), (4, .int (nAt xs (nI i))), (5, .int (nAt ys (nI i)))] [] (tput z S u) P
          have hl := hn3 (by rw [c2]; decide)
          refine xw.steps 3 (fun _ => rfl) ?_
          show xw z NK g 87 357 [(0, .ref (z + 30)), (1, .ref (z + 25)), (2, .ref (z + 6)), (3, .int (nI i)), (4, .int (nAt xs (nI i))), (5, .int (nAt ys (nI i)))] [.int (nAt ys (nI i)), .int 22, .ref (z + 30)] (tput z S u) P
          refine xw.callO (o := 30) rfl rfl rfl (tput_30 _ _ _) rfl rfl (c_goIf (im := u.1) (ki := u.2.1) (de := u.2.2.1) (iA := u.2.2.2.1) (iB := u.2.2.2.2) (by omega) (by omega) ?_)
          show xw z NK g 87 360 [(0, .ref (z + 30)), (1, .ref (z + 25)), (2, .ref (z + 6)), (3, .int (nI i)), (4, .int (nAt xs (nI i))), (5, .int (nAt ys (nI i)))] [] (tput z S (tr_goIf u 22 (nAt ys (nI i)))) P
          obtain ⟨t24, et24⟩ : ∃ t, t = (tr_goIf u 22 (nAt ys (nI i))) := ⟨_, rfl⟩
          show xw z NK g 87 _ _ _ (tput z S (tr_goIf u 22 (nAt ys (nI i)))) P
          rw [← et24]
          show xw z NK g 87 360 [(0, .ref (z + 30)), (1, .ref (z + 25)), (2, .ref (z + 6)), (3, .int (nI i)), (4, .int (nAt xs (nI i))), (5, .int (nAt ys (nI i)))] [] (tput z S t24) P
          refine xw.steps 3 (fun _ => rfl) ?_
          show xw z NK g 87 15 [(0, .ref (z + 30)), (1, .ref (z + 25)), (2, .ref (z + 6)), (3, .int ((nI i) + 1)), (4, .int (nAt xs (nI i))), (5, .int (nAt ys (nI i)))] [] (tput z S t24) P
          rw [nI_1]
          refine xw.forget (lv := [(0, .ref (z + 30)), (1, .ref (z + 25)), (2, .ref (z + 6)), (3, .int (nI (i + 1)))]) lk_87 (show [0, 1, 2, 3].Nodup by decide) (show [0, 1, 2, 3, 4, 5].Nodup by decide) (List.forall_mem_cons.mpr ⟨rfl, List.forall_mem_cons.mpr ⟨rfl, List.forall_mem_cons.mpr ⟨rfl, List.forall_mem_cons.mpr ⟨rfl, fun _ h => absurd h List.not_mem_nil⟩⟩⟩⟩) ?_
          subst et24
          have hs : tr_nx xs ys (fun k => nAt ds (nAt pj k)) i u = ((i + 1), tr_goIf u 22 (nAt ys (nI i))) := by rw [tr_nx, if_neg (fun w => absurd w.1 (by rw [c2]; decide)), if_neg (by rw [c2]; decide), c2, tro_12]
          rw [hs] at hpn hP
          exact ih _ (by omega) (by omega) _ hpn hP
        · have c2 : (nAt xs (nI i)) = 13 := c2
          refine xw.steps 3 (fun _ => rfl) ?_
          refine xw.getf (o := 30) rfl (tput_30 _ _ _) rfl ?_
          show xw z NK g 87 369 [(0, .ref (z + 30)), (1, .ref (z + 25)), (2, .ref (z + 6)), (3, .int (nI i)), (4, .int (nAt xs (nI i))), (5, .int (nAt ys (nI i)))] [.ref (z + 33), .int 0, .ref (z + 30)] (tput z S u) P
          refine xw.callN (o := 33) rfl rfl rfl (tput_33 _ _ _) rfl rfl (c_size (tput_33 _ _ _) ?_)
          show xw z NK g 87 372 [(0, .ref (z + 30)), (1, .ref (z + 25)), (2, .ref (z + 6)), (3, .int (nI i)), (4, .int (nAt xs (nI i))), (5, .int (nAt ys (nI i)))] [.int (nI u.2.1.length), .int 0, .ref (z + 30)] (tput z S u) P
          show xw z NK g 87 372 [(0, .ref (z + 30)), (1, .ref (z + 25)), (2, .ref (z + 6)), (3, .int (nI i)), (4, .int (nAt xs (nI i))), (5, .int (nAt ys (nI i)))] [.int (nI u.2.1.length), .int 0, .ref (z + 30)] (tput z S u) P
          refine xw.callO (o := 30) rfl rfl rfl (tput_30 _ _ _) rfl rfl (c_settleX (t := u) (a := 0) (b := u.2.1.length) rfl rfl (by omega) (by omega) (by first | omega | (dsimp only; omega)) ?_)
          show xw z NK g 87 375 [(0, .ref (z + 30)), (1, .ref (z + 25)), (2, .ref (z + 6)), (3, .int (nI i)), (4, .int (nAt xs (nI i))), (5, .int (nAt ys (nI i)))] [] (tput z S (tr_settle (u.2.1.length - 0) 0 u)) P
          obtain ⟨t25, et25⟩ : ∃ t, t = (tr_settle (u.2.1.length - 0) 0 u) := ⟨_, rfl⟩
          have lt25 := tr_settle_len (u.2.1.length - 0) 0 u
          rw [← et25] at lt25
          try dsimp only at lt25
          rw [← et25]
          show xw z NK g 87 375 [(0, .ref (z + 30)), (1, .ref (z + 25)), (2, .ref (z + 6)), (3, .int (nI i)), (4, .int (nAt xs (nI i))), (5, .int (nAt ys (nI i)))] [] (tput z S t25) P
          refine xw.steps 3 (fun _ => rfl) ?_
          show xw z NK g 87 379 [(0, .ref (z + 30)), (1, .ref (z + 25)), (2, .ref (z + 6)), (3, .int (nI i)), (4, .int (nAt xs (nI i))), (5, .int (nAt ys (nI i)))] [.int (nAt ys (nI i)), .int 0, .ref (z + 30)] (tput z S t25) P
          refine xw.callO (o := 30) rfl rfl rfl (tput_30 _ _ _) rfl rfl (c_write (im := t25.1) (ki := t25.2.1) (de := t25.2.2.1) (iA := t25.2.2.2.1) (iB := t25.2.2.2.2) (by omega) ?_)
          show xw z NK g 87 382 [(0, .ref (z + 30)), (1, .ref (z + 25)), (2, .ref (z + 6)), (3, .int (nI i)), (4, .int (nAt xs (nI i))), (5, .int (nAt ys (nI i)))] [] (tput z S (tr_write t25 0 (nAt ys (nI i)))) P
          obtain ⟨t26, et26⟩ : ∃ t, t = (tr_write t25 0 (nAt ys (nI i))) := ⟨_, rfl⟩
          have lt26 := tr_write_len t25 0 (nAt ys (nI i))
          rw [← et26] at lt26
          try dsimp only at lt26
          have pt26 : t26.2.1.length = t25.2.1.length := by rw [lt26.2]
          have rt26 : t26.2.2.1.length = t25.2.2.1.length := by rw [lt26.2]
          show xw z NK g 87 _ _ _ (tput z S (tr_write t25 0 (nAt ys (nI i)))) P
          rw [← et26]
          show xw z NK g 87 382 [(0, .ref (z + 30)), (1, .ref (z + 25)), (2, .ref (z + 6)), (3, .int (nI i)), (4, .int (nAt xs (nI i))), (5, .int (nAt ys (nI i)))] [] (tput z S t26) P
          refine xw.steps 3 (fun _ => rfl) ?_
          show xw z NK g 87 386 [(0, .ref (z + 30)), (1, .ref (z + 25)), (2, .ref (z + 6)), (3, .int (nI i)), (4, .int (nAt xs (nI i))), (5, .int (nAt ys (nI i)))] [.int (nAt ys (nI i)), .ref (z + 6), .ref (z + 30)] (tput z S t26) P
          refine xw.callO (o := 6) rfl rfl rfl ((tput_ne _ _ _ (by decide)).trans h6) rfl rfl (c_depthAtLabel (xs := x0) (ys := y0) (pl := pj) (ds := ds) (cm := cm) (wt := wt) (jd := jd) (rt := rt) ⟨((tput_ne _ _ _ (by decide)).trans h1), ((tput_ne _ _ _ (by decide)).trans h2), ((tput_ne _ _ _ (by decide)).trans h4), ((tput_ne _ _ _ (by decide)).trans h6), ((tput_ne _ _ _ (by decide)).trans h7), ((tput_ne _ _ _ (by decide)).trans h9), ((tput_ne _ _ _ (by decide)).trans h11), ((tput_ne _ _ _ (by decide)).trans h13)⟩ ?_)
          show xw z NK g 87 389 [(0, .ref (z + 30)), (1, .ref (z + 25)), (2, .ref (z + 6)), (3, .int (nI i)), (4, .int (nAt xs (nI i))), (5, .int (nAt ys (nI i)))] [.int (nAt ds (nAt pj (nAt ys (nI i)))), .ref (z + 30)] (tput z S t26) P
          show xw z NK g 87 389 [(0, .ref (z + 30)), (1, .ref (z + 25)), (2, .ref (z + 6)), (3, .int (nI i)), (4, .int (nAt xs (nI i))), (5, .int (nAt ys (nI i)))] [.int (nAt ds (nAt pj (nAt ys (nI i)))), .ref (z + 30)] (tput z S t26) P
          refine xw.callO (o := 30) rfl rfl rfl (tput_30 _ _ _) rfl rfl (c_layRow (im := t26.1) (ki := t26.2.1) (de := t26.2.2.1) (iA := t26.2.2.2.1) (iB := t26.2.2.2.2) (by first | decide | assumption) ?_)
          show xw z NK g 87 392 [(0, .ref (z + 30)), (1, .ref (z + 25)), (2, .ref (z + 6)), (3, .int (nI i)), (4, .int (nAt xs (nI i))), (5, .int (nAt ys (nI i)))] [] (tput z S (tr_row t26 (nAt ds (nAt pj (nAt ys (nI i)))))) P
          obtain ⟨t27, et27⟩ : ∃ t, t = (tr_row t26 (nAt ds (nAt pj (nAt ys (nI i))))) := ⟨_, rfl⟩
          show xw z NK g 87 _ _ _ (tput z S (tr_row t26 (nAt ds (nAt pj (nAt ys (nI i)))))) P
          rw [← et27]
          show xw z NK g 87 392 [(0, .ref (z + 30)), (1, .ref (z + 25)), (2, .ref (z + 6)), (3, .int (nI i)), (4, .int (nAt xs (nI i))), (5, .int (nAt ys (nI i)))] [] (tput z S t27) P
          refine xw.steps 3 (fun _ => rfl) ?_
          show xw z NK g 87 15 [(0, .ref (z + 30)), (1, .ref (z + 25)), (2, .ref (z + 6)), (3, .int ((nI i) + 1)), (4, .int (nAt xs (nI i))), (5, .int (nAt ys (nI i)))] [] (tput z S t27) P
          rw [nI_1]
          refine xw.forget (lv := [(0, .ref (z + 30)), (1, .ref (z + 25)), (2, .ref (z + 6)), (3, .int (nI (i + 1)))]) lk_87 (show [0, 1, 2, 3].Nodup by decide) (show [0, 1, 2, 3, 4, 5].Nodup by decide) (List.forall_mem_cons.mpr ⟨rfl, List.forall_mem_cons.mpr ⟨rfl, List.forall_mem_cons.mpr ⟨rfl, List.forall_mem_cons.mpr ⟨rfl, fun _ h => absurd h List.not_mem_nil⟩⟩⟩⟩) ?_
          subst et27 et26 et25
          have hs : tr_nx xs ys (fun k => nAt ds (nAt pj k)) i u = ((i + 1), tr_row (tr_write (tr_settle (u.2.1.length - 0) 0 u) 0 (nAt ys (nI i))) (nAt ds (nAt pj (nAt ys (nI i))))) := by rw [tr_nx, if_neg (fun w => absurd w.1 (by rw [c2]; decide)), if_neg (by rw [c2]; decide), c2, tro_13]
          rw [hs] at hpn hP
          exact ih _ (by omega) (by omega) _ hpn hP
        · have c2 : (nAt xs (nI i)) = 14 := c2
          refine xw.steps 2 (fun _ => rfl) ?_
          show xw z NK g 87 397 [(0, .ref (z + 30)), (1, .ref (z + 25)), (2, .ref (z + 6)), (3, .int (nI i)), (4, .int (nAt xs (nI i))), (5, .int (nAt ys (nI i)))] [.int 1, .ref (z + 30)] (tput z S u) P
          refine xw.callO (o := 30) rfl rfl rfl (tput_30 _ _ _) rfl rfl (c_tdrop (im := u.1) (ki := u.2.1) (de := u.2.2.1) (iA := u.2.2.2.1) (iB := u.2.2.2.2)  ?_)
          show xw z NK g 87 400 [(0, .ref (z + 30)), (1, .ref (z + 25)), (2, .ref (z + 6)), (3, .int (nI i)), (4, .int (nAt xs (nI i))), (5, .int (nAt ys (nI i)))] [] (tput z S (tr_drop u 1)) P
          obtain ⟨t28, et28⟩ : ∃ t, t = (tr_drop u 1) := ⟨_, rfl⟩
          show xw z NK g 87 _ _ _ (tput z S (tr_drop u 1)) P
          rw [← et28]
          show xw z NK g 87 400 [(0, .ref (z + 30)), (1, .ref (z + 25)), (2, .ref (z + 6)), (3, .int (nI i)), (4, .int (nAt xs (nI i))), (5, .int (nAt ys (nI i)))] [] (tput z S t28) P
          refine xw.steps 3 (fun _ => rfl) ?_
          show xw z NK g 87 15 [(0, .ref (z + 30)), (1, .ref (z + 25)), (2, .ref (z + 6)), (3, .int ((nI i) + 1)), (4, .int (nAt xs (nI i))), (5, .int (nAt ys (nI i)))] [] (tput z S t28) P
          rw [nI_1]
          refine xw.forget (lv := [(0, .ref (z + 30)), (1, .ref (z + 25)), (2, .ref (z + 6)), (3, .int (nI (i + 1)))]) lk_87 (show [0, 1, 2, 3].Nodup by decide) (show [0, 1, 2, 3, 4, 5].Nodup by decide) (List.forall_mem_cons.mpr ⟨rfl, List.forall_mem_cons.mpr ⟨rfl, List.forall_mem_cons.mpr ⟨rfl, List.forall_mem_cons.mpr ⟨rfl, fun _ h => absurd h List.not_mem_nil⟩⟩⟩⟩) ?_
          subst et28
          have hs : tr_nx xs ys (fun k => nAt ds (nAt pj k)) i u = ((i + 1), tr_drop u 1) := by rw [tr_nx, if_neg (fun w => absurd w.1 (by rw [c2]; decide)), if_neg (by rw [c2]; decide), c2, tro_14]
          rw [hs] at hpn hP
          exact ih _ (by omega) (by omega) _ hpn hP
        · have c2 : (nAt xs (nI i)) = 15 := c2
          refine xw.steps 3 (fun _ => rfl) ?_
          show xw z NK g 87 407 [(0, .ref (z + 30)), (1, .ref (z + 25)), (2, .ref (z + 6)), (3, .int (nI i)), (4, .int (nAt xs (nI i))), (5, .int (nAt ys (nI i)))] [.int 0, .int 17, .ref (z + 30)] (tput z S u) P
          refine xw.callO (o := 30) rfl rfl rfl (tput_30 _ _ _) rfl rfl (c_write (im := u.1) (ki := u.2.1) (de := u.2.2.1) (iA := u.2.2.2.1) (iB := u.2.2.2.2) (by omega) ?_)
          show xw z NK g 87 410 [(0, .ref (z + 30)), (1, .ref (z + 25)), (2, .ref (z + 6)), (3, .int (nI i)), (4, .int (nAt xs (nI i))), (5, .int (nAt ys (nI i)))] [] (tput z S (tr_write u 17 0)) P
          obtain ⟨t29, et29⟩ : ∃ t, t = (tr_write u 17 0) := ⟨_, rfl⟩
          have lt29 := tr_write_len u 17 0
          rw [← et29] at lt29
          try dsimp only at lt29
          have pt29 : t29.2.1.length = u.2.1.length := by rw [lt29.2]
          have rt29 : t29.2.2.1.length = u.2.2.1.length := by rw [lt29.2]
          show xw z NK g 87 _ _ _ (tput z S (tr_write u 17 0)) P
          rw [← et29]
          show xw z NK g 87 410 [(0, .ref (z + 30)), (1, .ref (z + 25)), (2, .ref (z + 6)), (3, .int (nI i)), (4, .int (nAt xs (nI i))), (5, .int (nAt ys (nI i)))] [] (tput z S t29) P
          refine xw.steps 3 (fun _ => rfl) ?_
          show xw z NK g 87 15 [(0, .ref (z + 30)), (1, .ref (z + 25)), (2, .ref (z + 6)), (3, .int ((nI i) + 1)), (4, .int (nAt xs (nI i))), (5, .int (nAt ys (nI i)))] [] (tput z S t29) P
          rw [nI_1]
          refine xw.forget (lv := [(0, .ref (z + 30)), (1, .ref (z + 25)), (2, .ref (z + 6)), (3, .int (nI (i + 1)))]) lk_87 (show [0, 1, 2, 3].Nodup by decide) (show [0, 1, 2, 3, 4, 5].Nodup by decide) (List.forall_mem_cons.mpr ⟨rfl, List.forall_mem_cons.mpr ⟨rfl, List.forall_mem_cons.mpr ⟨rfl, List.forall_mem_cons.mpr ⟨rfl, fun _ h => absurd h List.not_mem_nil⟩⟩⟩⟩) ?_
          subst et29
          have hs : tr_nx xs ys (fun k => nAt ds (nAt pj k)) i u = ((i + 1), tr_write u 17 0) := by rw [tr_nx, if_neg (fun w => absurd w.1 (by rw [c2]; decide)), if_neg (by rw [c2]; decide), c2, tro_15]
          rw [hs] at hpn hP
          exact ih _ (by omega) (by omega) _ hpn hP
        · have c2 : (nAt xs (nI i)) = 16 := c2
          refine xw.steps 2 (fun _ => rfl) ?_
          refine xw.getf (o := 30) rfl (tput_30 _ _ _) rfl ?_
          show xw z NK g 87 418 [(0, .ref (z + 30)), (1, .ref (z + 25)), (2, .ref (z + 6)), (3, .int (nI i)), (4, .int (nAt xs (nI i))), (5, .int (nAt ys (nI i)))] [.ref (z + 33), .ref (z + 30)] (tput z S u) P
          refine xw.callN (o := 33) rfl rfl rfl (tput_33 _ _ _) rfl rfl (c_size (tput_33 _ _ _) ?_)
          show xw z NK g 87 421 [(0, .ref (z + 30)), (1, .ref (z + 25)), (2, .ref (z + 6)), (3, .int (nI i)), (4, .int (nAt xs (nI i))), (5, .int (nAt ys (nI i)))] [.int (nI u.2.1.length), .ref (z + 30)] (tput z S u) P
          refine xw.steps 2 (fun _ => rfl) ?_
          show xw z NK g 87 423 [(0, .ref (z + 30)), (1, .ref (z + 25)), (2, .ref (z + 6)), (3, .int (nI i)), (4, .int (nAt xs (nI i))), (5, .int (nAt ys (nI i)))] [.int ((nI u.2.1.length) - 1), .ref (z + 30)] (tput z S u) P
          refine xw.callO (o := 30) rfl rfl rfl (tput_30 _ _ _) rfl rfl (c_toA (im := u.1) (ki := u.2.1) (de := u.2.2.1) (iA := u.2.2.2.1) (iB := u.2.2.2.2) (by omega) ?_)
          show xw z NK g 87 426 [(0, .ref (z + 30)), (1, .ref (z + 25)), (2, .ref (z + 6)), (3, .int (nI i)), (4, .int (nAt xs (nI i))), (5, .int (nAt ys (nI i)))] [] (tput z S (tr_toA u ((nI u.2.1.length) - 1))) P
          obtain ⟨t30, et30⟩ : ∃ t, t = (tr_toA u ((nI u.2.1.length) - 1)) := ⟨_, rfl⟩
          have lt30 := tr_toA_len u ((nI u.2.1.length) - 1)
          rw [← et30] at lt30
          try dsimp only at lt30
          show xw z NK g 87 _ _ _ (tput z S (tr_toA u ((nI u.2.1.length) - 1))) P
          rw [← et30]
          show xw z NK g 87 426 [(0, .ref (z + 30)), (1, .ref (z + 25)), (2, .ref (z + 6)), (3, .int (nI i)), (4, .int (nAt xs (nI i))), (5, .int (nAt ys (nI i)))] [] (tput z S t30) P
          refine xw.steps 3 (fun _ => rfl) ?_
          show xw z NK g 87 430 [(0, .ref (z + 30)), (1, .ref (z + 25)), (2, .ref (z + 6)), (3, .int (nI i)), (4, .int (nAt xs (nI i))), (5, .int (nAt ys (nI i)))] [.int 0, .int 18, .ref (z + 30)] (tput z S t30) P
          refine xw.callO (o := 30) rfl rfl rfl (tput_30 _ _ _) rfl rfl (c_write (im := t30.1) (ki := t30.2.1) (de := t30.2.2.1) (iA := t30.2.2.2.1) (iB := t30.2.2.2.2) (by omega) ?_)
          show xw z NK g 87 433 [(0, .ref (z + 30)), (1, .ref (z + 25)), (2, .ref (z + 6)), (3, .int (nI i)), (4, .int (nAt xs (nI i))), (5, .int (nAt ys (nI i)))] [] (tput z S (tr_write t30 18 0)) P
          obtain ⟨t31, et31⟩ : ∃ t, t = (tr_write t30 18 0) := ⟨_, rfl⟩
          have lt31 := tr_write_len t30 18 0
          rw [← et31] at lt31
          try dsimp only at lt31
          have pt31 : t31.2.1.length = t30.2.1.length := by rw [lt31.2]
          have rt31 : t31.2.2.1.length = t30.2.2.1.length := by rw [lt31.2]
          show xw z NK g 87 _ _ _ (tput z S (tr_write t30 18 0)) P
          rw [← et31]
          show xw z NK g 87 433 [(0, .ref (z + 30)), (1, .ref (z + 25)), (2, .ref (z + 6)), (3, .int (nI i)), (4, .int (nAt xs (nI i))), (5, .int (nAt ys (nI i)))] [] (tput z S t31) P
          refine xw.steps 2 (fun _ => rfl) ?_
          show xw z NK g 87 435 [(0, .ref (z + 30)), (1, .ref (z + 25)), (2, .ref (z + 6)), (3, .int (nI i)), (4, .int (nAt xs (nI i))), (5, .int (nAt ys (nI i)))] [.int 0, .ref (z + 30)] (tput z S t31) P
          refine xw.callO (o := 30) rfl rfl rfl (tput_30 _ _ _) rfl rfl (c_layRow (im := t31.1) (ki := t31.2.1) (de := t31.2.2.1) (iA := t31.2.2.2.1) (iB := t31.2.2.2.2) (by first | decide | assumption) ?_)
          show xw z NK g 87 438 [(0, .ref (z + 30)), (1, .ref (z + 25)), (2, .ref (z + 6)), (3, .int (nI i)), (4, .int (nAt xs (nI i))), (5, .int (nAt ys (nI i)))] [] (tput z S (tr_row t31 0)) P
          obtain ⟨t32, et32⟩ : ∃ t, t = (tr_row t31 0) := ⟨_, rfl⟩
          show xw z NK g 87 _ _ _ (tput z S (tr_row t31 0)) P
          rw [← et32]
          show xw z NK g 87 438 [(0, .ref (z + 30)), (1, .ref (z + 25)), (2, .ref (z + 6)), (3, .int (nI i)), (4, .int (nAt xs (nI i))), (5, .int (nAt ys (nI i)))] [] (tput z S t32) P
          refine xw.steps 3 (fun _ => rfl) ?_
          show xw z NK g 87 15 [(0, .ref (z + 30)), (1, .ref (z + 25)), (2, .ref (z + 6)), (3, .int ((nI i) + 1)), (4, .int (nAt xs (nI i))), (5, .int (nAt ys (nI i)))] [] (tput z S t32) P
          rw [nI_1]
          refine xw.forget (lv := [(0, .ref (z + 30)), (1, .ref (z + 25)), (2, .ref (z + 6)), (3, .int (nI (i + 1)))]) lk_87 (show [0, 1, 2, 3].Nodup by decide) (show [0, 1, 2, 3, 4, 5].Nodup by decide) (List.forall_mem_cons.mpr ⟨rfl, List.forall_mem_cons.mpr ⟨rfl, List.forall_mem_cons.mpr ⟨rfl, List.forall_mem_cons.mpr ⟨rfl, fun _ h => absurd h List.not_mem_nil⟩⟩⟩⟩) ?_
          subst et32 et31 et30
          have hs : tr_nx xs ys (fun k => nAt ds (nAt pj k)) i u = ((i + 1), tr_row (tr_write (tr_toA u (nI u.2.1.length - 1)) 18 0) 0) := by rw [tr_nx, if_neg (fun w => absurd w.1 (by rw [c2]; decide)), if_neg (by rw [c2]; decide), c2, tro_16]
          rw [hs] at hpn hP
          exact ih _ (by omega) (by omega) _ hpn hP
        · have c2 : (nAt xs (nI i)) = 17 := c2
          refine xw.steps 3 (fun _ => rfl) ?_
          show xw z NK g 87 445 [(0, .ref (z + 30)), (1, .ref (z + 25)), (2, .ref (z + 6)), (3, .int (nI i)), (4, .int (nAt xs (nI i))), (5, .int (nAt ys (nI i)))] [.int 0, .int 19, .ref (z + 30)] (tput z S u) P
          refine xw.callO (o := 30) rfl rfl rfl (tput_30 _ _ _) rfl rfl (c_write (im := u.1) (ki := u.2.1) (de := u.2.2.1) (iA := u.2.2.2.1) (iB := u.2.2.2.2) (by omega) ?_)
          show xw z NK g 87 448 [(0, .ref (z + 30)), (1, .ref (z + 25)), (2, .ref (z + 6)), (3, .int (nI i)), (4, .int (nAt xs (nI i))), (5, .int (nAt ys (nI i)))] [] (tput z S (tr_write u 19 0)) P
          obtain ⟨t33, et33⟩ : ∃ t, t = (tr_write u 19 0) := ⟨_, rfl⟩
          have lt33 := tr_write_len u 19 0
          rw [← et33] at lt33
          try dsimp only at lt33
          have pt33 : t33.2.1.length = u.2.1.length := by rw [lt33.2]
          have rt33 : t33.2.2.1.length = u.2.2.1.length := by rw [lt33.2]
          show xw z NK g 87 _ _ _ (tput z S (tr_write u 19 0)) P
          rw [← et33]
          show xw z NK g 87 448 [(0, .ref (z + 30)), (1, .ref (z + 25)), (2, .ref (z + 6)), (3, .int (nI i)), (4, .int (nAt xs (nI i))), (5, .int (nAt ys (nI i)))] [] (tput z S t33) P
          refine xw.steps 2 (fun _ => rfl) ?_
          show xw z NK g 87 450 [(0, .ref (z + 30)), (1, .ref (z + 25)), (2, .ref (z + 6)), (3, .int (nI i)), (4, .int (nAt xs (nI i))), (5, .int (nAt ys (nI i)))] [.int 0, .ref (z + 30)] (tput z S t33) P
          refine xw.callO (o := 30) rfl rfl rfl (tput_30 _ _ _) rfl rfl (c_layRow (im := t33.1) (ki := t33.2.1) (de := t33.2.2.1) (iA := t33.2.2.2.1) (iB := t33.2.2.2.2) (by first | decide | assumption) ?_)
          show xw z NK g 87 453 [(0, .ref (z + 30)), (1, .ref (z + 25)), (2, .ref (z + 6)), (3, .int (nI i)), (4, .int (nAt xs (nI i))), (5, .int (nAt ys (nI i)))] [] (tput z S (tr_row t33 0)) P
          obtain ⟨t34, et34⟩ : ∃ t, t = (tr_row t33 0) := ⟨_, rfl⟩
          show xw z NK g 87 _ _ _ (tput z S (tr_row t33 0)) P
          rw [← et34]
          show xw z NK g 87 453 [(0, .ref (z + 30)), (1, .ref (z + 25)), (2, .ref (z + 6)), (3, .int (nI i)), (4, .int (nAt xs (nI i))), (5, .int (nAt ys (nI i)))] [] (tput z S t34) P
          refine xw.steps 3 (fun _ => rfl) ?_
          show xw z NK g 87 15 [(0, .ref (z + 30)), (1, .ref (z + 25)), (2, .ref (z + 6)), (3, .int ((nI i) + 1)), (4, .int (nAt xs (nI i))), (5, .int (nAt ys (nI i)))] [] (tput z S t34) P
          rw [nI_1]
          refine xw.forget (lv := [(0, .ref (z + 30)), (1, .ref (z + 25)), (2, .ref (z + 6)), (3, .int (nI (i + 1)))]) lk_87 (show [0, 1, 2, 3].Nodup by decide) (show [0, 1, 2, 3, 4, 5].Nodup by decide) (List.forall_mem_cons.mpr ⟨rfl, List.forall_mem_cons.mpr ⟨rfl, List.forall_mem_cons.mpr ⟨rfl, List.forall_mem_cons.mpr ⟨rfl, fun _ h => absurd h List.not_mem_nil⟩⟩⟩⟩) ?_
          subst et34 et33
          have hs : tr_nx xs ys (fun k => nAt ds (nAt pj k)) i u = ((i + 1), tr_row (tr_write u 19 0) 0) := by rw [tr_nx, if_neg (fun w => absurd w.1 (by rw [c2]; decide)), if_neg (by rw [c2]; decide), c2, tro_17]
          rw [hs] at hpn hP
          exact ih _ (by omega) (by omega) _ hpn hP
        · have c2 : (nAt xs (nI i)) = 18 := c2
          show xw z NK g 87 456 [(0, .ref (z + 30)), (1, .ref (z + 25)), (2, .ref (z + 6)), (3, .int (nI i)), (4, .int (nAt xs (nI i))), (5, .int (nAt ys (nI i)))] [] (tput z S u) P
          have hl := hn3 (by rw [c2]; decide)
          refine xw.steps 5 (fun _ => rfl) ?_
          show xw z NK g 87 464 [(0, .ref (z + 30)), (1, .ref (z + 25)), (2, .ref (z + 6)), (3, .int ((nI i) + 1)), (4, .int (nAt xs (nI i))), (5, .int (nAt ys (nI i)))] [.int ((nI i) + 1), .ref (z + 25), .int (nAt ys (nI i)), .ref (z + 30)] (tput z S u) P
          refine xw.callO (o := 25) rfl rfl rfl ((tput_ne _ _ _ (by decide)).trans h25) rfl rfl (c_Code_argumentAt ((tput_ne _ _ _ (by decide)).trans h25) ((tput_ne _ _ _ (by decide)).trans h26) ((tput_ne _ _ _ (by decide)).trans h28) (by decide) ?_)
          show xw z NK g 87 467 [(0, .ref (z + 30)), (1, .ref (z + 25)), (2, .ref (z + 6)), (3, .int ((nI i) + 1)), (4, .int (nAt xs (nI i))), (5, .int (nAt ys (nI i)))] [.int (nAt ys ((nI i) + 1)), .int (nAt ys (nI i)), .ref (z + 30)] (tput z S u) P
          show xw z NK g 87 467 [(0, .ref (z + 30)), (1, .ref (z + 25)), (2, .ref (z + 6)), (3, .int ((nI i) + 1)), (4, .int (nAt xs (nI i))), (5, .int (nAt ys (nI i)))] [.int (nAt ys ((nI i) + 1)), .int (nAt ys (nI i)), .ref (z + 30)] (tput z S u) P
          refine xw.callO (o := 30) rfl rfl rfl (tput_30 _ _ _) rfl rfl (c_goInCase (im := u.1) (ki := u.2.1) (de := u.2.2.1) (iA := u.2.2.2.1) (iB := u.2.2.2.2) (by omega) (by omega) ?_)
          show xw z NK g 87 470 [(0, .ref (z + 30)), (1, .ref (z + 25)), (2, .ref (z + 6)), (3, .int ((nI i) + 1)), (4, .int (nAt xs (nI i))), (5, .int (nAt ys (nI i)))] [] (tput z S (tr_case u (nAt ys (nI i)) (nAt ys ((nI i) + 1)))) P
          obtain ⟨t35, et35⟩ : ∃ t, t = (tr_case u (nAt ys (nI i)) (nAt ys ((nI i) + 1))) := ⟨_, rfl⟩
          show xw z NK g 87 _ _ _ (tput z S (tr_case u (nAt ys (nI i)) (nAt ys ((nI i) + 1)))) P
          rw [← et35]
          show xw z NK g 87 470 [(0, .ref (z + 30)), (1, .ref (z + 25)), (2, .ref (z + 6)), (3, .int ((nI i) + 1)), (4, .int (nAt xs (nI i))), (5, .int (nAt ys (nI i)))] [] (tput z S t35) P
          refine xw.steps 3 (fun _ => rfl) ?_
          show xw z NK g 87 15 [(0, .ref (z + 30)), (1, .ref (z + 25)), (2, .ref (z + 6)), (3, .int (((nI i) + 1) + 1)), (4, .int (nAt xs (nI i))), (5, .int (nAt ys (nI i)))] [] (tput z S t35) P
          rw [nI_1, nI_1]
          refine xw.forget (lv := [(0, .ref (z + 30)), (1, .ref (z + 25)), (2, .ref (z + 6)), (3, .int (nI (i + 1 + 1)))]) lk_87 (show [0, 1, 2, 3].Nodup by decide) (show [0, 1, 2, 3, 4, 5].Nodup by decide) (List.forall_mem_cons.mpr ⟨rfl, List.forall_mem_cons.mpr ⟨rfl, List.forall_mem_cons.mpr ⟨rfl, List.forall_mem_cons.mpr ⟨rfl, fun _ h => absurd h List.not_mem_nil⟩⟩⟩⟩) ?_
          subst et35
          have hs : tr_nx xs ys (fun k => nAt ds (nAt pj k)) i u = ((i + 1 + 1), tr_case u (nAt ys (nI i)) (nAt ys (nI i + 1))) := by rw [tr_nx, if_neg (fun w => absurd w.1 (by rw [c2]; decide)), if_pos c2]
          rw [hs] at hpn hP
          exact ih _ (by omega) (by omega) _ hpn hP
        · have c2 : (nAt xs (nI i)) = 19 := c2
          refine xw.steps 2 (fun _ => rfl) ?_
          show xw z NK g 87 475 [(0, .ref (z + 30)), (1, .ref (z + 25)), (2, .ref (z + 6)), (3, .int (nI i)), (4, .int (nAt xs (nI i))), (5, .int (nAt ys (nI i)))] [.int 0, .ref (z + 30)] (tput z S u) P
          refine xw.callO (o := 30) rfl rfl rfl (tput_30 _ _ _) rfl rfl (c_meet (im := u.1) (ki := u.2.1) (de := u.2.2.1) (iA := u.2.2.2.1) (iB := u.2.2.2.2) (m := false) (by omega) ?_)
          show xw z NK g 87 478 [(0, .ref (z + 30)), (1, .ref (z + 25)), (2, .ref (z + 6)), (3, .int (nI i)), (4, .int (nAt xs (nI i))), (5, .int (nAt ys (nI i)))] [.int (bI (tr_meet u false).2)] (tput z S (tr_meet u false).1) P
          obtain ⟨t36, et36⟩ : ∃ t, t = (tr_meet u false) := ⟨_, rfl⟩
          have lt36 := tr_meet_len u false
          rw [← et36] at lt36
          try dsimp only at lt36
          have mt36 := congrArg List.length lt36.2.2
          rw [← et36]
          show xw z NK g 87 478 [(0, .ref (z + 30)), (1, .ref (z + 25)), (2, .ref (z + 6)), (3, .int (nI i)), (4, .int (nAt xs (nI i))), (5, .int (nAt ys (nI i)))] [.int (bI t36.2)] (tput z S t36.1) P
          refine xw.steps 4 (fun _ => rfl) ?_
          show xw z NK g 87 483 [(0, .ref (z + 30)), (1, .ref (z + 25)), (2, .ref (z + 6)), (3, .int (nI i)), (4, .int (nAt xs (nI i))), (5, .int (nAt ys (nI i)))] [.int 0, .int 15, .ref (z + 30)] (tput z S t36.1) P
          refine xw.callO (o := 30) rfl rfl rfl (tput_30 _ _ _) rfl rfl (c_write (im := t36.1.1) (ki := t36.1.2.1) (de := t36.1.2.2.1) (iA := t36.1.2.2.2.1) (iB := t36.1.2.2.2.2) (by omega) ?_)
          show xw z NK g 87 486 [(0, .ref (z + 30)), (1, .ref (z + 25)), (2, .ref (z + 6)), (3, .int (nI i)), (4, .int (nAt xs (nI i))), (5, .int (nAt ys (nI i)))] [] (tput z S (tr_write t36.1 15 0)) P
          obtain ⟨t37, et37⟩ : ∃ t, t = (tr_write t36.1 15 0) := ⟨_, rfl⟩
          have lt37 := tr_write_len t36.1 15 0
          rw [← et37] at lt37
          try dsimp only at lt37
          have pt37 : t37.2.1.length = t36.1.2.1.length := by rw [lt37.2]
          have rt37 : t37.2.2.1.length = t36.1.2.2.1.length := by rw [lt37.2]
          show xw z NK g 87 _ _ _ (tput z S (tr_write t36.1 15 0)) P
          rw [← et37]
          show xw z NK g 87 486 [(0, .ref (z + 30)), (1, .ref (z + 25)), (2, .ref (z + 6)), (3, .int (nI i)), (4, .int (nAt xs (nI i))), (5, .int (nAt ys (nI i)))] [] (tput z S t37) P
          refine xw.steps 1 (fun _ => rfl) ?_
          show xw z NK g 87 487 [(0, .ref (z + 30)), (1, .ref (z + 25)), (2, .ref (z + 6)), (3, .int (nI i)), (4, .int (nAt xs (nI i))), (5, .int (nAt ys (nI i)))] [.ref (z + 30)] (tput z S t37) P
          refine xw.callO (o := 30) rfl rfl rfl (tput_30 _ _ _) rfl rfl (c_leave (im := t37.1) (ki := t37.2.1) (de := t37.2.2.1) (iA := t37.2.2.2.1) (iB := t37.2.2.2.2) (by omega) (by omega) ?_)
          show xw z NK g 87 490 [(0, .ref (z + 30)), (1, .ref (z + 25)), (2, .ref (z + 6)), (3, .int (nI i)), (4, .int (nAt xs (nI i))), (5, .int (nAt ys (nI i)))] [] (tput z S (tr_leave t37)) P
          obtain ⟨t38, et38⟩ : ∃ t, t = (tr_leave t37) := ⟨_, rfl⟩
          show xw z NK g 87 _ _ _ (tput z S (tr_leave t37)) P
          rw [← et38]
          show xw z NK g 87 490 [(0, .ref (z + 30)), (1, .ref (z + 25)), (2, .ref (z + 6)), (3, .int (nI i)), (4, .int (nAt xs (nI i))), (5, .int (nAt ys (nI i)))] [] (tput z S t38) P
          refine xw.steps 3 (fun _ => rfl) ?_
          show xw z NK g 87 15 [(0, .ref (z + 30)), (1, .ref (z + 25)), (2, .ref (z + 6)), (3, .int ((nI i) + 1)), (4, .int (nAt xs (nI i))), (5, .int (nAt ys (nI i)))] [] (tput z S t38) P
          rw [nI_1]
          refine xw.forget (lv := [(0, .ref (z + 30)), (1, .ref (z + 25)), (2, .ref (z + 6)), (3, .int (nI (i + 1)))]) lk_87 (show [0, 1, 2, 3].Nodup by decide) (show [0, 1, 2, 3, 4, 5].Nodup by decide) (List.forall_mem_cons.mpr ⟨rfl, List.forall_mem_cons.mpr ⟨rfl, List.forall_mem_cons.mpr ⟨rfl, List.forall_mem_cons.mpr ⟨rfl, fun _ h => absurd h List.not_mem_nil⟩⟩⟩⟩) ?_
          subst et38 et37 et36
          have hs : tr_nx xs ys (fun k => nAt ds (nAt pj k)) i u = ((i + 1), tr_leave (tr_write (tr_meet u false).1 15 0)) := by rw [tr_nx, if_neg (fun w => absurd w.1 (by rw [c2]; decide)), if_neg (by rw [c2]; decide), c2, tro_19]
          rw [hs] at hpn hP
          exact ih _ (by omega) (by omega) _ hpn hP
        · have c2 : (nAt xs (nI i)) = 20 := c2
          show xw z NK g 87 493 [(0, .ref (z + 30)), (1, .ref (z + 25)), (2, .ref (z + 6)), (3, .int (nI i)), (4, .int (nAt xs (nI i))), (5, .int (nAt ys (nI i)))] [] (tput z S u) P
          have hl := hn5 c2
          refine xw.steps 1 (fun _ => rfl) ?_
          show xw z NK g 87 494 [(0, .ref (z + 30)), (1, .ref (z + 25)), (2, .ref (z + 6)), (3, .int (nI i)), (4, .int (nAt xs (nI i))), (5, .int (nAt ys (nI i)))] [.ref (z + 30)] (tput z S u) P
          refine xw.callO (o := 30) rfl rfl rfl (tput_30 _ _ _) rfl rfl (c_storeByte (im := u.1) (ki := u.2.1) (de := u.2.2.1) (iA := u.2.2.2.1) (iB := u.2.2.2.2) (by omega) (by omega) ?_)
          show xw z NK g 87 497 [(0, .ref (z + 30)), (1, .ref (z + 25)), (2, .ref (z + 6)), (3, .int (nI i)), (4, .int (nAt xs (nI i))), (5, .int (nAt ys (nI i)))] [] (tput z S (tr_byte u)) P
          obtain ⟨t39, et39⟩ : ∃ t, t = (tr_byte u) := ⟨_, rfl⟩
          show xw z NK g 87 _ _ _ (tput z S (tr_byte u)) P
          rw [← et39]
          show xw z NK g 87 497 [(0, .ref (z + 30)), (1, .ref (z + 25)), (2, .ref (z + 6)), (3, .int (nI i)), (4, .int (nAt xs (nI i))), (5, .int (nAt ys (nI i)))] [] (tput z S t39) P
          refine xw.steps 3 (fun _ => rfl) ?_
          show xw z NK g 87 15 [(0, .ref (z + 30)), (1, .ref (z + 25)), (2, .ref (z + 6)), (3, .int ((nI i) + 1)), (4, .int (nAt xs (nI i))), (5, .int (nAt ys (nI i)))] [] (tput z S t39) P
          rw [nI_1]
          refine xw.forget (lv := [(0, .ref (z + 30)), (1, .ref (z + 25)), (2, .ref (z + 6)), (3, .int (nI (i + 1)))]) lk_87 (show [0, 1, 2, 3].Nodup by decide) (show [0, 1, 2, 3, 4, 5].Nodup by decide) (List.forall_mem_cons.mpr ⟨rfl, List.forall_mem_cons.mpr ⟨rfl, List.forall_mem_cons.mpr ⟨rfl, List.forall_mem_cons.mpr ⟨rfl, fun _ h => absurd h List.not_mem_nil⟩⟩⟩⟩) ?_
          subst et39
          have hs : tr_nx xs ys (fun k => nAt ds (nAt pj k)) i u = ((i + 1), tr_byte u) := by rw [tr_nx, if_neg (fun w => absurd w.1 (by rw [c2]; decide)), if_neg (by rw [c2]; decide), c2, tro_20]
          rw [hs] at hpn hP
          exact ih _ (by omega) (by omega) _ hpn hP
  refine xw.steps 1 (fun _ => rfl) ?_
  refine xw.getf (o := 30) rfl (tput_30 _ _ _) rfl ?_
  refine xw.steps 1 (fun _ => rfl) ?_
  show xw z NK g 87 5 [(0, .ref (z + 30)), (1, .ref (z + 25)), (2, .ref (z + 6))] [.int 0, .ref (z + 31)] (tput z S (im, ki, de, iA, iB)) P
  refine xw.callN (o := 31) rfl rfl rfl (tput_31 _ _ _) rfl rfl (c_cutTo (tput_31 _ _ _) ?_)
  show xw z NK g 87 8 [(0, .ref (z + 30)), (1, .ref (z + 25)), (2, .ref (z + 6))] [] (xu (tput z S (im, ki, de, iA, iB)) 31 (.inl (nCut im 0))) P
  rw [tput_s31]
  refine xw.steps 2 (fun _ => rfl) ?_
  show xw z NK g 87 10 [(0, .ref (z + 30)), (1, .ref (z + 25)), (2, .ref (z + 6))] [.int 0, .ref (z + 30)] (tput z S ((nCut im 0), ki, de, iA, iB)) P
  refine xw.callO (o := 30) rfl rfl rfl (tput_30 _ _ _) rfl rfl (c_layRow (im := (nCut im 0)) (ki := ki) (de := de) (iA := iA) (iB := iB) (by first | decide | assumption) ?_)
  show xw z NK g 87 13 [(0, .ref (z + 30)), (1, .ref (z + 25)), (2, .ref (z + 6))] [] (tput z S (tr_row ((nCut im 0), ki, de, iA, iB) 0)) P
  obtain ⟨t1, et1⟩ : ∃ t, t = (tr_row ((nCut im 0), ki, de, iA, iB) 0) := ⟨_, rfl⟩
  show xw z NK g 87 _ _ _ (tput z S (tr_row ((nCut im 0), ki, de, iA, iB) 0)) P
  rw [← et1]
  show xw z NK g 87 13 [(0, .ref (z + 30)), (1, .ref (z + 25)), (2, .ref (z + 6))] [] (tput z S t1) P
  refine xw.steps 2 (fun _ => rfl) ?_
  show xw z NK g 87 15 [(0, .ref (z + 30)), (1, .ref (z + 25)), (2, .ref (z + 6)), (3, .int 0)] [] (tput z S t1) P
  subst et1
  exact loop (xs.length + 1) 0 (by omega) (by omega) ([], [], [], -1, -1) hpre hP
end XT7
