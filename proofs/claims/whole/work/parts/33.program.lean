/-! PROGRAM: take and the reads (walks by wip/gen33.py). pn, pa: the loaded code; pp: places of labels -/
def gS (z : Nat) (S : xS) (pn pa pp : List Int32) : Prop := S 37 = some (.inr (.inr (7, [.ref (z + 38), .ref (z + 40), .ref (z + 42)]))) ∧ S 38 = some (.inl pn) ∧ S 40 = some (.inl pa) ∧ S 42 = some (.inl pp)
def g_take (pn pa pp : List Int32) (n k : Int32) : List Int32 × List Int32 × List Int32 := if n = 0 then (pn, pa, nSet pp k (nI pn.length)) else (pn ++ [n], pa ++ [k], pp)
section XG
variable {z : Nat} {NK : List Nat} {g : mx_G} {S : xS} {P : Option Value → xS → Prop} {pn pa pp : List Int32}
set_option maxHeartbeats 1000000 in
/-- RowCode$Program.size()I -/
theorem c_Program_size (hG : gS z S pn pa pp) (hP : P (some (.int (nI pn.length))) S) : xw z NK g 37 0 [(0, .ref (z + 37))] [] S P := by
  obtain ⟨h37, h38, h40, h42⟩ := id hG
  refine xw.steps 1 (fun _ => rfl) ?_
  refine xw.getf (o := 37) rfl h37 rfl ?_
  show xw z NK g 37 4 [(0, .ref (z + 37))] [.ref (z + 38)] S P
  refine xw.callN (o := 38) rfl rfl rfl h38 rfl rfl (c_size h38 ?_)
  show xw z NK g 37 7 [(0, .ref (z + 37))] [.int (nI pn.length)] S P
  refine xw.ret rfl (fun _ => rfl) ?_
  show P (some (.int (nI pn.length))) S
  exact hP
set_option maxHeartbeats 1000000 in
/-- RowCode$Program.numberAt(I)I -/
theorem c_Program_numberAt (hG : gS z S pn pa pp) {i : Int32} (hP : P (some (.int (nAt pn i))) S) : xw z NK g 38 0 [(0, .ref (z + 37)), (1, .int i)] [] S P := by
  obtain ⟨h37, h38, h40, h42⟩ := id hG
  refine xw.steps 1 (fun _ => rfl) ?_
  refine xw.getf (o := 37) rfl h37 rfl ?_
  refine xw.steps 1 (fun _ => rfl) ?_
  show xw z NK g 38 5 [(0, .ref (z + 37)), (1, .int i)] [.int i, .ref (z + 38)] S P
  refine xw.callN (o := 38) rfl rfl rfl h38 rfl rfl (c_at h38 ?_)
  show xw z NK g 38 8 [(0, .ref (z + 37)), (1, .int i)] [.int (nAt pn i)] S P
  refine xw.ret rfl (fun _ => rfl) ?_
  show P (some (.int (nAt pn i))) S
  exact hP
set_option maxHeartbeats 1000000 in
/-- RowCode$Program.argumentAt(I)I -/
theorem c_Program_argumentAt (hG : gS z S pn pa pp) {i : Int32} (hP : P (some (.int (nAt pa i))) S) : xw z NK g 39 0 [(0, .ref (z + 37)), (1, .int i)] [] S P := by
  obtain ⟨h37, h38, h40, h42⟩ := id hG
  refine xw.steps 1 (fun _ => rfl) ?_
  refine xw.getf (o := 37) rfl h37 rfl ?_
  refine xw.steps 1 (fun _ => rfl) ?_
  show xw z NK g 39 5 [(0, .ref (z + 37)), (1, .int i)] [.int i, .ref (z + 40)] S P
  refine xw.callN (o := 40) rfl rfl rfl h40 rfl rfl (c_at h40 ?_)
  show xw z NK g 39 8 [(0, .ref (z + 37)), (1, .int i)] [.int (nAt pa i)] S P
  refine xw.ret rfl (fun _ => rfl) ?_
  show P (some (.int (nAt pa i))) S
  exact hP
set_option maxHeartbeats 1000000 in
/-- RowCode$Program.take(II)V -/
theorem c_take (hG : gS z S pn pa pp) (hl1 : pn.length < 131072) (hl2 : pa.length < 131072) {n k : Int32} (hP : P none (xu (xu (xu S 38 (.inl (g_take pn pa pp n k).1)) 40 (.inl (g_take pn pa pp n k).2.1)) 42 (.inl (g_take pn pa pp n k).2.2))) : xw z NK g 36 0 [(0, .ref (z + 37)), (1, .int n), (2, .int k)] [] S P := by
  obtain ⟨h37, h38, h40, h42⟩ := id hG
  refine xw.steps 1 (fun _ => rfl) ?_
  refine xw.if_ rfl (fun c1 => ?_) (fun c1 => ?_)
  · have c1 := of_decide_eq_true c1
    refine xw.steps 1 (fun _ => rfl) ?_
    refine xw.getf (o := 37) rfl h37 rfl ?_
    refine xw.steps 1 (fun _ => rfl) ?_
    show xw z NK g 36 27 [(0, .ref (z + 37)), (1, .int n), (2, .int k)] [.int n, .ref (z + 38)] S P
    refine xw.callN (o := 38) rfl rfl rfl h38 rfl rfl (c_append (xs := pn) h38 (by first | assumption | (unfold nCut; rw [List.length_take]; omega) | exact Nat.lt_of_le_of_lt (j_arrW_len _ _ _) (by omega)) ?_)
    show xw z NK g 36 30 [(0, .ref (z + 37)), (1, .int n), (2, .int k)] [] (xu S 38 (.inl (pn ++ [n]))) P
    refine xw.steps 1 (fun _ => rfl) ?_
    refine xw.getf (o := 37) rfl ((xu_ne _ _ (by decide)).trans h37) rfl ?_
    refine xw.steps 1 (fun _ => rfl) ?_
    show xw z NK g 36 35 [(0, .ref (z + 37)), (1, .int n), (2, .int k)] [.int k, .ref (z + 40)] (xu S 38 (.inl (pn ++ [n]))) P
    refine xw.callN (o := 40) rfl rfl rfl ((xu_ne _ _ (by decide)).trans h40) rfl rfl (c_append (xs := pa) ((xu_ne _ _ (by decide)).trans h40) (by first | assumption | (unfold nCut; rw [List.length_take]; omega) | exact Nat.lt_of_le_of_lt (j_arrW_len _ _ _) (by omega)) ?_)
    show xw z NK g 36 38 [(0, .ref (z + 37)), (1, .int n), (2, .int k)] [] (xu (xu S 38 (.inl (pn ++ [n]))) 40 (.inl (pa ++ [k]))) P
    refine xw.ret rfl (fun _ => rfl) ?_
    show P none (xu (xu S 38 (.inl (pn ++ [n]))) 40 (.inl (pa ++ [k])))
    have es : (xu (xu S 38 (.inl (pn ++ [n]))) 40 (.inl (pa ++ [k]))) = xu (xu (xu S 38 (.inl (g_take pn pa pp n k).1)) 40 (.inl (g_take pn pa pp n k).2.1)) 42 (.inl (g_take pn pa pp n k).2.2) := by
      funext q
      by_cases q42 : q = 42
      · subst q42; simp [xu, g_take, c1, h38, h40, h42]
      by_cases q40 : q = 40
      · subst q40; simp [xu, g_take, c1, h38, h40, h42]
      by_cases q38 : q = 38
      · subst q38; simp [xu, g_take, c1, h38, h40, h42]
      simp [xu, q42, q40, q38]
    rw [es]
    exact hP
  · have c1 := Decidable.not_not.mp (of_decide_eq_false c1)
    refine xw.steps 1 (fun _ => rfl) ?_
    refine xw.getf (o := 37) rfl h37 rfl ?_
    refine xw.steps 2 (fun _ => rfl) ?_
    refine xw.getf (o := 37) rfl h37 rfl ?_
    show xw z NK g 36 13 [(0, .ref (z + 37)), (1, .int n), (2, .int k)] [.ref (z + 38), .int k, .ref (z + 42)] S P
    refine xw.callN (o := 38) rfl rfl rfl h38 rfl rfl (c_size h38 ?_)
    show xw z NK g 36 16 [(0, .ref (z + 37)), (1, .int n), (2, .int k)] [.int (nI pn.length), .int k, .ref (z + 42)] S P
    show xw z NK g 36 16 [(0, .ref (z + 37)), (1, .int n), (2, .int k)] [.int (nI pn.length), .int k, .ref (z + 42)] S P
    refine xw.callN (o := 42) rfl rfl rfl h42 rfl rfl (c_change h42 ?_)
    show xw z NK g 36 19 [(0, .ref (z + 37)), (1, .int n), (2, .int k)] [] (xu S 42 (.inl (nSet pp k (nI pn.length)))) P
    refine xw.steps 1 (fun _ => rfl) ?_
    refine xw.ret rfl (fun _ => rfl) ?_
    show P none (xu S 42 (.inl (nSet pp k (nI pn.length))))
    have es : (xu S 42 (.inl (nSet pp k (nI pn.length)))) = xu (xu (xu S 38 (.inl (g_take pn pa pp n k).1)) 40 (.inl (g_take pn pa pp n k).2.1)) 42 (.inl (g_take pn pa pp n k).2.2) := by
      funext q
      by_cases q42 : q = 42
      · subst q42; simp [xu, g_take, c1, h38, h40, h42]
      by_cases q40 : q = 40
      · subst q40; simp [xu, g_take, c1, h38, h40, h42]
      by_cases q38 : q = 38
      · subst q38; simp [xu, g_take, c1, h38, h40, h42]
      simp [xu, q42, q40, q38]
    rw [es]
    exact hP
end XG
