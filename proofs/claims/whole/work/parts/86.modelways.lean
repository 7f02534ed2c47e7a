/-! THE REFERENCE: way, comes, pop, push, locals and words (walks by wip/gen86.py) -/
section MO2
variable {Bk : xS} {z : Nat} {NK : List Nat} {g : mx_G} {S : xS} {P : Option Value → xS → Prop} {th sz va fu hg : Int32} {nu ag lo wo he go ro : Nat → Int32} {c : List II}
set_option maxHeartbeats 4000000 in
/-- RowCodeModel.way(II)I -/
theorem c_way0 {q : Nat} (hM : MO Bk z S th (nI c.length) va fu hg nu ag lo wo he go ro) (hC : CO c nu ag) (hn : c.length ≤ 400) (hq : q < c.length)  (hP : P (some (.int (oI (nxt c q)))) S) : xw z NK g 126 0 [(0, .ref (z + 52)), (1, .int (nI q)), (2, .int 0)] [] S P := by
  obtain ⟨q52, q53, q54, q55, q56, q57, q58, q59, qB⟩ := id hM
  have ec : (nI q).toNatClampNeg = q := nI_clamp (by omega)
  obtain ⟨a1, a2⟩ := hC q hq
  refine xw.steps 1 (fun _ => rfl) ?_
  refine xw.getf (o := 52) rfl q52 rfl ?_
  refine xw.steps 1 (fun _ => rfl) ?_
  refine xw.ald (o := 53) rfl q53 (nI_in (by omega) (by omega)) ?_
  refine xw.steps 3 (fun _ => rfl) ?_
  refine xw.icmp rfl (fun c1 => ?_) (fun c1 => ?_)
  · have c1 := of_decide_eq_true c1
    refine xw.steps 4 (fun _ => rfl) ?_
    refine xw.steps 1 (pc' := 30) (fun _ => rfl) ?_
    refine xw.steps 1 (fun _ => rfl) ?_
    refine xw.steps 1 (pc' := 41) (fun _ => rfl) ?_
    refine xw.steps 2 (fun _ => rfl) ?_
    refine xw.ret rfl (fun _ => rfl) ?_
    show P (some (.int (-1))) S
    rw [ec, a1] at c1
    have e9 : nxt c q = none := by clear hP; unfold nxt; simp_all [t_ends]
    rw [e9] at hP
    exact hP
  · have c1 := of_decide_eq_false c1
    refine xw.steps 2 (fun _ => rfl) ?_
    refine xw.icmp rfl (fun c2 => ?_) (fun c2 => ?_)
    · have c2 := of_decide_eq_true c2
      refine xw.steps 3 (fun _ => rfl) ?_
      refine xw.steps 1 (pc' := 30) (fun _ => rfl) ?_
      refine xw.steps 1 (fun _ => rfl) ?_
      refine xw.steps 1 (pc' := 35) (fun _ => rfl) ?_
      refine xw.steps 2 (fun _ => rfl) ?_
      refine xw.icmp rfl (fun c3 => ?_) (fun c3 => ?_)
      · have c3 := of_decide_eq_true c3
        refine xw.steps 2 (fun _ => rfl) ?_
        refine xw.icmp rfl (fun c4 => ?_) (fun c4 => ?_)
        · have c4 := of_decide_eq_true c4
          refine xw.steps 3 (fun _ => rfl) ?_
          refine xw.ret rfl (fun _ => rfl) ?_
          show P (some (.int ((nI q) + 1))) S
          rw [ec, a1] at c1 c2 c3 c4
          have e9 : nxt c q = some (q + 1) := by clear hP; unfold nxt; simp_all [t_ends]
          rw [e9] at hP
          rw [show nI q + 1 = nI (q + 1) from nI_add q 1]
          exact hP
        · have c4 := Decidable.not_not.mp (of_decide_eq_false c4)
          refine xw.steps 4 (fun _ => rfl) ?_
          refine xw.ret rfl (fun _ => rfl) ?_
          show P (some (.int ((nI q) + 2))) S
          rw [ec, a1] at c1 c2 c3 c4
          have e9 : nxt c q = some (q + 2) := by clear hP; unfold nxt; simp_all [t_ends]
          rw [e9] at hP
          rw [show nI q + 2 = nI (q + 2) from nI_add q 2]
          exact hP
      · have c3 := Decidable.not_not.mp (of_decide_eq_false c3)
        refine xw.steps 2 (fun _ => rfl) ?_
        refine xw.ret rfl (fun _ => rfl) ?_
        show P (some (.int (-1))) S
        rw [ec, a1] at c1 c2 c3
        have e9 : nxt c q = none := by clear hP; unfold nxt; simp_all [t_ends]
        rw [e9] at hP
        exact hP
    · have c2 := Decidable.not_not.mp (of_decide_eq_false c2)
      refine xw.steps 4 (fun _ => rfl) ?_
      refine xw.steps 1 (pc' := 30) (fun _ => rfl) ?_
      refine xw.steps 1 (fun _ => rfl) ?_
      refine xw.steps 1 (pc' := 41) (fun _ => rfl) ?_
      refine xw.steps 2 (fun _ => rfl) ?_
      refine xw.ret rfl (fun _ => rfl) ?_
      show P (some (.int (-1))) S
      rw [ec, a1] at c1 c2
      have e9 : nxt c q = none := by clear hP; unfold nxt; simp_all [t_ends]
      rw [e9] at hP
      exact hP
theorem in_goes {n : Int32} : decide (¬ n < 10 ∧ ¬ 12 < n) = t_goes n := by
  unfold t_goes
  refine decide_eq_decide.mpr ⟨fun w => ?_, fun w => ?_⟩
  · have h0 : ¬ n < 0 := fun q => w.1 (Int32.lt_trans q (by decide))
    obtain ⟨x, hx, rfl⟩ := nI_of h0
    have h1 : ¬ x < 10 := fun q => w.1 ((nI_ltI hx (by omega) (b := 10)).mpr q)
    have h2 : ¬ 12 < x := fun q => w.2 ((nI_ltI (by omega) hx (a := 12)).mpr q)
    have : x = 10 ∨ x = 11 ∨ x = 12 := by omega
    rcases this with rfl | rfl | rfl
    · exact .inl rfl
    · exact .inr (.inl rfl)
    · exact .inr (.inr rfl)
  · rcases w with rfl | rfl | rfl <;> decide
theorem gol_none {c : List II} {q : Nat} (h1 : decide (¬ nb c q < 10 ∧ ¬ 12 < nb c q) = false) (h2 : ¬ nb c q = 18) : gol c q = none := by
  rw [in_goes] at h1
  unfold gol
  rw [if_neg h2, h1]
  rfl
theorem gol_goes {c : List II} {q : Nat} (h1 : decide (¬ nb c q < 10 ∧ ¬ 12 < nb c q) = true) : gol c q = plc c (ar c q) := by
  rw [in_goes] at h1
  unfold gol
  rw [if_neg (fun w => by rw [w] at h1; exact absurd h1 (by decide)), if_pos h1]
set_option maxHeartbeats 4000000 in
/-- RowCodeModel.way(II)I -/
theorem c_way1 {q : Nat} (hM : MO Bk z S th (nI c.length) va fu hg nu ag lo wo he go ro) (hC : CO c nu ag) (hn : c.length ≤ 400) (hq : q < c.length) (h18 : nb c q = 18 → q + 1 < c.length) (hP : P (some (.int (oI (gol c q)))) S) : xw z NK g 126 0 [(0, .ref (z + 52)), (1, .int (nI q)), (2, .int 1)] [] S P := by
  obtain ⟨q52, q53, q54, q55, q56, q57, q58, q59, qB⟩ := id hM
  have ec : (nI q).toNatClampNeg = q := nI_clamp (by omega)
  obtain ⟨a1, a2⟩ := hC q hq
  refine xw.steps 1 (fun _ => rfl) ?_
  refine xw.getf (o := 52) rfl q52 rfl ?_
  refine xw.steps 1 (fun _ => rfl) ?_
  refine xw.ald (o := 53) rfl q53 (nI_in (by omega) (by omega)) ?_
  refine xw.steps 3 (fun _ => rfl) ?_
  refine xw.icmp rfl (fun c1 => ?_) (fun c1 => ?_)
  · have c1 := of_decide_eq_true c1
    refine xw.steps 4 (fun _ => rfl) ?_
    refine xw.steps 1 (pc' := 61) (fun _ => rfl) ?_
    refine xw.steps 3 (fun _ => rfl) ?_
    show xw z NK g 126 66 [(0, .ref (z + 52)), (1, .int (nI q)), (2, .int 1), (3, .int (nu (nI q).toNatClampNeg)), (4, .int 1)] [.int 12, .int 10, .int (nu (nI q).toNatClampNeg)] S P
    refine xw.callS rfl rfl rfl rfl rfl (c_in ?_)
    show xw z NK g 126 69 [(0, .ref (z + 52)), (1, .int (nI q)), (2, .int 1), (3, .int (nu (nI q).toNatClampNeg)), (4, .int 1)] [.int (bI (decide (¬ (nu (nI q).toNatClampNeg) < 10 ∧ ¬ 12 < (nu (nI q).toNatClampNeg))))] S P
    refine xw.if_ rfl (fun c2 => ?_) (fun c2 => ?_)
    · have c2 := bI_eq0 (of_decide_eq_true c2)
      refine xw.steps 2 (fun _ => rfl) ?_
      refine xw.icmp rfl (fun c3 => ?_) (fun c3 => ?_)
      · have c3 := of_decide_eq_true c3
        refine xw.steps 1 (fun _ => rfl) ?_
        refine xw.ret rfl (fun _ => rfl) ?_
        show P (some (.int (-1))) S
        have hg2 := hP
        rw [ec, a1] at c1 c2 c3
        have e9 : gol c q = none := gol_none c2 c3
        rw [e9] at hP
        exact hP
      · have c3 := Decidable.not_not.mp (of_decide_eq_false c3)
        refine xw.steps 2 (fun _ => rfl) ?_
        refine xw.getf (o := 52) rfl q52 rfl ?_
        refine xw.steps 3 (fun _ => rfl) ?_
        refine xw.ald (o := 54) rfl q54 ((by show ¬ (nI q + 1 < 0 ∨ 400 ≤ (nI q + 1).toNatClampNeg); rw [nI_1]; exact nI_in (by have := h18 (by rw [← a1, ← ec]; exact c3); omega) (by omega))) ?_
        show xw z NK g 126 100 [(0, .ref (z + 52)), (1, .int (nI q)), (2, .int 1), (3, .int (nu (nI q).toNatClampNeg)), (4, .int 1)] [.int (ag ((nI q) + 1).toNatClampNeg), .ref (z + 52)] S P
        refine xw.callO (o := 52) rfl rfl rfl q52 rfl rfl (c_place hM hC hn ?_)
        show xw z NK g 126 103 [(0, .ref (z + 52)), (1, .int (nI q)), (2, .int 1), (3, .int (nu (nI q).toNatClampNeg)), (4, .int 1)] [.int (oI (plc c (ag ((nI q) + 1).toNatClampNeg)))] S P
        refine xw.steps 1 (fun _ => rfl) ?_
        refine xw.ret rfl (fun _ => rfl) ?_
        show P (some (.int (oI (plc c (ag ((nI q) + 1).toNatClampNeg))))) S
        have hg2 := hP
        rw [nI_1, nI_clamp (by omega)]
        rw [ec, a1] at c1 c2 c3
        have h19 := h18 c3
        rw [(hC (q + 1) h19).2]
        have e9 : gol c q = plc c (ar c (q + 1)) := by unfold gol; rw [if_pos c3]
        rw [e9] at hP
        exact hP
    · have c2 := bI_ne0 (of_decide_eq_false c2)
      refine xw.steps 2 (fun _ => rfl) ?_
      refine xw.getf (o := 52) rfl q52 rfl ?_
      refine xw.steps 1 (fun _ => rfl) ?_
      refine xw.ald (o := 54) rfl q54 (nI_in (by omega) (by omega)) ?_
      show xw z NK g 126 79 [(0, .ref (z + 52)), (1, .int (nI q)), (2, .int 1), (3, .int (nu (nI q).toNatClampNeg)), (4, .int 1)] [.int (ag (nI q).toNatClampNeg), .ref (z + 52)] S P
      refine xw.callO (o := 52) rfl rfl rfl q52 rfl rfl (c_place hM hC hn ?_)
      show xw z NK g 126 82 [(0, .ref (z + 52)), (1, .int (nI q)), (2, .int 1), (3, .int (nu (nI q).toNatClampNeg)), (4, .int 1)] [.int (oI (plc c (ag (nI q).toNatClampNeg)))] S P
      refine xw.steps 1 (fun _ => rfl) ?_
      refine xw.ret rfl (fun _ => rfl) ?_
      show P (some (.int (oI (plc c (ag (nI q).toNatClampNeg))))) S
      have hg2 := hP
      rw [ec, a2]
      rw [ec, a1] at c1 c2
      have e9 : gol c q = plc c (ar c q) := gol_goes c2
      rw [e9] at hP
      exact hP
  · have c1 := of_decide_eq_false c1
    refine xw.steps 2 (fun _ => rfl) ?_
    refine xw.icmp rfl (fun c4 => ?_) (fun c4 => ?_)
    · have c4 := of_decide_eq_true c4
      refine xw.steps 3 (fun _ => rfl) ?_
      refine xw.steps 1 (pc' := 61) (fun _ => rfl) ?_
      refine xw.steps 3 (fun _ => rfl) ?_
      show xw z NK g 126 66 [(0, .ref (z + 52)), (1, .int (nI q)), (2, .int 1), (3, .int (nu (nI q).toNatClampNeg)), (4, .int 0)] [.int 12, .int 10, .int (nu (nI q).toNatClampNeg)] S P
      refine xw.callS rfl rfl rfl rfl rfl (c_in ?_)
      show xw z NK g 126 69 [(0, .ref (z + 52)), (1, .int (nI q)), (2, .int 1), (3, .int (nu (nI q).toNatClampNeg)), (4, .int 0)] [.int (bI (decide (¬ (nu (nI q).toNatClampNeg) < 10 ∧ ¬ 12 < (nu (nI q).toNatClampNeg))))] S P
      refine xw.if_ rfl (fun c5 => ?_) (fun c5 => ?_)
      · have c5 := bI_eq0 (of_decide_eq_true c5)
        refine xw.steps 2 (fun _ => rfl) ?_
        refine xw.icmp rfl (fun c6 => ?_) (fun c6 => ?_)
        · have c6 := of_decide_eq_true c6
          refine xw.steps 1 (fun _ => rfl) ?_
          refine xw.ret rfl (fun _ => rfl) ?_
          show P (some (.int (-1))) S
          have hg2 := hP
          rw [ec, a1] at c1 c4 c5 c6
          have e9 : gol c q = none := gol_none c5 c6
          rw [e9] at hP
          exact hP
        · have c6 := Decidable.not_not.mp (of_decide_eq_false c6)
          refine xw.steps 2 (fun _ => rfl) ?_
          refine xw.getf (o := 52) rfl q52 rfl ?_
          refine xw.steps 3 (fun _ => rfl) ?_
          refine xw.ald (o := 54) rfl q54 ((by show ¬ (nI q + 1 < 0 ∨ 400 ≤ (nI q + 1).toNatClampNeg); rw [nI_1]; exact nI_in (by have := h18 (by rw [← a1, ← ec]; exact c6); omega) (by omega))) ?_
          show xw z NK g 126 100 [(0, .ref (z + 52)), (1, .int (nI q)), (2, .int 1), (3, .int (nu (nI q).toNatClampNeg)), (4, .int 0)] [.int (ag ((nI q) + 1).toNatClampNeg), .ref (z + 52)] S P
          refine xw.callO (o := 52) rfl rfl rfl q52 rfl rfl (c_place hM hC hn ?_)
          show xw z NK g 126 103 [(0, .ref (z + 52)), (1, .int (nI q)), (2, .int 1), (3, .int (nu (nI q).toNatClampNeg)), (4, .int 0)] [.int (oI (plc c (ag ((nI q) + 1).toNatClampNeg)))] S P
          refine xw.steps 1 (fun _ => rfl) ?_
          refine xw.ret rfl (fun _ => rfl) ?_
          show P (some (.int (oI (plc c (ag ((nI q) + 1).toNatClampNeg))))) S
          have hg2 := hP
          rw [nI_1, nI_clamp (by omega)]
          rw [ec, a1] at c1 c4 c5 c6
          have h19 := h18 c6
          rw [(hC (q + 1) h19).2]
          have e9 : gol c q = plc c (ar c (q + 1)) := by unfold gol; rw [if_pos c6]
          rw [e9] at hP
          exact hP
      · have c5 := bI_ne0 (of_decide_eq_false c5)
        refine xw.steps 2 (fun _ => rfl) ?_
        refine xw.getf (o := 52) rfl q52 rfl ?_
        refine xw.steps 1 (fun _ => rfl) ?_
        refine xw.ald (o := 54) rfl q54 (nI_in (by omega) (by omega)) ?_
        show xw z NK g 126 79 [(0, .ref (z + 52)), (1, .int (nI q)), (2, .int 1), (3, .int (nu (nI q).toNatClampNeg)), (4, .int 0)] [.int (ag (nI q).toNatClampNeg), .ref (z + 52)] S P
        refine xw.callO (o := 52) rfl rfl rfl q52 rfl rfl (c_place hM hC hn ?_)
        show xw z NK g 126 82 [(0, .ref (z + 52)), (1, .int (nI q)), (2, .int 1), (3, .int (nu (nI q).toNatClampNeg)), (4, .int 0)] [.int (oI (plc c (ag (nI q).toNatClampNeg)))] S P
        refine xw.steps 1 (fun _ => rfl) ?_
        refine xw.ret rfl (fun _ => rfl) ?_
        show P (some (.int (oI (plc c (ag (nI q).toNatClampNeg))))) S
        have hg2 := hP
        rw [ec, a2]
        rw [ec, a1] at c1 c4 c5
        have e9 : gol c q = plc c (ar c q) := gol_goes c5
        rw [e9] at hP
        exact hP
    · have c4 := Decidable.not_not.mp (of_decide_eq_false c4)
      refine xw.steps 4 (fun _ => rfl) ?_
      refine xw.steps 1 (pc' := 61) (fun _ => rfl) ?_
      refine xw.steps 3 (fun _ => rfl) ?_
      show xw z NK g 126 66 [(0, .ref (z + 52)), (1, .int (nI q)), (2, .int 1), (3, .int (nu (nI q).toNatClampNeg)), (4, .int 1)] [.int 12, .int 10, .int (nu (nI q).toNatClampNeg)] S P
      refine xw.callS rfl rfl rfl rfl rfl (c_in ?_)
      show xw z NK g 126 69 [(0, .ref (z + 52)), (1, .int (nI q)), (2, .int 1), (3, .int (nu (nI q).toNatClampNeg)), (4, .int 1)] [.int (bI (decide (¬ (nu (nI q).toNatClampNeg) < 10 ∧ ¬ 12 < (nu (nI q).toNatClampNeg))))] S P
      refine xw.if_ rfl (fun c7 => ?_) (fun c7 => ?_)
      · have c7 := bI_eq0 (of_decide_eq_true c7)
        refine xw.steps 2 (fun _ => rfl) ?_
        refine xw.icmp rfl (fun c8 => ?_) (fun c8 => ?_)
        · have c8 := of_decide_eq_true c8
          refine xw.steps 1 (fun _ => rfl) ?_
          refine xw.ret rfl (fun _ => rfl) ?_
          show P (some (.int (-1))) S
          have hg2 := hP
          rw [ec, a1] at c1 c4 c7 c8
          have e9 : gol c q = none := gol_none c7 c8
          rw [e9] at hP
          exact hP
        · have c8 := Decidable.not_not.mp (of_decide_eq_false c8)
          refine xw.steps 2 (fun _ => rfl) ?_
          refine xw.getf (o := 52) rfl q52 rfl ?_
          refine xw.steps 3 (fun _ => rfl) ?_
          refine xw.ald (o := 54) rfl q54 ((by show ¬ (nI q + 1 < 0 ∨ 400 ≤ (nI q + 1).toNatClampNeg); rw [nI_1]; exact nI_in (by have := h18 (by rw [← a1, ← ec]; exact c8); omega) (by omega))) ?_
          show xw z NK g 126 100 [(0, .ref (z + 52)), (1, .int (nI q)), (2, .int 1), (3, .int (nu (nI q).toNatClampNeg)), (4, .int 1)] [.int (ag ((nI q) + 1).toNatClampNeg), .ref (z + 52)] S P
          refine xw.callO (o := 52) rfl rfl rfl q52 rfl rfl (c_place hM hC hn ?_)
          show xw z NK g 126 103 [(0, .ref (z + 52)), (1, .int (nI q)), (2, .int 1), (3, .int (nu (nI q).toNatClampNeg)), (4, .int 1)] [.int (oI (plc c (ag ((nI q) + 1).toNatClampNeg)))] S P
          refine xw.steps 1 (fun _ => rfl) ?_
          refine xw.ret rfl (fun _ => rfl) ?_
          show P (some (.int (oI (plc c (ag ((nI q) + 1).toNatClampNeg))))) S
          have hg2 := hP
          rw [nI_1, nI_clamp (by omega)]
          rw [ec, a1] at c1 c4 c7 c8
          have h19 := h18 c8
          rw [(hC (q + 1) h19).2]
          have e9 : gol c q = plc c (ar c (q + 1)) := by unfold gol; rw [if_pos c8]
          rw [e9] at hP
          exact hP
      · have c7 := bI_ne0 (of_decide_eq_false c7)
        refine xw.steps 2 (fun _ => rfl) ?_
        refine xw.getf (o := 52) rfl q52 rfl ?_
        refine xw.steps 1 (fun _ => rfl) ?_
        refine xw.ald (o := 54) rfl q54 (nI_in (by omega) (by omega)) ?_
        show xw z NK g 126 79 [(0, .ref (z + 52)), (1, .int (nI q)), (2, .int 1), (3, .int (nu (nI q).toNatClampNeg)), (4, .int 1)] [.int (ag (nI q).toNatClampNeg), .ref (z + 52)] S P
        refine xw.callO (o := 52) rfl rfl rfl q52 rfl rfl (c_place hM hC hn ?_)
        show xw z NK g 126 82 [(0, .ref (z + 52)), (1, .int (nI q)), (2, .int 1), (3, .int (nu (nI q).toNatClampNeg)), (4, .int 1)] [.int (oI (plc c (ag (nI q).toNatClampNeg)))] S P
        refine xw.steps 1 (fun _ => rfl) ?_
        refine xw.ret rfl (fun _ => rfl) ?_
        show P (some (.int (oI (plc c (ag (nI q).toNatClampNeg))))) S
        have hg2 := hP
        rw [ec, a2]
        rw [ec, a1] at c1 c4 c7
        have e9 : gol c q = plc c (ar c q) := gol_goes c7
        rw [e9] at hP
        exact hP
set_option maxHeartbeats 1000000 in
/-- RowCodeModel.comes(II)Z -/
theorem c_comes {j h : Nat} (hM : MO Bk z S th (nI c.length) va fu hg nu ag lo wo he go ro) (hn : c.length ≤ 400) (hj : j < 2 ^ 30) (hh : h < 2 ^ 30) (hP0 : c.length ≤ j ∨ 60 < h ∨ (¬ he j = -1 ∧ ¬ he j = nI h) → P (some (.int 0)) S) (hP : j < c.length → ¬ 60 < h → (he j = -1 ∨ he j = nI h) → ∀ S', MO Bk z S' th (nI c.length) va fu hg nu ag lo wo (upd he j (nI h)) go ro → P (some (.int 1)) S') : xw z NK g 127 0 [(0, .ref (z + 52)), (1, .int (nI j)), (2, .int (nI h))] [] S P := by
  obtain ⟨q52, q53, q54, q55, q56, q57, q58, q59, qB⟩ := id hM
  have ec : (nI j).toNatClampNeg = j := nI_clamp (by omega)
  refine xw.steps 2 (fun _ => rfl) ?_
  refine xw.getf (o := 52) rfl q52 rfl ?_
  refine xw.icmp rfl (fun c1 => ?_) (fun c1 => ?_)
  · have c1 := Int32.not_lt.mpr (of_decide_eq_true c1)
    refine xw.steps 1 (fun _ => rfl) ?_
    refine xw.ret rfl (fun _ => rfl) ?_
    show P (some (.int 0)) S
    exact hP0 (.inl (by have := c1; rcases Nat.lt_or_ge j c.length with w | w; exact absurd (nI_lt w (by omega)) this; exact w))
  · have c1 := Int32.not_le.mp (of_decide_eq_false c1)
    refine xw.steps 2 (fun _ => rfl) ?_
    refine xw.icmp rfl (fun c2 => ?_) (fun c2 => ?_)
    · have c2 := of_decide_eq_true c2
      refine xw.steps 1 (fun _ => rfl) ?_
      refine xw.ret rfl (fun _ => rfl) ?_
      show P (some (.int 0)) S
      exact hP0 (.inr (.inl ((nI_ltI (by omega) (by omega) (a := 60)).mp c2)))
    · have c2 := of_decide_eq_false c2
      refine xw.steps 1 (fun _ => rfl) ?_
      refine xw.getf (o := 52) rfl q52 rfl ?_
      refine xw.steps 1 (fun _ => rfl) ?_
      refine xw.ald (o := 57) rfl q57 (nI_in (by have := (nI_ltI (by omega) (by omega)).mp c1; omega) (by omega)) ?_
      refine xw.steps 1 (fun _ => rfl) ?_
      refine xw.icmp rfl (fun c3 => ?_) (fun c3 => ?_)
      · have c3 := of_decide_eq_true c3
        refine xw.steps 1 (fun _ => rfl) ?_
        refine xw.getf (o := 52) rfl q52 rfl ?_
        refine xw.steps 2 (fun _ => rfl) ?_
        refine xw.ast (o := 57) rfl q57 (nI_in (by have := (nI_ltI (by omega) (by omega)).mp c1; omega) (by omega)) ?_
        show xw z NK g 127 43 [(0, .ref (z + 52)), (1, .int (nI j)), (2, .int (nI h))] [] (xu S 57 (.inr (.inl (false, 400, (upd he (nI j).toNatClampNeg (nI h)))))) P
        refine xw.steps 1 (fun _ => rfl) ?_
        refine xw.ret rfl (fun _ => rfl) ?_
        show P (some (.int 1)) (xu S 57 (.inr (.inl (false, 400, (upd he (nI j).toNatClampNeg (nI h))))))
        have hj2 := (nI_ltI (by omega) (by omega)).mp c1
        have hh2 : ¬ 60 < h := fun w => c2 ((nI_ltI (by omega) (by omega) (a := 60)).mpr w)
        rw [ec] at c3
        rw [ec]
        refine hP hj2 hh2 (.inl c3) _ ⟨?_, ?_, ?_, ?_, ?_, ?_, ?_, ?_, ?_⟩
        all_goals first
          | (intro q hq; repeat rw [xu_ne _ _ (by omega)]
             exact qB q hq)
          | (simp only [xu]; simp; try assumption)
      · have c3 := of_decide_eq_false c3
        refine xw.steps 1 (fun _ => rfl) ?_
        refine xw.getf (o := 52) rfl q52 rfl ?_
        refine xw.steps 1 (fun _ => rfl) ?_
        refine xw.ald (o := 57) rfl q57 (nI_in (by have := (nI_ltI (by omega) (by omega)).mp c1; omega) (by omega)) ?_
        refine xw.steps 1 (fun _ => rfl) ?_
        refine xw.icmp rfl (fun c4 => ?_) (fun c4 => ?_)
        · have c4 := of_decide_eq_true c4
          refine xw.steps 1 (fun _ => rfl) ?_
          refine xw.getf (o := 52) rfl q52 rfl ?_
          refine xw.steps 2 (fun _ => rfl) ?_
          refine xw.ast (o := 57) rfl q57 (nI_in (by have := (nI_ltI (by omega) (by omega)).mp c1; omega) (by omega)) ?_
          show xw z NK g 127 43 [(0, .ref (z + 52)), (1, .int (nI j)), (2, .int (nI h))] [] (xu S 57 (.inr (.inl (false, 400, (upd he (nI j).toNatClampNeg (nI h)))))) P
          refine xw.steps 1 (fun _ => rfl) ?_
          refine xw.ret rfl (fun _ => rfl) ?_
          show P (some (.int 1)) (xu S 57 (.inr (.inl (false, 400, (upd he (nI j).toNatClampNeg (nI h))))))
          have hj2 := (nI_ltI (by omega) (by omega)).mp c1
          have hh2 : ¬ 60 < h := fun w => c2 ((nI_ltI (by omega) (by omega) (a := 60)).mpr w)
          rw [ec] at c3 c4
          rw [ec]
          refine hP hj2 hh2 (.inr c4) _ ⟨?_, ?_, ?_, ?_, ?_, ?_, ?_, ?_, ?_⟩
          all_goals first
            | (intro q hq; repeat rw [xu_ne _ _ (by omega)]
               exact qB q hq)
            | (simp only [xu]; simp; try assumption)
        · have c4 := of_decide_eq_false c4
          refine xw.steps 1 (fun _ => rfl) ?_
          refine xw.ret rfl (fun _ => rfl) ?_
          show P (some (.int 0)) S
          rw [ec] at c3 c4
          exact hP0 (.inr (.inr ⟨c3, c4⟩))
set_option maxHeartbeats 1000000 in
/-- RowCodeModel.pop()I -/
theorem c_pop {n : Nat} (hM : MO Bk z S th sz va fu (nI (n + 1)) nu ag lo wo he go ro) (hn : n < 61) (hP : ∀ S', MO Bk z S' th sz va fu (nI n) nu ag lo wo he go ro → P (some (.int (ro n))) S') : xw z NK g 131 0 [(0, .ref (z + 52))] [] S P := by
  obtain ⟨q52, q53, q54, q55, q56, q57, q58, q59, qB⟩ := id hM
  refine xw.steps 2 (fun _ => rfl) ?_
  refine xw.getf (o := 52) rfl q52 rfl ?_
  refine xw.steps 2 (fun _ => rfl) ?_
  refine xw.putf (o := 52) (fs' := [.int th, .int sz, .ref (z + 53), .ref (z + 54), .ref (z + 55), .ref (z + 56), .int va, .int fu, .ref (z + 57), .ref (z + 58), .ref (z + 59), .int ((nI (n + 1)) - 1)]) rfl q52 (Nat.le_of_ble_eq_true rfl) rfl rfl rfl ?_
  show xw z NK g 131 10 [(0, .ref (z + 52))] [] (xu S 52 (.inr (.inr (10, [.int th, .int sz, .ref (z + 53), .ref (z + 54), .ref (z + 55), .ref (z + 56), .int va, .int fu, .ref (z + 57), .ref (z + 58), .ref (z + 59), .int ((nI (n + 1)) - 1)])))) P
  refine xw.steps 1 (fun _ => rfl) ?_
  refine xw.getf (o := 52) rfl (xu_self _ _ _) rfl ?_
  refine xw.steps 1 (fun _ => rfl) ?_
  refine xw.getf (o := 52) rfl (xu_self _ _ _) rfl ?_
  refine xw.ald (o := 59) rfl ((xu_ne _ _ (by decide)).trans q59) ((by show ¬ (nI (n + 1) - 1 < 0 ∨ 61 ≤ (nI (n + 1) - 1).toNatClampNeg); rw [nI_pred]; exact nI_in hn (by omega))) ?_
  refine xw.ret rfl (fun _ => rfl) ?_
  show P (some (.int (ro ((nI (n + 1)) - 1).toNatClampNeg))) (xu S 52 (.inr (.inr (10, [.int th, .int sz, .ref (z + 53), .ref (z + 54), .ref (z + 55), .ref (z + 56), .int va, .int fu, .ref (z + 57), .ref (z + 58), .ref (z + 59), .int ((nI (n + 1)) - 1)]))))
  have ep : nI (n + 1) - 1 = nI n := nI_pred n
  have ec : (nI n).toNatClampNeg = n := nI_clamp (by omega)
  rw [ep, ec]
  refine hP _ ⟨?_, ?_, ?_, ?_, ?_, ?_, ?_, ?_, ?_⟩
  all_goals first
    | (intro q hq; repeat rw [xu_ne _ _ (by omega)]
       exact qB q hq)
    | (simp only [xu]; simp; try assumption)
set_option maxHeartbeats 1000000 in
/-- RowCodeModel.push(I)V -/
theorem c_push {n : Nat} (hM : MO Bk z S th sz va fu (nI n) nu ag lo wo he go ro) (hn : n < 61) {v : Int32} (hP : ∀ S', MO Bk z S' th sz va fu (nI (n + 1)) nu ag lo wo he go (upd ro n v) → P none S') : xw z NK g 132 0 [(0, .ref (z + 52)), (1, .int v)] [] S P := by
  obtain ⟨q52, q53, q54, q55, q56, q57, q58, q59, qB⟩ := id hM
  refine xw.steps 1 (fun _ => rfl) ?_
  refine xw.getf (o := 52) rfl q52 rfl ?_
  refine xw.steps 1 (fun _ => rfl) ?_
  refine xw.getf (o := 52) rfl q52 rfl ?_
  refine xw.steps 1 (fun _ => rfl) ?_
  refine xw.ast (o := 59) rfl q59 (nI_in hn (by omega)) ?_
  show xw z NK g 132 10 [(0, .ref (z + 52)), (1, .int v)] [] (xu S 59 (.inr (.inl (false, 61, (upd ro (nI n).toNatClampNeg v))))) P
  refine xw.steps 2 (fun _ => rfl) ?_
  refine xw.getf (o := 52) rfl ((xu_ne _ _ (by decide)).trans q52) rfl ?_
  refine xw.steps 2 (fun _ => rfl) ?_
  refine xw.putf (o := 52) (fs' := [.int th, .int sz, .ref (z + 53), .ref (z + 54), .ref (z + 55), .ref (z + 56), .int va, .int fu, .ref (z + 57), .ref (z + 58), .ref (z + 59), .int ((nI n) + 1)]) rfl ((xu_ne _ _ (by decide)).trans q52) (Nat.le_of_ble_eq_true rfl) rfl rfl rfl ?_
  show xw z NK g 132 20 [(0, .ref (z + 52)), (1, .int v)] [] (xu (xu S 59 (.inr (.inl (false, 61, (upd ro (nI n).toNatClampNeg v))))) 52 (.inr (.inr (10, [.int th, .int sz, .ref (z + 53), .ref (z + 54), .ref (z + 55), .ref (z + 56), .int va, .int fu, .ref (z + 57), .ref (z + 58), .ref (z + 59), .int ((nI n) + 1)])))) P
  refine xw.ret rfl (fun _ => rfl) ?_
  show P none (xu (xu S 59 (.inr (.inl (false, 61, (upd ro (nI n).toNatClampNeg v))))) 52 (.inr (.inr (10, [.int th, .int sz, .ref (z + 53), .ref (z + 54), .ref (z + 55), .ref (z + 56), .int va, .int fu, .ref (z + 57), .ref (z + 58), .ref (z + 59), .int ((nI n) + 1)]))))
  have ec : (nI n).toNatClampNeg = n := nI_clamp (by omega)
  rw [ec, nI_1]
  refine hP _ ⟨?_, ?_, ?_, ?_, ?_, ?_, ?_, ?_, ?_⟩
  all_goals first
    | (intro q hq; repeat rw [xu_ne _ _ (by omega)]
       exact qB q hq)
    | (simp only [xu]; simp; try assumption)
end MO2
