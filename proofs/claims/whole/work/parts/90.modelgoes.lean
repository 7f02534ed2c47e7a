/-! THE REFERENCE: goesOn (walks by wip/gen90.py) -/
def gonx (c : List II) (q : Nat) (v : Int32) : Int32 := if nb c q = 10 then oI (plc c (ar c q)) else if nb c q = 11 ∨ nb c q = 12 then (if (v = 0 ↔ nb c q = 11) then oI (plc c (ar c q)) else nI (q + 1)) else if nb c q = 18 then (if v = ar c q then oI (plc c (ar c (q + 1))) else nI (q + 2)) else nI (q + 1)
def gohi (c : List II) (q : Nat) (v : Int32) (n : Nat) : Nat := if nb c q = 11 ∨ nb c q = 12 ∨ (nb c q = 18 ∧ v = ar c q) then n - 1 else n
section MO5
variable {Bk : xS} {z : Nat} {NK : List Nat} {g : mx_G} {S : xS} {P : Option Value → xS → Prop} {th sz va fu hg : Int32} {nu ag lo wo he go ro : Nat → Int32} {c : List II}
set_option maxHeartbeats 4000000 in
/-- RowCodeModel.goesOn(I)I -/
theorem c_goesOn {q n : Nat} (hM : MO Bk z S th (nI c.length) va fu (nI n) nu ag lo wo he go ro) (hC : CO c nu ag) (hn : c.length ≤ 400) (hq : q < c.length) (hh : nb c q = 11 ∨ nb c q = 12 ∨ nb c q = 18 → 1 ≤ n) (hn2 : n ≤ 61) (h18 : nb c q = 18 → q + 1 < c.length) (hP : ∀ S', MO Bk z S' th (nI c.length) va fu (nI (gohi c q (ro (n - 1)) n)) nu ag lo wo he go ro → P (some (.int (gonx c q (ro (n - 1))))) S') : xw z NK g 138 0 [(0, .ref (z + 52)), (1, .int (nI q))] [] S P := by
  obtain ⟨q52, q53, q54, q55, q56, q57, q58, q59, qB⟩ := id hM
  have ec : (nI q).toNatClampNeg = q := nI_clamp (by omega)
  obtain ⟨a1, a2⟩ := hC q hq
  refine xw.steps 1 (fun _ => rfl) ?_
  refine xw.getf (o := 52) rfl q52 rfl ?_
  refine xw.steps 1 (fun _ => rfl) ?_
  refine xw.ald (o := 53) rfl q53 (nI_in (by omega) (by omega)) ?_
  refine xw.steps 2 (fun _ => rfl) ?_
  refine xw.getf (o := 52) rfl q52 rfl ?_
  refine xw.steps 1 (fun _ => rfl) ?_
  refine xw.ald (o := 54) rfl q54 (nI_in (by omega) (by omega)) ?_
  refine xw.steps 3 (fun _ => rfl) ?_
  refine xw.icmp rfl (fun c1 => ?_) (fun c1 => ?_)
  · have c1 := of_decide_eq_true c1
    refine xw.steps 2 (fun _ => rfl) ?_
    refine xw.icmp rfl (fun c2 => ?_) (fun c2 => ?_)
    · have c2 := of_decide_eq_true c2
      show xw z NK g 138 38 [(0, .ref (z + 52)), (1, .int (nI q)), (2, .int (nu (nI q).toNatClampNeg)), (3, .int (ag (nI q).toNatClampNeg))] [] S P
      simp only [ec, a1, a2] at c1 c2
      obtain ⟨m, rfl⟩ : ∃ m, n = m + 1 := ⟨n - 1, by have := hh (by simp_all); omega⟩
      refine xw.steps 1 (fun _ => rfl) ?_
      show xw z NK g 138 39 [(0, .ref (z + 52)), (1, .int (nI q)), (2, .int (nu (nI q).toNatClampNeg)), (3, .int (ag (nI q).toNatClampNeg))] [.ref (z + 52)] S P
      refine xw.callO (o := 52) rfl rfl rfl q52 rfl rfl (c_pop hM (by omega) ?_)
      intro S2 hM2
      obtain ⟨q522, q532, q542, q552, q562, q572, q582, q592, qB2⟩ := id hM2
      show xw z NK g 138 42 [(0, .ref (z + 52)), (1, .int (nI q)), (2, .int (nu (nI q).toNatClampNeg)), (3, .int (ag (nI q).toNatClampNeg))] [.int (ro m)] S2 P
      refine xw.steps 2 (fun _ => rfl) ?_
      refine xw.if_ rfl (fun c3 => ?_) (fun c3 => ?_)
      · have c3 := of_decide_eq_true c3
        refine xw.steps 3 (fun _ => rfl) ?_
        refine xw.icmp rfl (fun c4 => ?_) (fun c4 => ?_)
        · have c4 := of_decide_eq_true c4
          refine xw.steps 1 (fun _ => rfl) ?_
          refine xw.steps 1 (pc' := 68) (fun _ => rfl) ?_
          refine xw.steps 2 (fun _ => rfl) ?_
          show xw z NK g 138 70 [(0, .ref (z + 52)), (1, .int (nI q)), (2, .int (nu (nI q).toNatClampNeg)), (3, .int (ag (nI q).toNatClampNeg)), (4, .int (ro m))] [.int (ag (nI q).toNatClampNeg), .ref (z + 52)] S2 P
          refine xw.callO (o := 52) rfl rfl rfl q522 rfl rfl (c_place hM2 hC hn ?_)
          show xw z NK g 138 73 [(0, .ref (z + 52)), (1, .int (nI q)), (2, .int (nu (nI q).toNatClampNeg)), (3, .int (ag (nI q).toNatClampNeg)), (4, .int (ro m))] [.int (oI (plc c (ag (nI q).toNatClampNeg)))] S2 P
          refine xw.steps 1 (fun _ => rfl) ?_
          refine xw.ret rfl (fun _ => rfl) ?_
          show P (some (.int (oI (plc c (ag (nI q).toNatClampNeg))))) S2
          try simp only [ec, a1, a2, nI_pred, nI_clamp (show m < 2 ^ 31 by omega)] at c1 c2 c3 c4
          rw [ec, a2]
          have e1 : gonx c q (ro ((m + 1) - 1)) = oI (plc c (ar c q)) := by clear hP; unfold gonx; simp_all
          have e2 : gohi c q (ro ((m + 1) - 1)) (m + 1) = m := by clear hP; unfold gohi; simp_all
          rw [e1, e2] at hP
          exact hP S2 hM2
        · have c4 := Decidable.not_not.mp (of_decide_eq_false c4)
          refine xw.steps 2 (fun _ => rfl) ?_
          refine xw.steps 1 (pc' := 76) (fun _ => rfl) ?_
          refine xw.steps 3 (fun _ => rfl) ?_
          refine xw.ret rfl (fun _ => rfl) ?_
          show P (some (.int ((nI q) + 1))) S2
          try simp only [ec, a1, a2, nI_pred, nI_clamp (show m < 2 ^ 31 by omega)] at c1 c2 c3 c4
          rw [nI_1]
          have e1 : gonx c q (ro ((m + 1) - 1)) = nI (q + 1) := by clear hP; unfold gonx; simp_all
          have e2 : gohi c q (ro ((m + 1) - 1)) (m + 1) = m := by clear hP; unfold gohi; simp_all
          rw [e1, e2] at hP
          exact hP S2 hM2
      · have c3 := Decidable.not_not.mp (of_decide_eq_false c3)
        refine xw.steps 4 (fun _ => rfl) ?_
        refine xw.icmp rfl (fun c5 => ?_) (fun c5 => ?_)
        · have c5 := of_decide_eq_true c5
          refine xw.steps 1 (fun _ => rfl) ?_
          refine xw.steps 1 (pc' := 76) (fun _ => rfl) ?_
          refine xw.steps 3 (fun _ => rfl) ?_
          refine xw.ret rfl (fun _ => rfl) ?_
          show P (some (.int ((nI q) + 1))) S2
          try simp only [ec, a1, a2, nI_pred, nI_clamp (show m < 2 ^ 31 by omega)] at c1 c2 c3 c5
          rw [nI_1]
          have e1 : gonx c q (ro ((m + 1) - 1)) = nI (q + 1) := by clear hP; unfold gonx; simp_all
          have e2 : gohi c q (ro ((m + 1) - 1)) (m + 1) = m := by clear hP; unfold gohi; simp_all
          rw [e1, e2] at hP
          exact hP S2 hM2
        · have c5 := Decidable.not_not.mp (of_decide_eq_false c5)
          refine xw.steps 2 (fun _ => rfl) ?_
          refine xw.steps 1 (pc' := 68) (fun _ => rfl) ?_
          refine xw.steps 2 (fun _ => rfl) ?_
          show xw z NK g 138 70 [(0, .ref (z + 52)), (1, .int (nI q)), (2, .int (nu (nI q).toNatClampNeg)), (3, .int (ag (nI q).toNatClampNeg)), (4, .int (ro m))] [.int (ag (nI q).toNatClampNeg), .ref (z + 52)] S2 P
          refine xw.callO (o := 52) rfl rfl rfl q522 rfl rfl (c_place hM2 hC hn ?_)
          show xw z NK g 138 73 [(0, .ref (z + 52)), (1, .int (nI q)), (2, .int (nu (nI q).toNatClampNeg)), (3, .int (ag (nI q).toNatClampNeg)), (4, .int (ro m))] [.int (oI (plc c (ag (nI q).toNatClampNeg)))] S2 P
          refine xw.steps 1 (fun _ => rfl) ?_
          refine xw.ret rfl (fun _ => rfl) ?_
          show P (some (.int (oI (plc c (ag (nI q).toNatClampNeg))))) S2
          try simp only [ec, a1, a2, nI_pred, nI_clamp (show m < 2 ^ 31 by omega)] at c1 c2 c3 c5
          rw [ec, a2]
          have e1 : gonx c q (ro ((m + 1) - 1)) = oI (plc c (ar c q)) := by clear hP; unfold gonx; simp_all
          have e2 : gohi c q (ro ((m + 1) - 1)) (m + 1) = m := by clear hP; unfold gohi; simp_all
          rw [e1, e2] at hP
          exact hP S2 hM2
    · have c2 := of_decide_eq_false c2
      refine xw.steps 2 (fun _ => rfl) ?_
      refine xw.icmp rfl (fun c6 => ?_) (fun c6 => ?_)
      · have c6 := of_decide_eq_true c6
        refine xw.steps 2 (fun _ => rfl) ?_
        refine xw.icmp rfl (fun c7 => ?_) (fun c7 => ?_)
        · have c7 := of_decide_eq_true c7
          refine xw.steps 3 (fun _ => rfl) ?_
          refine xw.ret rfl (fun _ => rfl) ?_
          show P (some (.int ((nI q) + 1))) S
          try simp only [ec, a1, a2, nI_pred, nI_clamp (show n < 2 ^ 31 by omega)] at c1 c2 c6 c7
          rw [nI_1]
          have e1 : gonx c q (ro (n - 1)) = nI (q + 1) := by clear hP; unfold gonx; simp_all
          have e2 : gohi c q (ro (n - 1)) n = n := by clear hP; unfold gohi; simp_all
          rw [e1, e2] at hP
          exact hP S hM
        · have c7 := Decidable.not_not.mp (of_decide_eq_false c7)
          show xw z NK g 138 86 [(0, .ref (z + 52)), (1, .int (nI q)), (2, .int (nu (nI q).toNatClampNeg)), (3, .int (ag (nI q).toNatClampNeg))] [] S P
          simp only [ec, a1, a2] at c1 c2 c6 c7
          obtain ⟨m, rfl⟩ : ∃ m, n = m + 1 := ⟨n - 1, by have := hh (by simp_all); omega⟩
          refine xw.steps 1 (fun _ => rfl) ?_
          refine xw.getf (o := 52) rfl q52 rfl ?_
          refine xw.steps 1 (fun _ => rfl) ?_
          refine xw.getf (o := 52) rfl q52 rfl ?_
          refine xw.steps 2 (fun _ => rfl) ?_
          refine xw.ald (o := 59) rfl q59 ((by show ¬ (nI (m + 1) - 1 < 0 ∨ 61 ≤ (nI (m + 1) - 1).toNatClampNeg); rw [nI_pred]; exact nI_in (by omega) (by omega))) ?_
          refine xw.steps 1 (fun _ => rfl) ?_
          refine xw.icmp rfl (fun c8 => ?_) (fun c8 => ?_)
          · have c8 := of_decide_eq_true c8
            refine xw.steps 1 (fun _ => rfl) ?_
            show xw z NK g 138 106 [(0, .ref (z + 52)), (1, .int (nI q)), (2, .int (nu (nI q).toNatClampNeg)), (3, .int (ag (nI q).toNatClampNeg))] [.ref (z + 52)] S P
            refine xw.callO (o := 52) rfl rfl rfl q52 rfl rfl (c_pop hM (by omega) ?_)
            intro S2 hM2
            obtain ⟨q522, q532, q542, q552, q562, q572, q582, q592, qB2⟩ := id hM2
            show xw z NK g 138 109 [(0, .ref (z + 52)), (1, .int (nI q)), (2, .int (nu (nI q).toNatClampNeg)), (3, .int (ag (nI q).toNatClampNeg))] [.int (ro m)] S2 P
            refine xw.steps 3 (fun _ => rfl) ?_
            refine xw.getf (o := 52) rfl q522 rfl ?_
            refine xw.steps 3 (fun _ => rfl) ?_
            refine xw.ald (o := 54) rfl q542 ((by show ¬ (nI q + 1 < 0 ∨ 400 ≤ (nI q + 1).toNatClampNeg); rw [nI_1]; exact nI_in (by have := h18 (by assumption); omega) (by omega))) ?_
            show xw z NK g 138 119 [(0, .ref (z + 52)), (1, .int (nI q)), (2, .int (nu (nI q).toNatClampNeg)), (3, .int (ag (nI q).toNatClampNeg))] [.int (ag ((nI q) + 1).toNatClampNeg), .ref (z + 52)] S2 P
            refine xw.callO (o := 52) rfl rfl rfl q522 rfl rfl (c_place hM2 hC hn ?_)
            show xw z NK g 138 122 [(0, .ref (z + 52)), (1, .int (nI q)), (2, .int (nu (nI q).toNatClampNeg)), (3, .int (ag (nI q).toNatClampNeg))] [.int (oI (plc c (ag ((nI q) + 1).toNatClampNeg)))] S2 P
            refine xw.ret rfl (fun _ => rfl) ?_
            show P (some (.int (oI (plc c (ag ((nI q) + 1).toNatClampNeg))))) S2
            try simp only [ec, a1, a2, nI_pred, nI_clamp (show m < 2 ^ 31 by omega)] at c1 c2 c6 c7 c8
            have hq1 := h18 (by assumption)
            rw [nI_1, nI_clamp (by omega), (hC (q + 1) hq1).2]
            have e1 : gonx c q (ro ((m + 1) - 1)) = oI (plc c (ar c (q + 1))) := by clear hP; unfold gonx; simp_all
            have e2 : gohi c q (ro ((m + 1) - 1)) (m + 1) = m := by clear hP; unfold gohi; simp_all
            rw [e1, e2] at hP
            exact hP S2 hM2
          · have c8 := of_decide_eq_false c8
            refine xw.steps 3 (fun _ => rfl) ?_
            refine xw.ret rfl (fun _ => rfl) ?_
            show P (some (.int ((nI q) + 2))) S
            try simp only [ec, a1, a2, nI_pred, nI_clamp (show m < 2 ^ 31 by omega)] at c1 c2 c6 c7 c8
            rw [show nI q + 2 = nI (q + 2) from nI_add q 2]
            have e1 : gonx c q (ro ((m + 1) - 1)) = nI (q + 2) := by clear hP; unfold gonx; simp_all
            have e2 : gohi c q (ro ((m + 1) - 1)) (m + 1) = (m + 1) := by clear hP; unfold gohi; simp_all
            rw [e1, e2] at hP
            exact hP S hM
      · have c6 := Decidable.not_not.mp (of_decide_eq_false c6)
        show xw z NK g 138 38 [(0, .ref (z + 52)), (1, .int (nI q)), (2, .int (nu (nI q).toNatClampNeg)), (3, .int (ag (nI q).toNatClampNeg))] [] S P
        simp only [ec, a1, a2] at c1 c2 c6
        obtain ⟨m, rfl⟩ : ∃ m, n = m + 1 := ⟨n - 1, by have := hh (by simp_all); omega⟩
        refine xw.steps 1 (fun _ => rfl) ?_
        show xw z NK g 138 39 [(0, .ref (z + 52)), (1, .int (nI q)), (2, .int (nu (nI q).toNatClampNeg)), (3, .int (ag (nI q).toNatClampNeg))] [.ref (z + 52)] S P
        refine xw.callO (o := 52) rfl rfl rfl q52 rfl rfl (c_pop hM (by omega) ?_)
        intro S2 hM2
        obtain ⟨q522, q532, q542, q552, q562, q572, q582, q592, qB2⟩ := id hM2
        show xw z NK g 138 42 [(0, .ref (z + 52)), (1, .int (nI q)), (2, .int (nu (nI q).toNatClampNeg)), (3, .int (ag (nI q).toNatClampNeg))] [.int (ro m)] S2 P
        refine xw.steps 2 (fun _ => rfl) ?_
        refine xw.if_ rfl (fun c9 => ?_) (fun c9 => ?_)
        · have c9 := of_decide_eq_true c9
          refine xw.steps 3 (fun _ => rfl) ?_
          refine xw.icmp rfl (fun c10 => ?_) (fun c10 => ?_)
          · have c10 := of_decide_eq_true c10
            refine xw.steps 1 (fun _ => rfl) ?_
            refine xw.steps 1 (pc' := 68) (fun _ => rfl) ?_
            refine xw.steps 2 (fun _ => rfl) ?_
            show xw z NK g 138 70 [(0, .ref (z + 52)), (1, .int (nI q)), (2, .int (nu (nI q).toNatClampNeg)), (3, .int (ag (nI q).toNatClampNeg)), (4, .int (ro m))] [.int (ag (nI q).toNatClampNeg), .ref (z + 52)] S2 P
            refine xw.callO (o := 52) rfl rfl rfl q522 rfl rfl (c_place hM2 hC hn ?_)
            show xw z NK g 138 73 [(0, .ref (z + 52)), (1, .int (nI q)), (2, .int (nu (nI q).toNatClampNeg)), (3, .int (ag (nI q).toNatClampNeg)), (4, .int (ro m))] [.int (oI (plc c (ag (nI q).toNatClampNeg)))] S2 P
            refine xw.steps 1 (fun _ => rfl) ?_
            refine xw.ret rfl (fun _ => rfl) ?_
            show P (some (.int (oI (plc c (ag (nI q).toNatClampNeg))))) S2
            try simp only [ec, a1, a2, nI_pred, nI_clamp (show m < 2 ^ 31 by omega)] at c1 c2 c6 c9 c10
            rw [ec, a2]
            have e1 : gonx c q (ro ((m + 1) - 1)) = oI (plc c (ar c q)) := by clear hP; unfold gonx; simp_all
            have e2 : gohi c q (ro ((m + 1) - 1)) (m + 1) = m := by clear hP; unfold gohi; simp_all
            rw [e1, e2] at hP
            exact hP S2 hM2
          · have c10 := Decidable.not_not.mp (of_decide_eq_false c10)
            refine xw.steps 2 (fun _ => rfl) ?_
            refine xw.steps 1 (pc' := 76) (fun _ => rfl) ?_
            refine xw.steps 3 (fun _ => rfl) ?_
            refine xw.ret rfl (fun _ => rfl) ?_
            show P (some (.int ((nI q) + 1))) S2
            try simp only [ec, a1, a2, nI_pred, nI_clamp (show m < 2 ^ 31 by omega)] at c1 c2 c6 c9 c10
            rw [nI_1]
            have e1 : gonx c q (ro ((m + 1) - 1)) = nI (q + 1) := by clear hP; unfold gonx; simp_all
            have e2 : gohi c q (ro ((m + 1) - 1)) (m + 1) = m := by clear hP; unfold gohi; simp_all
            rw [e1, e2] at hP
            exact hP S2 hM2
        · have c9 := Decidable.not_not.mp (of_decide_eq_false c9)
          refine xw.steps 4 (fun _ => rfl) ?_
          refine xw.icmp rfl (fun c11 => ?_) (fun c11 => ?_)
          · have c11 := of_decide_eq_true c11
            refine xw.steps 1 (fun _ => rfl) ?_
            refine xw.steps 1 (pc' := 76) (fun _ => rfl) ?_
            refine xw.steps 3 (fun _ => rfl) ?_
            refine xw.ret rfl (fun _ => rfl) ?_
            show P (some (.int ((nI q) + 1))) S2
            try simp only [ec, a1, a2, nI_pred, nI_clamp (show m < 2 ^ 31 by omega)] at c1 c2 c6 c9 c11
            rw [nI_1]
            have e1 : gonx c q (ro ((m + 1) - 1)) = nI (q + 1) := by clear hP; unfold gonx; simp_all
            have e2 : gohi c q (ro ((m + 1) - 1)) (m + 1) = m := by clear hP; unfold gohi; simp_all
            rw [e1, e2] at hP
            exact hP S2 hM2
          · have c11 := Decidable.not_not.mp (of_decide_eq_false c11)
            refine xw.steps 2 (fun _ => rfl) ?_
            refine xw.steps 1 (pc' := 68) (fun _ => rfl) ?_
            refine xw.steps 2 (fun _ => rfl) ?_
            show xw z NK g 138 70 [(0, .ref (z + 52)), (1, .int (nI q)), (2, .int (nu (nI q).toNatClampNeg)), (3, .int (ag (nI q).toNatClampNeg)), (4, .int (ro m))] [.int (ag (nI q).toNatClampNeg), .ref (z + 52)] S2 P
            refine xw.callO (o := 52) rfl rfl rfl q522 rfl rfl (c_place hM2 hC hn ?_)
            show xw z NK g 138 73 [(0, .ref (z + 52)), (1, .int (nI q)), (2, .int (nu (nI q).toNatClampNeg)), (3, .int (ag (nI q).toNatClampNeg)), (4, .int (ro m))] [.int (oI (plc c (ag (nI q).toNatClampNeg)))] S2 P
            refine xw.steps 1 (fun _ => rfl) ?_
            refine xw.ret rfl (fun _ => rfl) ?_
            show P (some (.int (oI (plc c (ag (nI q).toNatClampNeg))))) S2
            try simp only [ec, a1, a2, nI_pred, nI_clamp (show m < 2 ^ 31 by omega)] at c1 c2 c6 c9 c11
            rw [ec, a2]
            have e1 : gonx c q (ro ((m + 1) - 1)) = oI (plc c (ar c q)) := by clear hP; unfold gonx; simp_all
            have e2 : gohi c q (ro ((m + 1) - 1)) (m + 1) = m := by clear hP; unfold gohi; simp_all
            rw [e1, e2] at hP
            exact hP S2 hM2
  · have c1 := Decidable.not_not.mp (of_decide_eq_false c1)
    refine xw.steps 2 (fun _ => rfl) ?_
    show xw z NK g 138 22 [(0, .ref (z + 52)), (1, .int (nI q)), (2, .int (nu (nI q).toNatClampNeg)), (3, .int (ag (nI q).toNatClampNeg))] [.int (ag (nI q).toNatClampNeg), .ref (z + 52)] S P
    refine xw.callO (o := 52) rfl rfl rfl q52 rfl rfl (c_place hM hC hn ?_)
    show xw z NK g 138 25 [(0, .ref (z + 52)), (1, .int (nI q)), (2, .int (nu (nI q).toNatClampNeg)), (3, .int (ag (nI q).toNatClampNeg))] [.int (oI (plc c (ag (nI q).toNatClampNeg)))] S P
    refine xw.ret rfl (fun _ => rfl) ?_
    show P (some (.int (oI (plc c (ag (nI q).toNatClampNeg))))) S
    try simp only [ec, a1, a2, nI_pred, nI_clamp (show n < 2 ^ 31 by omega)] at c1
    rw [ec, a2]
    have e1 : gonx c q (ro (n - 1)) = oI (plc c (ar c q)) := by clear hP; unfold gonx; simp_all
    have e2 : gohi c q (ro (n - 1)) n = n := by clear hP; unfold gohi; simp_all
    rw [e1, e2] at hP
    exact hP S hM
end MO5
