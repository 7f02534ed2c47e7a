/-! THE REFERENCE: a turn of run's loop (walks by wip/gen96.py) -/
section MOA
variable {Bk : xS} {z : Nat} {NK : List Nat} {g : mx_G} {S : xS} {P : Option Value → xS → Prop} {th sz va fu hg : Int32} {nu ag lo wo he go ro : Nat → Int32} {c : List II}
set_option maxHeartbeats 2000000 in
theorem mt_head {wi : Int32} {q d : Nat} (hM : MO Bk z S th (nI c.length) va fu (nI d) nu ag lo wo he go ro) (hC : CO c nu ag) (hn : c.length ≤ 400) (hq : q < c.length) (h16 : ¬ nb c q = 16) (h17 : ¬ nb c q = 17) (h15 : nb c q = 15 → ¬ fu = 0) (hP : ∀ S', MO Bk z S' th (nI c.length) va ((fu - if nb c q = 15 then 1 else 0)) (nI d) nu ag lo wo he go ro → xw z NK g 139 116 [(0, .ref (z + 52)), (1, .int wi), (2, .int (nI q)), (3, .int (nb c q))] [.int (ar c q), .int (nb c q), .ref (z + 52)] S' P) : xw z NK g 139 42 [(0, .ref (z + 52)), (1, .int wi), (2, .int (nI q))] [] S P := by
  obtain ⟨q52, q53, q54, q55, q56, q57, q58, q59, qB⟩ := id hM
  have ec : (nI q).toNatClampNeg = q := nI_clamp (by omega)
  obtain ⟨a1, a2⟩ := hC q hq
  refine xw.steps 1 (fun _ => rfl) ?_
  refine xw.getf (o := 52) rfl q52 rfl ?_
  refine xw.steps 1 (fun _ => rfl) ?_
  refine xw.ald (o := 53) rfl q53 (nI_in (by omega) (by omega)) ?_
  refine xw.steps 3 (fun _ => rfl) ?_
  refine xw.icmp rfl (fun c1 => ?_) (fun c1 => ?_)
  · have c1 := of_decide_eq_true c1
    refine xw.steps 2 (fun _ => rfl) ?_
    refine xw.icmp rfl (fun c2 => ?_) (fun c2 => ?_)
    · have c2 := of_decide_eq_true c2
      refine xw.steps 2 (fun _ => rfl) ?_
      refine xw.icmp rfl (fun c3 => ?_) (fun c3 => ?_)
      · have c3 := of_decide_eq_true c3
        refine xw.steps 2 (fun _ => rfl) ?_
        refine xw.getf (o := 52) rfl q52 rfl ?_
        refine xw.steps 2 (fun _ => rfl) ?_
        refine xw.icmp rfl (fun c4 => ?_) (fun c4 => ?_)
        · have c4 := of_decide_eq_true c4
          refine xw.steps 2 (fun _ => rfl) ?_
          refine xw.putf (o := 52) (fs' := [.int th, .int (nI c.length), .ref (z + 53), .ref (z + 54), .ref (z + 55), .ref (z + 56), .int va, .int (fu - 0), .ref (z + 57), .ref (z + 58), .ref (z + 59), .int (nI d)]) rfl q52 (Nat.le_of_ble_eq_true rfl) rfl rfl rfl ?_
          show xw z NK g 139 108 [(0, .ref (z + 52)), (1, .int wi), (2, .int (nI q)), (3, .int (nu (nI q).toNatClampNeg))] [] (xu S 52 (.inr (.inr (10, [.int th, .int (nI c.length), .ref (z + 53), .ref (z + 54), .ref (z + 55), .ref (z + 56), .int va, .int (fu - 0), .ref (z + 57), .ref (z + 58), .ref (z + 59), .int (nI d)])))) P
          refine xw.steps 3 (fun _ => rfl) ?_
          refine xw.getf (o := 52) rfl (xu_self _ _ _) rfl ?_
          refine xw.steps 1 (fun _ => rfl) ?_
          refine xw.ald (o := 54) rfl ((xu_ne _ _ (by decide)).trans q54) (nI_in (by omega) (by omega)) ?_
          show xw z NK g 139 116 [(0, .ref (z + 52)), (1, .int wi), (2, .int (nI q)), (3, .int (nu (nI q).toNatClampNeg))] [.int (ag (nI q).toNatClampNeg), .int (nu (nI q).toNatClampNeg), .ref (z + 52)] (xu S 52 (.inr (.inr (10, [.int th, .int (nI c.length), .ref (z + 53), .ref (z + 54), .ref (z + 55), .ref (z + 56), .int va, .int (fu - 0), .ref (z + 57), .ref (z + 58), .ref (z + 59), .int (nI d)])))) P
          rw [ec, a1, a2]
          simp only [ec, a1] at c1 c2 c3 c4
          refine hP _ ⟨?_, ?_, ?_, ?_, ?_, ?_, ?_, ?_, ?_⟩
          all_goals first
            | (intro q hq; repeat rw [xu_ne _ _ (by omega)]
               exact qB q hq)
            | (simp only [xu]; simp_all; done)
        · have c4 := Decidable.not_not.mp (of_decide_eq_false c4)
          refine xw.steps 3 (fun _ => rfl) ?_
          refine xw.putf (o := 52) (fs' := [.int th, .int (nI c.length), .ref (z + 53), .ref (z + 54), .ref (z + 55), .ref (z + 56), .int va, .int (fu - 1), .ref (z + 57), .ref (z + 58), .ref (z + 59), .int (nI d)]) rfl q52 (Nat.le_of_ble_eq_true rfl) rfl rfl rfl ?_
          show xw z NK g 139 108 [(0, .ref (z + 52)), (1, .int wi), (2, .int (nI q)), (3, .int (nu (nI q).toNatClampNeg))] [] (xu S 52 (.inr (.inr (10, [.int th, .int (nI c.length), .ref (z + 53), .ref (z + 54), .ref (z + 55), .ref (z + 56), .int va, .int (fu - 1), .ref (z + 57), .ref (z + 58), .ref (z + 59), .int (nI d)])))) P
          refine xw.steps 3 (fun _ => rfl) ?_
          refine xw.getf (o := 52) rfl (xu_self _ _ _) rfl ?_
          refine xw.steps 1 (fun _ => rfl) ?_
          refine xw.ald (o := 54) rfl ((xu_ne _ _ (by decide)).trans q54) (nI_in (by omega) (by omega)) ?_
          show xw z NK g 139 116 [(0, .ref (z + 52)), (1, .int wi), (2, .int (nI q)), (3, .int (nu (nI q).toNatClampNeg))] [.int (ag (nI q).toNatClampNeg), .int (nu (nI q).toNatClampNeg), .ref (z + 52)] (xu S 52 (.inr (.inr (10, [.int th, .int (nI c.length), .ref (z + 53), .ref (z + 54), .ref (z + 55), .ref (z + 56), .int va, .int (fu - 1), .ref (z + 57), .ref (z + 58), .ref (z + 59), .int (nI d)])))) P
          rw [ec, a1, a2]
          simp only [ec, a1] at c1 c2 c3 c4
          refine hP _ ⟨?_, ?_, ?_, ?_, ?_, ?_, ?_, ?_, ?_⟩
          all_goals first
            | (intro q hq; repeat rw [xu_ne _ _ (by omega)]
               exact qB q hq)
            | (simp only [xu]; simp_all; done)
      · have c3 := Decidable.not_not.mp (of_decide_eq_false c3)
        refine xw.steps 1 (fun _ => rfl) ?_
        refine xw.getf (o := 52) rfl q52 rfl ?_
        refine xw.if_ rfl (fun c5 => ?_) (fun c5 => ?_)
        · have c5 := of_decide_eq_true c5
          refine xw.steps 2 (fun _ => rfl) ?_
          refine xw.getf (o := 52) rfl q52 rfl ?_
          refine xw.steps 2 (fun _ => rfl) ?_
          refine xw.icmp rfl (fun c6 => ?_) (fun c6 => ?_)
          · have c6 := of_decide_eq_true c6
            refine xw.steps 2 (fun _ => rfl) ?_
            refine xw.putf (o := 52) (fs' := [.int th, .int (nI c.length), .ref (z + 53), .ref (z + 54), .ref (z + 55), .ref (z + 56), .int va, .int (fu - 0), .ref (z + 57), .ref (z + 58), .ref (z + 59), .int (nI d)]) rfl q52 (Nat.le_of_ble_eq_true rfl) rfl rfl rfl ?_
            show xw z NK g 139 108 [(0, .ref (z + 52)), (1, .int wi), (2, .int (nI q)), (3, .int (nu (nI q).toNatClampNeg))] [] (xu S 52 (.inr (.inr (10, [.int th, .int (nI c.length), .ref (z + 53), .ref (z + 54), .ref (z + 55), .ref (z + 56), .int va, .int (fu - 0), .ref (z + 57), .ref (z + 58), .ref (z + 59), .int (nI d)])))) P
            refine xw.steps 3 (fun _ => rfl) ?_
            refine xw.getf (o := 52) rfl (xu_self _ _ _) rfl ?_
            refine xw.steps 1 (fun _ => rfl) ?_
            refine xw.ald (o := 54) rfl ((xu_ne _ _ (by decide)).trans q54) (nI_in (by omega) (by omega)) ?_
            show xw z NK g 139 116 [(0, .ref (z + 52)), (1, .int wi), (2, .int (nI q)), (3, .int (nu (nI q).toNatClampNeg))] [.int (ag (nI q).toNatClampNeg), .int (nu (nI q).toNatClampNeg), .ref (z + 52)] (xu S 52 (.inr (.inr (10, [.int th, .int (nI c.length), .ref (z + 53), .ref (z + 54), .ref (z + 55), .ref (z + 56), .int va, .int (fu - 0), .ref (z + 57), .ref (z + 58), .ref (z + 59), .int (nI d)])))) P
            rw [ec, a1, a2]
            simp only [ec, a1] at c1 c2 c3 c5 c6
            refine hP _ ⟨?_, ?_, ?_, ?_, ?_, ?_, ?_, ?_, ?_⟩
            all_goals first
              | (intro q hq; repeat rw [xu_ne _ _ (by omega)]
                 exact qB q hq)
              | (simp only [xu]; simp_all; done)
          · have c6 := Decidable.not_not.mp (of_decide_eq_false c6)
            refine xw.steps 3 (fun _ => rfl) ?_
            refine xw.putf (o := 52) (fs' := [.int th, .int (nI c.length), .ref (z + 53), .ref (z + 54), .ref (z + 55), .ref (z + 56), .int va, .int (fu - 1), .ref (z + 57), .ref (z + 58), .ref (z + 59), .int (nI d)]) rfl q52 (Nat.le_of_ble_eq_true rfl) rfl rfl rfl ?_
            show xw z NK g 139 108 [(0, .ref (z + 52)), (1, .int wi), (2, .int (nI q)), (3, .int (nu (nI q).toNatClampNeg))] [] (xu S 52 (.inr (.inr (10, [.int th, .int (nI c.length), .ref (z + 53), .ref (z + 54), .ref (z + 55), .ref (z + 56), .int va, .int (fu - 1), .ref (z + 57), .ref (z + 58), .ref (z + 59), .int (nI d)])))) P
            refine xw.steps 3 (fun _ => rfl) ?_
            refine xw.getf (o := 52) rfl (xu_self _ _ _) rfl ?_
            refine xw.steps 1 (fun _ => rfl) ?_
            refine xw.ald (o := 54) rfl ((xu_ne _ _ (by decide)).trans q54) (nI_in (by omega) (by omega)) ?_
            show xw z NK g 139 116 [(0, .ref (z + 52)), (1, .int wi), (2, .int (nI q)), (3, .int (nu (nI q).toNatClampNeg))] [.int (ag (nI q).toNatClampNeg), .int (nu (nI q).toNatClampNeg), .ref (z + 52)] (xu S 52 (.inr (.inr (10, [.int th, .int (nI c.length), .ref (z + 53), .ref (z + 54), .ref (z + 55), .ref (z + 56), .int va, .int (fu - 1), .ref (z + 57), .ref (z + 58), .ref (z + 59), .int (nI d)])))) P
            rw [ec, a1, a2]
            simp only [ec, a1] at c1 c2 c3 c5 c6
            refine hP _ ⟨?_, ?_, ?_, ?_, ?_, ?_, ?_, ?_, ?_⟩
            all_goals first
              | (intro q hq; repeat rw [xu_ne _ _ (by omega)]
                 exact qB q hq)
              | (simp only [xu]; simp_all; done)
        · have c5 := Decidable.not_not.mp (of_decide_eq_false c5)
          show xw z NK g 139 86 [(0, .ref (z + 52)), (1, .int wi), (2, .int (nI q)), (3, .int (nu (nI q).toNatClampNeg))] [] S P
          simp only [ec, a1] at c1 c2 c3 c5
          simp_all
    · have c2 := Decidable.not_not.mp (of_decide_eq_false c2)
      show xw z NK g 139 71 [(0, .ref (z + 52)), (1, .int wi), (2, .int (nI q)), (3, .int (nu (nI q).toNatClampNeg))] [] S P
      simp only [ec, a1] at c1 c2
      simp_all
  · have c1 := Decidable.not_not.mp (of_decide_eq_false c1)
    show xw z NK g 139 55 [(0, .ref (z + 52)), (1, .int wi), (2, .int (nI q)), (3, .int (nu (nI q).toNatClampNeg))] [] S P
    simp only [ec, a1] at c1
    simp_all
end MOA
