/-! THE REFERENCE: ends and tail of a turn (walks by wip/gen97.py) -/
section MOB
variable {Bk : xS} {z : Nat} {NK : List Nat} {g : mx_G} {S : xS} {P : Option Value → xS → Prop} {th sz va fu hg : Int32} {nu ag lo wo he go ro : Nat → Int32} {c : List II}
set_option maxHeartbeats 2000000 in
theorem mu_16 {wi : Int32} {q m : Nat} (hM : MO Bk z S th (nI c.length) va fu (nI (m + 1)) nu ag lo wo he go ro) (hC : CO c nu ag) (hn : c.length ≤ 400) (hq : q < c.length) (hm : m + 1 ≤ 61) (hx : nb c q = 16) (hP : ∀ S', MO Bk z S' th (nI c.length) (ro m) fu (nI m) nu ag lo wo he go ro → P (some (.int 0)) S') : xw z NK g 139 42 [(0, .ref (z + 52)), (1, .int wi), (2, .int (nI q))] [] S P := by
  obtain ⟨q52, q53, q54, q55, q56, q57, q58, q59, qB⟩ := id hM
  have ec : (nI q).toNatClampNeg = q := nI_clamp (by omega)
  obtain ⟨a1, a2⟩ := hC q hq
  refine xw.steps 1 (fun _ => rfl) ?_
  refine xw.getf (o := 52) rfl q52 rfl ?_
  refine xw.steps 1 (fun _ => rfl) ?_
  refine xw.ald (o := 53) rfl q53 (nI_in (by omega) (by omega)) ?_
  refine xw.steps 3 (fun _ => rfl) ?_
  refine xw.icmp rfl (fun c1 => ?_) (fun c1 => ?_)
  · have c1 := of_decide_eq_true c1
    show xw z NK g 139 65 [(0, .ref (z + 52)), (1, .int wi), (2, .int (nI q)), (3, .int (nu (nI q).toNatClampNeg))] [] S P
    simp only [ec, a1, hx] at c1
    exact absurd c1 (by decide)
  · have c1 := Decidable.not_not.mp (of_decide_eq_false c1)
    refine xw.steps 2 (fun _ => rfl) ?_
    show xw z NK g 139 57 [(0, .ref (z + 52)), (1, .int wi), (2, .int (nI q)), (3, .int (nu (nI q).toNatClampNeg))] [.ref (z + 52), .ref (z + 52)] S P
    refine xw.callO (o := 52) rfl rfl rfl q52 rfl rfl (c_pop (n := m) hM (by omega) ?_)
    intro S2 hM2
    obtain ⟨q522, q532, q542, q552, q562, q572, q582, q592, qB2⟩ := id hM2
    show xw z NK g 139 60 [(0, .ref (z + 52)), (1, .int wi), (2, .int (nI q)), (3, .int (nu (nI q).toNatClampNeg))] [.int (ro m), .ref (z + 52)] S2 P
    refine xw.putf (o := 52) (fs' := [.int th, .int (nI c.length), .ref (z + 53), .ref (z + 54), .ref (z + 55), .ref (z + 56), .int (ro m), .int fu, .ref (z + 57), .ref (z + 58), .ref (z + 59), .int (nI m)]) rfl q522 (Nat.le_of_ble_eq_true rfl) rfl rfl rfl ?_
    show xw z NK g 139 63 [(0, .ref (z + 52)), (1, .int wi), (2, .int (nI q)), (3, .int (nu (nI q).toNatClampNeg))] [] (xu S2 52 (.inr (.inr (10, [.int th, .int (nI c.length), .ref (z + 53), .ref (z + 54), .ref (z + 55), .ref (z + 56), .int (ro m), .int fu, .ref (z + 57), .ref (z + 58), .ref (z + 59), .int (nI m)])))) P
    refine xw.steps 1 (fun _ => rfl) ?_
    refine xw.ret rfl (fun _ => rfl) ?_
    show P (some (.int 0)) (xu S2 52 (.inr (.inr (10, [.int th, .int (nI c.length), .ref (z + 53), .ref (z + 54), .ref (z + 55), .ref (z + 56), .int (ro m), .int fu, .ref (z + 57), .ref (z + 58), .ref (z + 59), .int (nI m)]))))
    refine hP _ ⟨?_, ?_, ?_, ?_, ?_, ?_, ?_, ?_, ?_⟩
    all_goals first
      | (intro q hq; repeat rw [xu_ne _ _ (by omega)]
         exact qB2 q hq)
      | (simp only [xu]; simp; try assumption)
set_option maxHeartbeats 2000000 in
theorem mu_17 {wi : Int32} {q d : Nat} (hM : MO Bk z S th (nI c.length) va fu (nI d) nu ag lo wo he go ro) (hC : CO c nu ag) (hn : c.length ≤ 400) (hq : q < c.length) (hx : nb c q = 17) (hP : P (some (.int 4)) S) : xw z NK g 139 42 [(0, .ref (z + 52)), (1, .int wi), (2, .int (nI q))] [] S P := by
  obtain ⟨q52, q53, q54, q55, q56, q57, q58, q59, qB⟩ := id hM
  have ec : (nI q).toNatClampNeg = q := nI_clamp (by omega)
  obtain ⟨a1, a2⟩ := hC q hq
  refine xw.steps 1 (fun _ => rfl) ?_
  refine xw.getf (o := 52) rfl q52 rfl ?_
  refine xw.steps 1 (fun _ => rfl) ?_
  refine xw.ald (o := 53) rfl q53 (nI_in (by omega) (by omega)) ?_
  refine xw.steps 3 (fun _ => rfl) ?_
  refine xw.icmp rfl (fun c1 => ?_) (fun c1 => ?_)
  · have c1 := of_decide_eq_true c1
    refine xw.steps 2 (fun _ => rfl) ?_
    refine xw.icmp rfl (fun c2 => ?_) (fun c2 => ?_)
    · have c2 := of_decide_eq_true c2
      show xw z NK g 139 73 [(0, .ref (z + 52)), (1, .int wi), (2, .int (nI q)), (3, .int (nu (nI q).toNatClampNeg))] [] S P
      simp only [ec, a1, hx] at c1 c2
      exact absurd c2 (by decide)
    · have c2 := Decidable.not_not.mp (of_decide_eq_false c2)
      refine xw.steps 1 (fun _ => rfl) ?_
      refine xw.ret rfl (fun _ => rfl) ?_
      show P (some (.int 4)) S
      exact hP
  · have c1 := Decidable.not_not.mp (of_decide_eq_false c1)
    show xw z NK g 139 55 [(0, .ref (z + 52)), (1, .int wi), (2, .int (nI q)), (3, .int (nu (nI q).toNatClampNeg))] [] S P
    simp only [ec, a1, hx] at c1
    exact absurd c1 (by decide)
set_option maxHeartbeats 2000000 in
theorem mu_15 {wi : Int32} {q d : Nat} (hM : MO Bk z S th (nI c.length) va fu (nI d) nu ag lo wo he go ro) (hC : CO c nu ag) (hn : c.length ≤ 400) (hq : q < c.length) (hx : nb c q = 15) (hz : fu = 0) (hP : P (some (.int 1)) S) : xw z NK g 139 42 [(0, .ref (z + 52)), (1, .int wi), (2, .int (nI q))] [] S P := by
  obtain ⟨q52, q53, q54, q55, q56, q57, q58, q59, qB⟩ := id hM
  have ec : (nI q).toNatClampNeg = q := nI_clamp (by omega)
  obtain ⟨a1, a2⟩ := hC q hq
  refine xw.steps 1 (fun _ => rfl) ?_
  refine xw.getf (o := 52) rfl q52 rfl ?_
  refine xw.steps 1 (fun _ => rfl) ?_
  refine xw.ald (o := 53) rfl q53 (nI_in (by omega) (by omega)) ?_
  refine xw.steps 3 (fun _ => rfl) ?_
  refine xw.icmp rfl (fun c1 => ?_) (fun c1 => ?_)
  · have c1 := of_decide_eq_true c1
    refine xw.steps 2 (fun _ => rfl) ?_
    refine xw.icmp rfl (fun c2 => ?_) (fun c2 => ?_)
    · have c2 := of_decide_eq_true c2
      refine xw.steps 2 (fun _ => rfl) ?_
      refine xw.icmp rfl (fun c3 => ?_) (fun c3 => ?_)
      · have c3 := of_decide_eq_true c3
        show xw z NK g 139 88 [(0, .ref (z + 52)), (1, .int wi), (2, .int (nI q)), (3, .int (nu (nI q).toNatClampNeg))] [] S P
        simp only [ec, a1, hx] at c1 c2 c3
        exact absurd c3 (by decide)
      · have c3 := Decidable.not_not.mp (of_decide_eq_false c3)
        refine xw.steps 1 (fun _ => rfl) ?_
        refine xw.getf (o := 52) rfl q52 rfl ?_
        refine xw.if_ rfl (fun c4 => ?_) (fun c4 => ?_)
        · have c4 := of_decide_eq_true c4
          show xw z NK g 139 88 [(0, .ref (z + 52)), (1, .int wi), (2, .int (nI q)), (3, .int (nu (nI q).toNatClampNeg))] [] S P
          exact absurd hz c4
        · have c4 := Decidable.not_not.mp (of_decide_eq_false c4)
          refine xw.steps 1 (fun _ => rfl) ?_
          refine xw.ret rfl (fun _ => rfl) ?_
          show P (some (.int 1)) S
          exact hP
    · have c2 := Decidable.not_not.mp (of_decide_eq_false c2)
      show xw z NK g 139 71 [(0, .ref (z + 52)), (1, .int wi), (2, .int (nI q)), (3, .int (nu (nI q).toNatClampNeg))] [] S P
      simp only [ec, a1, hx] at c1 c2
      exact absurd c2 (by decide)
  · have c1 := Decidable.not_not.mp (of_decide_eq_false c1)
    show xw z NK g 139 55 [(0, .ref (z + 52)), (1, .int wi), (2, .int (nI q)), (3, .int (nu (nI q).toNatClampNeg))] [] S P
    simp only [ec, a1, hx] at c1
    exact absurd c1 (by decide)
set_option maxHeartbeats 2000000 in
theorem mu_on {wi : Int32} {q d : Nat} (hM : MO Bk z S th (nI c.length) va fu (nI d) nu ag lo wo he go ro) (hC : CO c nu ag) (hn : c.length ≤ 400) (hq : q < c.length) {n3 : Int32} (hh : nb c q = 11 ∨ nb c q = 12 ∨ nb c q = 18 → 1 ≤ d) (hd : d ≤ 61) (h18 : nb c q = 18 → q + 1 < c.length) (hP : ∀ S', MO Bk z S' th (nI c.length) va fu (nI (gohi c q (ro (d - 1)) d)) nu ag lo wo he go ro → xw z NK g 139 42 [(0, .ref (z + 52)), (1, .int wi), (2, .int (gonx c q (ro (d - 1))))] [] S' P) : xw z NK g 139 119 [(0, .ref (z + 52)), (1, .int wi), (2, .int (nI q)), (3, .int n3)] [.int 0] S P := by
  obtain ⟨q52, q53, q54, q55, q56, q57, q58, q59, qB⟩ := id hM
  refine xw.steps 2 (fun _ => rfl) ?_
  refine xw.steps 1 (pc' := 129) (fun _ => rfl) ?_
  refine xw.steps 2 (fun _ => rfl) ?_
  show xw z NK g 139 131 [(0, .ref (z + 52)), (1, .int wi), (2, .int (nI q)), (3, .int n3), (4, .int 0)] [.int (nI q), .ref (z + 52)] S P
  refine xw.callO (o := 52) rfl rfl rfl q52 rfl rfl (c_goesOn hM hC hn hq hh hd h18 ?_)
  intro S2 hM2
  show xw z NK g 139 134 [(0, .ref (z + 52)), (1, .int wi), (2, .int (nI q)), (3, .int n3), (4, .int 0)] [.int (gonx c q (ro (d - 1)))] S2 P
  refine xw.steps 2 (fun _ => rfl) ?_
  show xw z NK g 139 42 [(0, .ref (z + 52)), (1, .int wi), (2, .int (gonx c q (ro (d - 1)))), (3, .int n3), (4, .int 0)] [] S2 P
  refine xw.forget (lv := [(0, .ref (z + 52)), (1, .int wi), (2, .int (gonx c q (ro (d - 1))))]) lk_139 (show [0, 1, 2].Nodup by decide) (show [0, 1, 2, 3, 4].Nodup by decide) (List.forall_mem_cons.mpr ⟨rfl, List.forall_mem_cons.mpr ⟨rfl, List.forall_mem_cons.mpr ⟨rfl, fun _ h => absurd h List.not_mem_nil⟩⟩⟩) ?_
  exact hP S2 hM2
theorem mu_off {wi e n3 qi : Int32} (he : 0 < e) (hP : P (some (.int e)) S) : xw z NK g 139 119 [(0, .ref (z + 52)), (1, .int wi), (2, .int qi), (3, .int n3)] [.int e] S P := by
  refine xw.steps 2 (fun _ => rfl) ?_
  refine xw.if_ rfl (fun c1 => ?_) (fun c1 => ?_)
  · have c1 := Int32.not_lt.mpr (of_decide_eq_true c1)
    show xw z NK g 139 129 [(0, .ref (z + 52)), (1, .int wi), (2, .int qi), (3, .int n3), (4, .int e)] [] S P
    exact absurd he c1
  · have c1 := Int32.not_le.mp (of_decide_eq_false c1)
    refine xw.steps 1 (fun _ => rfl) ?_
    refine xw.ret rfl (fun _ => rfl) ?_
    show P (some (.int e)) S
    exact hP
end MOB
