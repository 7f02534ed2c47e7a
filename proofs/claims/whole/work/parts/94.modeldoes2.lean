/-! THE REFERENCE: does, numbers 3, 4, 7, 19 (walks by wip/gen94.py) -/
section MO8
variable {Bk : xS} {z : Nat} {NK : List Nat} {g : mx_G} {S : xS} {P : Option Value → xS → Prop} {th sz va fu hg : Int32} {nu ag lo wo he go ro : Nat → Int32} {c : List II}
set_option maxRecDepth 8000 in
set_option maxHeartbeats 2000000 in
/-- RowCodeModel.does(II)I -/
theorem c_does7 {m : Nat} (hM : MO Bk z S th sz va fu (nI (m + 2)) nu ag lo wo he go ro) {k : Int32} (hm : m + 2 ≤ 61) (hP : (¬ (ro (m + 1) = 0 ∧ a_divides k = true) → ∀ S', MO Bk z S' th sz va fu (nI (m + 1)) nu ag lo wo he go (upd ro m (a_calc k (ro m) (ro (m + 1)))) → P (some (.int 0)) S') ∧ (ro (m + 1) = 0 ∧ a_divides k = true → ∀ S', MO Bk z S' th sz va fu (nI m) nu ag lo wo he go ro → P (some (.int 3)) S')) : xw z NK g 136 0 [(0, .ref (z + 52)), (1, .int 7), (2, .int k)] [] S P := by
  obtain ⟨q52, q53, q54, q55, q56, q57, q58, q59, qB⟩ := id hM
  refine xw.steps 1 (fun _ => rfl) ?_
  refine xw.steps 1 (pc' := 239) (fun _ => rfl) ?_
  refine xw.steps 1 (fun _ => rfl) ?_
  show xw z NK g 136 240 [(0, .ref (z + 52)), (1, .int 7), (2, .int k)] [.ref (z + 52)] S P
  refine xw.callO (o := 52) rfl rfl rfl q52 rfl rfl (c_pop (n := m + 1) hM (by omega) ?_)
  intro S2 hM2
  obtain ⟨q522, q532, q542, q552, q562, q572, q582, q592, qB2⟩ := id hM2
  show xw z NK g 136 243 [(0, .ref (z + 52)), (1, .int 7), (2, .int k)] [.int (ro (m + 1))] S2 P
  refine xw.steps 2 (fun _ => rfl) ?_
  show xw z NK g 136 246 [(0, .ref (z + 52)), (1, .int 7), (2, .int k), (4, .int (ro (m + 1)))] [.ref (z + 52)] S2 P
  refine xw.callO (o := 52) rfl rfl rfl q522 rfl rfl (c_pop (n := m) hM2 (by omega) ?_)
  intro S3 hM3
  obtain ⟨q523, q533, q543, q553, q563, q573, q583, q593, qB3⟩ := id hM3
  show xw z NK g 136 249 [(0, .ref (z + 52)), (1, .int 7), (2, .int k), (4, .int (ro (m + 1)))] [.int (ro m)] S3 P
  refine xw.steps 3 (fun _ => rfl) ?_
  refine xw.icmp rfl (fun c1 => ?_) (fun c1 => ?_)
  · have c1 := of_decide_eq_true c1
    refine xw.steps 1 (fun _ => rfl) ?_
    refine xw.if_ rfl (fun c2 => ?_) (fun c2 => ?_)
    · have c2 := of_decide_eq_true c2
      refine xw.steps 4 (fun _ => rfl) ?_
      show xw z NK g 136 272 [(0, .ref (z + 52)), (1, .int 7), (2, .int k), (4, .int (ro (m + 1))), (3, .int (ro m))] [.int (ro (m + 1)), .int (ro m), .int k, .ref (z + 52)] S3 P
      refine xw.callS rfl rfl rfl rfl rfl (c_made (by rintro ⟨e1, e2⟩; have e2 := of_decide_eq_true e2; rcases e2 with e2 | e2 <;> contradiction) ?_)
      show xw z NK g 136 275 [(0, .ref (z + 52)), (1, .int 7), (2, .int k), (4, .int (ro (m + 1))), (3, .int (ro m))] [.int (a_calc k (ro m) (ro (m + 1))), .ref (z + 52)] S3 P
      show xw z NK g 136 275 [(0, .ref (z + 52)), (1, .int 7), (2, .int k), (4, .int (ro (m + 1))), (3, .int (ro m))] [.int (a_calc k (ro m) (ro (m + 1))), .ref (z + 52)] S3 P
      refine xw.callO (o := 52) rfl rfl rfl q523 rfl rfl (c_push (n := m) hM3 (by omega) ?_)
      intro S4 hM4
      obtain ⟨q524, q534, q544, q554, q564, q574, q584, q594, qB4⟩ := id hM4
      show xw z NK g 136 278 [(0, .ref (z + 52)), (1, .int 7), (2, .int k), (4, .int (ro (m + 1))), (3, .int (ro m))] [] S4 P
      refine xw.steps 1 (fun _ => rfl) ?_
      refine xw.ret rfl (fun _ => rfl) ?_
      show P (some (.int 0)) S4
      exact hP.1 (by rintro ⟨e1, e2⟩; have e2 := of_decide_eq_true e2; rcases e2 with e2 | e2 <;> contradiction) S4 hM4
    · have c2 := Decidable.not_not.mp (of_decide_eq_false c2)
      refine xw.steps 1 (fun _ => rfl) ?_
      refine xw.ret rfl (fun _ => rfl) ?_
      show P (some (.int 3)) S3
      exact hP.2 ⟨by assumption, decide_eq_true (by first | (left; assumption) | (right; assumption))⟩ S3 hM3
  · have c1 := of_decide_eq_false c1
    refine xw.steps 2 (fun _ => rfl) ?_
    refine xw.icmp rfl (fun c3 => ?_) (fun c3 => ?_)
    · have c3 := of_decide_eq_true c3
      refine xw.steps 4 (fun _ => rfl) ?_
      show xw z NK g 136 272 [(0, .ref (z + 52)), (1, .int 7), (2, .int k), (4, .int (ro (m + 1))), (3, .int (ro m))] [.int (ro (m + 1)), .int (ro m), .int k, .ref (z + 52)] S3 P
      refine xw.callS rfl rfl rfl rfl rfl (c_made (by rintro ⟨e1, e2⟩; have e2 := of_decide_eq_true e2; rcases e2 with e2 | e2 <;> contradiction) ?_)
      show xw z NK g 136 275 [(0, .ref (z + 52)), (1, .int 7), (2, .int k), (4, .int (ro (m + 1))), (3, .int (ro m))] [.int (a_calc k (ro m) (ro (m + 1))), .ref (z + 52)] S3 P
      show xw z NK g 136 275 [(0, .ref (z + 52)), (1, .int 7), (2, .int k), (4, .int (ro (m + 1))), (3, .int (ro m))] [.int (a_calc k (ro m) (ro (m + 1))), .ref (z + 52)] S3 P
      refine xw.callO (o := 52) rfl rfl rfl q523 rfl rfl (c_push (n := m) hM3 (by omega) ?_)
      intro S4 hM4
      obtain ⟨q524, q534, q544, q554, q564, q574, q584, q594, qB4⟩ := id hM4
      show xw z NK g 136 278 [(0, .ref (z + 52)), (1, .int 7), (2, .int k), (4, .int (ro (m + 1))), (3, .int (ro m))] [] S4 P
      refine xw.steps 1 (fun _ => rfl) ?_
      refine xw.ret rfl (fun _ => rfl) ?_
      show P (some (.int 0)) S4
      exact hP.1 (by rintro ⟨e1, e2⟩; have e2 := of_decide_eq_true e2; rcases e2 with e2 | e2 <;> contradiction) S4 hM4
    · have c3 := Decidable.not_not.mp (of_decide_eq_false c3)
      refine xw.steps 1 (fun _ => rfl) ?_
      refine xw.if_ rfl (fun c4 => ?_) (fun c4 => ?_)
      · have c4 := of_decide_eq_true c4
        refine xw.steps 4 (fun _ => rfl) ?_
        show xw z NK g 136 272 [(0, .ref (z + 52)), (1, .int 7), (2, .int k), (4, .int (ro (m + 1))), (3, .int (ro m))] [.int (ro (m + 1)), .int (ro m), .int k, .ref (z + 52)] S3 P
        refine xw.callS rfl rfl rfl rfl rfl (c_made (by rintro ⟨e1, e2⟩; have e2 := of_decide_eq_true e2; rcases e2 with e2 | e2 <;> contradiction) ?_)
        show xw z NK g 136 275 [(0, .ref (z + 52)), (1, .int 7), (2, .int k), (4, .int (ro (m + 1))), (3, .int (ro m))] [.int (a_calc k (ro m) (ro (m + 1))), .ref (z + 52)] S3 P
        show xw z NK g 136 275 [(0, .ref (z + 52)), (1, .int 7), (2, .int k), (4, .int (ro (m + 1))), (3, .int (ro m))] [.int (a_calc k (ro m) (ro (m + 1))), .ref (z + 52)] S3 P
        refine xw.callO (o := 52) rfl rfl rfl q523 rfl rfl (c_push (n := m) hM3 (by omega) ?_)
        intro S4 hM4
        obtain ⟨q524, q534, q544, q554, q564, q574, q584, q594, qB4⟩ := id hM4
        show xw z NK g 136 278 [(0, .ref (z + 52)), (1, .int 7), (2, .int k), (4, .int (ro (m + 1))), (3, .int (ro m))] [] S4 P
        refine xw.steps 1 (fun _ => rfl) ?_
        refine xw.ret rfl (fun _ => rfl) ?_
        show P (some (.int 0)) S4
        exact hP.1 (by rintro ⟨e1, e2⟩; have e2 := of_decide_eq_true e2; rcases e2 with e2 | e2 <;> contradiction) S4 hM4
      · have c4 := Decidable.not_not.mp (of_decide_eq_false c4)
        refine xw.steps 1 (fun _ => rfl) ?_
        refine xw.ret rfl (fun _ => rfl) ?_
        show P (some (.int 3)) S3
        exact hP.2 ⟨by assumption, decide_eq_true (by first | (left; assumption) | (right; assumption))⟩ S3 hM3
set_option maxRecDepth 8000 in
set_option maxHeartbeats 2000000 in
/-- RowCodeModel.does(II)I -/
theorem c_does3 {m : Nat} (hM : MO Bk z S th sz va fu (nI (m + 1)) nu ag lo wo he go ro) {k : Int32} (hm : m + 1 ≤ 61) (hP : ∀ S', MO Bk z S' th sz va fu (nI (m + 1)) nu ag lo wo he go (upd ro m (mVa wo (ro m))) → P (some (.int (if m_hasW (ro m).toInt64 = true then 0 else 2))) S') : xw z NK g 136 0 [(0, .ref (z + 52)), (1, .int 3), (2, .int k)] [] S P := by
  obtain ⟨q52, q53, q54, q55, q56, q57, q58, q59, qB⟩ := id hM
  refine xw.steps 1 (fun _ => rfl) ?_
  refine xw.steps 1 (pc' := 131) (fun _ => rfl) ?_
  refine xw.steps 1 (fun _ => rfl) ?_
  show xw z NK g 136 132 [(0, .ref (z + 52)), (1, .int 3), (2, .int k)] [.ref (z + 52)] S P
  refine xw.callO (o := 52) rfl rfl rfl q52 rfl rfl (c_pop (n := m) hM (by omega) ?_)
  intro S2 hM2
  obtain ⟨q522, q532, q542, q552, q562, q572, q582, q592, qB2⟩ := id hM2
  show xw z NK g 136 135 [(0, .ref (z + 52)), (1, .int 3), (2, .int k)] [.int (ro m)] S2 P
  refine xw.steps 5 (fun _ => rfl) ?_
  show xw z NK g 136 143 [(0, .ref (z + 52)), (1, .int 3), (2, .int k), (5, .int (ro m))] [.int 63, .int 0, .int (ro m), .ref (z + 52)] S2 P
  refine xw.callS rfl rfl rfl rfl rfl (c_in ?_)
  show xw z NK g 136 146 [(0, .ref (z + 52)), (1, .int 3), (2, .int k), (5, .int (ro m))] [.int (bI (decide (¬ (ro m) < 0 ∧ ¬ 63 < (ro m)))), .ref (z + 52)] S2 P
  refine xw.if_ rfl (fun c1 => ?_) (fun c1 => ?_)
  · have c1 := bI_eq0 (of_decide_eq_true c1)
    refine xw.steps 1 (fun _ => rfl) ?_
    show xw z NK g 136 160 [(0, .ref (z + 52)), (1, .int 3), (2, .int k), (5, .int (ro m))] [.int 0, .ref (z + 52)] S2 P
    refine xw.callO (o := 52) rfl rfl rfl q522 rfl rfl (c_push (n := m) hM2 (by omega) ?_)
    intro S3 hM3
    obtain ⟨q523, q533, q543, q553, q563, q573, q583, q593, qB3⟩ := id hM3
    show xw z NK g 136 163 [(0, .ref (z + 52)), (1, .int 3), (2, .int k), (5, .int (ro m))] [] S3 P
    refine xw.steps 3 (fun _ => rfl) ?_
    show xw z NK g 136 168 [(0, .ref (z + 52)), (1, .int 3), (2, .int k), (5, .int (ro m))] [.int 63, .int 0, .int (ro m)] S3 P
    refine xw.callS rfl rfl rfl rfl rfl (c_in ?_)
    show xw z NK g 136 171 [(0, .ref (z + 52)), (1, .int 3), (2, .int k), (5, .int (ro m))] [.int (bI (decide (¬ (ro m) < 0 ∧ ¬ 63 < (ro m))))] S3 P
    refine xw.if_ rfl (fun c2 => ?_) (fun c2 => ?_)
    · have c2 := bI_eq0 (of_decide_eq_true c2)
      refine xw.steps 1 (fun _ => rfl) ?_
      refine xw.ret rfl (fun _ => rfl) ?_
      show P (some (.int 2)) S3
      -- (some (.int 2)) 3 ['c1', 'c2']
      first
        | exact absurd (c1.symm.trans c2) (by decide)
        | (have eh : m_hasW (ro m).toInt64 = true := by rw [hasW_iff]; exact c1
           simp only [mVa, eh, if_true] at hP
           exact hP S3 hM3)
        | (have eh : m_hasW (ro m).toInt64 = false := by rw [hasW_iff]; exact c1
           simp only [mVa, eh, Bool.false_eq_true, if_false] at hP
           exact hP S3 hM3)
    · have c2 := bI_ne0 (of_decide_eq_false c2)
      refine xw.steps 2 (fun _ => rfl) ?_
      refine xw.ret rfl (fun _ => rfl) ?_
      show P (some (.int 0)) S3
      -- (some (.int 0)) 3 ['c1', 'c2']
      first
        | exact absurd (c1.symm.trans c2) (by decide)
        | (have eh : m_hasW (ro m).toInt64 = true := by rw [hasW_iff]; exact c1
           simp only [mVa, eh, if_true] at hP
           exact hP S3 hM3)
        | (have eh : m_hasW (ro m).toInt64 = false := by rw [hasW_iff]; exact c1
           simp only [mVa, eh, Bool.false_eq_true, if_false] at hP
           exact hP S3 hM3)
  · have c1 := bI_ne0 (of_decide_eq_false c1)
    refine xw.steps 1 (fun _ => rfl) ?_
    refine xw.getf (o := 52) rfl q522 rfl ?_
    refine xw.steps 1 (fun _ => rfl) ?_
    refine xw.ald (o := 56) rfl q562 (in_bound (N := 63) (m := 63) rfl (by omega) c1) ?_
    refine xw.steps 1 (fun _ => rfl) ?_
    show xw z NK g 136 160 [(0, .ref (z + 52)), (1, .int 3), (2, .int k), (5, .int (ro m))] [.int (wo (ro m).toNatClampNeg), .ref (z + 52)] S2 P
    refine xw.callO (o := 52) rfl rfl rfl q522 rfl rfl (c_push (n := m) hM2 (by omega) ?_)
    intro S3 hM3
    obtain ⟨q523, q533, q543, q553, q563, q573, q583, q593, qB3⟩ := id hM3
    show xw z NK g 136 163 [(0, .ref (z + 52)), (1, .int 3), (2, .int k), (5, .int (ro m))] [] S3 P
    refine xw.steps 3 (fun _ => rfl) ?_
    show xw z NK g 136 168 [(0, .ref (z + 52)), (1, .int 3), (2, .int k), (5, .int (ro m))] [.int 63, .int 0, .int (ro m)] S3 P
    refine xw.callS rfl rfl rfl rfl rfl (c_in ?_)
    show xw z NK g 136 171 [(0, .ref (z + 52)), (1, .int 3), (2, .int k), (5, .int (ro m))] [.int (bI (decide (¬ (ro m) < 0 ∧ ¬ 63 < (ro m))))] S3 P
    refine xw.if_ rfl (fun c3 => ?_) (fun c3 => ?_)
    · have c3 := bI_eq0 (of_decide_eq_true c3)
      refine xw.steps 1 (fun _ => rfl) ?_
      refine xw.ret rfl (fun _ => rfl) ?_
      show P (some (.int 2)) S3
      -- (some (.int 2)) 3 ['c1', 'c3']
      first
        | exact absurd (c1.symm.trans c3) (by decide)
        | (have eh : m_hasW (ro m).toInt64 = true := by rw [hasW_iff]; exact c1
           simp only [mVa, eh, if_true] at hP
           exact hP S3 hM3)
        | (have eh : m_hasW (ro m).toInt64 = false := by rw [hasW_iff]; exact c1
           simp only [mVa, eh, Bool.false_eq_true, if_false] at hP
           exact hP S3 hM3)
    · have c3 := bI_ne0 (of_decide_eq_false c3)
      refine xw.steps 2 (fun _ => rfl) ?_
      refine xw.ret rfl (fun _ => rfl) ?_
      show P (some (.int 0)) S3
      -- (some (.int 0)) 3 ['c1', 'c3']
      first
        | exact absurd (c1.symm.trans c3) (by decide)
        | (have eh : m_hasW (ro m).toInt64 = true := by rw [hasW_iff]; exact c1
           simp only [mVa, eh, if_true] at hP
           exact hP S3 hM3)
        | (have eh : m_hasW (ro m).toInt64 = false := by rw [hasW_iff]; exact c1
           simp only [mVa, eh, Bool.false_eq_true, if_false] at hP
           exact hP S3 hM3)
set_option maxRecDepth 8000 in
set_option maxHeartbeats 2000000 in
/-- RowCodeModel.does(II)I -/
theorem c_does4 {m : Nat} (hM : MO Bk z S th sz va fu (nI (m + 2)) nu ag lo wo he go ro) {k : Int32} (hm : m + 2 ≤ 61) (hP : ∀ S', MO Bk z S' th sz va fu (nI m) nu ag lo (mV wo (ro (m + 1)) (ro m)) he go ro → P (some (.int (if m_hasW (ro (m + 1)).toInt64 = true then 0 else 2))) S') : xw z NK g 136 0 [(0, .ref (z + 52)), (1, .int 4), (2, .int k)] [] S P := by
  obtain ⟨q52, q53, q54, q55, q56, q57, q58, q59, qB⟩ := id hM
  refine xw.steps 1 (fun _ => rfl) ?_
  refine xw.steps 1 (pc' := 180) (fun _ => rfl) ?_
  refine xw.steps 1 (fun _ => rfl) ?_
  show xw z NK g 136 181 [(0, .ref (z + 52)), (1, .int 4), (2, .int k)] [.ref (z + 52)] S P
  refine xw.callO (o := 52) rfl rfl rfl q52 rfl rfl (c_pop (n := m + 1) hM (by omega) ?_)
  intro S2 hM2
  obtain ⟨q522, q532, q542, q552, q562, q572, q582, q592, qB2⟩ := id hM2
  show xw z NK g 136 184 [(0, .ref (z + 52)), (1, .int 4), (2, .int k)] [.int (ro (m + 1))] S2 P
  refine xw.steps 2 (fun _ => rfl) ?_
  show xw z NK g 136 187 [(0, .ref (z + 52)), (1, .int 4), (2, .int k), (5, .int (ro (m + 1)))] [.ref (z + 52)] S2 P
  refine xw.callO (o := 52) rfl rfl rfl q522 rfl rfl (c_pop (n := m) hM2 (by omega) ?_)
  intro S3 hM3
  obtain ⟨q523, q533, q543, q553, q563, q573, q583, q593, qB3⟩ := id hM3
  show xw z NK g 136 190 [(0, .ref (z + 52)), (1, .int 4), (2, .int k), (5, .int (ro (m + 1)))] [.int (ro m)] S3 P
  refine xw.steps 4 (fun _ => rfl) ?_
  show xw z NK g 136 197 [(0, .ref (z + 52)), (1, .int 4), (2, .int k), (5, .int (ro (m + 1))), (6, .int (ro m))] [.int 63, .int 0, .int (ro (m + 1))] S3 P
  refine xw.callS rfl rfl rfl rfl rfl (c_in ?_)
  show xw z NK g 136 200 [(0, .ref (z + 52)), (1, .int 4), (2, .int k), (5, .int (ro (m + 1))), (6, .int (ro m))] [.int (bI (decide (¬ (ro (m + 1)) < 0 ∧ ¬ 63 < (ro (m + 1)))))] S3 P
  refine xw.if_ rfl (fun c1 => ?_) (fun c1 => ?_)
  · have c1 := bI_ne0 (of_decide_eq_true c1)
    refine xw.steps 1 (fun _ => rfl) ?_
    refine xw.getf (o := 52) rfl q523 rfl ?_
    refine xw.steps 2 (fun _ => rfl) ?_
    refine xw.ast (o := 56) rfl q563 (in_bound (N := 63) (m := 63) rfl (by omega) c1) ?_
    show xw z NK g 136 214 [(0, .ref (z + 52)), (1, .int 4), (2, .int k), (5, .int (ro (m + 1))), (6, .int (ro m))] [] (xu S3 56 (.inr (.inl (false, 64, (upd wo (ro (m + 1)).toNatClampNeg (ro m)))))) P
    refine xw.steps 1 (fun _ => rfl) ?_
    refine xw.ret rfl (fun _ => rfl) ?_
    show P (some (.int 0)) (xu S3 56 (.inr (.inl (false, 64, (upd wo (ro (m + 1)).toNatClampNeg (ro m))))))
    have eh : m_hasW (ro (m + 1)).toInt64 = true := by rw [hasW_iff]; exact c1
    simp only [mV, eh, if_true] at hP
    refine hP _ ⟨?_, ?_, ?_, ?_, ?_, ?_, ?_, ?_, ?_⟩
    all_goals first
      | (intro q hq; repeat rw [xu_ne _ _ (by omega)]
         exact qB3 q hq)
      | (simp only [xu]; simp; try assumption)
  · have c1 := bI_eq0 (Decidable.not_not.mp (of_decide_eq_false c1))
    refine xw.steps 1 (fun _ => rfl) ?_
    refine xw.ret rfl (fun _ => rfl) ?_
    show P (some (.int 2)) S3
    have eh : m_hasW (ro (m + 1)).toInt64 = false := by rw [hasW_iff]; exact c1
    simp only [mV, eh, Bool.false_eq_true, if_false] at hP
    exact hP S3 hM3
set_option maxRecDepth 8000 in
set_option maxHeartbeats 2000000 in
/-- RowCodeModel.does(II)I -/
theorem c_does19 {m : Nat} (hM : MO Bk z S th sz va fu (nI (m + 2)) nu ag lo wo he go ro) {k : Int32} (hm : m + 2 ≤ 61) (hP : (m_hasW (m_ba (ro (m + 1)) (ro m)) = true → ∀ S', MO Bk z S' th sz va fu (nI (m + 1)) nu ag lo wo he go (upd ro m (m_fb wo (ro (m + 1)) (ro m))) → P (some (.int 0)) S') ∧ (m_hasW (m_ba (ro (m + 1)) (ro m)) = false → ∀ S', MO Bk z S' th sz va fu (nI (m + 1)) nu ag lo wo he go (upd ro m 0) → P (some (.int 2)) S')) : xw z NK g 136 0 [(0, .ref (z + 52)), (1, .int 19), (2, .int k)] [] S P := by
  obtain ⟨q52, q53, q54, q55, q56, q57, q58, q59, qB⟩ := id hM
  refine xw.steps 1 (fun _ => rfl) ?_
  refine xw.steps 1 (pc' := 357) (fun _ => rfl) ?_
  refine xw.steps 1 (fun _ => rfl) ?_
  show xw z NK g 136 358 [(0, .ref (z + 52)), (1, .int 19), (2, .int k)] [.ref (z + 52)] S P
  refine xw.callO (o := 52) rfl rfl rfl q52 rfl rfl (c_pop (n := m + 1) hM (by omega) ?_)
  intro S2 hM2
  obtain ⟨q522, q532, q542, q552, q562, q572, q582, q592, qB2⟩ := id hM2
  show xw z NK g 136 361 [(0, .ref (z + 52)), (1, .int 19), (2, .int k)] [.int (ro (m + 1))] S2 P
  refine xw.steps 2 (fun _ => rfl) ?_
  show xw z NK g 136 364 [(0, .ref (z + 52)), (1, .int 19), (2, .int k), (4, .int (ro (m + 1)))] [.ref (z + 52)] S2 P
  refine xw.callO (o := 52) rfl rfl rfl q522 rfl rfl (c_pop (n := m) hM2 (by omega) ?_)
  intro S3 hM3
  obtain ⟨q523, q533, q543, q553, q563, q573, q583, q593, qB3⟩ := id hM3
  show xw z NK g 136 367 [(0, .ref (z + 52)), (1, .int 19), (2, .int k), (4, .int (ro (m + 1)))] [.int (ro m)] S3 P
  refine xw.steps 3 (fun _ => rfl) ?_
  show xw z NK g 136 371 [(0, .ref (z + 52)), (1, .int 19), (2, .int k), (4, .int (ro (m + 1))), (3, .int (ro m))] [.int (ro (m + 1)), .int (ro m)] S3 P
  refine xw.callS rfl rfl rfl rfl rfl (c_wordOf ?_)
  show xw z NK g 136 374 [(0, .ref (z + 52)), (1, .int 19), (2, .int k), (4, .int (ro (m + 1))), (3, .int (ro m))] [.int (if m_hasW (m_ba (ro (m + 1)) (ro m)) = true then (m_ba (ro (m + 1)) (ro m)).toInt32 else -1)] S3 P
  obtain ⟨wa, ewa⟩ : ∃ wa, wa = (if m_hasW (m_ba (ro (m + 1)) (ro m)) = true then (m_ba (ro (m + 1)) (ro m)).toInt32 else -1) := ⟨_, rfl⟩
  rw [← ewa]
  show xw z NK g 136 374 [(0, .ref (z + 52)), (1, .int 19), (2, .int k), (4, .int (ro (m + 1))), (3, .int (ro m))] [.int wa] S3 P
  refine xw.steps 4 (fun _ => rfl) ?_
  refine xw.icmp rfl (fun c1 => ?_) (fun c1 => ?_)
  · have c1 := of_decide_eq_true c1
    refine xw.steps 1 (fun _ => rfl) ?_
    refine xw.getf (o := 52) rfl q523 rfl ?_
    refine xw.steps 1 (fun _ => rfl) ?_
    refine xw.ald (o := 56) rfl q563 ((by rw [(wa_yes ewa c1).2]; exact in_bound (N := 63) (m := 63) rfl (by omega) (ba_in (wa_yes ewa c1).1))) ?_
    refine xw.steps 8 (fun _ => rfl) ?_
    show xw z NK g 136 406 [(0, .ref (z + 52)), (1, .int 19), (2, .int k), (4, .int (ro (m + 1))), (3, .int (ro m)), (5, .int wa)] [.int (((wo wa.toNatClampNeg) >>> ((8 * ((ro (m + 1)) &&& 3)) &&& 31)) &&& 255), .ref (z + 52)] S3 P
    refine xw.callO (o := 52) rfl rfl rfl q523 rfl rfl (c_push (n := m) hM3 (by omega) ?_)
    intro S4 hM4
    obtain ⟨q524, q534, q544, q554, q564, q574, q584, q594, qB4⟩ := id hM4
    show xw z NK g 136 409 [(0, .ref (z + 52)), (1, .int 19), (2, .int k), (4, .int (ro (m + 1))), (3, .int (ro m)), (5, .int wa)] [] S4 P
    refine xw.steps 2 (fun _ => rfl) ?_
    refine xw.icmp rfl (fun c2 => ?_) (fun c2 => ?_)
    · have c2 := of_decide_eq_true c2
      refine xw.steps 1 (fun _ => rfl) ?_
      refine xw.ret rfl (fun _ => rfl) ?_
      show P (some (.int 0)) S4
      -- (some (.int 0)) 4 ['c1', 'c2']
      first
        | exact absurd c1 c2
        | exact absurd c2 c1
        | (obtain ⟨eh, ew⟩ := wa_yes ewa (by assumption)
           have eh2 : m_hasW (m_ba (ro (m + 1)) (ro m)).toInt32.toInt64 = true := by rw [hasW_iff]; exact ba_in eh
           refine hP.1 eh S4 ?_
           rw [m_fb, ← fb_eq, mVa, if_pos eh2, ← ew]
           exact hM4)
    · have c2 := Decidable.not_not.mp (of_decide_eq_false c2)
      refine xw.steps 2 (fun _ => rfl) ?_
      refine xw.ret rfl (fun _ => rfl) ?_
      show P (some (.int 2)) S4
      -- (some (.int 2)) 4 ['c1', 'c2']
      first
        | exact absurd c1 c2
        | exact absurd c2 c1
        | exact hP.2 (wa_no ewa (by assumption)) S4 hM4
  · have c1 := Decidable.not_not.mp (of_decide_eq_false c1)
    refine xw.steps 2 (fun _ => rfl) ?_
    show xw z NK g 136 406 [(0, .ref (z + 52)), (1, .int 19), (2, .int k), (4, .int (ro (m + 1))), (3, .int (ro m)), (5, .int wa)] [.int 0, .ref (z + 52)] S3 P
    refine xw.callO (o := 52) rfl rfl rfl q523 rfl rfl (c_push (n := m) hM3 (by omega) ?_)
    intro S4 hM4
    obtain ⟨q524, q534, q544, q554, q564, q574, q584, q594, qB4⟩ := id hM4
    show xw z NK g 136 409 [(0, .ref (z + 52)), (1, .int 19), (2, .int k), (4, .int (ro (m + 1))), (3, .int (ro m)), (5, .int wa)] [] S4 P
    refine xw.steps 2 (fun _ => rfl) ?_
    refine xw.icmp rfl (fun c3 => ?_) (fun c3 => ?_)
    · have c3 := of_decide_eq_true c3
      refine xw.steps 1 (fun _ => rfl) ?_
      refine xw.ret rfl (fun _ => rfl) ?_
      show P (some (.int 0)) S4
      -- (some (.int 0)) 4 ['c1', 'c3']
      first
        | exact absurd c1 c3
        | exact absurd c3 c1
        | (obtain ⟨eh, ew⟩ := wa_yes ewa (by assumption)
           have eh2 : m_hasW (m_ba (ro (m + 1)) (ro m)).toInt32.toInt64 = true := by rw [hasW_iff]; exact ba_in eh
           refine hP.1 eh S4 ?_
           rw [m_fb, ← fb_eq, mVa, if_pos eh2, ← ew]
           exact hM4)
    · have c3 := Decidable.not_not.mp (of_decide_eq_false c3)
      refine xw.steps 2 (fun _ => rfl) ?_
      refine xw.ret rfl (fun _ => rfl) ?_
      show P (some (.int 2)) S4
      -- (some (.int 2)) 4 ['c1', 'c3']
      first
        | exact absurd c1 c3
        | exact absurd c3 c1
        | exact hP.2 (wa_no ewa (by assumption)) S4 hM4
end MO8
