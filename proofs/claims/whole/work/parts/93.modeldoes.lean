/-! THE REFERENCE: does, number by number (walks by wip/gen93.py) -/
section MO7
variable {Bk : xS} {z : Nat} {NK : List Nat} {g : mx_G} {S : xS} {P : Option Value → xS → Prop} {th sz va fu hg : Int32} {nu ag lo wo he go ro : Nat → Int32} {c : List II}
set_option maxRecDepth 8000 in
set_option maxHeartbeats 2000000 in
/-- RowCodeModel.does(II)I -/
theorem c_does0 {m : Nat} (hM : MO Bk z S th sz va fu (nI m) nu ag lo wo he go ro) {k : Int32} (hm : m < 61) (hP : ∀ S', MO Bk z S' th sz va fu (nI (m + 1)) nu ag lo wo he go (upd ro m k) → P (some (.int 0)) S') : xw z NK g 136 0 [(0, .ref (z + 52)), (1, .int 0), (2, .int k)] [] S P := by
  obtain ⟨q52, q53, q54, q55, q56, q57, q58, q59, qB⟩ := id hM
  refine xw.steps 1 (fun _ => rfl) ?_
  refine xw.steps 1 (pc' := 100) (fun _ => rfl) ?_
  refine xw.steps 2 (fun _ => rfl) ?_
  show xw z NK g 136 102 [(0, .ref (z + 52)), (1, .int 0), (2, .int k)] [.int k, .ref (z + 52)] S P
  refine xw.callO (o := 52) rfl rfl rfl q52 rfl rfl (c_push (n := m) hM (by omega) ?_)
  intro S2 hM2
  obtain ⟨q522, q532, q542, q552, q562, q572, q582, q592, qB2⟩ := id hM2
  show xw z NK g 136 105 [(0, .ref (z + 52)), (1, .int 0), (2, .int k)] [] S2 P
  refine xw.steps 1 (fun _ => rfl) ?_
  refine xw.ret rfl (fun _ => rfl) ?_
  show P (some (.int 0)) S2
  exact hP S2 hM2
set_option maxRecDepth 8000 in
set_option maxHeartbeats 2000000 in
/-- RowCodeModel.does(II)I -/
theorem c_does1 {m : Nat} (hM : MO Bk z S th sz va fu (nI m) nu ag lo wo he go ro) {k : Int32} (hm : m < 61) (hk : ¬ k < 0 ∧ k < 16) (hP : ∀ S', MO Bk z S' th sz va fu (nI (m + 1)) nu ag lo wo he go (upd ro m (lo k.toNatClampNeg)) → P (some (.int 0)) S') : xw z NK g 136 0 [(0, .ref (z + 52)), (1, .int 1), (2, .int k)] [] S P := by
  obtain ⟨q52, q53, q54, q55, q56, q57, q58, q59, qB⟩ := id hM
  refine xw.steps 1 (fun _ => rfl) ?_
  refine xw.steps 1 (pc' := 107) (fun _ => rfl) ?_
  refine xw.steps 2 (fun _ => rfl) ?_
  refine xw.getf (o := 52) rfl q52 rfl ?_
  refine xw.steps 1 (fun _ => rfl) ?_
  refine xw.ald (o := 55) rfl q55 (in_bound (N := 15) (m := 15) rfl (by omega) (by rw [← hasL_iff]; simpa [m_hasL] using hk)) ?_
  show xw z NK g 136 114 [(0, .ref (z + 52)), (1, .int 1), (2, .int k)] [.int (lo k.toNatClampNeg), .ref (z + 52)] S P
  refine xw.callO (o := 52) rfl rfl rfl q52 rfl rfl (c_push (n := m) hM (by omega) ?_)
  intro S2 hM2
  obtain ⟨q522, q532, q542, q552, q562, q572, q582, q592, qB2⟩ := id hM2
  show xw z NK g 136 117 [(0, .ref (z + 52)), (1, .int 1), (2, .int k)] [] S2 P
  refine xw.steps 1 (fun _ => rfl) ?_
  refine xw.ret rfl (fun _ => rfl) ?_
  show P (some (.int 0)) S2
  exact hP S2 hM2
set_option maxRecDepth 8000 in
set_option maxHeartbeats 2000000 in
/-- RowCodeModel.does(II)I -/
theorem c_does2 {m : Nat} (hM : MO Bk z S th sz va fu (nI (m + 1)) nu ag lo wo he go ro) {k : Int32} (hm : m < 61) (hk : ¬ k < 0 ∧ k < 16) (hP : ∀ S', MO Bk z S' th sz va fu (nI m) nu ag (upd lo k.toNatClampNeg (ro m)) wo he go ro → P (some (.int 0)) S') : xw z NK g 136 0 [(0, .ref (z + 52)), (1, .int 2), (2, .int k)] [] S P := by
  obtain ⟨q52, q53, q54, q55, q56, q57, q58, q59, qB⟩ := id hM
  refine xw.steps 1 (fun _ => rfl) ?_
  refine xw.steps 1 (pc' := 119) (fun _ => rfl) ?_
  refine xw.steps 1 (fun _ => rfl) ?_
  refine xw.getf (o := 52) rfl q52 rfl ?_
  refine xw.steps 2 (fun _ => rfl) ?_
  show xw z NK g 136 125 [(0, .ref (z + 52)), (1, .int 2), (2, .int k)] [.ref (z + 52), .int k, .ref (z + 55)] S P
  refine xw.callO (o := 52) rfl rfl rfl q52 rfl rfl (c_pop (n := m) hM (by omega) ?_)
  intro S2 hM2
  obtain ⟨q522, q532, q542, q552, q562, q572, q582, q592, qB2⟩ := id hM2
  show xw z NK g 136 128 [(0, .ref (z + 52)), (1, .int 2), (2, .int k)] [.int (ro m), .int k, .ref (z + 55)] S2 P
  refine xw.ast (o := 55) rfl q552 (in_bound (N := 15) (m := 15) rfl (by omega) (by rw [← hasL_iff]; simpa [m_hasL] using hk)) ?_
  show xw z NK g 136 129 [(0, .ref (z + 52)), (1, .int 2), (2, .int k)] [] (xu S2 55 (.inr (.inl (false, 16, (upd lo k.toNatClampNeg (ro m)))))) P
  refine xw.steps 1 (fun _ => rfl) ?_
  refine xw.ret rfl (fun _ => rfl) ?_
  show P (some (.int 0)) (xu S2 55 (.inr (.inl (false, 16, (upd lo k.toNatClampNeg (ro m))))))
  refine hP _ ⟨?_, ?_, ?_, ?_, ?_, ?_, ?_, ?_, ?_⟩
  all_goals first
    | (intro q hq; repeat rw [xu_ne _ _ (by omega)]
       exact qB2 q hq)
    | (simp only [xu]; simp; try assumption)
set_option maxRecDepth 8000 in
set_option maxHeartbeats 2000000 in
/-- RowCodeModel.does(II)I -/
theorem c_does5 {m : Nat} (hM : MO Bk z S th sz va fu (nI (m + 1)) nu ag lo wo he go ro) {k : Int32} (hm : m < 61) (hP : ∀ S', MO Bk z S' th sz va fu (nI (m + 1)) nu ag lo wo he go (upd ro m (-ro m)) → P (some (.int 0)) S') : xw z NK g 136 0 [(0, .ref (z + 52)), (1, .int 5), (2, .int k)] [] S P := by
  obtain ⟨q52, q53, q54, q55, q56, q57, q58, q59, qB⟩ := id hM
  refine xw.steps 1 (fun _ => rfl) ?_
  refine xw.steps 1 (pc' := 216) (fun _ => rfl) ?_
  refine xw.steps 2 (fun _ => rfl) ?_
  show xw z NK g 136 218 [(0, .ref (z + 52)), (1, .int 5), (2, .int k)] [.ref (z + 52), .ref (z + 52)] S P
  refine xw.callO (o := 52) rfl rfl rfl q52 rfl rfl (c_pop (n := m) hM (by omega) ?_)
  intro S2 hM2
  obtain ⟨q522, q532, q542, q552, q562, q572, q582, q592, qB2⟩ := id hM2
  show xw z NK g 136 221 [(0, .ref (z + 52)), (1, .int 5), (2, .int k)] [.int (ro m), .ref (z + 52)] S2 P
  refine xw.steps 1 (fun _ => rfl) ?_
  show xw z NK g 136 222 [(0, .ref (z + 52)), (1, .int 5), (2, .int k)] [.int (-(ro m)), .ref (z + 52)] S2 P
  refine xw.callO (o := 52) rfl rfl rfl q522 rfl rfl (c_push (n := m) hM2 (by omega) ?_)
  intro S3 hM3
  obtain ⟨q523, q533, q543, q553, q563, q573, q583, q593, qB3⟩ := id hM3
  show xw z NK g 136 225 [(0, .ref (z + 52)), (1, .int 5), (2, .int k)] [] S3 P
  refine xw.steps 1 (fun _ => rfl) ?_
  refine xw.ret rfl (fun _ => rfl) ?_
  show P (some (.int 0)) S3
  exact hP S3 hM3
set_option maxRecDepth 8000 in
set_option maxHeartbeats 2000000 in
/-- RowCodeModel.does(II)I -/
theorem c_does6 {m : Nat} (hM : MO Bk z S th sz va fu (nI (m + 1)) nu ag lo wo he go ro) {k : Int32} (hm : m < 61) (hP : ∀ S', MO Bk z S' th sz va fu (nI (m + 1)) nu ag lo wo he go (upd ro m (ro m ^^^ (-1))) → P (some (.int 0)) S') : xw z NK g 136 0 [(0, .ref (z + 52)), (1, .int 6), (2, .int k)] [] S P := by
  obtain ⟨q52, q53, q54, q55, q56, q57, q58, q59, qB⟩ := id hM
  refine xw.steps 1 (fun _ => rfl) ?_
  refine xw.steps 1 (pc' := 227) (fun _ => rfl) ?_
  refine xw.steps 2 (fun _ => rfl) ?_
  show xw z NK g 136 229 [(0, .ref (z + 52)), (1, .int 6), (2, .int k)] [.ref (z + 52), .ref (z + 52)] S P
  refine xw.callO (o := 52) rfl rfl rfl q52 rfl rfl (c_pop (n := m) hM (by omega) ?_)
  intro S2 hM2
  obtain ⟨q522, q532, q542, q552, q562, q572, q582, q592, qB2⟩ := id hM2
  show xw z NK g 136 232 [(0, .ref (z + 52)), (1, .int 6), (2, .int k)] [.int (ro m), .ref (z + 52)] S2 P
  refine xw.steps 2 (fun _ => rfl) ?_
  show xw z NK g 136 234 [(0, .ref (z + 52)), (1, .int 6), (2, .int k)] [.int ((ro m) ^^^ (-1)), .ref (z + 52)] S2 P
  refine xw.callO (o := 52) rfl rfl rfl q522 rfl rfl (c_push (n := m) hM2 (by omega) ?_)
  intro S3 hM3
  obtain ⟨q523, q533, q543, q553, q563, q573, q583, q593, qB3⟩ := id hM3
  show xw z NK g 136 237 [(0, .ref (z + 52)), (1, .int 6), (2, .int k)] [] S3 P
  refine xw.steps 1 (fun _ => rfl) ?_
  refine xw.ret rfl (fun _ => rfl) ?_
  show P (some (.int 0)) S3
  exact hP S3 hM3
set_option maxRecDepth 8000 in
set_option maxHeartbeats 2000000 in
/-- RowCodeModel.does(II)I -/
theorem c_does14 {m : Nat} (hM : MO Bk z S th sz va fu (nI (m + 1)) nu ag lo wo he go ro) {k : Int32} (hm : m < 61) (hP : ∀ S', MO Bk z S' th sz va fu (nI m) nu ag lo wo he go ro → P (some (.int 0)) S') : xw z NK g 136 0 [(0, .ref (z + 52)), (1, .int 14), (2, .int k)] [] S P := by
  obtain ⟨q52, q53, q54, q55, q56, q57, q58, q59, qB⟩ := id hM
  refine xw.steps 1 (fun _ => rfl) ?_
  refine xw.steps 1 (pc' := 350) (fun _ => rfl) ?_
  refine xw.steps 1 (fun _ => rfl) ?_
  show xw z NK g 136 351 [(0, .ref (z + 52)), (1, .int 14), (2, .int k)] [.ref (z + 52)] S P
  refine xw.callO (o := 52) rfl rfl rfl q52 rfl rfl (c_pop (n := m) hM (by omega) ?_)
  intro S2 hM2
  obtain ⟨q522, q532, q542, q552, q562, q572, q582, q592, qB2⟩ := id hM2
  show xw z NK g 136 354 [(0, .ref (z + 52)), (1, .int 14), (2, .int k)] [.int (ro m)] S2 P
  refine xw.steps 2 (fun _ => rfl) ?_
  refine xw.ret rfl (fun _ => rfl) ?_
  show P (some (.int 0)) S2
  exact hP S2 hM2
set_option maxRecDepth 8000 in
set_option maxHeartbeats 2000000 in
/-- RowCodeModel.does(II)I -/
theorem c_does8 {m : Nat} (hM : MO Bk z S th sz va fu (nI (m + 2)) nu ag lo wo he go ro) {k : Int32} (hm : m + 2 ≤ 61) (hP : ∀ S', MO Bk z S' th sz va fu (nI (m + 1)) nu ag lo wo he go (upd ro m (a_compare k (ro m) (ro (m + 1)))) → P (some (.int 0)) S') : xw z NK g 136 0 [(0, .ref (z + 52)), (1, .int 8), (2, .int k)] [] S P := by
  obtain ⟨q52, q53, q54, q55, q56, q57, q58, q59, qB⟩ := id hM
  refine xw.steps 1 (fun _ => rfl) ?_
  refine xw.steps 1 (pc' := 280) (fun _ => rfl) ?_
  refine xw.steps 1 (fun _ => rfl) ?_
  show xw z NK g 136 281 [(0, .ref (z + 52)), (1, .int 8), (2, .int k)] [.ref (z + 52)] S P
  refine xw.callO (o := 52) rfl rfl rfl q52 rfl rfl (c_pop (n := m + 1) hM (by omega) ?_)
  intro S2 hM2
  obtain ⟨q522, q532, q542, q552, q562, q572, q582, q592, qB2⟩ := id hM2
  show xw z NK g 136 284 [(0, .ref (z + 52)), (1, .int 8), (2, .int k)] [.int (ro (m + 1))] S2 P
  refine xw.steps 2 (fun _ => rfl) ?_
  show xw z NK g 136 287 [(0, .ref (z + 52)), (1, .int 8), (2, .int k), (4, .int (ro (m + 1)))] [.ref (z + 52)] S2 P
  refine xw.callO (o := 52) rfl rfl rfl q522 rfl rfl (c_pop (n := m) hM2 (by omega) ?_)
  intro S3 hM3
  obtain ⟨q523, q533, q543, q553, q563, q573, q583, q593, qB3⟩ := id hM3
  show xw z NK g 136 290 [(0, .ref (z + 52)), (1, .int 8), (2, .int k), (4, .int (ro (m + 1)))] [.int (ro m)] S3 P
  refine xw.steps 5 (fun _ => rfl) ?_
  show xw z NK g 136 296 [(0, .ref (z + 52)), (1, .int 8), (2, .int k), (4, .int (ro (m + 1))), (3, .int (ro m))] [.int (ro (m + 1)), .int (ro m), .int k, .ref (z + 52)] S3 P
  refine xw.callS rfl rfl rfl rfl rfl (c_compares ?_)
  show xw z NK g 136 299 [(0, .ref (z + 52)), (1, .int 8), (2, .int k), (4, .int (ro (m + 1))), (3, .int (ro m))] [.int (bI (a_holds k (ro m) (ro (m + 1)))), .ref (z + 52)] S3 P
  refine xw.if_ rfl (fun c1 => ?_) (fun c1 => ?_)
  · have c1 := bI_eq0 (of_decide_eq_true c1)
    refine xw.steps 1 (fun _ => rfl) ?_
    show xw z NK g 136 307 [(0, .ref (z + 52)), (1, .int 8), (2, .int k), (4, .int (ro (m + 1))), (3, .int (ro m))] [.int 0, .ref (z + 52)] S3 P
    refine xw.callO (o := 52) rfl rfl rfl q523 rfl rfl (c_push (n := m) hM3 (by omega) ?_)
    intro S4 hM4
    obtain ⟨q524, q534, q544, q554, q564, q574, q584, q594, qB4⟩ := id hM4
    show xw z NK g 136 310 [(0, .ref (z + 52)), (1, .int 8), (2, .int k), (4, .int (ro (m + 1))), (3, .int (ro m))] [] S4 P
    refine xw.steps 1 (fun _ => rfl) ?_
    refine xw.ret rfl (fun _ => rfl) ?_
    show P (some (.int 0)) S4
    simp only [a_compare, c1, if_true, if_false, Bool.false_eq_true] at hP
    exact hP S4 hM4
  · have c1 := bI_ne0 (of_decide_eq_false c1)
    refine xw.steps 2 (fun _ => rfl) ?_
    show xw z NK g 136 307 [(0, .ref (z + 52)), (1, .int 8), (2, .int k), (4, .int (ro (m + 1))), (3, .int (ro m))] [.int (-1), .ref (z + 52)] S3 P
    refine xw.callO (o := 52) rfl rfl rfl q523 rfl rfl (c_push (n := m) hM3 (by omega) ?_)
    intro S4 hM4
    obtain ⟨q524, q534, q544, q554, q564, q574, q584, q594, qB4⟩ := id hM4
    show xw z NK g 136 310 [(0, .ref (z + 52)), (1, .int 8), (2, .int k), (4, .int (ro (m + 1))), (3, .int (ro m))] [] S4 P
    refine xw.steps 1 (fun _ => rfl) ?_
    refine xw.ret rfl (fun _ => rfl) ?_
    show P (some (.int 0)) S4
    simp only [a_compare, c1, if_true, if_false, Bool.false_eq_true] at hP
    exact hP S4 hM4
set_option maxRecDepth 8000 in
set_option maxHeartbeats 2000000 in
/-- RowCodeModel.does(II)I -/
theorem c_does9 {m : Nat} (hM : MO Bk z S th sz va fu (nI (m + 2)) nu ag lo wo he go ro) {k : Int32} (hm : m + 2 ≤ 61) (hP : ∀ S', MO Bk z S' th sz va fu (nI (m + 2)) nu ag lo wo he go (upd (upd ro m (ro (m + 1))) (m + 1) (a_compare k (ro m) (ro (m + 1)))) → P (some (.int 0)) S') : xw z NK g 136 0 [(0, .ref (z + 52)), (1, .int 9), (2, .int k)] [] S P := by
  obtain ⟨q52, q53, q54, q55, q56, q57, q58, q59, qB⟩ := id hM
  refine xw.steps 1 (fun _ => rfl) ?_
  refine xw.steps 1 (pc' := 312) (fun _ => rfl) ?_
  refine xw.steps 1 (fun _ => rfl) ?_
  show xw z NK g 136 313 [(0, .ref (z + 52)), (1, .int 9), (2, .int k)] [.ref (z + 52)] S P
  refine xw.callO (o := 52) rfl rfl rfl q52 rfl rfl (c_pop (n := m + 1) hM (by omega) ?_)
  intro S2 hM2
  obtain ⟨q522, q532, q542, q552, q562, q572, q582, q592, qB2⟩ := id hM2
  show xw z NK g 136 316 [(0, .ref (z + 52)), (1, .int 9), (2, .int k)] [.int (ro (m + 1))] S2 P
  refine xw.steps 2 (fun _ => rfl) ?_
  show xw z NK g 136 319 [(0, .ref (z + 52)), (1, .int 9), (2, .int k), (4, .int (ro (m + 1)))] [.ref (z + 52)] S2 P
  refine xw.callO (o := 52) rfl rfl rfl q522 rfl rfl (c_pop (n := m) hM2 (by omega) ?_)
  intro S3 hM3
  obtain ⟨q523, q533, q543, q553, q563, q573, q583, q593, qB3⟩ := id hM3
  show xw z NK g 136 322 [(0, .ref (z + 52)), (1, .int 9), (2, .int k), (4, .int (ro (m + 1)))] [.int (ro m)] S3 P
  refine xw.steps 3 (fun _ => rfl) ?_
  show xw z NK g 136 326 [(0, .ref (z + 52)), (1, .int 9), (2, .int k), (4, .int (ro (m + 1))), (3, .int (ro m))] [.int (ro (m + 1)), .ref (z + 52)] S3 P
  refine xw.callO (o := 52) rfl rfl rfl q523 rfl rfl (c_push (n := m) hM3 (by omega) ?_)
  intro S4 hM4
  obtain ⟨q524, q534, q544, q554, q564, q574, q584, q594, qB4⟩ := id hM4
  show xw z NK g 136 329 [(0, .ref (z + 52)), (1, .int 9), (2, .int k), (4, .int (ro (m + 1))), (3, .int (ro m))] [] S4 P
  refine xw.steps 4 (fun _ => rfl) ?_
  show xw z NK g 136 334 [(0, .ref (z + 52)), (1, .int 9), (2, .int k), (4, .int (ro (m + 1))), (3, .int (ro m))] [.int (ro (m + 1)), .int (ro m), .int k, .ref (z + 52)] S4 P
  refine xw.callS rfl rfl rfl rfl rfl (c_compares ?_)
  show xw z NK g 136 337 [(0, .ref (z + 52)), (1, .int 9), (2, .int k), (4, .int (ro (m + 1))), (3, .int (ro m))] [.int (bI (a_holds k (ro m) (ro (m + 1)))), .ref (z + 52)] S4 P
  refine xw.if_ rfl (fun c1 => ?_) (fun c1 => ?_)
  · have c1 := bI_eq0 (of_decide_eq_true c1)
    refine xw.steps 1 (fun _ => rfl) ?_
    show xw z NK g 136 345 [(0, .ref (z + 52)), (1, .int 9), (2, .int k), (4, .int (ro (m + 1))), (3, .int (ro m))] [.int 0, .ref (z + 52)] S4 P
    refine xw.callO (o := 52) rfl rfl rfl q524 rfl rfl (c_push (n := m + 1) hM4 (by omega) ?_)
    intro S5 hM5
    obtain ⟨q525, q535, q545, q555, q565, q575, q585, q595, qB5⟩ := id hM5
    show xw z NK g 136 348 [(0, .ref (z + 52)), (1, .int 9), (2, .int k), (4, .int (ro (m + 1))), (3, .int (ro m))] [] S5 P
    refine xw.steps 1 (fun _ => rfl) ?_
    refine xw.ret rfl (fun _ => rfl) ?_
    show P (some (.int 0)) S5
    simp only [a_compare, c1, if_true, if_false, Bool.false_eq_true] at hP
    exact hP S5 hM5
  · have c1 := bI_ne0 (of_decide_eq_false c1)
    refine xw.steps 2 (fun _ => rfl) ?_
    show xw z NK g 136 345 [(0, .ref (z + 52)), (1, .int 9), (2, .int k), (4, .int (ro (m + 1))), (3, .int (ro m))] [.int (-1), .ref (z + 52)] S4 P
    refine xw.callO (o := 52) rfl rfl rfl q524 rfl rfl (c_push (n := m + 1) hM4 (by omega) ?_)
    intro S5 hM5
    obtain ⟨q525, q535, q545, q555, q565, q575, q585, q595, qB5⟩ := id hM5
    show xw z NK g 136 348 [(0, .ref (z + 52)), (1, .int 9), (2, .int k), (4, .int (ro (m + 1))), (3, .int (ro m))] [] S5 P
    refine xw.steps 1 (fun _ => rfl) ?_
    refine xw.ret rfl (fun _ => rfl) ?_
    show P (some (.int 0)) S5
    simp only [a_compare, c1, if_true, if_false, Bool.false_eq_true] at hP
    exact hP S5 hM5
set_option maxRecDepth 8000 in
set_option maxHeartbeats 2000000 in
/-- RowCodeModel.does(II)I -/
theorem c_does10 {m : Nat} (hM : MO Bk z S th sz va fu (nI m) nu ag lo wo he go ro) {k : Int32}  (hP : P (some (.int 0)) S) : xw z NK g 136 0 [(0, .ref (z + 52)), (1, .int 10), (2, .int k)] [] S P := by
  obtain ⟨q52, q53, q54, q55, q56, q57, q58, q59, qB⟩ := id hM
  refine xw.steps 1 (fun _ => rfl) ?_
  refine xw.steps 1 (pc' := 426) (fun _ => rfl) ?_
  refine xw.steps 1 (fun _ => rfl) ?_
  refine xw.ret rfl (fun _ => rfl) ?_
  show P (some (.int 0)) S
  exact hP
set_option maxRecDepth 8000 in
set_option maxHeartbeats 2000000 in
/-- RowCodeModel.does(II)I -/
theorem c_does11 {m : Nat} (hM : MO Bk z S th sz va fu (nI m) nu ag lo wo he go ro) {k : Int32}  (hP : P (some (.int 0)) S) : xw z NK g 136 0 [(0, .ref (z + 52)), (1, .int 11), (2, .int k)] [] S P := by
  obtain ⟨q52, q53, q54, q55, q56, q57, q58, q59, qB⟩ := id hM
  refine xw.steps 1 (fun _ => rfl) ?_
  refine xw.steps 1 (pc' := 426) (fun _ => rfl) ?_
  refine xw.steps 1 (fun _ => rfl) ?_
  refine xw.ret rfl (fun _ => rfl) ?_
  show P (some (.int 0)) S
  exact hP
set_option maxRecDepth 8000 in
set_option maxHeartbeats 2000000 in
/-- RowCodeModel.does(II)I -/
theorem c_does12 {m : Nat} (hM : MO Bk z S th sz va fu (nI m) nu ag lo wo he go ro) {k : Int32}  (hP : P (some (.int 0)) S) : xw z NK g 136 0 [(0, .ref (z + 52)), (1, .int 12), (2, .int k)] [] S P := by
  obtain ⟨q52, q53, q54, q55, q56, q57, q58, q59, qB⟩ := id hM
  refine xw.steps 1 (fun _ => rfl) ?_
  refine xw.steps 1 (pc' := 426) (fun _ => rfl) ?_
  refine xw.steps 1 (fun _ => rfl) ?_
  refine xw.ret rfl (fun _ => rfl) ?_
  show P (some (.int 0)) S
  exact hP
set_option maxRecDepth 8000 in
set_option maxHeartbeats 2000000 in
/-- RowCodeModel.does(II)I -/
theorem c_does13 {m : Nat} (hM : MO Bk z S th sz va fu (nI m) nu ag lo wo he go ro) {k : Int32}  (hP : P (some (.int 0)) S) : xw z NK g 136 0 [(0, .ref (z + 52)), (1, .int 13), (2, .int k)] [] S P := by
  obtain ⟨q52, q53, q54, q55, q56, q57, q58, q59, qB⟩ := id hM
  refine xw.steps 1 (fun _ => rfl) ?_
  refine xw.steps 1 (pc' := 426) (fun _ => rfl) ?_
  refine xw.steps 1 (fun _ => rfl) ?_
  refine xw.ret rfl (fun _ => rfl) ?_
  show P (some (.int 0)) S
  exact hP
set_option maxRecDepth 8000 in
set_option maxHeartbeats 2000000 in
/-- RowCodeModel.does(II)I -/
theorem c_does15 {m : Nat} (hM : MO Bk z S th sz va fu (nI m) nu ag lo wo he go ro) {k : Int32}  (hP : P (some (.int 0)) S) : xw z NK g 136 0 [(0, .ref (z + 52)), (1, .int 15), (2, .int k)] [] S P := by
  obtain ⟨q52, q53, q54, q55, q56, q57, q58, q59, qB⟩ := id hM
  refine xw.steps 1 (fun _ => rfl) ?_
  refine xw.steps 1 (pc' := 426) (fun _ => rfl) ?_
  refine xw.steps 1 (fun _ => rfl) ?_
  refine xw.ret rfl (fun _ => rfl) ?_
  show P (some (.int 0)) S
  exact hP
set_option maxRecDepth 8000 in
set_option maxHeartbeats 2000000 in
/-- RowCodeModel.does(II)I -/
theorem c_does18 {m : Nat} (hM : MO Bk z S th sz va fu (nI m) nu ag lo wo he go ro) {k : Int32}  (hP : P (some (.int 0)) S) : xw z NK g 136 0 [(0, .ref (z + 52)), (1, .int 18), (2, .int k)] [] S P := by
  obtain ⟨q52, q53, q54, q55, q56, q57, q58, q59, qB⟩ := id hM
  refine xw.steps 1 (fun _ => rfl) ?_
  refine xw.steps 1 (pc' := 426) (fun _ => rfl) ?_
  refine xw.steps 1 (fun _ => rfl) ?_
  refine xw.ret rfl (fun _ => rfl) ?_
  show P (some (.int 0)) S
  exact hP
set_option maxRecDepth 8000 in
set_option maxHeartbeats 2000000 in
/-- RowCodeModel.does(II)I -/
theorem c_does20 {m : Nat} (hM : MO Bk z S th sz va fu (nI (m + 3)) nu ag lo wo he go ro) {k : Int32} (hm : m + 3 ≤ 61) (hP : ∀ S', MO Bk z S' th sz va fu (nI m) nu ag lo (if m_hasW (m_ba (ro (m + 2)) (ro (m + 1))) = true then mV wo (m_ba (ro (m + 2)) (ro (m + 1))).toInt32 (m_sb wo (ro (m + 2)) (ro (m + 1)) (ro m)) else wo) he go ro → P (some (.int (if m_hasW (m_ba (ro (m + 2)) (ro (m + 1))) = true then 0 else 2))) S') : xw z NK g 136 0 [(0, .ref (z + 52)), (1, .int 20), (2, .int k)] [] S P := by
  obtain ⟨q52, q53, q54, q55, q56, q57, q58, q59, qB⟩ := id hM
  refine xw.steps 1 (fun _ => rfl) ?_
  refine xw.steps 1 (pc' := 421) (fun _ => rfl) ?_
  refine xw.steps 1 (fun _ => rfl) ?_
  show xw z NK g 136 422 [(0, .ref (z + 52)), (1, .int 20), (2, .int k)] [.ref (z + 52)] S P
  refine xw.callO (o := 52) rfl rfl rfl q52 rfl rfl (c_sets hM (by omega) ?_)
  intro S2 hM2
  show xw z NK g 136 425 [(0, .ref (z + 52)), (1, .int 20), (2, .int k)] [.int (if m_hasW (m_ba (ro (m + 2)) (ro (m + 1))) = true then 0 else 2)] S2 P
  refine xw.ret rfl (fun _ => rfl) ?_
  show P (some (.int (if m_hasW (m_ba (ro (m + 2)) (ro (m + 1))) = true then 0 else 2))) S2
  exact hP S2 hM2
end MO7
