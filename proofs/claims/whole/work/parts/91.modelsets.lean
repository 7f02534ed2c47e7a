/-! THE REFERENCE: sets (walks by wip/gen91.py) -/
theorem ba_in {A : Int64} (h : m_hasW A = true) : decide (¬ A.toInt32 < 0 ∧ ¬ 63 < A.toInt32) = true := by
  rw [hasW_long] at h
  have h := of_decide_eq_true h
  rw [lg_cmp_lt, lg_cmp_gt, Int64.lt_iff_toInt_lt, Int64.lt_iff_toInt_lt] at h
  simp at h
  have e : A.toInt32.toInt = A.toInt := by
    rw [Int64.toInt_toInt32]
    exact Int.bmod_eq_of_le (by omega) (by omega)
  refine decide_eq_true ?_
  rw [Int32.lt_iff_toInt_lt, Int32.lt_iff_toInt_lt, e]
  simp
  omega
theorem wa_no {A : Int64} {wa : Int32} (e : wa = if m_hasW A = true then A.toInt32 else -1) (h : wa = -1) : m_hasW A = false := by
  cases hb : m_hasW A with
  | false => rfl
  | true =>
    rw [hb, if_pos rfl] at e
    have := of_decide_eq_true (ba_in hb)
    rw [← e, h] at this
    exact absurd this.1 (by decide)
theorem wa_yes {A : Int64} {wa : Int32} (e : wa = if m_hasW A = true then A.toInt32 else -1) (h : ¬ wa = -1) : m_hasW A = true ∧ wa = A.toInt32 := by
  cases hb : m_hasW A with
  | false => rw [hb] at e; exact absurd e h
  | true => rw [hb, if_pos rfl] at e; exact ⟨rfl, e⟩
section MO6
variable {Bk : xS} {z : Nat} {NK : List Nat} {g : mx_G} {S : xS} {P : Option Value → xS → Prop} {th sz va fu hg : Int32} {nu ag lo wo he go ro : Nat → Int32} {c : List II}
set_option maxHeartbeats 4000000 in
/-- RowCodeModel.sets()I -/
theorem c_sets {m : Nat} (hM : MO Bk z S th sz va fu (nI (m + 3)) nu ag lo wo he go ro) (hn : m + 3 ≤ 61) (hP : ∀ S', MO Bk z S' th sz va fu (nI m) nu ag lo (if m_hasW (m_ba (ro (m + 2)) (ro (m + 1))) = true then mV wo (m_ba (ro (m + 2)) (ro (m + 1))).toInt32 (m_sb wo (ro (m + 2)) (ro (m + 1)) (ro m)) else wo) he go ro → P (some (.int (if m_hasW (m_ba (ro (m + 2)) (ro (m + 1))) = true then 0 else 2))) S') : xw z NK g 137 0 [(0, .ref (z + 52))] [] S P := by
  obtain ⟨q52, q53, q54, q55, q56, q57, q58, q59, qB⟩ := id hM
  refine xw.steps 1 (fun _ => rfl) ?_
  show xw z NK g 137 1 [(0, .ref (z + 52))] [.ref (z + 52)] S P
  refine xw.callO (o := 52) rfl rfl rfl q52 rfl rfl (c_pop (n := m + 2) hM (by omega) ?_)
  intro S2 hM2
  obtain ⟨q522, q532, q542, q552, q562, q572, q582, q592, qB2⟩ := id hM2
  show xw z NK g 137 4 [(0, .ref (z + 52))] [.int (ro (m + 2))] S2 P
  refine xw.steps 2 (fun _ => rfl) ?_
  show xw z NK g 137 6 [(0, .ref (z + 52)), (1, .int (ro (m + 2)))] [.ref (z + 52)] S2 P
  refine xw.callO (o := 52) rfl rfl rfl q522 rfl rfl (c_pop (n := m + 1) hM2 (by omega) ?_)
  intro S3 hM3
  obtain ⟨q523, q533, q543, q553, q563, q573, q583, q593, qB3⟩ := id hM3
  show xw z NK g 137 9 [(0, .ref (z + 52)), (1, .int (ro (m + 2)))] [.int (ro (m + 1))] S3 P
  refine xw.steps 2 (fun _ => rfl) ?_
  show xw z NK g 137 11 [(0, .ref (z + 52)), (1, .int (ro (m + 2))), (2, .int (ro (m + 1)))] [.ref (z + 52)] S3 P
  refine xw.callO (o := 52) rfl rfl rfl q523 rfl rfl (c_pop (n := m) hM3 (by omega) ?_)
  intro S4 hM4
  obtain ⟨q524, q534, q544, q554, q564, q574, q584, q594, qB4⟩ := id hM4
  show xw z NK g 137 14 [(0, .ref (z + 52)), (1, .int (ro (m + 2))), (2, .int (ro (m + 1)))] [.int (ro m)] S4 P
  refine xw.steps 3 (fun _ => rfl) ?_
  show xw z NK g 137 17 [(0, .ref (z + 52)), (1, .int (ro (m + 2))), (2, .int (ro (m + 1))), (3, .int (ro m))] [.int (ro (m + 2)), .int (ro (m + 1))] S4 P
  refine xw.callS rfl rfl rfl rfl rfl (c_wordOf ?_)
  show xw z NK g 137 20 [(0, .ref (z + 52)), (1, .int (ro (m + 2))), (2, .int (ro (m + 1))), (3, .int (ro m))] [.int (if m_hasW (m_ba (ro (m + 2)) (ro (m + 1))) = true then (m_ba (ro (m + 2)) (ro (m + 1))).toInt32 else -1)] S4 P
  obtain ⟨wa, ewa⟩ : ∃ wa, wa = (if m_hasW (m_ba (ro (m + 2)) (ro (m + 1))) = true then (m_ba (ro (m + 2)) (ro (m + 1))).toInt32 else -1) := ⟨_, rfl⟩
  rw [← ewa]
  show xw z NK g 137 20 [(0, .ref (z + 52)), (1, .int (ro (m + 2))), (2, .int (ro (m + 1))), (3, .int (ro m))] [.int wa] S4 P
  refine xw.steps 3 (fun _ => rfl) ?_
  refine xw.icmp rfl (fun c1 => ?_) (fun c1 => ?_)
  · have c1 := of_decide_eq_true c1
    refine xw.steps 7 (fun _ => rfl) ?_
    refine xw.getf (o := 52) rfl q524 rfl ?_
    refine xw.steps 2 (fun _ => rfl) ?_
    refine xw.getf (o := 52) rfl q524 rfl ?_
    refine xw.steps 1 (fun _ => rfl) ?_
    refine xw.ald (o := 56) rfl q564 ((by rw [(wa_yes ewa c1).2]; exact in_bound (N := 63) rfl (by omega) (ba_in (wa_yes ewa c1).1))) ?_
    refine xw.steps 12 (fun _ => rfl) ?_
    refine xw.ast (o := 56) rfl q564 ((by rw [(wa_yes ewa c1).2]; exact in_bound (N := 63) rfl (by omega) (ba_in (wa_yes ewa c1).1))) ?_
    show xw z NK g 137 70 [(0, .ref (z + 52)), (1, .int (ro (m + 2))), (2, .int (ro (m + 1))), (3, .int (ro m)), (4, .int wa), (5, .int (8 * ((ro (m + 2)) &&& 3)))] [] (xu S4 56 (.inr (.inl (false, 64, (upd wo wa.toNatClampNeg (((wo wa.toNatClampNeg) &&& ((255 <<< ((8 * ((ro (m + 2)) &&& 3)) &&& 31)) ^^^ (-1))) ||| (((ro m) &&& 255) <<< ((8 * ((ro (m + 2)) &&& 3)) &&& 31)))))))) P
    refine xw.steps 1 (fun _ => rfl) ?_
    refine xw.ret rfl (fun _ => rfl) ?_
    show P (some (.int 0)) (xu S4 56 (.inr (.inl (false, 64, (upd wo wa.toNatClampNeg (((wo wa.toNatClampNeg) &&& ((255 <<< ((8 * ((ro (m + 2)) &&& 3)) &&& 31)) ^^^ (-1))) ||| (((ro m) &&& 255) <<< ((8 * ((ro (m + 2)) &&& 3)) &&& 31))))))))
    obtain ⟨eh, ew⟩ := wa_yes ewa c1
    have eh2 : m_hasW (m_ba (ro (m + 2)) (ro (m + 1))).toInt32.toInt64 = true := by rw [hasW_iff]; exact ba_in eh
    simp only [eh, if_true, mV, m_sb, mVa, eh2] at hP
    rw [ew]
    refine hP _ ⟨?_, ?_, ?_, ?_, ?_, ?_, ?_, ?_, ?_⟩
    all_goals first
      | (intro q hq; repeat rw [xu_ne _ _ (by omega)]
         exact qB4 q hq)
      | (simp only [xu]; simp; try assumption)
  · have c1 := Decidable.not_not.mp (of_decide_eq_false c1)
    refine xw.steps 1 (fun _ => rfl) ?_
    refine xw.ret rfl (fun _ => rfl) ?_
    show P (some (.int 2)) S4
    have eh := wa_no ewa c1
    simp only [eh, Bool.false_eq_true, if_false] at hP
    exact hP S4 hM4
end MO6
