/-! MACHINE: fetchByte .. work (walks by wip/gen32.py) -/
def m_fb (V : Nat → Int32) (a b : Int32) : Int32 := ((mVa V (m_ba a b).toInt32).toUInt32 >>> ((8 * (a &&& 3)).toUInt32 &&& Int32.toUInt32 31)).toInt32 &&& 255
def m_sb (V : Nat → Int32) (a b v : Int32) : Int32 := (mVa V (m_ba a b).toInt32 &&& ((255 <<< ((8 * (a &&& 3)) &&& 31)) ^^^ (-1))) ||| ((v &&& 255) <<< ((8 * (a &&& 3)) &&& 31))
def m_move : MM → Int32 → Int32 → MM
  | (sl, a, b, pq, sa, ev, fl, L, V), n, k => if n = 1 then (sl, k, a, pq, sa, ev, fl, L, V) else if n = 2 then (sl, mLa L k, a, pq, sa, ev, fl, L, V) else if n = 3 then (sl, nAt sl k, a, pq, sa, ev, fl, L, V) else if n = 4 then (nSet sl k a, a, b, pq, sa, ev, fl, L, V) else if n = 5 then (nSet sl k b, a, b, pq, sa, ev, fl, L, V) else if n = 6 then (sl, b, a, pq, sa, ev, fl, L, V) else (sl, a, b, pq, sa, ev, fl, L, V)
def m_jumps (n a b : Int32) : Bool := if n = 20 then true else if n = 21 then decide (a = 0) else if n = 22 then decide (¬ a = 0) else a_holds (n - 23) b a
def m_work : MM → Int32 → Int32 → MM
  | (sl, a, b, pq, sa, ev, fl, L, V), n, k =>
    if n = 7 then (sl, a, b, pq, sa, ev, fl, mL L k a, V) else if n = 8 then (sl, (if m_hasW a.toInt64 = true then mVa V a else a), b, pq, (if m_hasW a.toInt64 = true then sa else 2), ev, fl, L, V)
    else if n = 9 then (sl, a, b, pq, (if m_hasW a.toInt64 = true then sa else 2), ev, fl, L, (if m_hasW a.toInt64 = true then mV V a b else V)) else if n = 10 then (sl, -a, b, pq, sa, ev, fl, L, V) else if n = 11 then (sl, a ^^^ (-1), b, pq, sa, ev, fl, L, V)
    else if n = 12 then (sl, (if a = 0 ∧ a_divides k = true then a else a_calc k b a), b, pq, (if a = 0 ∧ a_divides k = true then 3 else sa), ev, fl, L, V)
    else if n = 13 then (sl, a_compare k b a, b, pq, sa, ev, fl, L, V) else if n = 14 then (sl, (a_compare k b a), a, pq, sa, ev, fl, L, V)
    else if n = 15 then (sl, (if m_hasW (m_ba a b) = true then m_fb V a b else a), b, pq, (if m_hasW (m_ba a b) = true then sa else 2), ev, fl, L, V)
    else if n = 16 then (sl, a, b, pq, (if m_hasW (m_ba a b) = true then sa else 2), ev, fl, L, (if m_hasW (m_ba a b) = true then mV V (m_ba a b).toInt32 (m_sb V a b (nAt sl k)) else V))
    else if n = 17 then (sl, a, b, pq, (if fl = 0 then 1 else sa), ev, (if fl = 0 then fl else fl - 1), L, V) else if n = 18 then (sl, a, b, pq, 0, a, fl, L, V) else if n = 19 then (sl, a, b, pq, 4, ev, fl, L, V) else (sl, a, b, pq, sa, ev, fl, L, V)
section XM2
variable {z : Nat} {NK : List Nat} {g : mx_G} {S : xS} {P : Option Value → xS → Prop} {sl : List Int32} {a b pq sa ev fl : Int32} {L V : Nat → Int32}
set_option maxHeartbeats 2000000 in
/-- RowCode$Machine.fetchByte()V -/
theorem c_fetchByte (h44 : S 44 = some (.inr (.inr (5, [.ref (z + 45), .ref (z + 46)])))) (hP : P none (mput z S (sl, (if m_hasW (m_ba a b) = true then m_fb V a b else a), b, pq, (if m_hasW (m_ba a b) = true then sa else 2), ev, fl, L, V))) : xw z NK g 51 0 [(0, .ref (z + 47))] [] (mput z S (sl, a, b, pq, sa, ev, fl, L, V)) P := by
  refine xw.steps 2 (fun _ => rfl) ?_
  show xw z NK g 51 2 [(0, .ref (z + 47))] [.ref (z + 47), .ref (z + 47)] (mput z S (sl, a, b, pq, sa, ev, fl, L, V)) P
  refine xw.callO (o := 47) rfl rfl rfl (mput_47 _ _ _) rfl rfl (c_byteAddress ?_)
  show xw z NK g 51 5 [(0, .ref (z + 47))] [.long (m_ba a b), .ref (z + 47)] (mput z S (sl, a, b, pq, sa, ev, fl, L, V)) P
  show xw z NK g 51 5 [(0, .ref (z + 47))] [.long (m_ba a b), .ref (z + 47)] (mput z S (sl, a, b, pq, sa, ev, fl, L, V)) P
  refine xw.callO (o := 47) rfl rfl rfl (mput_47 _ _ _) rfl rfl (c_reaches ?_)
  show xw z NK g 51 8 [(0, .ref (z + 47))] [.int (bI (m_hasW (m_ba a b)))] (mput z S (sl, a, b, pq, (if m_hasW (m_ba a b) = true then sa else 2), ev, fl, L, V)) P
  refine xw.if_ rfl (fun c1 => ?_) (fun c1 => ?_)
  · have c1 := bI_eq0 (of_decide_eq_true c1)
    refine xw.ret rfl (fun _ => rfl) ?_
    show P none (mput z S (sl, a, b, pq, (if m_hasW (m_ba a b) = true then sa else 2), ev, fl, L, V))
    unfold m_fb at hP
    simp only [c1, if_true, Bool.false_eq_true, if_false] at hP ⊢
    exact hP
  · have c1 := bI_ne0 (of_decide_eq_false c1)
    refine xw.steps 1 (fun _ => rfl) ?_
    refine xw.getf (o := 47) rfl (mput_47 _ _ _) rfl ?_
    refine xw.steps 1 (fun _ => rfl) ?_
    show xw z NK g 51 16 [(0, .ref (z + 47))] [.ref (z + 47), .ref (z + 44)] (mput z S (sl, a, b, pq, (if m_hasW (m_ba a b) = true then sa else 2), ev, fl, L, V)) P
    refine xw.callO (o := 47) rfl rfl rfl (mput_47 _ _ _) rfl rfl (c_byteAddress ?_)
    show xw z NK g 51 19 [(0, .ref (z + 47))] [.long (m_ba a b), .ref (z + 44)] (mput z S (sl, a, b, pq, (if m_hasW (m_ba a b) = true then sa else 2), ev, fl, L, V)) P
    refine xw.steps 1 (fun _ => rfl) ?_
    show xw z NK g 51 20 [(0, .ref (z + 47))] [.int (m_ba a b).toInt32, .ref (z + 44)] (mput z S (sl, a, b, pq, (if m_hasW (m_ba a b) = true then sa else 2), ev, fl, L, V)) P
    refine xw.callO (o := 44) rfl rfl rfl ((mput_ne _ _ _ (by decide)).trans h44) rfl rfl (c_wordAt ((mput_ne _ _ _ (by decide)).trans h44) (mput_45 _ _ _) (mput_46 _ _ _) ?_)
    show xw z NK g 51 23 [(0, .ref (z + 47))] [.int (mVa V (m_ba a b).toInt32)] (mput z S (sl, a, b, pq, (if m_hasW (m_ba a b) = true then sa else 2), ev, fl, L, V)) P
    refine xw.steps 5 (fun _ => rfl) ?_
    refine xw.getf (o := 47) rfl (mput_47 _ _ _) rfl ?_
    refine xw.steps 6 (fun _ => rfl) ?_
    refine xw.putf (o := 47) (fs' := [.ref (z + 44), .ref (z + 48), .int ((((mVa V (m_ba a b).toInt32).toUInt32 >>> ((8 * (a &&& 3)).toUInt32 &&& Int32.toUInt32 31)).toInt32) &&& 255), .int b, .int pq, .int (if m_hasW (m_ba a b) = true then sa else 2), .int ev, .int fl]) rfl (mput_47 _ _ _) (Nat.le_of_ble_eq_true rfl) rfl rfl rfl ?_
    show xw z NK g 51 43 [(0, .ref (z + 47)), (1, .int (mVa V (m_ba a b).toInt32))] [] (xu (mput z S (sl, a, b, pq, (if m_hasW (m_ba a b) = true then sa else 2), ev, fl, L, V)) 47 (.inr (.inr (4, [.ref (z + 44), .ref (z + 48), .int ((((mVa V (m_ba a b).toInt32).toUInt32 >>> ((8 * (a &&& 3)).toUInt32 &&& Int32.toUInt32 31)).toInt32) &&& 255), .int b, .int pq, .int (if m_hasW (m_ba a b) = true then sa else 2), .int ev, .int fl])))) P
    rw [mput_s47]
    refine xw.ret rfl (fun _ => rfl) ?_
    show P none (mput z S (sl, ((((mVa V (m_ba a b).toInt32).toUInt32 >>> ((8 * (a &&& 3)).toUInt32 &&& Int32.toUInt32 31)).toInt32) &&& 255), b, pq, (if m_hasW (m_ba a b) = true then sa else 2), ev, fl, L, V))
    unfold m_fb at hP
    simp only [c1, if_true, Bool.false_eq_true, if_false] at hP ⊢
    exact hP
set_option maxHeartbeats 2000000 in
/-- RowCode$Machine.storeByte(I)V -/
theorem c_mstoreByte (h44 : S 44 = some (.inr (.inr (5, [.ref (z + 45), .ref (z + 46)])))) {v : Int32} (hP : P none (mput z S (sl, a, b, pq, (if m_hasW (m_ba a b) = true then sa else 2), ev, fl, L, (if m_hasW (m_ba a b) = true then mV V (m_ba a b).toInt32 (m_sb V a b v) else V)))) : xw z NK g 52 0 [(0, .ref (z + 47)), (1, .int v)] [] (mput z S (sl, a, b, pq, sa, ev, fl, L, V)) P := by
  refine xw.steps 2 (fun _ => rfl) ?_
  show xw z NK g 52 2 [(0, .ref (z + 47)), (1, .int v)] [.ref (z + 47), .ref (z + 47)] (mput z S (sl, a, b, pq, sa, ev, fl, L, V)) P
  refine xw.callO (o := 47) rfl rfl rfl (mput_47 _ _ _) rfl rfl (c_byteAddress ?_)
  show xw z NK g 52 5 [(0, .ref (z + 47)), (1, .int v)] [.long (m_ba a b), .ref (z + 47)] (mput z S (sl, a, b, pq, sa, ev, fl, L, V)) P
  show xw z NK g 52 5 [(0, .ref (z + 47)), (1, .int v)] [.long (m_ba a b), .ref (z + 47)] (mput z S (sl, a, b, pq, sa, ev, fl, L, V)) P
  refine xw.callO (o := 47) rfl rfl rfl (mput_47 _ _ _) rfl rfl (c_reaches ?_)
  show xw z NK g 52 8 [(0, .ref (z + 47)), (1, .int v)] [.int (bI (m_hasW (m_ba a b)))] (mput z S (sl, a, b, pq, (if m_hasW (m_ba a b) = true then sa else 2), ev, fl, L, V)) P
  refine xw.if_ rfl (fun c1 => ?_) (fun c1 => ?_)
  · have c1 := bI_eq0 (of_decide_eq_true c1)
    refine xw.ret rfl (fun _ => rfl) ?_
    show P none (mput z S (sl, a, b, pq, (if m_hasW (m_ba a b) = true then sa else 2), ev, fl, L, V))
    unfold m_sb at hP
    simp only [c1, if_true, Bool.false_eq_true, if_false] at hP ⊢
    exact hP
  · have c1 := bI_ne0 (of_decide_eq_false c1)
    refine xw.steps 1 (fun _ => rfl) ?_
    show xw z NK g 52 12 [(0, .ref (z + 47)), (1, .int v)] [.ref (z + 47)] (mput z S (sl, a, b, pq, (if m_hasW (m_ba a b) = true then sa else 2), ev, fl, L, V)) P
    refine xw.callO (o := 47) rfl rfl rfl (mput_47 _ _ _) rfl rfl (c_byteAddress ?_)
    show xw z NK g 52 15 [(0, .ref (z + 47)), (1, .int v)] [.long (m_ba a b)] (mput z S (sl, a, b, pq, (if m_hasW (m_ba a b) = true then sa else 2), ev, fl, L, V)) P
    refine xw.steps 4 (fun _ => rfl) ?_
    refine xw.getf (o := 47) rfl (mput_47 _ _ _) rfl ?_
    refine xw.steps 5 (fun _ => rfl) ?_
    refine xw.getf (o := 47) rfl (mput_47 _ _ _) rfl ?_
    refine xw.steps 1 (fun _ => rfl) ?_
    show xw z NK g 52 32 [(0, .ref (z + 47)), (1, .int v), (2, .int (m_ba a b).toInt32), (3, .int (8 * (a &&& 3)))] [.int (m_ba a b).toInt32, .ref (z + 44)] (mput z S (sl, a, b, pq, (if m_hasW (m_ba a b) = true then sa else 2), ev, fl, L, V)) P
    refine xw.callO (o := 44) rfl rfl rfl ((mput_ne _ _ _ (by decide)).trans h44) rfl rfl (c_wordAt ((mput_ne _ _ _ (by decide)).trans h44) (mput_45 _ _ _) (mput_46 _ _ _) ?_)
    show xw z NK g 52 35 [(0, .ref (z + 47)), (1, .int v), (2, .int (m_ba a b).toInt32), (3, .int (8 * (a &&& 3)))] [.int (mVa V (m_ba a b).toInt32)] (mput z S (sl, a, b, pq, (if m_hasW (m_ba a b) = true then sa else 2), ev, fl, L, V)) P
    refine xw.steps 8 (fun _ => rfl) ?_
    refine xw.getf (o := 47) rfl (mput_47 _ _ _) rfl ?_
    refine xw.steps 8 (fun _ => rfl) ?_
    show xw z NK g 52 60 [(0, .ref (z + 47)), (1, .int v), (2, .int (m_ba a b).toInt32), (3, .int (8 * (a &&& 3))), (4, .int ((mVa V (m_ba a b).toInt32) &&& ((255 <<< ((8 * (a &&& 3)) &&& 31)) ^^^ (-1))))] [.int (((mVa V (m_ba a b).toInt32) &&& ((255 <<< ((8 * (a &&& 3)) &&& 31)) ^^^ (-1))) ||| ((v &&& 255) <<< ((8 * (a &&& 3)) &&& 31))), .int (m_ba a b).toInt32, .ref (z + 44)] (mput z S (sl, a, b, pq, (if m_hasW (m_ba a b) = true then sa else 2), ev, fl, L, V)) P
    refine xw.callO (o := 44) rfl rfl rfl ((mput_ne _ _ _ (by decide)).trans h44) rfl rfl (c_mchW h44 ?_)
    show xw z NK g 52 63 [(0, .ref (z + 47)), (1, .int v), (2, .int (m_ba a b).toInt32), (3, .int (8 * (a &&& 3))), (4, .int ((mVa V (m_ba a b).toInt32) &&& ((255 <<< ((8 * (a &&& 3)) &&& 31)) ^^^ (-1))))] [] (mput z S (sl, a, b, pq, (if m_hasW (m_ba a b) = true then sa else 2), ev, fl, L, (mV V (m_ba a b).toInt32 (((mVa V (m_ba a b).toInt32) &&& ((255 <<< ((8 * (a &&& 3)) &&& 31)) ^^^ (-1))) ||| ((v &&& 255) <<< ((8 * (a &&& 3)) &&& 31)))))) P
    refine xw.ret rfl (fun _ => rfl) ?_
    show P none (mput z S (sl, a, b, pq, (if m_hasW (m_ba a b) = true then sa else 2), ev, fl, L, (mV V (m_ba a b).toInt32 (((mVa V (m_ba a b).toInt32) &&& ((255 <<< ((8 * (a &&& 3)) &&& 31)) ^^^ (-1))) ||| ((v &&& 255) <<< ((8 * (a &&& 3)) &&& 31))))))
    unfold m_sb at hP
    simp only [c1, if_true, Bool.false_eq_true, if_false] at hP ⊢
    exact hP
set_option maxHeartbeats 2000000 in
/-- RowCode$Machine.move(II)V -/
theorem c_move (h44 : S 44 = some (.inr (.inr (5, [.ref (z + 45), .ref (z + 46)])))) {n k : Int32} (hP : P none (mput z S (m_move (sl, a, b, pq, sa, ev, fl, L, V) n k))) : xw z NK g 42 0 [(0, .ref (z + 47)), (1, .int n), (2, .int k)] [] (mput z S (sl, a, b, pq, sa, ev, fl, L, V)) P := by
  refine xw.steps 1 (fun _ => rfl) ?_
  refine xw.getf (o := 47) rfl (mput_47 _ _ _) rfl ?_
  refine xw.steps 2 (fun _ => rfl) ?_
  refine xw.table rfl (fun c1 => ?_) ⟨fun c1 => ?_, fun c1 => ?_, fun c1 => ?_, fun c1 => ?_, fun c1 => ?_, fun c1 => ?_, trivial⟩
  · skip
    have c1_0 : ¬ n = 1 := fun e => by rw [e] at c1; revert c1; decide
    have c1_1 : ¬ n = 2 := fun e => by rw [e] at c1; revert c1; decide
    have c1_2 : ¬ n = 3 := fun e => by rw [e] at c1; revert c1; decide
    have c1_3 : ¬ n = 4 := fun e => by rw [e] at c1; revert c1; decide
    have c1_4 : ¬ n = 5 := fun e => by rw [e] at c1; revert c1; decide
    have c1_5 : ¬ n = 6 := fun e => by rw [e] at c1; revert c1; decide
    refine xw.ret rfl (fun _ => rfl) ?_
    show P none (mput z S (sl, a, b, pq, sa, ev, fl, L, V))
    first | simpa [m_move, c1_0, c1_1, c1_2, c1_3, c1_4, c1_5] using hP | simp_all [m_move]
  · have c1 : n = 1 := c1
    refine xw.steps 2 (fun _ => rfl) ?_
    refine xw.putf (o := 47) (fs' := [.ref (z + 44), .ref (z + 48), .int k, .int b, .int pq, .int sa, .int ev, .int fl]) rfl (mput_47 _ _ _) (Nat.le_of_ble_eq_true rfl) rfl rfl rfl ?_
    show xw z NK g 42 49 [(0, .ref (z + 47)), (1, .int n), (2, .int k), (3, .int a)] [] (xu (mput z S (sl, a, b, pq, sa, ev, fl, L, V)) 47 (.inr (.inr (4, [.ref (z + 44), .ref (z + 48), .int k, .int b, .int pq, .int sa, .int ev, .int fl])))) P
    rw [mput_s47]
    refine xw.steps 2 (fun _ => rfl) ?_
    refine xw.putf (o := 47) (fs' := [.ref (z + 44), .ref (z + 48), .int k, .int a, .int pq, .int sa, .int ev, .int fl]) rfl (mput_47 _ _ _) (Nat.le_of_ble_eq_true rfl) rfl rfl rfl ?_
    show xw z NK g 42 54 [(0, .ref (z + 47)), (1, .int n), (2, .int k), (3, .int a)] [] (xu (mput z S (sl, k, b, pq, sa, ev, fl, L, V)) 47 (.inr (.inr (4, [.ref (z + 44), .ref (z + 48), .int k, .int a, .int pq, .int sa, .int ev, .int fl])))) P
    rw [mput_s47]
    refine xw.steps 1 (fun _ => rfl) ?_
    refine xw.ret rfl (fun _ => rfl) ?_
    show P none (mput z S (sl, k, a, pq, sa, ev, fl, L, V))
    first | simpa [m_move, c1] using hP | simp_all [m_move]
  · have c1 : n = 2 := c1
    refine xw.steps 2 (fun _ => rfl) ?_
    refine xw.getf (o := 47) rfl (mput_47 _ _ _) rfl ?_
    refine xw.steps 1 (fun _ => rfl) ?_
    show xw z NK g 42 63 [(0, .ref (z + 47)), (1, .int n), (2, .int k), (3, .int a)] [.int k, .ref (z + 44), .ref (z + 47)] (mput z S (sl, a, b, pq, sa, ev, fl, L, V)) P
    refine xw.callO (o := 44) rfl rfl rfl ((mput_ne _ _ _ (by decide)).trans h44) rfl rfl (c_localAt ((mput_ne _ _ _ (by decide)).trans h44) (mput_45 _ _ _) (mput_46 _ _ _) ?_)
    show xw z NK g 42 66 [(0, .ref (z + 47)), (1, .int n), (2, .int k), (3, .int a)] [.int (mLa L k), .ref (z + 47)] (mput z S (sl, a, b, pq, sa, ev, fl, L, V)) P
    refine xw.putf (o := 47) (fs' := [.ref (z + 44), .ref (z + 48), .int (mLa L k), .int b, .int pq, .int sa, .int ev, .int fl]) rfl (mput_47 _ _ _) (Nat.le_of_ble_eq_true rfl) rfl rfl rfl ?_
    show xw z NK g 42 69 [(0, .ref (z + 47)), (1, .int n), (2, .int k), (3, .int a)] [] (xu (mput z S (sl, a, b, pq, sa, ev, fl, L, V)) 47 (.inr (.inr (4, [.ref (z + 44), .ref (z + 48), .int (mLa L k), .int b, .int pq, .int sa, .int ev, .int fl])))) P
    rw [mput_s47]
    refine xw.steps 2 (fun _ => rfl) ?_
    refine xw.putf (o := 47) (fs' := [.ref (z + 44), .ref (z + 48), .int (mLa L k), .int a, .int pq, .int sa, .int ev, .int fl]) rfl (mput_47 _ _ _) (Nat.le_of_ble_eq_true rfl) rfl rfl rfl ?_
    show xw z NK g 42 74 [(0, .ref (z + 47)), (1, .int n), (2, .int k), (3, .int a)] [] (xu (mput z S (sl, (mLa L k), b, pq, sa, ev, fl, L, V)) 47 (.inr (.inr (4, [.ref (z + 44), .ref (z + 48), .int (mLa L k), .int a, .int pq, .int sa, .int ev, .int fl])))) P
    rw [mput_s47]
    refine xw.steps 1 (fun _ => rfl) ?_
    refine xw.ret rfl (fun _ => rfl) ?_
    show P none (mput z S (sl, (mLa L k), a, pq, sa, ev, fl, L, V))
    first | simpa [m_move, c1] using hP | simp_all [m_move]
  · have c1 : n = 3 := c1
    refine xw.steps 2 (fun _ => rfl) ?_
    refine xw.getf (o := 47) rfl (mput_47 _ _ _) rfl ?_
    refine xw.steps 1 (fun _ => rfl) ?_
    show xw z NK g 42 83 [(0, .ref (z + 47)), (1, .int n), (2, .int k), (3, .int a)] [.int k, .ref (z + 48), .ref (z + 47)] (mput z S (sl, a, b, pq, sa, ev, fl, L, V)) P
    refine xw.callN (o := 48) rfl rfl rfl (mput_48 _ _ _) rfl rfl (c_at (mput_48 _ _ _) ?_)
    show xw z NK g 42 86 [(0, .ref (z + 47)), (1, .int n), (2, .int k), (3, .int a)] [.int (nAt sl k), .ref (z + 47)] (mput z S (sl, a, b, pq, sa, ev, fl, L, V)) P
    refine xw.putf (o := 47) (fs' := [.ref (z + 44), .ref (z + 48), .int (nAt sl k), .int b, .int pq, .int sa, .int ev, .int fl]) rfl (mput_47 _ _ _) (Nat.le_of_ble_eq_true rfl) rfl rfl rfl ?_
    show xw z NK g 42 89 [(0, .ref (z + 47)), (1, .int n), (2, .int k), (3, .int a)] [] (xu (mput z S (sl, a, b, pq, sa, ev, fl, L, V)) 47 (.inr (.inr (4, [.ref (z + 44), .ref (z + 48), .int (nAt sl k), .int b, .int pq, .int sa, .int ev, .int fl])))) P
    rw [mput_s47]
    refine xw.steps 2 (fun _ => rfl) ?_
    refine xw.putf (o := 47) (fs' := [.ref (z + 44), .ref (z + 48), .int (nAt sl k), .int a, .int pq, .int sa, .int ev, .int fl]) rfl (mput_47 _ _ _) (Nat.le_of_ble_eq_true rfl) rfl rfl rfl ?_
    show xw z NK g 42 94 [(0, .ref (z + 47)), (1, .int n), (2, .int k), (3, .int a)] [] (xu (mput z S (sl, (nAt sl k), b, pq, sa, ev, fl, L, V)) 47 (.inr (.inr (4, [.ref (z + 44), .ref (z + 48), .int (nAt sl k), .int a, .int pq, .int sa, .int ev, .int fl])))) P
    rw [mput_s47]
    refine xw.steps 1 (fun _ => rfl) ?_
    refine xw.ret rfl (fun _ => rfl) ?_
    show P none (mput z S (sl, (nAt sl k), a, pq, sa, ev, fl, L, V))
    first | simpa [m_move, c1] using hP | simp_all [m_move]
  · have c1 : n = 4 := c1
    refine xw.steps 1 (fun _ => rfl) ?_
    refine xw.getf (o := 47) rfl (mput_47 _ _ _) rfl ?_
    refine xw.steps 2 (fun _ => rfl) ?_
    refine xw.getf (o := 47) rfl (mput_47 _ _ _) rfl ?_
    show xw z NK g 42 106 [(0, .ref (z + 47)), (1, .int n), (2, .int k), (3, .int a)] [.int a, .int k, .ref (z + 48)] (mput z S (sl, a, b, pq, sa, ev, fl, L, V)) P
    refine xw.callN (o := 48) rfl rfl rfl (mput_48 _ _ _) rfl rfl (c_change (mput_48 _ _ _) ?_)
    show xw z NK g 42 109 [(0, .ref (z + 47)), (1, .int n), (2, .int k), (3, .int a)] [] (xu (mput z S (sl, a, b, pq, sa, ev, fl, L, V)) 48 (.inl (nSet sl k a))) P
    rw [mput_s48]
    refine xw.steps 1 (fun _ => rfl) ?_
    refine xw.ret rfl (fun _ => rfl) ?_
    show P none (mput z S ((nSet sl k a), a, b, pq, sa, ev, fl, L, V))
    first | simpa [m_move, c1] using hP | simp_all [m_move]
  · have c1 : n = 5 := c1
    refine xw.steps 1 (fun _ => rfl) ?_
    refine xw.getf (o := 47) rfl (mput_47 _ _ _) rfl ?_
    refine xw.steps 2 (fun _ => rfl) ?_
    refine xw.getf (o := 47) rfl (mput_47 _ _ _) rfl ?_
    show xw z NK g 42 121 [(0, .ref (z + 47)), (1, .int n), (2, .int k), (3, .int a)] [.int b, .int k, .ref (z + 48)] (mput z S (sl, a, b, pq, sa, ev, fl, L, V)) P
    refine xw.callN (o := 48) rfl rfl rfl (mput_48 _ _ _) rfl rfl (c_change (mput_48 _ _ _) ?_)
    show xw z NK g 42 124 [(0, .ref (z + 47)), (1, .int n), (2, .int k), (3, .int a)] [] (xu (mput z S (sl, a, b, pq, sa, ev, fl, L, V)) 48 (.inl (nSet sl k b))) P
    rw [mput_s48]
    refine xw.steps 1 (fun _ => rfl) ?_
    refine xw.ret rfl (fun _ => rfl) ?_
    show P none (mput z S ((nSet sl k b), a, b, pq, sa, ev, fl, L, V))
    first | simpa [m_move, c1] using hP | simp_all [m_move]
  · have c1 : n = 6 := c1
    refine xw.steps 2 (fun _ => rfl) ?_
    refine xw.getf (o := 47) rfl (mput_47 _ _ _) rfl ?_
    refine xw.putf (o := 47) (fs' := [.ref (z + 44), .ref (z + 48), .int b, .int b, .int pq, .int sa, .int ev, .int fl]) rfl (mput_47 _ _ _) (Nat.le_of_ble_eq_true rfl) rfl rfl rfl ?_
    show xw z NK g 42 135 [(0, .ref (z + 47)), (1, .int n), (2, .int k), (3, .int a)] [] (xu (mput z S (sl, a, b, pq, sa, ev, fl, L, V)) 47 (.inr (.inr (4, [.ref (z + 44), .ref (z + 48), .int b, .int b, .int pq, .int sa, .int ev, .int fl])))) P
    rw [mput_s47]
    refine xw.steps 2 (fun _ => rfl) ?_
    refine xw.putf (o := 47) (fs' := [.ref (z + 44), .ref (z + 48), .int b, .int a, .int pq, .int sa, .int ev, .int fl]) rfl (mput_47 _ _ _) (Nat.le_of_ble_eq_true rfl) rfl rfl rfl ?_
    show xw z NK g 42 140 [(0, .ref (z + 47)), (1, .int n), (2, .int k), (3, .int a)] [] (xu (mput z S (sl, b, b, pq, sa, ev, fl, L, V)) 47 (.inr (.inr (4, [.ref (z + 44), .ref (z + 48), .int b, .int a, .int pq, .int sa, .int ev, .int fl])))) P
    rw [mput_s47]
    refine xw.steps 1 (fun _ => rfl) ?_
    refine xw.ret rfl (fun _ => rfl) ?_
    show P none (mput z S (sl, b, a, pq, sa, ev, fl, L, V))
    first | simpa [m_move, c1] using hP | simp_all [m_move]
set_option maxHeartbeats 2000000 in
/-- RowCode$Machine.jumps(I)Z -/
theorem c_jumps {n : Int32} (hP : P (some (.int (bI (m_jumps n a b)))) (mput z S (sl, a, b, pq, sa, ev, fl, L, V))) : xw z NK g 43 0 [(0, .ref (z + 47)), (1, .int n)] [] (mput z S (sl, a, b, pq, sa, ev, fl, L, V)) P := by
  refine xw.steps 1 (fun _ => rfl) ?_
  refine xw.table rfl (fun c1 => ?_) ⟨fun c1 => ?_, fun c1 => ?_, fun c1 => ?_, trivial⟩
  · skip
    have c1_0 : ¬ n = 20 := fun e => by rw [e] at c1; revert c1; decide
    have c1_1 : ¬ n = 21 := fun e => by rw [e] at c1; revert c1; decide
    have c1_2 : ¬ n = 22 := fun e => by rw [e] at c1; revert c1; decide
    refine xw.steps 4 (fun _ => rfl) ?_
    refine xw.getf (o := 47) rfl (mput_47 _ _ _) rfl ?_
    refine xw.steps 1 (fun _ => rfl) ?_
    refine xw.getf (o := 47) rfl (mput_47 _ _ _) rfl ?_
    show xw z NK g 43 68 [(0, .ref (z + 47)), (1, .int n)] [.int a, .int b, .int (n - 23)] (mput z S (sl, a, b, pq, sa, ev, fl, L, V)) P
    refine xw.callS rfl rfl rfl rfl rfl (c_holds ?_)
    show xw z NK g 43 71 [(0, .ref (z + 47)), (1, .int n)] [.int (bI (a_holds (n - 23) b a))] (mput z S (sl, a, b, pq, sa, ev, fl, L, V)) P
    refine xw.ret rfl (fun _ => mx_ret_b _ _) ?_
    show P (some (.int (bI (a_holds (n - 23) b a)))) (mput z S (sl, a, b, pq, sa, ev, fl, L, V))
    first | simpa [m_jumps, bI, c1_0, c1_1, c1_2] using hP | simp_all [m_jumps, bI]
  · have c1 : n = 20 := c1
    refine xw.steps 1 (fun _ => rfl) ?_
    refine xw.ret rfl (fun _ => rfl) ?_
    show P (some (.int 1)) (mput z S (sl, a, b, pq, sa, ev, fl, L, V))
    first | simpa [m_jumps, bI, c1] using hP | simp_all [m_jumps, bI]
  · have c1 : n = 21 := c1
    refine xw.steps 1 (fun _ => rfl) ?_
    refine xw.getf (o := 47) rfl (mput_47 _ _ _) rfl ?_
    refine xw.if_ rfl (fun c2 => ?_) (fun c2 => ?_)
    · have c2 := of_decide_eq_true c2
      refine xw.steps 1 (fun _ => rfl) ?_
      refine xw.ret rfl (fun _ => rfl) ?_
      show P (some (.int 0)) (mput z S (sl, a, b, pq, sa, ev, fl, L, V))
      first | simpa [m_jumps, bI, c1, c2] using hP | simp_all [m_jumps, bI]
    · have c2 := Decidable.not_not.mp (of_decide_eq_false c2)
      refine xw.steps 2 (fun _ => rfl) ?_
      refine xw.ret rfl (fun _ => rfl) ?_
      show P (some (.int 1)) (mput z S (sl, a, b, pq, sa, ev, fl, L, V))
      first | simpa [m_jumps, bI, c1, c2] using hP | simp_all [m_jumps, bI]
  · have c1 : n = 22 := c1
    refine xw.steps 1 (fun _ => rfl) ?_
    refine xw.getf (o := 47) rfl (mput_47 _ _ _) rfl ?_
    refine xw.if_ rfl (fun c3 => ?_) (fun c3 => ?_)
    · have c3 := of_decide_eq_true c3
      refine xw.steps 1 (fun _ => rfl) ?_
      refine xw.ret rfl (fun _ => rfl) ?_
      show P (some (.int 0)) (mput z S (sl, a, b, pq, sa, ev, fl, L, V))
      first | simpa [m_jumps, bI, c1, c3] using hP | simp_all [m_jumps, bI]
    · have c3 := of_decide_eq_false c3
      refine xw.steps 2 (fun _ => rfl) ?_
      refine xw.ret rfl (fun _ => rfl) ?_
      show P (some (.int 1)) (mput z S (sl, a, b, pq, sa, ev, fl, L, V))
      first | simpa [m_jumps, bI, c1, c3] using hP | simp_all [m_jumps, bI]
set_option maxHeartbeats 4000000 in
/-- RowCode$Machine.work(II)V -/
theorem c_work (h44 : S 44 = some (.inr (.inr (5, [.ref (z + 45), .ref (z + 46)])))) {n k : Int32} (hP : P none (mput z S (m_work (sl, a, b, pq, sa, ev, fl, L, V) n k))) : xw z NK g 44 0 [(0, .ref (z + 47)), (1, .int n), (2, .int k)] [] (mput z S (sl, a, b, pq, sa, ev, fl, L, V)) P := by
  refine xw.steps 1 (fun _ => rfl) ?_
  refine xw.table rfl (fun c1 => ?_) ⟨fun c1 => ?_, fun c1 => ?_, fun c1 => ?_, fun c1 => ?_, fun c1 => ?_, fun c1 => ?_, fun c1 => ?_, fun c1 => ?_, fun c1 => ?_, fun c1 => ?_, fun c1 => ?_, fun c1 => ?_, fun c1 => ?_, trivial⟩
  · skip
    have c1_0 : ¬ n = 7 := fun e => by rw [e] at c1; revert c1; decide
    have c1_1 : ¬ n = 8 := fun e => by rw [e] at c1; revert c1; decide
    have c1_2 : ¬ n = 9 := fun e => by rw [e] at c1; revert c1; decide
    have c1_3 : ¬ n = 10 := fun e => by rw [e] at c1; revert c1; decide
    have c1_4 : ¬ n = 11 := fun e => by rw [e] at c1; revert c1; decide
    have c1_5 : ¬ n = 12 := fun e => by rw [e] at c1; revert c1; decide
    have c1_6 : ¬ n = 13 := fun e => by rw [e] at c1; revert c1; decide
    have c1_7 : ¬ n = 14 := fun e => by rw [e] at c1; revert c1; decide
    have c1_8 : ¬ n = 15 := fun e => by rw [e] at c1; revert c1; decide
    have c1_9 : ¬ n = 16 := fun e => by rw [e] at c1; revert c1; decide
    have c1_10 : ¬ n = 17 := fun e => by rw [e] at c1; revert c1; decide
    have c1_11 : ¬ n = 18 := fun e => by rw [e] at c1; revert c1; decide
    have c1_12 : ¬ n = 19 := fun e => by rw [e] at c1; revert c1; decide
    refine xw.ret rfl (fun _ => rfl) ?_
    show P none (mput z S (sl, a, b, pq, sa, ev, fl, L, V))
    first | simpa [m_work, c1_0, c1_1, c1_2, c1_3, c1_4, c1_5, c1_6, c1_7, c1_8, c1_9, c1_10, c1_11, c1_12] using hP | simp_all [m_work]
  · have c1 : n = 7 := c1
    refine xw.steps 1 (fun _ => rfl) ?_
    refine xw.getf (o := 47) rfl (mput_47 _ _ _) rfl ?_
    refine xw.steps 2 (fun _ => rfl) ?_
    refine xw.getf (o := 47) rfl (mput_47 _ _ _) rfl ?_
    show xw z NK g 44 77 [(0, .ref (z + 47)), (1, .int n), (2, .int k)] [.int a, .int k, .ref (z + 44)] (mput z S (sl, a, b, pq, sa, ev, fl, L, V)) P
    refine xw.callO (o := 44) rfl rfl rfl ((mput_ne _ _ _ (by decide)).trans h44) rfl rfl (c_mchL h44 ?_)
    show xw z NK g 44 80 [(0, .ref (z + 47)), (1, .int n), (2, .int k)] [] (mput z S (sl, a, b, pq, sa, ev, fl, (mL L k a), V)) P
    refine xw.steps 1 (fun _ => rfl) ?_
    refine xw.ret rfl (fun _ => rfl) ?_
    show P none (mput z S (sl, a, b, pq, sa, ev, fl, (mL L k a), V))
    first | simpa [m_work, c1] using hP | simp_all [m_work]
  · have c1 : n = 8 := c1
    refine xw.steps 1 (fun _ => rfl) ?_
    show xw z NK g 44 84 [(0, .ref (z + 47)), (1, .int n), (2, .int k)] [.ref (z + 47)] (mput z S (sl, a, b, pq, sa, ev, fl, L, V)) P
    refine xw.callO (o := 47) rfl rfl rfl (mput_47 _ _ _) rfl rfl (c_fetch h44 ?_)
    show xw z NK g 44 87 [(0, .ref (z + 47)), (1, .int n), (2, .int k)] [] (mput z S (sl, (if m_hasW a.toInt64 = true then mVa V a else a), b, pq, (if m_hasW a.toInt64 = true then sa else 2), ev, fl, L, V)) P
    refine xw.steps 1 (fun _ => rfl) ?_
    refine xw.ret rfl (fun _ => rfl) ?_
    show P none (mput z S (sl, (if m_hasW a.toInt64 = true then mVa V a else a), b, pq, (if m_hasW a.toInt64 = true then sa else 2), ev, fl, L, V))
    first | simpa [m_work, c1] using hP | simp_all [m_work]
  · have c1 : n = 9 := c1
    refine xw.steps 1 (fun _ => rfl) ?_
    show xw z NK g 44 91 [(0, .ref (z + 47)), (1, .int n), (2, .int k)] [.ref (z + 47)] (mput z S (sl, a, b, pq, sa, ev, fl, L, V)) P
    refine xw.callO (o := 47) rfl rfl rfl (mput_47 _ _ _) rfl rfl (c_mstore h44 ?_)
    show xw z NK g 44 94 [(0, .ref (z + 47)), (1, .int n), (2, .int k)] [] (mput z S (sl, a, b, pq, (if m_hasW a.toInt64 = true then sa else 2), ev, fl, L, (if m_hasW a.toInt64 = true then mV V a b else V))) P
    refine xw.steps 1 (fun _ => rfl) ?_
    refine xw.ret rfl (fun _ => rfl) ?_
    show P none (mput z S (sl, a, b, pq, (if m_hasW a.toInt64 = true then sa else 2), ev, fl, L, (if m_hasW a.toInt64 = true then mV V a b else V)))
    first | simpa [m_work, c1] using hP | simp_all [m_work]
  · have c1 : n = 10 := c1
    refine xw.steps 2 (fun _ => rfl) ?_
    refine xw.getf (o := 47) rfl (mput_47 _ _ _) rfl ?_
    refine xw.steps 1 (fun _ => rfl) ?_
    refine xw.putf (o := 47) (fs' := [.ref (z + 44), .ref (z + 48), .int (-a), .int b, .int pq, .int sa, .int ev, .int fl]) rfl (mput_47 _ _ _) (Nat.le_of_ble_eq_true rfl) rfl rfl rfl ?_
    show xw z NK g 44 106 [(0, .ref (z + 47)), (1, .int n), (2, .int k)] [] (xu (mput z S (sl, a, b, pq, sa, ev, fl, L, V)) 47 (.inr (.inr (4, [.ref (z + 44), .ref (z + 48), .int (-a), .int b, .int pq, .int sa, .int ev, .int fl])))) P
    rw [mput_s47]
    refine xw.steps 1 (fun _ => rfl) ?_
    refine xw.ret rfl (fun _ => rfl) ?_
    show P none (mput z S (sl, (-a), b, pq, sa, ev, fl, L, V))
    first | simpa [m_work, c1] using hP | simp_all [m_work]
  · have c1 : n = 11 := c1
    refine xw.steps 2 (fun _ => rfl) ?_
    refine xw.getf (o := 47) rfl (mput_47 _ _ _) rfl ?_
    refine xw.steps 2 (fun _ => rfl) ?_
    refine xw.putf (o := 47) (fs' := [.ref (z + 44), .ref (z + 48), .int (a ^^^ (-1)), .int b, .int pq, .int sa, .int ev, .int fl]) rfl (mput_47 _ _ _) (Nat.le_of_ble_eq_true rfl) rfl rfl rfl ?_
    show xw z NK g 44 119 [(0, .ref (z + 47)), (1, .int n), (2, .int k)] [] (xu (mput z S (sl, a, b, pq, sa, ev, fl, L, V)) 47 (.inr (.inr (4, [.ref (z + 44), .ref (z + 48), .int (a ^^^ (-1)), .int b, .int pq, .int sa, .int ev, .int fl])))) P
    rw [mput_s47]
    refine xw.steps 1 (fun _ => rfl) ?_
    refine xw.ret rfl (fun _ => rfl) ?_
    show P none (mput z S (sl, (a ^^^ (-1)), b, pq, sa, ev, fl, L, V))
    first | simpa [m_work, c1] using hP | simp_all [m_work]
  · have c1 : n = 12 := c1
    refine xw.steps 2 (fun _ => rfl) ?_
    show xw z NK g 44 124 [(0, .ref (z + 47)), (1, .int n), (2, .int k)] [.int k, .ref (z + 47)] (mput z S (sl, a, b, pq, sa, ev, fl, L, V)) P
    refine xw.callO (o := 47) rfl rfl rfl (mput_47 _ _ _) rfl rfl (c_combine ?_)
    show xw z NK g 44 127 [(0, .ref (z + 47)), (1, .int n), (2, .int k)] [] (mput z S (sl, (if a = 0 ∧ a_divides k = true then a else a_calc k b a), b, pq, (if a = 0 ∧ a_divides k = true then 3 else sa), ev, fl, L, V)) P
    refine xw.steps 1 (fun _ => rfl) ?_
    refine xw.ret rfl (fun _ => rfl) ?_
    show P none (mput z S (sl, (if a = 0 ∧ a_divides k = true then a else a_calc k b a), b, pq, (if a = 0 ∧ a_divides k = true then 3 else sa), ev, fl, L, V))
    first | simpa [m_work, c1] using hP | simp_all [m_work]
  · have c1 : n = 13 := c1
    refine xw.steps 3 (fun _ => rfl) ?_
    refine xw.getf (o := 47) rfl (mput_47 _ _ _) rfl ?_
    refine xw.steps 1 (fun _ => rfl) ?_
    refine xw.getf (o := 47) rfl (mput_47 _ _ _) rfl ?_
    show xw z NK g 44 140 [(0, .ref (z + 47)), (1, .int n), (2, .int k)] [.int a, .int b, .int k, .ref (z + 47)] (mput z S (sl, a, b, pq, sa, ev, fl, L, V)) P
    refine xw.callS rfl rfl rfl rfl rfl (c_compare ?_)
    show xw z NK g 44 143 [(0, .ref (z + 47)), (1, .int n), (2, .int k)] [.int (a_compare k b a), .ref (z + 47)] (mput z S (sl, a, b, pq, sa, ev, fl, L, V)) P
    refine xw.putf (o := 47) (fs' := [.ref (z + 44), .ref (z + 48), .int (a_compare k b a), .int b, .int pq, .int sa, .int ev, .int fl]) rfl (mput_47 _ _ _) (Nat.le_of_ble_eq_true rfl) rfl rfl rfl ?_
    show xw z NK g 44 146 [(0, .ref (z + 47)), (1, .int n), (2, .int k)] [] (xu (mput z S (sl, a, b, pq, sa, ev, fl, L, V)) 47 (.inr (.inr (4, [.ref (z + 44), .ref (z + 48), .int (a_compare k b a), .int b, .int pq, .int sa, .int ev, .int fl])))) P
    rw [mput_s47]
    refine xw.steps 1 (fun _ => rfl) ?_
    refine xw.ret rfl (fun _ => rfl) ?_
    show P none (mput z S (sl, (a_compare k b a), b, pq, sa, ev, fl, L, V))
    first | simpa [m_work, c1] using hP | simp_all [m_work]
  · have c1 : n = 14 := c1
    refine xw.steps 2 (fun _ => rfl) ?_
    show xw z NK g 44 151 [(0, .ref (z + 47)), (1, .int n), (2, .int k)] [.int k, .ref (z + 47)] (mput z S (sl, a, b, pq, sa, ev, fl, L, V)) P
    refine xw.callO (o := 47) rfl rfl rfl (mput_47 _ _ _) rfl rfl (c_relKeep ?_)
    show xw z NK g 44 154 [(0, .ref (z + 47)), (1, .int n), (2, .int k)] [] (mput z S (sl, (a_compare k b a), a, pq, sa, ev, fl, L, V)) P
    refine xw.steps 1 (fun _ => rfl) ?_
    refine xw.ret rfl (fun _ => rfl) ?_
    show P none (mput z S (sl, (a_compare k b a), a, pq, sa, ev, fl, L, V))
    first | simpa [m_work, c1] using hP | simp_all [m_work]
  · have c1 : n = 15 := c1
    refine xw.steps 1 (fun _ => rfl) ?_
    show xw z NK g 44 158 [(0, .ref (z + 47)), (1, .int n), (2, .int k)] [.ref (z + 47)] (mput z S (sl, a, b, pq, sa, ev, fl, L, V)) P
    refine xw.callO (o := 47) rfl rfl rfl (mput_47 _ _ _) rfl rfl (c_fetchByte h44 ?_)
    show xw z NK g 44 161 [(0, .ref (z + 47)), (1, .int n), (2, .int k)] [] (mput z S (sl, (if m_hasW (m_ba a b) = true then m_fb V a b else a), b, pq, (if m_hasW (m_ba a b) = true then sa else 2), ev, fl, L, V)) P
    refine xw.steps 1 (fun _ => rfl) ?_
    refine xw.ret rfl (fun _ => rfl) ?_
    show P none (mput z S (sl, (if m_hasW (m_ba a b) = true then m_fb V a b else a), b, pq, (if m_hasW (m_ba a b) = true then sa else 2), ev, fl, L, V))
    first | simpa [m_work, c1] using hP | simp_all [m_work]
  · have c1 : n = 16 := c1
    refine xw.steps 2 (fun _ => rfl) ?_
    refine xw.getf (o := 47) rfl (mput_47 _ _ _) rfl ?_
    refine xw.steps 1 (fun _ => rfl) ?_
    show xw z NK g 44 170 [(0, .ref (z + 47)), (1, .int n), (2, .int k)] [.int k, .ref (z + 48), .ref (z + 47)] (mput z S (sl, a, b, pq, sa, ev, fl, L, V)) P
    refine xw.callN (o := 48) rfl rfl rfl (mput_48 _ _ _) rfl rfl (c_at (mput_48 _ _ _) ?_)
    show xw z NK g 44 173 [(0, .ref (z + 47)), (1, .int n), (2, .int k)] [.int (nAt sl k), .ref (z + 47)] (mput z S (sl, a, b, pq, sa, ev, fl, L, V)) P
    show xw z NK g 44 173 [(0, .ref (z + 47)), (1, .int n), (2, .int k)] [.int (nAt sl k), .ref (z + 47)] (mput z S (sl, a, b, pq, sa, ev, fl, L, V)) P
    refine xw.callO (o := 47) rfl rfl rfl (mput_47 _ _ _) rfl rfl (c_mstoreByte h44 ?_)
    show xw z NK g 44 176 [(0, .ref (z + 47)), (1, .int n), (2, .int k)] [] (mput z S (sl, a, b, pq, (if m_hasW (m_ba a b) = true then sa else 2), ev, fl, L, (if m_hasW (m_ba a b) = true then mV V (m_ba a b).toInt32 (m_sb V a b (nAt sl k)) else V))) P
    refine xw.steps 1 (fun _ => rfl) ?_
    refine xw.ret rfl (fun _ => rfl) ?_
    show P none (mput z S (sl, a, b, pq, (if m_hasW (m_ba a b) = true then sa else 2), ev, fl, L, (if m_hasW (m_ba a b) = true then mV V (m_ba a b).toInt32 (m_sb V a b (nAt sl k)) else V)))
    first | simpa [m_work, c1] using hP | simp_all [m_work]
  · have c1 : n = 17 := c1
    refine xw.steps 1 (fun _ => rfl) ?_
    show xw z NK g 44 180 [(0, .ref (z + 47)), (1, .int n), (2, .int k)] [.ref (z + 47)] (mput z S (sl, a, b, pq, sa, ev, fl, L, V)) P
    refine xw.callO (o := 47) rfl rfl rfl (mput_47 _ _ _) rfl rfl (c_pay ?_)
    show xw z NK g 44 183 [(0, .ref (z + 47)), (1, .int n), (2, .int k)] [] (mput z S (sl, a, b, pq, (if fl = 0 then 1 else sa), ev, (if fl = 0 then fl else fl - 1), L, V)) P
    refine xw.steps 1 (fun _ => rfl) ?_
    refine xw.ret rfl (fun _ => rfl) ?_
    show P none (mput z S (sl, a, b, pq, (if fl = 0 then 1 else sa), ev, (if fl = 0 then fl else fl - 1), L, V))
    first | simpa [m_work, c1] using hP | simp_all [m_work]
  · have c1 : n = 18 := c1
    refine xw.steps 2 (fun _ => rfl) ?_
    refine xw.getf (o := 47) rfl (mput_47 _ _ _) rfl ?_
    refine xw.putf (o := 47) (fs' := [.ref (z + 44), .ref (z + 48), .int a, .int b, .int pq, .int sa, .int a, .int fl]) rfl (mput_47 _ _ _) (Nat.le_of_ble_eq_true rfl) rfl rfl rfl ?_
    show xw z NK g 44 194 [(0, .ref (z + 47)), (1, .int n), (2, .int k)] [] (xu (mput z S (sl, a, b, pq, sa, ev, fl, L, V)) 47 (.inr (.inr (4, [.ref (z + 44), .ref (z + 48), .int a, .int b, .int pq, .int sa, .int a, .int fl])))) P
    rw [mput_s47]
    refine xw.steps 2 (fun _ => rfl) ?_
    refine xw.putf (o := 47) (fs' := [.ref (z + 44), .ref (z + 48), .int a, .int b, .int pq, .int 0, .int a, .int fl]) rfl (mput_47 _ _ _) (Nat.le_of_ble_eq_true rfl) rfl rfl rfl ?_
    show xw z NK g 44 199 [(0, .ref (z + 47)), (1, .int n), (2, .int k)] [] (xu (mput z S (sl, a, b, pq, sa, a, fl, L, V)) 47 (.inr (.inr (4, [.ref (z + 44), .ref (z + 48), .int a, .int b, .int pq, .int 0, .int a, .int fl])))) P
    rw [mput_s47]
    refine xw.steps 1 (fun _ => rfl) ?_
    refine xw.ret rfl (fun _ => rfl) ?_
    show P none (mput z S (sl, a, b, pq, 0, a, fl, L, V))
    first | simpa [m_work, c1] using hP | simp_all [m_work]
  · have c1 : n = 19 := c1
    refine xw.steps 2 (fun _ => rfl) ?_
    refine xw.putf (o := 47) (fs' := [.ref (z + 44), .ref (z + 48), .int a, .int b, .int pq, .int 4, .int ev, .int fl]) rfl (mput_47 _ _ _) (Nat.le_of_ble_eq_true rfl) rfl rfl rfl ?_
    show xw z NK g 44 207 [(0, .ref (z + 47)), (1, .int n), (2, .int k)] [] (xu (mput z S (sl, a, b, pq, sa, ev, fl, L, V)) 47 (.inr (.inr (4, [.ref (z + 44), .ref (z + 48), .int a, .int b, .int pq, .int 4, .int ev, .int fl])))) P
    rw [mput_s47]
    refine xw.steps 1 (fun _ => rfl) ?_
    refine xw.ret rfl (fun _ => rfl) ?_
    show P none (mput z S (sl, a, b, pq, 4, ev, fl, L, V))
    first | simpa [m_work, c1] using hP | simp_all [m_work]
end XM2
