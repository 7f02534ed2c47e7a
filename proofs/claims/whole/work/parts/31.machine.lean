/-! MACHINE: its cells and the memory's rows as one value: slots, a, b, at, state, endValue, fuelLeft, locals, words (walks by wip/gen31.py) -/
abbrev MM : Type := List Int32 × Int32 × Int32 × Int32 × Int32 × Int32 × Int32 × (Nat → Int32) × (Nat → Int32)
def mput (z : Nat) (S : xS) (m : MM) : xS := xu (xu (xu (xu S 48 (.inl m.1)) 45 (.inr (.inl (false, 16, m.2.2.2.2.2.2.2.1)))) 46 (.inr (.inl (false, 64, m.2.2.2.2.2.2.2.2)))) 47 (.inr (.inr (4, [.ref (z + 44), .ref (z + 48), .int m.2.1, .int m.2.2.1, .int m.2.2.2.1, .int m.2.2.2.2.1, .int m.2.2.2.2.2.1, .int m.2.2.2.2.2.2.1])))
theorem mput_47 (z : Nat) (S : xS) (m : MM) : mput z S m 47 = some (.inr (.inr (4, [.ref (z + 44), .ref (z + 48), .int m.2.1, .int m.2.2.1, .int m.2.2.2.1, .int m.2.2.2.2.1, .int m.2.2.2.2.2.1, .int m.2.2.2.2.2.2.1]))) := by simp [mput, xu]
theorem mput_48 (z : Nat) (S : xS) (m : MM) : mput z S m 48 = some (.inl m.1) := by simp [mput, xu]
theorem mput_45 (z : Nat) (S : xS) (m : MM) : mput z S m 45 = some (.inr (.inl (false, 16, m.2.2.2.2.2.2.2.1))) := by simp [mput, xu]
theorem mput_46 (z : Nat) (S : xS) (m : MM) : mput z S m 46 = some (.inr (.inl (false, 64, m.2.2.2.2.2.2.2.2))) := by simp [mput, xu]
theorem mput_ne (z : Nat) (S : xS) (m : MM) {q : Nat} (h : q ≠ 45 ∧ q ≠ 46 ∧ q ≠ 47 ∧ q ≠ 48) : mput z S m q = S q := by simp [mput, xu, h]

theorem mput_s48 (z : Nat) (S : xS) (m : MM) (x : List Int32) : xu (mput z S m) 48 (.inl x) = mput z S (x, m.2) := by
  funext q; unfold mput xu
  by_cases h1 : q = 45 <;> by_cases h2 : q = 46 <;> by_cases h3 : q = 47 <;> by_cases h4 : q = 48 <;> simp_all
theorem mput_s45 (z : Nat) (S : xS) (m : MM) (x : Nat → Int32) : xu (mput z S m) 45 (.inr (.inl (false, 16, x))) = mput z S (m.1, m.2.1, m.2.2.1, m.2.2.2.1, m.2.2.2.2.1, m.2.2.2.2.2.1, m.2.2.2.2.2.2.1, x, m.2.2.2.2.2.2.2.2) := by
  funext q; unfold mput xu
  by_cases h1 : q = 45 <;> by_cases h2 : q = 46 <;> by_cases h3 : q = 47 <;> by_cases h4 : q = 48 <;> simp_all
theorem mput_s46 (z : Nat) (S : xS) (m : MM) (x : Nat → Int32) : xu (mput z S m) 46 (.inr (.inl (false, 64, x))) = mput z S (m.1, m.2.1, m.2.2.1, m.2.2.2.1, m.2.2.2.2.1, m.2.2.2.2.2.1, m.2.2.2.2.2.2.1, m.2.2.2.2.2.2.2.1, x) := by
  funext q; unfold mput xu
  by_cases h1 : q = 45 <;> by_cases h2 : q = 46 <;> by_cases h3 : q = 47 <;> by_cases h4 : q = 48 <;> simp_all
theorem mput_s47 (z : Nat) (S : xS) (m : MM) (a b c d e f : Int32) : xu (mput z S m) 47 (.inr (.inr (4, [.ref (z + 44), .ref (z + 48), .int a, .int b, .int c, .int d, .int e, .int f]))) = mput z S (m.1, a, b, c, d, e, f, m.2.2.2.2.2.2.2.1, m.2.2.2.2.2.2.2.2) := by
  funext q; unfold mput xu
  by_cases h1 : q = 45 <;> by_cases h2 : q = 46 <;> by_cases h3 : q = 47 <;> by_cases h4 : q = 48 <;> simp_all
def mL (L : Nat → Int32) (i v : Int32) : Nat → Int32 := if m_hasL i = true then upd L i.toNatClampNeg v else L
def mV (V : Nat → Int32) (i v : Int32) : Nat → Int32 := if m_hasW i.toInt64 = true then upd V i.toNatClampNeg v else V
def mLa (L : Nat → Int32) (i : Int32) : Int32 := if m_hasL i = true then L i.toNatClampNeg else 0
def mVa (V : Nat → Int32) (i : Int32) : Int32 := if m_hasW i.toInt64 = true then V i.toNatClampNeg else 0
def m_ba (a b : Int32) : Int64 := b.toInt64 + (a >>> (2 &&& 31)).toInt64
section XM
variable {z : Nat} {NK : List Nat} {g : mx_G} {S : xS} {P : Option Value → xS → Prop} {sl : List Int32} {a b pq sa ev fl : Int32} {L V : Nat → Int32}
theorem c_mchL (h44 : S 44 = some (.inr (.inr (5, [.ref (z + 45), .ref (z + 46)])))) {i v : Int32} (hP : P none (mput z S (sl, a, b, pq, sa, ev, fl, mL L i v, V))) : xw z NK g 21 0 [(0, .ref (z + 44)), (1, .int i), (2, .int v)] [] (mput z S (sl, a, b, pq, sa, ev, fl, L, V)) P := by
  refine c_changeLocal (L := L) (V := V) ((mput_ne _ _ _ (by decide)).trans h44) (mput_45 _ _ _) (mput_46 _ _ _) ?_
  split
  · rename_i hc
    rw [mput_s45]
    simpa [mL, hc] using hP
  · rename_i hc
    simpa [mL, hc] using hP
theorem c_mchW (h44 : S 44 = some (.inr (.inr (5, [.ref (z + 45), .ref (z + 46)])))) {i v : Int32} (hP : P none (mput z S (sl, a, b, pq, sa, ev, fl, L, mV V i v))) : xw z NK g 23 0 [(0, .ref (z + 44)), (1, .int i), (2, .int v)] [] (mput z S (sl, a, b, pq, sa, ev, fl, L, V)) P := by
  refine c_changeWord (L := L) (V := V) ((mput_ne _ _ _ (by decide)).trans h44) (mput_45 _ _ _) (mput_46 _ _ _) ?_
  split
  · rename_i hc
    rw [mput_s46]
    simpa [mV, hc] using hP
  · rename_i hc
    simpa [mV, hc] using hP
set_option maxHeartbeats 2000000 in
/-- RowCode$Machine.reaches(J)Z -/
theorem c_reaches {x : Int64} (hP : P (some (.int (bI (m_hasW x)))) (mput z S (sl, a, b, pq, (if m_hasW x = true then sa else 2), ev, fl, L, V))) : xw z NK g 45 0 [(0, .ref (z + 47)), (1, .long x)] [] (mput z S (sl, a, b, pq, sa, ev, fl, L, V)) P := by
  refine xw.steps 1 (fun _ => rfl) ?_
  show xw z NK g 45 1 [(0, .ref (z + 47)), (1, .long x)] [.long x] (mput z S (sl, a, b, pq, sa, ev, fl, L, V)) P
  refine xw.callS rfl rfl rfl rfl rfl (c_hasWord ?_)
  show xw z NK g 45 4 [(0, .ref (z + 47)), (1, .long x)] [.int (bI (m_hasW x))] (mput z S (sl, a, b, pq, sa, ev, fl, L, V)) P
  refine xw.steps 2 (fun _ => rfl) ?_
  refine xw.if_ rfl (fun c1 => ?_) (fun c1 => ?_)
  · have c1 := bI_ne0 (of_decide_eq_true c1)
    refine xw.steps 1 (fun _ => rfl) ?_
    refine xw.ret rfl (fun _ => mx_ret_b _ _) ?_
    show P (some (.int (bI (m_hasW x)))) (mput z S (sl, a, b, pq, sa, ev, fl, L, V))
    first | simpa [bI, c1] using hP | simp_all [bI]
  · have c1 := bI_eq0 (Decidable.not_not.mp (of_decide_eq_false c1))
    refine xw.steps 2 (fun _ => rfl) ?_
    refine xw.putf (o := 47) (fs' := [.ref (z + 44), .ref (z + 48), .int a, .int b, .int pq, .int 2, .int ev, .int fl]) rfl (mput_47 _ _ _) (Nat.le_of_ble_eq_true rfl) rfl rfl rfl ?_
    show xw z NK g 45 14 [(0, .ref (z + 47)), (1, .long x), (3, .int (bI (m_hasW x)))] [] (xu (mput z S (sl, a, b, pq, sa, ev, fl, L, V)) 47 (.inr (.inr (4, [.ref (z + 44), .ref (z + 48), .int a, .int b, .int pq, .int 2, .int ev, .int fl])))) P
    rw [mput_s47]
    refine xw.steps 1 (fun _ => rfl) ?_
    refine xw.ret rfl (fun _ => mx_ret_b _ _) ?_
    show P (some (.int (bI (m_hasW x)))) (mput z S (sl, a, b, pq, 2, ev, fl, L, V))
    first | simpa [bI, c1] using hP | simp_all [bI]
set_option maxHeartbeats 2000000 in
/-- RowCode$Machine.byteAddress()J -/
theorem c_byteAddress  (hP : P (some (.long (m_ba a b))) (mput z S (sl, a, b, pq, sa, ev, fl, L, V))) : xw z NK g 50 0 [(0, .ref (z + 47))] [] (mput z S (sl, a, b, pq, sa, ev, fl, L, V)) P := by
  refine xw.steps 1 (fun _ => rfl) ?_
  refine xw.getf (o := 47) rfl (mput_47 _ _ _) rfl ?_
  refine xw.steps 2 (fun _ => rfl) ?_
  refine xw.getf (o := 47) rfl (mput_47 _ _ _) rfl ?_
  refine xw.steps 4 (fun _ => rfl) ?_
  refine xw.ret rfl (fun _ => rfl) ?_
  show P (some (.long (b.toInt64 + (a >>> (2 &&& 31)).toInt64))) (mput z S (sl, a, b, pq, sa, ev, fl, L, V))
  first | exact hP | simpa [] using hP | simp_all []
set_option maxHeartbeats 2000000 in
/-- RowCode$Machine.pay()V -/
theorem c_pay  (hP : P none (mput z S (sl, a, b, pq, (if fl = 0 then 1 else sa), ev, (if fl = 0 then fl else fl - 1), L, V))) : xw z NK g 53 0 [(0, .ref (z + 47))] [] (mput z S (sl, a, b, pq, sa, ev, fl, L, V)) P := by
  refine xw.steps 1 (fun _ => rfl) ?_
  refine xw.getf (o := 47) rfl (mput_47 _ _ _) rfl ?_
  refine xw.if_ rfl (fun c1 => ?_) (fun c1 => ?_)
  · have c1 := of_decide_eq_true c1
    refine xw.steps 2 (fun _ => rfl) ?_
    refine xw.getf (o := 47) rfl (mput_47 _ _ _) rfl ?_
    refine xw.steps 2 (fun _ => rfl) ?_
    refine xw.putf (o := 47) (fs' := [.ref (z + 44), .ref (z + 48), .int a, .int b, .int pq, .int sa, .int ev, .int (fl - 1)]) rfl (mput_47 _ _ _) (Nat.le_of_ble_eq_true rfl) rfl rfl rfl ?_
    show xw z NK g 53 25 [(0, .ref (z + 47))] [] (xu (mput z S (sl, a, b, pq, sa, ev, fl, L, V)) 47 (.inr (.inr (4, [.ref (z + 44), .ref (z + 48), .int a, .int b, .int pq, .int sa, .int ev, .int (fl - 1)])))) P
    rw [mput_s47]
    refine xw.ret rfl (fun _ => rfl) ?_
    show P none (mput z S (sl, a, b, pq, sa, ev, (fl - 1), L, V))
    first | simpa [c1] using hP | simp_all []
  · have c1 := Decidable.not_not.mp (of_decide_eq_false c1)
    refine xw.steps 2 (fun _ => rfl) ?_
    refine xw.putf (o := 47) (fs' := [.ref (z + 44), .ref (z + 48), .int a, .int b, .int pq, .int 1, .int ev, .int fl]) rfl (mput_47 _ _ _) (Nat.le_of_ble_eq_true rfl) rfl rfl rfl ?_
    show xw z NK g 53 12 [(0, .ref (z + 47))] [] (xu (mput z S (sl, a, b, pq, sa, ev, fl, L, V)) 47 (.inr (.inr (4, [.ref (z + 44), .ref (z + 48), .int a, .int b, .int pq, .int 1, .int ev, .int fl])))) P
    rw [mput_s47]
    refine xw.steps 1 (fun _ => rfl) ?_
    refine xw.ret rfl (fun _ => rfl) ?_
    show P none (mput z S (sl, a, b, pq, 1, ev, fl, L, V))
    first | simpa [c1] using hP | simp_all []
set_option maxHeartbeats 2000000 in
/-- RowCode$Machine.combine(I)V -/
theorem c_combine {k : Int32} (hP : P none (mput z S (sl, (if a = 0 ∧ a_divides k = true then a else a_calc k b a), b, pq, (if a = 0 ∧ a_divides k = true then 3 else sa), ev, fl, L, V))) : xw z NK g 48 0 [(0, .ref (z + 47)), (1, .int k)] [] (mput z S (sl, a, b, pq, sa, ev, fl, L, V)) P := by
  refine xw.steps 1 (fun _ => rfl) ?_
  refine xw.getf (o := 47) rfl (mput_47 _ _ _) rfl ?_
  refine xw.if_ rfl (fun c1 => ?_) (fun c1 => ?_)
  · have c1 := of_decide_eq_true c1
    refine xw.steps 3 (fun _ => rfl) ?_
    refine xw.getf (o := 47) rfl (mput_47 _ _ _) rfl ?_
    refine xw.steps 1 (fun _ => rfl) ?_
    refine xw.getf (o := 47) rfl (mput_47 _ _ _) rfl ?_
    show xw z NK g 48 32 [(0, .ref (z + 47)), (1, .int k)] [.int a, .int b, .int k, .ref (z + 47)] (mput z S (sl, a, b, pq, sa, ev, fl, L, V)) P
    refine xw.callS rfl rfl rfl rfl rfl (c_calculate ?_)
    show xw z NK g 48 35 [(0, .ref (z + 47)), (1, .int k)] [.int (a_calc k b a), .ref (z + 47)] (mput z S (sl, a, b, pq, sa, ev, fl, L, V)) P
    refine xw.putf (o := 47) (fs' := [.ref (z + 44), .ref (z + 48), .int (a_calc k b a), .int b, .int pq, .int sa, .int ev, .int fl]) rfl (mput_47 _ _ _) (Nat.le_of_ble_eq_true rfl) rfl rfl rfl ?_
    show xw z NK g 48 38 [(0, .ref (z + 47)), (1, .int k)] [] (xu (mput z S (sl, a, b, pq, sa, ev, fl, L, V)) 47 (.inr (.inr (4, [.ref (z + 44), .ref (z + 48), .int (a_calc k b a), .int b, .int pq, .int sa, .int ev, .int fl])))) P
    rw [mput_s47]
    refine xw.ret rfl (fun _ => rfl) ?_
    show P none (mput z S (sl, (a_calc k b a), b, pq, sa, ev, fl, L, V))
    first | simpa [c1] using hP | simp_all []
  · have c1 := Decidable.not_not.mp (of_decide_eq_false c1)
    refine xw.steps 1 (fun _ => rfl) ?_
    show xw z NK g 48 8 [(0, .ref (z + 47)), (1, .int k)] [.int k] (mput z S (sl, a, b, pq, sa, ev, fl, L, V)) P
    refine xw.callS rfl rfl rfl rfl rfl (c_divides ?_)
    show xw z NK g 48 11 [(0, .ref (z + 47)), (1, .int k)] [.int (bI (a_divides k))] (mput z S (sl, a, b, pq, sa, ev, fl, L, V)) P
    refine xw.if_ rfl (fun c2 => ?_) (fun c2 => ?_)
    · have c2 := bI_eq0 (of_decide_eq_true c2)
      refine xw.steps 3 (fun _ => rfl) ?_
      refine xw.getf (o := 47) rfl (mput_47 _ _ _) rfl ?_
      refine xw.steps 1 (fun _ => rfl) ?_
      refine xw.getf (o := 47) rfl (mput_47 _ _ _) rfl ?_
      show xw z NK g 48 32 [(0, .ref (z + 47)), (1, .int k)] [.int a, .int b, .int k, .ref (z + 47)] (mput z S (sl, a, b, pq, sa, ev, fl, L, V)) P
      refine xw.callS rfl rfl rfl rfl rfl (c_calculate ?_)
      show xw z NK g 48 35 [(0, .ref (z + 47)), (1, .int k)] [.int (a_calc k b a), .ref (z + 47)] (mput z S (sl, a, b, pq, sa, ev, fl, L, V)) P
      refine xw.putf (o := 47) (fs' := [.ref (z + 44), .ref (z + 48), .int (a_calc k b a), .int b, .int pq, .int sa, .int ev, .int fl]) rfl (mput_47 _ _ _) (Nat.le_of_ble_eq_true rfl) rfl rfl rfl ?_
      show xw z NK g 48 38 [(0, .ref (z + 47)), (1, .int k)] [] (xu (mput z S (sl, a, b, pq, sa, ev, fl, L, V)) 47 (.inr (.inr (4, [.ref (z + 44), .ref (z + 48), .int (a_calc k b a), .int b, .int pq, .int sa, .int ev, .int fl])))) P
      rw [mput_s47]
      refine xw.ret rfl (fun _ => rfl) ?_
      show P none (mput z S (sl, (a_calc k b a), b, pq, sa, ev, fl, L, V))
      first | simpa [c1, c2] using hP | simp_all []
    · have c2 := bI_ne0 (of_decide_eq_false c2)
      refine xw.steps 2 (fun _ => rfl) ?_
      refine xw.putf (o := 47) (fs' := [.ref (z + 44), .ref (z + 48), .int a, .int b, .int pq, .int 3, .int ev, .int fl]) rfl (mput_47 _ _ _) (Nat.le_of_ble_eq_true rfl) rfl rfl rfl ?_
      show xw z NK g 48 19 [(0, .ref (z + 47)), (1, .int k)] [] (xu (mput z S (sl, a, b, pq, sa, ev, fl, L, V)) 47 (.inr (.inr (4, [.ref (z + 44), .ref (z + 48), .int a, .int b, .int pq, .int 3, .int ev, .int fl])))) P
      rw [mput_s47]
      refine xw.steps 1 (fun _ => rfl) ?_
      refine xw.ret rfl (fun _ => rfl) ?_
      show P none (mput z S (sl, a, b, pq, 3, ev, fl, L, V))
      first | simpa [c1, c2] using hP | simp_all []
set_option maxHeartbeats 2000000 in
/-- RowCode$Machine.relateAndKeep(I)V -/
theorem c_relKeep {k : Int32} (hP : P none (mput z S (sl, (a_compare k b a), a, pq, sa, ev, fl, L, V))) : xw z NK g 49 0 [(0, .ref (z + 47)), (1, .int k)] [] (mput z S (sl, a, b, pq, sa, ev, fl, L, V)) P := by
  refine xw.steps 1 (fun _ => rfl) ?_
  refine xw.getf (o := 47) rfl (mput_47 _ _ _) rfl ?_
  refine xw.steps 4 (fun _ => rfl) ?_
  refine xw.getf (o := 47) rfl (mput_47 _ _ _) rfl ?_
  refine xw.steps 1 (fun _ => rfl) ?_
  show xw z NK g 49 12 [(0, .ref (z + 47)), (1, .int k), (2, .int a)] [.int a, .int b, .int k, .ref (z + 47)] (mput z S (sl, a, b, pq, sa, ev, fl, L, V)) P
  refine xw.callS rfl rfl rfl rfl rfl (c_compare ?_)
  show xw z NK g 49 15 [(0, .ref (z + 47)), (1, .int k), (2, .int a)] [.int (a_compare k b a), .ref (z + 47)] (mput z S (sl, a, b, pq, sa, ev, fl, L, V)) P
  refine xw.putf (o := 47) (fs' := [.ref (z + 44), .ref (z + 48), .int (a_compare k b a), .int b, .int pq, .int sa, .int ev, .int fl]) rfl (mput_47 _ _ _) (Nat.le_of_ble_eq_true rfl) rfl rfl rfl ?_
  show xw z NK g 49 18 [(0, .ref (z + 47)), (1, .int k), (2, .int a)] [] (xu (mput z S (sl, a, b, pq, sa, ev, fl, L, V)) 47 (.inr (.inr (4, [.ref (z + 44), .ref (z + 48), .int (a_compare k b a), .int b, .int pq, .int sa, .int ev, .int fl])))) P
  rw [mput_s47]
  refine xw.steps 2 (fun _ => rfl) ?_
  refine xw.putf (o := 47) (fs' := [.ref (z + 44), .ref (z + 48), .int (a_compare k b a), .int a, .int pq, .int sa, .int ev, .int fl]) rfl (mput_47 _ _ _) (Nat.le_of_ble_eq_true rfl) rfl rfl rfl ?_
  show xw z NK g 49 23 [(0, .ref (z + 47)), (1, .int k), (2, .int a)] [] (xu (mput z S (sl, (a_compare k b a), b, pq, sa, ev, fl, L, V)) 47 (.inr (.inr (4, [.ref (z + 44), .ref (z + 48), .int (a_compare k b a), .int a, .int pq, .int sa, .int ev, .int fl])))) P
  rw [mput_s47]
  refine xw.ret rfl (fun _ => rfl) ?_
  show P none (mput z S (sl, (a_compare k b a), a, pq, sa, ev, fl, L, V))
  first | exact hP | simpa [] using hP | simp_all []
set_option maxHeartbeats 2000000 in
/-- RowCode$Machine.fetch()V -/
theorem c_fetch (h44 : S 44 = some (.inr (.inr (5, [.ref (z + 45), .ref (z + 46)])))) (hP : P none (mput z S (sl, (if m_hasW a.toInt64 = true then mVa V a else a), b, pq, (if m_hasW a.toInt64 = true then sa else 2), ev, fl, L, V))) : xw z NK g 46 0 [(0, .ref (z + 47))] [] (mput z S (sl, a, b, pq, sa, ev, fl, L, V)) P := by
  refine xw.steps 2 (fun _ => rfl) ?_
  refine xw.getf (o := 47) rfl (mput_47 _ _ _) rfl ?_
  refine xw.steps 1 (fun _ => rfl) ?_
  show xw z NK g 46 6 [(0, .ref (z + 47))] [.long a.toInt64, .ref (z + 47)] (mput z S (sl, a, b, pq, sa, ev, fl, L, V)) P
  refine xw.callO (o := 47) rfl rfl rfl (mput_47 _ _ _) rfl rfl (c_reaches ?_)
  show xw z NK g 46 9 [(0, .ref (z + 47))] [.int (bI (m_hasW a.toInt64))] (mput z S (sl, a, b, pq, (if m_hasW a.toInt64 = true then sa else 2), ev, fl, L, V)) P
  refine xw.if_ rfl (fun c1 => ?_) (fun c1 => ?_)
  · have c1 := bI_eq0 (of_decide_eq_true c1)
    refine xw.ret rfl (fun _ => rfl) ?_
    show P none (mput z S (sl, a, b, pq, (if m_hasW a.toInt64 = true then sa else 2), ev, fl, L, V))
    first | simpa [c1] using hP | simp_all []
  · have c1 := bI_ne0 (of_decide_eq_false c1)
    refine xw.steps 2 (fun _ => rfl) ?_
    refine xw.getf (o := 47) rfl (mput_47 _ _ _) rfl ?_
    refine xw.steps 1 (fun _ => rfl) ?_
    refine xw.getf (o := 47) rfl (mput_47 _ _ _) rfl ?_
    show xw z NK g 46 21 [(0, .ref (z + 47))] [.int a, .ref (z + 44), .ref (z + 47)] (mput z S (sl, a, b, pq, (if m_hasW a.toInt64 = true then sa else 2), ev, fl, L, V)) P
    refine xw.callO (o := 44) rfl rfl rfl ((mput_ne _ _ _ (by decide)).trans h44) rfl rfl (c_wordAt ((mput_ne _ _ _ (by decide)).trans h44) (mput_45 _ _ _) (mput_46 _ _ _) ?_)
    show xw z NK g 46 24 [(0, .ref (z + 47))] [.int (mVa V a), .ref (z + 47)] (mput z S (sl, a, b, pq, (if m_hasW a.toInt64 = true then sa else 2), ev, fl, L, V)) P
    refine xw.putf (o := 47) (fs' := [.ref (z + 44), .ref (z + 48), .int (mVa V a), .int b, .int pq, .int (if m_hasW a.toInt64 = true then sa else 2), .int ev, .int fl]) rfl (mput_47 _ _ _) (Nat.le_of_ble_eq_true rfl) rfl rfl rfl ?_
    show xw z NK g 46 27 [(0, .ref (z + 47))] [] (xu (mput z S (sl, a, b, pq, (if m_hasW a.toInt64 = true then sa else 2), ev, fl, L, V)) 47 (.inr (.inr (4, [.ref (z + 44), .ref (z + 48), .int (mVa V a), .int b, .int pq, .int (if m_hasW a.toInt64 = true then sa else 2), .int ev, .int fl])))) P
    rw [mput_s47]
    refine xw.ret rfl (fun _ => rfl) ?_
    show P none (mput z S (sl, (mVa V a), b, pq, (if m_hasW a.toInt64 = true then sa else 2), ev, fl, L, V))
    first | simpa [c1] using hP | simp_all []
set_option maxHeartbeats 2000000 in
/-- RowCode$Machine.store()V -/
theorem c_mstore (h44 : S 44 = some (.inr (.inr (5, [.ref (z + 45), .ref (z + 46)])))) (hP : P none (mput z S (sl, a, b, pq, (if m_hasW a.toInt64 = true then sa else 2), ev, fl, L, (if m_hasW a.toInt64 = true then mV V a b else V)))) : xw z NK g 47 0 [(0, .ref (z + 47))] [] (mput z S (sl, a, b, pq, sa, ev, fl, L, V)) P := by
  refine xw.steps 2 (fun _ => rfl) ?_
  refine xw.getf (o := 47) rfl (mput_47 _ _ _) rfl ?_
  refine xw.steps 1 (fun _ => rfl) ?_
  show xw z NK g 47 6 [(0, .ref (z + 47))] [.long a.toInt64, .ref (z + 47)] (mput z S (sl, a, b, pq, sa, ev, fl, L, V)) P
  refine xw.callO (o := 47) rfl rfl rfl (mput_47 _ _ _) rfl rfl (c_reaches ?_)
  show xw z NK g 47 9 [(0, .ref (z + 47))] [.int (bI (m_hasW a.toInt64))] (mput z S (sl, a, b, pq, (if m_hasW a.toInt64 = true then sa else 2), ev, fl, L, V)) P
  refine xw.if_ rfl (fun c1 => ?_) (fun c1 => ?_)
  · have c1 := bI_eq0 (of_decide_eq_true c1)
    refine xw.ret rfl (fun _ => rfl) ?_
    show P none (mput z S (sl, a, b, pq, (if m_hasW a.toInt64 = true then sa else 2), ev, fl, L, V))
    first | simpa [c1] using hP | simp_all []
  · have c1 := bI_ne0 (of_decide_eq_false c1)
    refine xw.steps 1 (fun _ => rfl) ?_
    refine xw.getf (o := 47) rfl (mput_47 _ _ _) rfl ?_
    refine xw.steps 1 (fun _ => rfl) ?_
    refine xw.getf (o := 47) rfl (mput_47 _ _ _) rfl ?_
    refine xw.steps 1 (fun _ => rfl) ?_
    refine xw.getf (o := 47) rfl (mput_47 _ _ _) rfl ?_
    show xw z NK g 47 24 [(0, .ref (z + 47))] [.int b, .int a, .ref (z + 44)] (mput z S (sl, a, b, pq, (if m_hasW a.toInt64 = true then sa else 2), ev, fl, L, V)) P
    refine xw.callO (o := 44) rfl rfl rfl ((mput_ne _ _ _ (by decide)).trans h44) rfl rfl (c_mchW h44 ?_)
    show xw z NK g 47 27 [(0, .ref (z + 47))] [] (mput z S (sl, a, b, pq, (if m_hasW a.toInt64 = true then sa else 2), ev, fl, L, (mV V a b))) P
    refine xw.ret rfl (fun _ => rfl) ?_
    show P none (mput z S (sl, a, b, pq, (if m_hasW a.toInt64 = true then sa else 2), ev, fl, L, (mV V a b)))
    first | simpa [c1] using hP | simp_all []
end XM
