/-! TRANSLATOR: its cells as one value: image, kinds, details, inA, inB (walks by wip/gen27.py) -/
abbrev TT : Type := List Int32 × List Int32 × List Int32 × Int32 × Int32
def tput (z : Nat) (S : xS) (t : TT) : xS := xu (xu (xu (xu S 31 (.inl t.1)) 33 (.inl t.2.1)) 35 (.inl t.2.2.1)) 30 (.inr (.inr (8, [.ref (z + 31), .ref (z + 33), .ref (z + 35), .int t.2.2.2.1, .int t.2.2.2.2])))
theorem tput_30 (z : Nat) (S : xS) (t : TT) : tput z S t 30 = some (.inr (.inr (8, [.ref (z + 31), .ref (z + 33), .ref (z + 35), .int t.2.2.2.1, .int t.2.2.2.2]))) := by simp [tput, xu]
theorem tput_31 (z : Nat) (S : xS) (t : TT) : tput z S t 31 = some (.inl t.1) := by simp [tput, xu]
theorem tput_33 (z : Nat) (S : xS) (t : TT) : tput z S t 33 = some (.inl t.2.1) := by simp [tput, xu]
theorem tput_35 (z : Nat) (S : xS) (t : TT) : tput z S t 35 = some (.inl t.2.2.1) := by simp [tput, xu]
theorem tput_ne (z : Nat) (S : xS) (t : TT) {q : Nat} (h : q ≠ 30 ∧ q ≠ 31 ∧ q ≠ 33 ∧ q ≠ 35) : tput z S t q = S q := by simp [tput, xu, h]
theorem tput_s31 (z : Nat) (S : xS) (t : TT) (x : List Int32) : xu (tput z S t) 31 (.inl x) = tput z S (x, t.2) := by
  funext q; unfold tput xu
  by_cases h1 : q = 30 <;> by_cases h2 : q = 31 <;> by_cases h3 : q = 33 <;> by_cases h4 : q = 35 <;> simp_all
theorem tput_s33 (z : Nat) (S : xS) (t : TT) (x : List Int32) : xu (tput z S t) 33 (.inl x) = tput z S (t.1, x, t.2.2) := by
  funext q; unfold tput xu
  by_cases h1 : q = 30 <;> by_cases h2 : q = 31 <;> by_cases h3 : q = 33 <;> by_cases h4 : q = 35 <;> simp_all
theorem tput_s35 (z : Nat) (S : xS) (t : TT) (x : List Int32) : xu (tput z S t) 35 (.inl x) = tput z S (t.1, t.2.1, x, t.2.2.2) := by
  funext q; unfold tput xu
  by_cases h1 : q = 30 <;> by_cases h2 : q = 31 <;> by_cases h3 : q = 33 <;> by_cases h4 : q = 35 <;> simp_all
theorem tput_s30 (z : Nat) (S : xS) (t : TT) (a b : Int32) : xu (tput z S t) 30 (.inr (.inr (8, [.ref (z + 31), .ref (z + 33), .ref (z + 35), .int a, .int b]))) = tput z S (t.1, t.2.1, t.2.2.1, a, b) := by
  funext q; unfold tput xu
  by_cases h1 : q = 30 <;> by_cases h2 : q = 31 <;> by_cases h3 : q = 33 <;> by_cases h4 : q = 35 <;> simp_all
def tr_write (t : TT) (n a : Int32) : TT := (if ¬ a < -8388608 ∧ a < 8388608 then t.1 ++ [(a <<< (8 &&& 31)) ||| n] else (t.1 ++ [128 ||| n]) ++ [a], t.2)
def tr_row (t : TT) (d : Int32) : TT := (t.1, List.replicate d.toNatClampNeg 0, List.replicate d.toNatClampNeg 0, -1, -1)
def tr_lay (t : TT) (k d : Int32) : TT := (t.1, t.2.1 ++ [k], t.2.2.1 ++ [d], t.2.2.2.1, t.2.2.2.2)
def tr_drop (t : TT) (c : Int32) : TT := (t.1, p_c t.2.1 c, p_c t.2.2.1 c, if t.2.2.2.1 < nI (p_c t.2.1 c).length then t.2.2.2.1 else -1, if t.2.2.2.2 < nI (p_c t.2.1 c).length then t.2.2.2.2 else -1)
def tr_leave (t : TT) : TT := ((tr_lay (tr_drop t 2) 1 0).1, (tr_lay (tr_drop t 2) 1 0).2.1, (tr_lay (tr_drop t 2) 1 0).2.2.1, nI (tr_lay (tr_drop t 2) 1 0).2.1.length - 1, (tr_lay (tr_drop t 2) 1 0).2.2.2.2)
theorem tr_write_len (t : TT) (n a : Int32) : (tr_write t n a).1.length ≤ t.1.length + 2 ∧ (tr_write t n a).2 = t.2 := by
  refine ⟨?_, rfl⟩
  unfold tr_write
  dsimp only
  split <;> simp
theorem tr_lay_len (t : TT) (k d : Int32) : (tr_lay t k d).1 = t.1 ∧ (tr_lay t k d).2.1.length = t.2.1.length + 1 ∧ (tr_lay t k d).2.2.1.length = t.2.2.1.length + 1 := by
  unfold tr_lay; simp
theorem tr_drop_len (t : TT) (c : Int32) : (tr_drop t c).1 = t.1 ∧ (tr_drop t c).2.1.length ≤ t.2.1.length ∧ (tr_drop t c).2.2.1.length ≤ t.2.2.1.length := ⟨rfl, p_c_len _ _, p_c_len _ _⟩
section XT
variable {z : Nat} {NK : List Nat} {g : mx_G} {S : xS} {P : Option Value → xS → Prop} {im ki de : List Int32} {iA iB : Int32}
set_option maxHeartbeats 2000000 in
/-- RowCode$Translator.write(II)V -/
theorem c_write (hi : im.length + 2 ≤ 131072) {n a : Int32} (hP : P none (tput z S (tr_write (im, ki, de, iA, iB) n a))) : xw z NK g 88 0 [(0, .ref (z + 30)), (1, .int n), (2, .int a)] [] (tput z S (im, ki, de, iA, iB)) P := by
  refine xw.steps 2 (fun _ => rfl) ?_
  refine xw.icmp rfl (fun c1 => ?_) (fun c1 => ?_)
  · have c1 := of_decide_eq_true c1
    refine xw.steps 1 (fun _ => rfl) ?_
    refine xw.getf (o := 30) rfl (tput_30 _ _ _) rfl ?_
    refine xw.steps 3 (fun _ => rfl) ?_
    show xw z NK g 88 37 [(0, .ref (z + 30)), (1, .int n), (2, .int a)] [.int (128 ||| n), .ref (z + 31)] (tput z S (im, ki, de, iA, iB)) P
    refine xw.callN (o := 31) rfl rfl rfl (tput_31 _ _ _) rfl rfl (c_append (xs := im) (tput_31 _ _ _) (by omega) ?_)
    show xw z NK g 88 40 [(0, .ref (z + 30)), (1, .int n), (2, .int a)] [] (xu (tput z S (im, ki, de, iA, iB)) 31 (.inl (im ++ [(128 ||| n)]))) P
    rw [tput_s31]
    refine xw.steps 1 (fun _ => rfl) ?_
    refine xw.getf (o := 30) rfl (tput_30 _ _ _) rfl ?_
    refine xw.steps 1 (fun _ => rfl) ?_
    show xw z NK g 88 45 [(0, .ref (z + 30)), (1, .int n), (2, .int a)] [.int a, .ref (z + 31)] (tput z S ((im ++ [(128 ||| n)]), ki, de, iA, iB)) P
    refine xw.callN (o := 31) rfl rfl rfl (tput_31 _ _ _) rfl rfl (c_append (xs := (im ++ [(128 ||| n)])) (tput_31 _ _ _) (by simp; omega) ?_)
    show xw z NK g 88 48 [(0, .ref (z + 30)), (1, .int n), (2, .int a)] [] (xu (tput z S ((im ++ [(128 ||| n)]), ki, de, iA, iB)) 31 (.inl ((im ++ [(128 ||| n)]) ++ [a]))) P
    rw [tput_s31]
    refine xw.ret rfl (fun _ => rfl) ?_
    show P none (tput z S (((im ++ [(128 ||| n)]) ++ [a]), ki, de, iA, iB))
    first | exact hP | simpa [tr_write, c1] using hP | simp_all [tr_write]
  · have c1 := of_decide_eq_false c1
    refine xw.steps 2 (fun _ => rfl) ?_
    refine xw.icmp rfl (fun c2 => ?_) (fun c2 => ?_)
    · have c2 := Int32.not_lt.mpr (of_decide_eq_true c2)
      refine xw.steps 1 (fun _ => rfl) ?_
      refine xw.getf (o := 30) rfl (tput_30 _ _ _) rfl ?_
      refine xw.steps 3 (fun _ => rfl) ?_
      show xw z NK g 88 37 [(0, .ref (z + 30)), (1, .int n), (2, .int a)] [.int (128 ||| n), .ref (z + 31)] (tput z S (im, ki, de, iA, iB)) P
      refine xw.callN (o := 31) rfl rfl rfl (tput_31 _ _ _) rfl rfl (c_append (xs := im) (tput_31 _ _ _) (by omega) ?_)
      show xw z NK g 88 40 [(0, .ref (z + 30)), (1, .int n), (2, .int a)] [] (xu (tput z S (im, ki, de, iA, iB)) 31 (.inl (im ++ [(128 ||| n)]))) P
      rw [tput_s31]
      refine xw.steps 1 (fun _ => rfl) ?_
      refine xw.getf (o := 30) rfl (tput_30 _ _ _) rfl ?_
      refine xw.steps 1 (fun _ => rfl) ?_
      show xw z NK g 88 45 [(0, .ref (z + 30)), (1, .int n), (2, .int a)] [.int a, .ref (z + 31)] (tput z S ((im ++ [(128 ||| n)]), ki, de, iA, iB)) P
      refine xw.callN (o := 31) rfl rfl rfl (tput_31 _ _ _) rfl rfl (c_append (xs := (im ++ [(128 ||| n)])) (tput_31 _ _ _) (by simp; omega) ?_)
      show xw z NK g 88 48 [(0, .ref (z + 30)), (1, .int n), (2, .int a)] [] (xu (tput z S ((im ++ [(128 ||| n)]), ki, de, iA, iB)) 31 (.inl ((im ++ [(128 ||| n)]) ++ [a]))) P
      rw [tput_s31]
      refine xw.ret rfl (fun _ => rfl) ?_
      show P none (tput z S (((im ++ [(128 ||| n)]) ++ [a]), ki, de, iA, iB))
      first | exact hP | simpa [tr_write, c1, c2] using hP | simp_all [tr_write]
    · have c2 := Int32.not_le.mp (of_decide_eq_false c2)
      refine xw.steps 1 (fun _ => rfl) ?_
      refine xw.getf (o := 30) rfl (tput_30 _ _ _) rfl ?_
      refine xw.steps 5 (fun _ => rfl) ?_
      show xw z NK g 88 22 [(0, .ref (z + 30)), (1, .int n), (2, .int a)] [.int ((a <<< (8 &&& 31)) ||| n), .ref (z + 31)] (tput z S (im, ki, de, iA, iB)) P
      refine xw.callN (o := 31) rfl rfl rfl (tput_31 _ _ _) rfl rfl (c_append (xs := im) (tput_31 _ _ _) (by omega) ?_)
      show xw z NK g 88 25 [(0, .ref (z + 30)), (1, .int n), (2, .int a)] [] (xu (tput z S (im, ki, de, iA, iB)) 31 (.inl (im ++ [((a <<< (8 &&& 31)) ||| n)]))) P
      rw [tput_s31]
      refine xw.steps 1 (fun _ => rfl) ?_
      refine xw.ret rfl (fun _ => rfl) ?_
      show P none (tput z S ((im ++ [((a <<< (8 &&& 31)) ||| n)]), ki, de, iA, iB))
      first | exact hP | simpa [tr_write, c1, c2] using hP | simp_all [tr_write]
set_option maxHeartbeats 2000000 in
/-- RowCode$Translator.layRow(I)V -/
theorem c_layRow {d : Int32} (hd : d.toNatClampNeg ≤ 131072)  (hP : P none (tput z S (tr_row (im, ki, de, iA, iB) d))) : xw z NK g 89 0 [(0, .ref (z + 30)), (1, .int d)] [] (tput z S (im, ki, de, iA, iB)) P := by
  refine xw.steps 1 (fun _ => rfl) ?_
  refine xw.getf (o := 30) rfl (tput_30 _ _ _) rfl ?_
  refine xw.steps 2 (fun _ => rfl) ?_
  show xw z NK g 89 6 [(0, .ref (z + 30)), (1, .int d)] [.int 0, .int d, .ref (z + 33)] (tput z S (im, ki, de, iA, iB)) P
  refine xw.callN (o := 33) rfl rfl rfl (tput_33 _ _ _) rfl rfl (c_refill (tput_33 _ _ _) hd ?_)
  show xw z NK g 89 9 [(0, .ref (z + 30)), (1, .int d)] [] (xu (tput z S (im, ki, de, iA, iB)) 33 (.inl (List.replicate d.toNatClampNeg 0))) P
  rw [tput_s33]
  refine xw.steps 1 (fun _ => rfl) ?_
  refine xw.getf (o := 30) rfl (tput_30 _ _ _) rfl ?_
  refine xw.steps 2 (fun _ => rfl) ?_
  show xw z NK g 89 15 [(0, .ref (z + 30)), (1, .int d)] [.int 0, .int d, .ref (z + 35)] (tput z S (im, (List.replicate d.toNatClampNeg 0), de, iA, iB)) P
  refine xw.callN (o := 35) rfl rfl rfl (tput_35 _ _ _) rfl rfl (c_refill (tput_35 _ _ _) hd ?_)
  show xw z NK g 89 18 [(0, .ref (z + 30)), (1, .int d)] [] (xu (tput z S (im, (List.replicate d.toNatClampNeg 0), de, iA, iB)) 35 (.inl (List.replicate d.toNatClampNeg 0))) P
  rw [tput_s35]
  refine xw.steps 2 (fun _ => rfl) ?_
  refine xw.putf (o := 30) (fs' := [.ref (z + 31), .ref (z + 33), .ref (z + 35), .int (-1), .int iB]) rfl (tput_30 _ _ _) (Nat.le_of_ble_eq_true rfl) rfl rfl rfl ?_
  show xw z NK g 89 23 [(0, .ref (z + 30)), (1, .int d)] [] (xu (tput z S (im, (List.replicate d.toNatClampNeg 0), (List.replicate d.toNatClampNeg 0), iA, iB)) 30 (.inr (.inr (8, [.ref (z + 31), .ref (z + 33), .ref (z + 35), .int (-1), .int iB])))) P
  rw [tput_s30]
  refine xw.steps 2 (fun _ => rfl) ?_
  refine xw.putf (o := 30) (fs' := [.ref (z + 31), .ref (z + 33), .ref (z + 35), .int (-1), .int (-1)]) rfl (tput_30 _ _ _) (Nat.le_of_ble_eq_true rfl) rfl rfl rfl ?_
  show xw z NK g 89 28 [(0, .ref (z + 30)), (1, .int d)] [] (xu (tput z S (im, (List.replicate d.toNatClampNeg 0), (List.replicate d.toNatClampNeg 0), (-1), iB)) 30 (.inr (.inr (8, [.ref (z + 31), .ref (z + 33), .ref (z + 35), .int (-1), .int (-1)])))) P
  rw [tput_s30]
  refine xw.ret rfl (fun _ => rfl) ?_
  show P none (tput z S (im, (List.replicate d.toNatClampNeg 0), (List.replicate d.toNatClampNeg 0), (-1), (-1)))
  first | exact hP | simpa [tr_row] using hP | simp_all [tr_row]
set_option maxHeartbeats 2000000 in
/-- RowCode$Translator.lay(II)V -/
theorem c_lay (hk : ki.length < 131072) (he : de.length < 131072) {k d : Int32} (hP : P none (tput z S (tr_lay (im, ki, de, iA, iB) k d))) : xw z NK g 90 0 [(0, .ref (z + 30)), (1, .int k), (2, .int d)] [] (tput z S (im, ki, de, iA, iB)) P := by
  refine xw.steps 1 (fun _ => rfl) ?_
  refine xw.getf (o := 30) rfl (tput_30 _ _ _) rfl ?_
  refine xw.steps 1 (fun _ => rfl) ?_
  show xw z NK g 90 5 [(0, .ref (z + 30)), (1, .int k), (2, .int d)] [.int k, .ref (z + 33)] (tput z S (im, ki, de, iA, iB)) P
  refine xw.callN (o := 33) rfl rfl rfl (tput_33 _ _ _) rfl rfl (c_append (xs := ki) (tput_33 _ _ _) (by first | assumption | (unfold nCut; rw [List.length_take]; omega) | exact Nat.lt_of_le_of_lt (j_arrW_len _ _ _) (by omega)) ?_)
  show xw z NK g 90 8 [(0, .ref (z + 30)), (1, .int k), (2, .int d)] [] (xu (tput z S (im, ki, de, iA, iB)) 33 (.inl (ki ++ [k]))) P
  rw [tput_s33]
  refine xw.steps 1 (fun _ => rfl) ?_
  refine xw.getf (o := 30) rfl (tput_30 _ _ _) rfl ?_
  refine xw.steps 1 (fun _ => rfl) ?_
  show xw z NK g 90 13 [(0, .ref (z + 30)), (1, .int k), (2, .int d)] [.int d, .ref (z + 35)] (tput z S (im, (ki ++ [k]), de, iA, iB)) P
  refine xw.callN (o := 35) rfl rfl rfl (tput_35 _ _ _) rfl rfl (c_append (xs := de) (tput_35 _ _ _) (by first | assumption | (unfold nCut; rw [List.length_take]; omega) | exact Nat.lt_of_le_of_lt (j_arrW_len _ _ _) (by omega)) ?_)
  show xw z NK g 90 16 [(0, .ref (z + 30)), (1, .int k), (2, .int d)] [] (xu (tput z S (im, (ki ++ [k]), de, iA, iB)) 35 (.inl (de ++ [d]))) P
  rw [tput_s35]
  refine xw.ret rfl (fun _ => rfl) ?_
  show P none (tput z S (im, (ki ++ [k]), (de ++ [d]), iA, iB))
  first | exact hP | simpa [tr_lay] using hP | simp_all [tr_lay]
set_option maxHeartbeats 2000000 in
/-- RowCode$Translator.drop(I)V -/
theorem c_tdrop  {c : Int32} (hP : P none (tput z S (tr_drop (im, ki, de, iA, iB) c))) : xw z NK g 91 0 [(0, .ref (z + 30)), (1, .int c)] [] (tput z S (im, ki, de, iA, iB)) P := by
  refine xw.steps 1 (fun _ => rfl) ?_
  refine xw.getf (o := 30) rfl (tput_30 _ _ _) rfl ?_
  refine xw.steps 1 (fun _ => rfl) ?_
  refine xw.getf (o := 30) rfl (tput_30 _ _ _) rfl ?_
  show xw z NK g 91 8 [(0, .ref (z + 30)), (1, .int c)] [.ref (z + 33), .ref (z + 33)] (tput z S (im, ki, de, iA, iB)) P
  refine xw.callN (o := 33) rfl rfl rfl (tput_33 _ _ _) rfl rfl (c_size (tput_33 _ _ _) ?_)
  show xw z NK g 91 11 [(0, .ref (z + 30)), (1, .int c)] [.int (nI ki.length), .ref (z + 33)] (tput z S (im, ki, de, iA, iB)) P
  refine xw.steps 2 (fun _ => rfl) ?_
  show xw z NK g 91 13 [(0, .ref (z + 30)), (1, .int c)] [.int ((nI ki.length) - c), .ref (z + 33)] (tput z S (im, ki, de, iA, iB)) P
  refine xw.callN (o := 33) rfl rfl rfl (tput_33 _ _ _) rfl rfl (c_cutTo (tput_33 _ _ _) ?_)
  show xw z NK g 91 16 [(0, .ref (z + 30)), (1, .int c)] [] (xu (tput z S (im, ki, de, iA, iB)) 33 (.inl (nCut ki ((nI ki.length) - c)))) P
  rw [tput_s33]
  refine xw.steps 1 (fun _ => rfl) ?_
  refine xw.getf (o := 30) rfl (tput_30 _ _ _) rfl ?_
  refine xw.steps 1 (fun _ => rfl) ?_
  refine xw.getf (o := 30) rfl (tput_30 _ _ _) rfl ?_
  show xw z NK g 91 24 [(0, .ref (z + 30)), (1, .int c)] [.ref (z + 35), .ref (z + 35)] (tput z S (im, (nCut ki ((nI ki.length) - c)), de, iA, iB)) P
  refine xw.callN (o := 35) rfl rfl rfl (tput_35 _ _ _) rfl rfl (c_size (tput_35 _ _ _) ?_)
  show xw z NK g 91 27 [(0, .ref (z + 30)), (1, .int c)] [.int (nI de.length), .ref (z + 35)] (tput z S (im, (nCut ki ((nI ki.length) - c)), de, iA, iB)) P
  refine xw.steps 2 (fun _ => rfl) ?_
  show xw z NK g 91 29 [(0, .ref (z + 30)), (1, .int c)] [.int ((nI de.length) - c), .ref (z + 35)] (tput z S (im, (nCut ki ((nI ki.length) - c)), de, iA, iB)) P
  refine xw.callN (o := 35) rfl rfl rfl (tput_35 _ _ _) rfl rfl (c_cutTo (tput_35 _ _ _) ?_)
  show xw z NK g 91 32 [(0, .ref (z + 30)), (1, .int c)] [] (xu (tput z S (im, (nCut ki ((nI ki.length) - c)), de, iA, iB)) 35 (.inl (nCut de ((nI de.length) - c)))) P
  rw [tput_s35]
  refine xw.steps 2 (fun _ => rfl) ?_
  refine xw.getf (o := 30) rfl (tput_30 _ _ _) rfl ?_
  refine xw.steps 1 (fun _ => rfl) ?_
  refine xw.getf (o := 30) rfl (tput_30 _ _ _) rfl ?_
  show xw z NK g 91 41 [(0, .ref (z + 30)), (1, .int c)] [.ref (z + 33), .int iA, .ref (z + 30)] (tput z S (im, (nCut ki ((nI ki.length) - c)), (nCut de ((nI de.length) - c)), iA, iB)) P
  refine xw.callN (o := 33) rfl rfl rfl (tput_33 _ _ _) rfl rfl (c_size (tput_33 _ _ _) ?_)
  show xw z NK g 91 44 [(0, .ref (z + 30)), (1, .int c)] [.int (nI (nCut ki ((nI ki.length) - c)).length), .int iA, .ref (z + 30)] (tput z S (im, (nCut ki ((nI ki.length) - c)), (nCut de ((nI de.length) - c)), iA, iB)) P
  refine xw.icmp rfl (fun c1 => ?_) (fun c1 => ?_)
  · have c1 := Int32.not_lt.mpr (of_decide_eq_true c1)
    refine xw.steps 1 (fun _ => rfl) ?_
    refine xw.putf (o := 30) (fs' := [.ref (z + 31), .ref (z + 33), .ref (z + 35), .int (-1), .int iB]) rfl (tput_30 _ _ _) (Nat.le_of_ble_eq_true rfl) rfl rfl rfl ?_
    show xw z NK g 91 58 [(0, .ref (z + 30)), (1, .int c)] [] (xu (tput z S (im, (nCut ki ((nI ki.length) - c)), (nCut de ((nI de.length) - c)), iA, iB)) 30 (.inr (.inr (8, [.ref (z + 31), .ref (z + 33), .ref (z + 35), .int (-1), .int iB])))) P
    rw [tput_s30]
    refine xw.steps 2 (fun _ => rfl) ?_
    refine xw.getf (o := 30) rfl (tput_30 _ _ _) rfl ?_
    refine xw.steps 1 (fun _ => rfl) ?_
    refine xw.getf (o := 30) rfl (tput_30 _ _ _) rfl ?_
    show xw z NK g 91 67 [(0, .ref (z + 30)), (1, .int c)] [.ref (z + 33), .int iB, .ref (z + 30)] (tput z S (im, (nCut ki ((nI ki.length) - c)), (nCut de ((nI de.length) - c)), (-1), iB)) P
    refine xw.callN (o := 33) rfl rfl rfl (tput_33 _ _ _) rfl rfl (c_size (tput_33 _ _ _) ?_)
    show xw z NK g 91 70 [(0, .ref (z + 30)), (1, .int c)] [.int (nI (nCut ki ((nI ki.length) - c)).length), .int iB, .ref (z + 30)] (tput z S (im, (nCut ki ((nI ki.length) - c)), (nCut de ((nI de.length) - c)), (-1), iB)) P
    refine xw.icmp rfl (fun c2 => ?_) (fun c2 => ?_)
    · have c2 := Int32.not_lt.mpr (of_decide_eq_true c2)
      refine xw.steps 1 (fun _ => rfl) ?_
      refine xw.putf (o := 30) (fs' := [.ref (z + 31), .ref (z + 33), .ref (z + 35), .int (-1), .int (-1)]) rfl (tput_30 _ _ _) (Nat.le_of_ble_eq_true rfl) rfl rfl rfl ?_
      show xw z NK g 91 84 [(0, .ref (z + 30)), (1, .int c)] [] (xu (tput z S (im, (nCut ki ((nI ki.length) - c)), (nCut de ((nI de.length) - c)), (-1), iB)) 30 (.inr (.inr (8, [.ref (z + 31), .ref (z + 33), .ref (z + 35), .int (-1), .int (-1)])))) P
      rw [tput_s30]
      refine xw.ret rfl (fun _ => rfl) ?_
      show P none (tput z S (im, (nCut ki ((nI ki.length) - c)), (nCut de ((nI de.length) - c)), (-1), (-1)))
      first | exact hP | simpa [tr_drop, p_c, c1, c2] using hP | simp_all [tr_drop, p_c]
    · have c2 := Int32.not_le.mp (of_decide_eq_false c2)
      refine xw.steps 1 (fun _ => rfl) ?_
      refine xw.getf (o := 30) rfl (tput_30 _ _ _) rfl ?_
      refine xw.steps 1 (fun _ => rfl) ?_
      refine xw.putf (o := 30) (fs' := [.ref (z + 31), .ref (z + 33), .ref (z + 35), .int (-1), .int iB]) rfl (tput_30 _ _ _) (Nat.le_of_ble_eq_true rfl) rfl rfl rfl ?_
      show xw z NK g 91 84 [(0, .ref (z + 30)), (1, .int c)] [] (xu (tput z S (im, (nCut ki ((nI ki.length) - c)), (nCut de ((nI de.length) - c)), (-1), iB)) 30 (.inr (.inr (8, [.ref (z + 31), .ref (z + 33), .ref (z + 35), .int (-1), .int iB])))) P
      rw [tput_s30]
      refine xw.ret rfl (fun _ => rfl) ?_
      show P none (tput z S (im, (nCut ki ((nI ki.length) - c)), (nCut de ((nI de.length) - c)), (-1), iB))
      first | exact hP | simpa [tr_drop, p_c, c1, c2] using hP | simp_all [tr_drop, p_c]
  · have c1 := Int32.not_le.mp (of_decide_eq_false c1)
    refine xw.steps 1 (fun _ => rfl) ?_
    refine xw.getf (o := 30) rfl (tput_30 _ _ _) rfl ?_
    refine xw.steps 1 (fun _ => rfl) ?_
    refine xw.putf (o := 30) (fs' := [.ref (z + 31), .ref (z + 33), .ref (z + 35), .int iA, .int iB]) rfl (tput_30 _ _ _) (Nat.le_of_ble_eq_true rfl) rfl rfl rfl ?_
    show xw z NK g 91 58 [(0, .ref (z + 30)), (1, .int c)] [] (xu (tput z S (im, (nCut ki ((nI ki.length) - c)), (nCut de ((nI de.length) - c)), iA, iB)) 30 (.inr (.inr (8, [.ref (z + 31), .ref (z + 33), .ref (z + 35), .int iA, .int iB])))) P
    rw [tput_s30]
    refine xw.steps 2 (fun _ => rfl) ?_
    refine xw.getf (o := 30) rfl (tput_30 _ _ _) rfl ?_
    refine xw.steps 1 (fun _ => rfl) ?_
    refine xw.getf (o := 30) rfl (tput_30 _ _ _) rfl ?_
    show xw z NK g 91 67 [(0, .ref (z + 30)), (1, .int c)] [.ref (z + 33), .int iB, .ref (z + 30)] (tput z S (im, (nCut ki ((nI ki.length) - c)), (nCut de ((nI de.length) - c)), iA, iB)) P
    refine xw.callN (o := 33) rfl rfl rfl (tput_33 _ _ _) rfl rfl (c_size (tput_33 _ _ _) ?_)
    show xw z NK g 91 70 [(0, .ref (z + 30)), (1, .int c)] [.int (nI (nCut ki ((nI ki.length) - c)).length), .int iB, .ref (z + 30)] (tput z S (im, (nCut ki ((nI ki.length) - c)), (nCut de ((nI de.length) - c)), iA, iB)) P
    refine xw.icmp rfl (fun c3 => ?_) (fun c3 => ?_)
    · have c3 := Int32.not_lt.mpr (of_decide_eq_true c3)
      refine xw.steps 1 (fun _ => rfl) ?_
      refine xw.putf (o := 30) (fs' := [.ref (z + 31), .ref (z + 33), .ref (z + 35), .int iA, .int (-1)]) rfl (tput_30 _ _ _) (Nat.le_of_ble_eq_true rfl) rfl rfl rfl ?_
      show xw z NK g 91 84 [(0, .ref (z + 30)), (1, .int c)] [] (xu (tput z S (im, (nCut ki ((nI ki.length) - c)), (nCut de ((nI de.length) - c)), iA, iB)) 30 (.inr (.inr (8, [.ref (z + 31), .ref (z + 33), .ref (z + 35), .int iA, .int (-1)])))) P
      rw [tput_s30]
      refine xw.ret rfl (fun _ => rfl) ?_
      show P none (tput z S (im, (nCut ki ((nI ki.length) - c)), (nCut de ((nI de.length) - c)), iA, (-1)))
      first | exact hP | simpa [tr_drop, p_c, c1, c3] using hP | simp_all [tr_drop, p_c]
    · have c3 := Int32.not_le.mp (of_decide_eq_false c3)
      refine xw.steps 1 (fun _ => rfl) ?_
      refine xw.getf (o := 30) rfl (tput_30 _ _ _) rfl ?_
      refine xw.steps 1 (fun _ => rfl) ?_
      refine xw.putf (o := 30) (fs' := [.ref (z + 31), .ref (z + 33), .ref (z + 35), .int iA, .int iB]) rfl (tput_30 _ _ _) (Nat.le_of_ble_eq_true rfl) rfl rfl rfl ?_
      show xw z NK g 91 84 [(0, .ref (z + 30)), (1, .int c)] [] (xu (tput z S (im, (nCut ki ((nI ki.length) - c)), (nCut de ((nI de.length) - c)), iA, iB)) 30 (.inr (.inr (8, [.ref (z + 31), .ref (z + 33), .ref (z + 35), .int iA, .int iB])))) P
      rw [tput_s30]
      refine xw.ret rfl (fun _ => rfl) ?_
      show P none (tput z S (im, (nCut ki ((nI ki.length) - c)), (nCut de ((nI de.length) - c)), iA, iB))
      first | exact hP | simpa [tr_drop, p_c, c1, c3] using hP | simp_all [tr_drop, p_c]
set_option maxHeartbeats 2000000 in
/-- RowCode$Translator.leaveInA()V -/
theorem c_leave (hk : ki.length < 131072) (he : de.length < 131072)  (hP : P none (tput z S (tr_leave (im, ki, de, iA, iB)))) : xw z NK g 92 0 [(0, .ref (z + 30))] [] (tput z S (im, ki, de, iA, iB)) P := by
  refine xw.steps 2 (fun _ => rfl) ?_
  show xw z NK g 92 2 [(0, .ref (z + 30))] [.int 2, .ref (z + 30)] (tput z S (im, ki, de, iA, iB)) P
  refine xw.callO (o := 30) rfl rfl rfl (tput_30 _ _ _) rfl rfl (c_tdrop  ?_)
  show xw z NK g 92 5 [(0, .ref (z + 30))] [] (tput z S ((tr_drop (im, ki, de, iA, iB) 2).1, (tr_drop (im, ki, de, iA, iB) 2).2.1, (tr_drop (im, ki, de, iA, iB) 2).2.2.1, (tr_drop (im, ki, de, iA, iB) 2).2.2.2.1, (tr_drop (im, ki, de, iA, iB) 2).2.2.2.2)) P
  obtain ⟨t1, et1⟩ : ∃ t, t = (tr_drop (im, ki, de, iA, iB) 2) := ⟨_, rfl⟩
  have lt1 := tr_drop_len (im, ki, de, iA, iB) 2
  rw [← et1] at lt1
  dsimp only at lt1
  show xw z NK g 92 _ _ _ (tput z S (tr_drop (im, ki, de, iA, iB) 2)) P
  rw [← et1]
  show xw z NK g 92 5 [(0, .ref (z + 30))] [] (tput z S (t1.1, t1.2.1, t1.2.2.1, t1.2.2.2.1, t1.2.2.2.2)) P
  refine xw.steps 3 (fun _ => rfl) ?_
  show xw z NK g 92 8 [(0, .ref (z + 30))] [.int 0, .int 1, .ref (z + 30)] (tput z S (t1.1, t1.2.1, t1.2.2.1, t1.2.2.2.1, t1.2.2.2.2)) P
  refine xw.callO (o := 30) rfl rfl rfl (tput_30 _ _ _) rfl rfl (c_lay (by omega) (by omega) ?_)
  show xw z NK g 92 11 [(0, .ref (z + 30))] [] (tput z S ((tr_lay (t1.1, t1.2.1, t1.2.2.1, t1.2.2.2.1, t1.2.2.2.2) 1 0).1, (tr_lay (t1.1, t1.2.1, t1.2.2.1, t1.2.2.2.1, t1.2.2.2.2) 1 0).2.1, (tr_lay (t1.1, t1.2.1, t1.2.2.1, t1.2.2.2.1, t1.2.2.2.2) 1 0).2.2.1, (tr_lay (t1.1, t1.2.1, t1.2.2.1, t1.2.2.2.1, t1.2.2.2.2) 1 0).2.2.2.1, (tr_lay (t1.1, t1.2.1, t1.2.2.1, t1.2.2.2.1, t1.2.2.2.2) 1 0).2.2.2.2)) P
  obtain ⟨t2, et2⟩ : ∃ t, t = (tr_lay (t1.1, t1.2.1, t1.2.2.1, t1.2.2.2.1, t1.2.2.2.2) 1 0) := ⟨_, rfl⟩
  have lt2 := tr_lay_len (t1.1, t1.2.1, t1.2.2.1, t1.2.2.2.1, t1.2.2.2.2) 1 0
  rw [← et2] at lt2
  dsimp only at lt2
  show xw z NK g 92 _ _ _ (tput z S (tr_lay (t1.1, t1.2.1, t1.2.2.1, t1.2.2.2.1, t1.2.2.2.2) 1 0)) P
  rw [← et2]
  show xw z NK g 92 11 [(0, .ref (z + 30))] [] (tput z S (t2.1, t2.2.1, t2.2.2.1, t2.2.2.2.1, t2.2.2.2.2)) P
  refine xw.steps 2 (fun _ => rfl) ?_
  refine xw.getf (o := 30) rfl (tput_30 _ _ _) rfl ?_
  show xw z NK g 92 16 [(0, .ref (z + 30))] [.ref (z + 33), .ref (z + 30)] (tput z S (t2.1, t2.2.1, t2.2.2.1, t2.2.2.2.1, t2.2.2.2.2)) P
  refine xw.callN (o := 33) rfl rfl rfl (tput_33 _ _ _) rfl rfl (c_size (tput_33 _ _ _) ?_)
  show xw z NK g 92 19 [(0, .ref (z + 30))] [.int (nI t2.2.1.length), .ref (z + 30)] (tput z S (t2.1, t2.2.1, t2.2.2.1, t2.2.2.2.1, t2.2.2.2.2)) P
  refine xw.steps 2 (fun _ => rfl) ?_
  refine xw.putf (o := 30) (fs' := [.ref (z + 31), .ref (z + 33), .ref (z + 35), .int ((nI t2.2.1.length) - 1), .int t2.2.2.2.2]) rfl (tput_30 _ _ _) (Nat.le_of_ble_eq_true rfl) rfl rfl rfl ?_
  show xw z NK g 92 24 [(0, .ref (z + 30))] [] (xu (tput z S (t2.1, t2.2.1, t2.2.2.1, t2.2.2.2.1, t2.2.2.2.2)) 30 (.inr (.inr (8, [.ref (z + 31), .ref (z + 33), .ref (z + 35), .int ((nI t2.2.1.length) - 1), .int t2.2.2.2.2])))) P
  rw [tput_s30]
  refine xw.ret rfl (fun _ => rfl) ?_
  show P none (tput z S (t2.1, t2.2.1, t2.2.2.1, ((nI t2.2.1.length) - 1), t2.2.2.2.2))
  subst et2 et1
  first | exact hP | simpa [tr_leave] using hP | simp_all [tr_leave]
end XT
def tr_keepB (t : TT) : TT := if t.2.2.2.2 = -1 then t else ((tr_write t 5 t.2.2.2.2).1, nSet (tr_write t 5 t.2.2.2.2).2.1 t.2.2.2.2 0, (tr_write t 5 t.2.2.2.2).2.2)
def tr_load (t : TT) (p : Int32) : TT := if nAt t.2.1 p = 0 then tr_write t 3 p else tr_write t (if nAt t.2.1 p = 2 then 1 else 2) (nAt t.2.2.1 p)
def tr_toA (t : TT) (p : Int32) : TT :=
  if t.2.2.2.1 = p then t else if t.2.2.2.2 = p then ((tr_write t 6 0).1, (tr_write t 6 0).2.1, (tr_write t 6 0).2.2.1, p, (tr_write t 6 0).2.2.2.1)
  else ((tr_load (tr_keepB t) p).1, nSet (tr_load (tr_keepB t) p).2.1 p 1, (tr_load (tr_keepB t) p).2.2.1, p, (tr_load (tr_keepB t) p).2.2.2.1)
theorem nSet_len (xs : List Int32) (i v : Int32) : (nSet xs i v).length = xs.length := by unfold nSet; split <;> simp
theorem tr_keepB_len (t : TT) : (tr_keepB t).1.length ≤ t.1.length + 2 ∧ (tr_keepB t).2.1.length = t.2.1.length ∧ (tr_keepB t).2.2 = t.2.2 := by
  unfold tr_keepB
  split
  · simp
  · exact ⟨(tr_write_len t 5 _).1, nSet_len _ _ _, rfl⟩
theorem tr_load_len (t : TT) (p : Int32) : (tr_load t p).1.length ≤ t.1.length + 2 ∧ (tr_load t p).2 = t.2 := by
  unfold tr_load
  split
  · exact tr_write_len _ _ _
  · exact tr_write_len _ _ _
theorem tr_toA_len (t : TT) (p : Int32) : (tr_toA t p).1.length ≤ t.1.length + 4 ∧ (tr_toA t p).2.1.length = t.2.1.length ∧ (tr_toA t p).2.2.1 = t.2.2.1 := by
  unfold tr_toA
  split
  · simp
  · split
    · exact ⟨Nat.le_trans (tr_write_len t 6 0).1 (by omega), rfl, rfl⟩
    · have h1 := tr_keepB_len t
      have h2 := tr_load_len (tr_keepB t) p
      refine ⟨?_, ?_, ?_⟩
      · dsimp only; omega
      · dsimp only; rw [nSet_len, h2.2]; exact h1.2.1
      · dsimp only; rw [h2.2, h1.2.2]
section XT2
variable {z : Nat} {NK : List Nat} {g : mx_G} {S : xS} {P : Option Value → xS → Prop} {im ki de : List Int32} {iA iB : Int32}
set_option maxHeartbeats 4000000 in
/-- RowCode$Translator.toA(I)V -/
theorem c_toA (hi : im.length + 4 ≤ 131072) {p : Int32} (hP : P none (tput z S (tr_toA (im, ki, de, iA, iB) p))) : xw z NK g 93 0 [(0, .ref (z + 30)), (1, .int p)] [] (tput z S (im, ki, de, iA, iB)) P := by
  refine xw.steps 1 (fun _ => rfl) ?_
  refine xw.getf (o := 30) rfl (tput_30 _ _ _) rfl ?_
  refine xw.steps 1 (fun _ => rfl) ?_
  refine xw.icmp rfl (fun c1 => ?_) (fun c1 => ?_)
  · have c1 := of_decide_eq_true c1
    refine xw.steps 1 (fun _ => rfl) ?_
    refine xw.getf (o := 30) rfl (tput_30 _ _ _) rfl ?_
    refine xw.steps 1 (fun _ => rfl) ?_
    refine xw.icmp rfl (fun c2 => ?_) (fun c2 => ?_)
    · have c2 := of_decide_eq_true c2
      refine xw.steps 1 (fun _ => rfl) ?_
      refine xw.getf (o := 30) rfl (tput_30 _ _ _) rfl ?_
      refine xw.steps 1 (fun _ => rfl) ?_
      refine xw.icmp rfl (fun c3 => ?_) (fun c3 => ?_)
      · have c3 := of_decide_eq_true c3
        refine xw.steps 1 (fun _ => rfl) ?_
        refine xw.getf (o := 30) rfl (tput_30 _ _ _) rfl ?_
        refine xw.steps 1 (fun _ => rfl) ?_
        show xw z NK g 93 61 [(0, .ref (z + 30)), (1, .int p)] [.int p, .ref (z + 33)] (tput z S (im, ki, de, iA, iB)) P
        refine xw.callN (o := 33) rfl rfl rfl (tput_33 _ _ _) rfl rfl (c_at (tput_33 _ _ _) ?_)
        show xw z NK g 93 64 [(0, .ref (z + 30)), (1, .int p)] [.int (nAt ki p)] (tput z S (im, ki, de, iA, iB)) P
        refine xw.steps 2 (fun _ => rfl) ?_
        refine xw.if_ rfl (fun c4 => ?_) (fun c4 => ?_)
        · have c4 := of_decide_eq_true c4
          refine xw.steps 3 (fun _ => rfl) ?_
          refine xw.icmp rfl (fun c5 => ?_) (fun c5 => ?_)
          · have c5 := of_decide_eq_true c5
            refine xw.steps 2 (fun _ => rfl) ?_
            refine xw.getf (o := 30) rfl (tput_30 _ _ _) rfl ?_
            refine xw.steps 1 (fun _ => rfl) ?_
            show xw z NK g 93 94 [(0, .ref (z + 30)), (1, .int p), (2, .int (nAt ki p))] [.int p, .ref (z + 35), .int 2, .ref (z + 30)] (tput z S (im, ki, de, iA, iB)) P
            refine xw.callN (o := 35) rfl rfl rfl (tput_35 _ _ _) rfl rfl (c_at (tput_35 _ _ _) ?_)
            show xw z NK g 93 97 [(0, .ref (z + 30)), (1, .int p), (2, .int (nAt ki p))] [.int (nAt de p), .int 2, .ref (z + 30)] (tput z S (im, ki, de, iA, iB)) P
            show xw z NK g 93 97 [(0, .ref (z + 30)), (1, .int p), (2, .int (nAt ki p))] [.int (nAt de p), .int 2, .ref (z + 30)] (tput z S (im, ki, de, iA, iB)) P
            refine xw.callO (o := 30) rfl rfl rfl (tput_30 _ _ _) rfl rfl (c_write (by omega) ?_)
            show xw z NK g 93 100 [(0, .ref (z + 30)), (1, .int p), (2, .int (nAt ki p))] [] (tput z S ((tr_write (im, ki, de, iA, iB) 2 (nAt de p)).1, (tr_write (im, ki, de, iA, iB) 2 (nAt de p)).2.1, (tr_write (im, ki, de, iA, iB) 2 (nAt de p)).2.2.1, (tr_write (im, ki, de, iA, iB) 2 (nAt de p)).2.2.2.1, (tr_write (im, ki, de, iA, iB) 2 (nAt de p)).2.2.2.2)) P
            obtain ⟨t1, et1⟩ : ∃ t, t = (tr_write (im, ki, de, iA, iB) 2 (nAt de p)) := ⟨_, rfl⟩
            have lt1 := tr_write_len (im, ki, de, iA, iB) 2 (nAt de p)
            rw [← et1] at lt1
            dsimp only at lt1
            show xw z NK g 93 _ _ _ (tput z S (tr_write (im, ki, de, iA, iB) 2 (nAt de p))) P
            rw [← et1]
            show xw z NK g 93 100 [(0, .ref (z + 30)), (1, .int p), (2, .int (nAt ki p))] [] (tput z S (t1.1, t1.2.1, t1.2.2.1, t1.2.2.2.1, t1.2.2.2.2)) P
            refine xw.steps 1 (fun _ => rfl) ?_
            refine xw.getf (o := 30) rfl (tput_30 _ _ _) rfl ?_
            refine xw.steps 2 (fun _ => rfl) ?_
            show xw z NK g 93 106 [(0, .ref (z + 30)), (1, .int p), (2, .int (nAt ki p))] [.int 1, .int p, .ref (z + 33)] (tput z S (t1.1, t1.2.1, t1.2.2.1, t1.2.2.2.1, t1.2.2.2.2)) P
            refine xw.callN (o := 33) rfl rfl rfl (tput_33 _ _ _) rfl rfl (c_change (tput_33 _ _ _) ?_)
            show xw z NK g 93 109 [(0, .ref (z + 30)), (1, .int p), (2, .int (nAt ki p))] [] (xu (tput z S (t1.1, t1.2.1, t1.2.2.1, t1.2.2.2.1, t1.2.2.2.2)) 33 (.inl (nSet t1.2.1 p 1))) P
            rw [tput_s33]
            refine xw.steps 2 (fun _ => rfl) ?_
            refine xw.getf (o := 30) rfl (tput_30 _ _ _) rfl ?_
            refine xw.putf (o := 30) (fs' := [.ref (z + 31), .ref (z + 33), .ref (z + 35), .int t1.2.2.2.1, .int t1.2.2.2.1]) rfl (tput_30 _ _ _) (Nat.le_of_ble_eq_true rfl) rfl rfl rfl ?_
            show xw z NK g 93 117 [(0, .ref (z + 30)), (1, .int p), (2, .int (nAt ki p))] [] (xu (tput z S (t1.1, (nSet t1.2.1 p 1), t1.2.2.1, t1.2.2.2.1, t1.2.2.2.2)) 30 (.inr (.inr (8, [.ref (z + 31), .ref (z + 33), .ref (z + 35), .int t1.2.2.2.1, .int t1.2.2.2.1])))) P
            rw [tput_s30]
            refine xw.steps 2 (fun _ => rfl) ?_
            refine xw.putf (o := 30) (fs' := [.ref (z + 31), .ref (z + 33), .ref (z + 35), .int p, .int t1.2.2.2.1]) rfl (tput_30 _ _ _) (Nat.le_of_ble_eq_true rfl) rfl rfl rfl ?_
            show xw z NK g 93 122 [(0, .ref (z + 30)), (1, .int p), (2, .int (nAt ki p))] [] (xu (tput z S (t1.1, (nSet t1.2.1 p 1), t1.2.2.1, t1.2.2.2.1, t1.2.2.2.1)) 30 (.inr (.inr (8, [.ref (z + 31), .ref (z + 33), .ref (z + 35), .int p, .int t1.2.2.2.1])))) P
            rw [tput_s30]
            refine xw.ret rfl (fun _ => rfl) ?_
            show P none (tput z S (t1.1, (nSet t1.2.1 p 1), t1.2.2.1, p, t1.2.2.2.1))
            subst et1
            first | exact hP | simpa [tr_toA, tr_keepB, tr_load, c1, c2, c3, c4, c5] using hP | simp_all [tr_toA, tr_keepB, tr_load]
          · have c5 := Decidable.not_not.mp (of_decide_eq_false c5)
            refine xw.steps 3 (fun _ => rfl) ?_
            refine xw.getf (o := 30) rfl (tput_30 _ _ _) rfl ?_
            refine xw.steps 1 (fun _ => rfl) ?_
            show xw z NK g 93 94 [(0, .ref (z + 30)), (1, .int p), (2, .int (nAt ki p))] [.int p, .ref (z + 35), .int 1, .ref (z + 30)] (tput z S (im, ki, de, iA, iB)) P
            refine xw.callN (o := 35) rfl rfl rfl (tput_35 _ _ _) rfl rfl (c_at (tput_35 _ _ _) ?_)
            show xw z NK g 93 97 [(0, .ref (z + 30)), (1, .int p), (2, .int (nAt ki p))] [.int (nAt de p), .int 1, .ref (z + 30)] (tput z S (im, ki, de, iA, iB)) P
            show xw z NK g 93 97 [(0, .ref (z + 30)), (1, .int p), (2, .int (nAt ki p))] [.int (nAt de p), .int 1, .ref (z + 30)] (tput z S (im, ki, de, iA, iB)) P
            refine xw.callO (o := 30) rfl rfl rfl (tput_30 _ _ _) rfl rfl (c_write (by omega) ?_)
            show xw z NK g 93 100 [(0, .ref (z + 30)), (1, .int p), (2, .int (nAt ki p))] [] (tput z S ((tr_write (im, ki, de, iA, iB) 1 (nAt de p)).1, (tr_write (im, ki, de, iA, iB) 1 (nAt de p)).2.1, (tr_write (im, ki, de, iA, iB) 1 (nAt de p)).2.2.1, (tr_write (im, ki, de, iA, iB) 1 (nAt de p)).2.2.2.1, (tr_write (im, ki, de, iA, iB) 1 (nAt de p)).2.2.2.2)) P
            obtain ⟨t2, et2⟩ : ∃ t, t = (tr_write (im, ki, de, iA, iB) 1 (nAt de p)) := ⟨_, rfl⟩
            have lt2 := tr_write_len (im, ki, de, iA, iB) 1 (nAt de p)
            rw [← et2] at lt2
            dsimp only at lt2
            show xw z NK g 93 _ _ _ (tput z S (tr_write (im, ki, de, iA, iB) 1 (nAt de p))) P
            rw [← et2]
            show xw z NK g 93 100 [(0, .ref (z + 30)), (1, .int p), (2, .int (nAt ki p))] [] (tput z S (t2.1, t2.2.1, t2.2.2.1, t2.2.2.2.1, t2.2.2.2.2)) P
            refine xw.steps 1 (fun _ => rfl) ?_
            refine xw.getf (o := 30) rfl (tput_30 _ _ _) rfl ?_
            refine xw.steps 2 (fun _ => rfl) ?_
            show xw z NK g 93 106 [(0, .ref (z + 30)), (1, .int p), (2, .int (nAt ki p))] [.int 1, .int p, .ref (z + 33)] (tput z S (t2.1, t2.2.1, t2.2.2.1, t2.2.2.2.1, t2.2.2.2.2)) P
            refine xw.callN (o := 33) rfl rfl rfl (tput_33 _ _ _) rfl rfl (c_change (tput_33 _ _ _) ?_)
            show xw z NK g 93 109 [(0, .ref (z + 30)), (1, .int p), (2, .int (nAt ki p))] [] (xu (tput z S (t2.1, t2.2.1, t2.2.2.1, t2.2.2.2.1, t2.2.2.2.2)) 33 (.inl (nSet t2.2.1 p 1))) P
            rw [tput_s33]
            refine xw.steps 2 (fun _ => rfl) ?_
            refine xw.getf (o := 30) rfl (tput_30 _ _ _) rfl ?_
            refine xw.putf (o := 30) (fs' := [.ref (z + 31), .ref (z + 33), .ref (z + 35), .int t2.2.2.2.1, .int t2.2.2.2.1]) rfl (tput_30 _ _ _) (Nat.le_of_ble_eq_true rfl) rfl rfl rfl ?_
            show xw z NK g 93 117 [(0, .ref (z + 30)), (1, .int p), (2, .int (nAt ki p))] [] (xu (tput z S (t2.1, (nSet t2.2.1 p 1), t2.2.2.1, t2.2.2.2.1, t2.2.2.2.2)) 30 (.inr (.inr (8, [.ref (z + 31), .ref (z + 33), .ref (z + 35), .int t2.2.2.2.1, .int t2.2.2.2.1])))) P
            rw [tput_s30]
            refine xw.steps 2 (fun _ => rfl) ?_
            refine xw.putf (o := 30) (fs' := [.ref (z + 31), .ref (z + 33), .ref (z + 35), .int p, .int t2.2.2.2.1]) rfl (tput_30 _ _ _) (Nat.le_of_ble_eq_true rfl) rfl rfl rfl ?_
            show xw z NK g 93 122 [(0, .ref (z + 30)), (1, .int p), (2, .int (nAt ki p))] [] (xu (tput z S (t2.1, (nSet t2.2.1 p 1), t2.2.2.1, t2.2.2.2.1, t2.2.2.2.1)) 30 (.inr (.inr (8, [.ref (z + 31), .ref (z + 33), .ref (z + 35), .int p, .int t2.2.2.2.1])))) P
            rw [tput_s30]
            refine xw.ret rfl (fun _ => rfl) ?_
            show P none (tput z S (t2.1, (nSet t2.2.1 p 1), t2.2.2.1, p, t2.2.2.2.1))
            subst et2
            first | exact hP | simpa [tr_toA, tr_keepB, tr_load, c1, c2, c3, c4, c5] using hP | simp_all [tr_toA, tr_keepB, tr_load]
        · have c4 := Decidable.not_not.mp (of_decide_eq_false c4)
          refine xw.steps 3 (fun _ => rfl) ?_
          show xw z NK g 93 72 [(0, .ref (z + 30)), (1, .int p), (2, .int (nAt ki p))] [.int p, .int 3, .ref (z + 30)] (tput z S (im, ki, de, iA, iB)) P
          refine xw.callO (o := 30) rfl rfl rfl (tput_30 _ _ _) rfl rfl (c_write (by omega) ?_)
          show xw z NK g 93 75 [(0, .ref (z + 30)), (1, .int p), (2, .int (nAt ki p))] [] (tput z S ((tr_write (im, ki, de, iA, iB) 3 p).1, (tr_write (im, ki, de, iA, iB) 3 p).2.1, (tr_write (im, ki, de, iA, iB) 3 p).2.2.1, (tr_write (im, ki, de, iA, iB) 3 p).2.2.2.1, (tr_write (im, ki, de, iA, iB) 3 p).2.2.2.2)) P
          obtain ⟨t3, et3⟩ : ∃ t, t = (tr_write (im, ki, de, iA, iB) 3 p) := ⟨_, rfl⟩
          have lt3 := tr_write_len (im, ki, de, iA, iB) 3 p
          rw [← et3] at lt3
          dsimp only at lt3
          show xw z NK g 93 _ _ _ (tput z S (tr_write (im, ki, de, iA, iB) 3 p)) P
          rw [← et3]
          show xw z NK g 93 75 [(0, .ref (z + 30)), (1, .int p), (2, .int (nAt ki p))] [] (tput z S (t3.1, t3.2.1, t3.2.2.1, t3.2.2.2.1, t3.2.2.2.2)) P
          refine xw.steps 2 (fun _ => rfl) ?_
          refine xw.getf (o := 30) rfl (tput_30 _ _ _) rfl ?_
          refine xw.steps 2 (fun _ => rfl) ?_
          show xw z NK g 93 106 [(0, .ref (z + 30)), (1, .int p), (2, .int (nAt ki p))] [.int 1, .int p, .ref (z + 33)] (tput z S (t3.1, t3.2.1, t3.2.2.1, t3.2.2.2.1, t3.2.2.2.2)) P
          refine xw.callN (o := 33) rfl rfl rfl (tput_33 _ _ _) rfl rfl (c_change (tput_33 _ _ _) ?_)
          show xw z NK g 93 109 [(0, .ref (z + 30)), (1, .int p), (2, .int (nAt ki p))] [] (xu (tput z S (t3.1, t3.2.1, t3.2.2.1, t3.2.2.2.1, t3.2.2.2.2)) 33 (.inl (nSet t3.2.1 p 1))) P
          rw [tput_s33]
          refine xw.steps 2 (fun _ => rfl) ?_
          refine xw.getf (o := 30) rfl (tput_30 _ _ _) rfl ?_
          refine xw.putf (o := 30) (fs' := [.ref (z + 31), .ref (z + 33), .ref (z + 35), .int t3.2.2.2.1, .int t3.2.2.2.1]) rfl (tput_30 _ _ _) (Nat.le_of_ble_eq_true rfl) rfl rfl rfl ?_
          show xw z NK g 93 117 [(0, .ref (z + 30)), (1, .int p), (2, .int (nAt ki p))] [] (xu (tput z S (t3.1, (nSet t3.2.1 p 1), t3.2.2.1, t3.2.2.2.1, t3.2.2.2.2)) 30 (.inr (.inr (8, [.ref (z + 31), .ref (z + 33), .ref (z + 35), .int t3.2.2.2.1, .int t3.2.2.2.1])))) P
          rw [tput_s30]
          refine xw.steps 2 (fun _ => rfl) ?_
          refine xw.putf (o := 30) (fs' := [.ref (z + 31), .ref (z + 33), .ref (z + 35), .int p, .int t3.2.2.2.1]) rfl (tput_30 _ _ _) (Nat.le_of_ble_eq_true rfl) rfl rfl rfl ?_
          show xw z NK g 93 122 [(0, .ref (z + 30)), (1, .int p), (2, .int (nAt ki p))] [] (xu (tput z S (t3.1, (nSet t3.2.1 p 1), t3.2.2.1, t3.2.2.2.1, t3.2.2.2.1)) 30 (.inr (.inr (8, [.ref (z + 31), .ref (z + 33), .ref (z + 35), .int p, .int t3.2.2.2.1])))) P
          rw [tput_s30]
          refine xw.ret rfl (fun _ => rfl) ?_
          show P none (tput z S (t3.1, (nSet t3.2.1 p 1), t3.2.2.1, p, t3.2.2.2.1))
          subst et3
          first | exact hP | simpa [tr_toA, tr_keepB, tr_load, c1, c2, c3, c4] using hP | simp_all [tr_toA, tr_keepB, tr_load]
      · have c3 := of_decide_eq_false c3
        refine xw.steps 3 (fun _ => rfl) ?_
        refine xw.getf (o := 30) rfl (tput_30 _ _ _) rfl ?_
        show xw z NK g 93 41 [(0, .ref (z + 30)), (1, .int p)] [.int iB, .int 5, .ref (z + 30)] (tput z S (im, ki, de, iA, iB)) P
        refine xw.callO (o := 30) rfl rfl rfl (tput_30 _ _ _) rfl rfl (c_write (by omega) ?_)
        show xw z NK g 93 44 [(0, .ref (z + 30)), (1, .int p)] [] (tput z S ((tr_write (im, ki, de, iA, iB) 5 iB).1, (tr_write (im, ki, de, iA, iB) 5 iB).2.1, (tr_write (im, ki, de, iA, iB) 5 iB).2.2.1, (tr_write (im, ki, de, iA, iB) 5 iB).2.2.2.1, (tr_write (im, ki, de, iA, iB) 5 iB).2.2.2.2)) P
        obtain ⟨t4, et4⟩ : ∃ t, t = (tr_write (im, ki, de, iA, iB) 5 iB) := ⟨_, rfl⟩
        have lt4 := tr_write_len (im, ki, de, iA, iB) 5 iB
        rw [← et4] at lt4
        dsimp only at lt4
        show xw z NK g 93 _ _ _ (tput z S (tr_write (im, ki, de, iA, iB) 5 iB)) P
        rw [← et4]
        show xw z NK g 93 44 [(0, .ref (z + 30)), (1, .int p)] [] (tput z S (t4.1, t4.2.1, t4.2.2.1, t4.2.2.2.1, t4.2.2.2.2)) P
        refine xw.steps 1 (fun _ => rfl) ?_
        refine xw.getf (o := 30) rfl (tput_30 _ _ _) rfl ?_
        refine xw.steps 1 (fun _ => rfl) ?_
        refine xw.getf (o := 30) rfl (tput_30 _ _ _) rfl ?_
        refine xw.steps 1 (fun _ => rfl) ?_
        show xw z NK g 93 53 [(0, .ref (z + 30)), (1, .int p)] [.int 0, .int t4.2.2.2.2, .ref (z + 33)] (tput z S (t4.1, t4.2.1, t4.2.2.1, t4.2.2.2.1, t4.2.2.2.2)) P
        refine xw.callN (o := 33) rfl rfl rfl (tput_33 _ _ _) rfl rfl (c_change (tput_33 _ _ _) ?_)
        show xw z NK g 93 56 [(0, .ref (z + 30)), (1, .int p)] [] (xu (tput z S (t4.1, t4.2.1, t4.2.2.1, t4.2.2.2.1, t4.2.2.2.2)) 33 (.inl (nSet t4.2.1 t4.2.2.2.2 0))) P
        rw [tput_s33]
        refine xw.steps 1 (fun _ => rfl) ?_
        refine xw.getf (o := 30) rfl (tput_30 _ _ _) rfl ?_
        refine xw.steps 1 (fun _ => rfl) ?_
        show xw z NK g 93 61 [(0, .ref (z + 30)), (1, .int p)] [.int p, .ref (z + 33)] (tput z S (t4.1, (nSet t4.2.1 t4.2.2.2.2 0), t4.2.2.1, t4.2.2.2.1, t4.2.2.2.2)) P
        refine xw.callN (o := 33) rfl rfl rfl (tput_33 _ _ _) rfl rfl (c_at (tput_33 _ _ _) ?_)
        show xw z NK g 93 64 [(0, .ref (z + 30)), (1, .int p)] [.int (nAt (nSet t4.2.1 t4.2.2.2.2 0) p)] (tput z S (t4.1, (nSet t4.2.1 t4.2.2.2.2 0), t4.2.2.1, t4.2.2.2.1, t4.2.2.2.2)) P
        refine xw.steps 2 (fun _ => rfl) ?_
        refine xw.if_ rfl (fun c6 => ?_) (fun c6 => ?_)
        · have c6 := of_decide_eq_true c6
          refine xw.steps 3 (fun _ => rfl) ?_
          refine xw.icmp rfl (fun c7 => ?_) (fun c7 => ?_)
          · have c7 := of_decide_eq_true c7
            refine xw.steps 2 (fun _ => rfl) ?_
            refine xw.getf (o := 30) rfl (tput_30 _ _ _) rfl ?_
            refine xw.steps 1 (fun _ => rfl) ?_
            show xw z NK g 93 94 [(0, .ref (z + 30)), (1, .int p), (2, .int (nAt (nSet t4.2.1 t4.2.2.2.2 0) p))] [.int p, .ref (z + 35), .int 2, .ref (z + 30)] (tput z S (t4.1, (nSet t4.2.1 t4.2.2.2.2 0), t4.2.2.1, t4.2.2.2.1, t4.2.2.2.2)) P
            refine xw.callN (o := 35) rfl rfl rfl (tput_35 _ _ _) rfl rfl (c_at (tput_35 _ _ _) ?_)
            show xw z NK g 93 97 [(0, .ref (z + 30)), (1, .int p), (2, .int (nAt (nSet t4.2.1 t4.2.2.2.2 0) p))] [.int (nAt t4.2.2.1 p), .int 2, .ref (z + 30)] (tput z S (t4.1, (nSet t4.2.1 t4.2.2.2.2 0), t4.2.2.1, t4.2.2.2.1, t4.2.2.2.2)) P
            show xw z NK g 93 97 [(0, .ref (z + 30)), (1, .int p), (2, .int (nAt (nSet t4.2.1 t4.2.2.2.2 0) p))] [.int (nAt t4.2.2.1 p), .int 2, .ref (z + 30)] (tput z S (t4.1, (nSet t4.2.1 t4.2.2.2.2 0), t4.2.2.1, t4.2.2.2.1, t4.2.2.2.2)) P
            refine xw.callO (o := 30) rfl rfl rfl (tput_30 _ _ _) rfl rfl (c_write (by omega) ?_)
            show xw z NK g 93 100 [(0, .ref (z + 30)), (1, .int p), (2, .int (nAt (nSet t4.2.1 t4.2.2.2.2 0) p))] [] (tput z S ((tr_write (t4.1, (nSet t4.2.1 t4.2.2.2.2 0), t4.2.2.1, t4.2.2.2.1, t4.2.2.2.2) 2 (nAt t4.2.2.1 p)).1, (tr_write (t4.1, (nSet t4.2.1 t4.2.2.2.2 0), t4.2.2.1, t4.2.2.2.1, t4.2.2.2.2) 2 (nAt t4.2.2.1 p)).2.1, (tr_write (t4.1, (nSet t4.2.1 t4.2.2.2.2 0), t4.2.2.1, t4.2.2.2.1, t4.2.2.2.2) 2 (nAt t4.2.2.1 p)).2.2.1, (tr_write (t4.1, (nSet t4.2.1 t4.2.2.2.2 0), t4.2.2.1, t4.2.2.2.1, t4.2.2.2.2) 2 (nAt t4.2.2.1 p)).2.2.2.1, (tr_write (t4.1, (nSet t4.2.1 t4.2.2.2.2 0), t4.2.2.1, t4.2.2.2.1, t4.2.2.2.2) 2 (nAt t4.2.2.1 p)).2.2.2.2)) P
            obtain ⟨t5, et5⟩ : ∃ t, t = (tr_write (t4.1, (nSet t4.2.1 t4.2.2.2.2 0), t4.2.2.1, t4.2.2.2.1, t4.2.2.2.2) 2 (nAt t4.2.2.1 p)) := ⟨_, rfl⟩
            have lt5 := tr_write_len (t4.1, (nSet t4.2.1 t4.2.2.2.2 0), t4.2.2.1, t4.2.2.2.1, t4.2.2.2.2) 2 (nAt t4.2.2.1 p)
            rw [← et5] at lt5
            dsimp only at lt5
            show xw z NK g 93 _ _ _ (tput z S (tr_write (t4.1, (nSet t4.2.1 t4.2.2.2.2 0), t4.2.2.1, t4.2.2.2.1, t4.2.2.2.2) 2 (nAt t4.2.2.1 p))) P
            rw [← et5]
            show xw z NK g 93 100 [(0, .ref (z + 30)), (1, .int p), (2, .int (nAt (nSet t4.2.1 t4.2.2.2.2 0) p))] [] (tput z S (t5.1, t5.2.1, t5.2.2.1, t5.2.2.2.1, t5.2.2.2.2)) P
            refine xw.steps 1 (fun _ => rfl) ?_
            refine xw.getf (o := 30) rfl (tput_30 _ _ _) rfl ?_
            refine xw.steps 2 (fun _ => rfl) ?_
            show xw z NK g 93 106 [(0, .ref (z + 30)), (1, .int p), (2, .int (nAt (nSet t4.2.1 t4.2.2.2.2 0) p))] [.int 1, .int p, .ref (z + 33)] (tput z S (t5.1, t5.2.1, t5.2.2.1, t5.2.2.2.1, t5.2.2.2.2)) P
            refine xw.callN (o := 33) rfl rfl rfl (tput_33 _ _ _) rfl rfl (c_change (tput_33 _ _ _) ?_)
            show xw z NK g 93 109 [(0, .ref (z + 30)), (1, .int p), (2, .int (nAt (nSet t4.2.1 t4.2.2.2.2 0) p))] [] (xu (tput z S (t5.1, t5.2.1, t5.2.2.1, t5.2.2.2.1, t5.2.2.2.2)) 33 (.inl (nSet t5.2.1 p 1))) P
            rw [tput_s33]
            refine xw.steps 2 (fun _ => rfl) ?_
            refine xw.getf (o := 30) rfl (tput_30 _ _ _) rfl ?_
            refine xw.putf (o := 30) (fs' := [.ref (z + 31), .ref (z + 33), .ref (z + 35), .int t5.2.2.2.1, .int t5.2.2.2.1]) rfl (tput_30 _ _ _) (Nat.le_of_ble_eq_true rfl) rfl rfl rfl ?_
            show xw z NK g 93 117 [(0, .ref (z + 30)), (1, .int p), (2, .int (nAt (nSet t4.2.1 t4.2.2.2.2 0) p))] [] (xu (tput z S (t5.1, (nSet t5.2.1 p 1), t5.2.2.1, t5.2.2.2.1, t5.2.2.2.2)) 30 (.inr (.inr (8, [.ref (z + 31), .ref (z + 33), .ref (z + 35), .int t5.2.2.2.1, .int t5.2.2.2.1])))) P
            rw [tput_s30]
            refine xw.steps 2 (fun _ => rfl) ?_
            refine xw.putf (o := 30) (fs' := [.ref (z + 31), .ref (z + 33), .ref (z + 35), .int p, .int t5.2.2.2.1]) rfl (tput_30 _ _ _) (Nat.le_of_ble_eq_true rfl) rfl rfl rfl ?_
            show xw z NK g 93 122 [(0, .ref (z + 30)), (1, .int p), (2, .int (nAt (nSet t4.2.1 t4.2.2.2.2 0) p))] [] (xu (tput z S (t5.1, (nSet t5.2.1 p 1), t5.2.2.1, t5.2.2.2.1, t5.2.2.2.1)) 30 (.inr (.inr (8, [.ref (z + 31), .ref (z + 33), .ref (z + 35), .int p, .int t5.2.2.2.1])))) P
            rw [tput_s30]
            refine xw.ret rfl (fun _ => rfl) ?_
            show P none (tput z S (t5.1, (nSet t5.2.1 p 1), t5.2.2.1, p, t5.2.2.2.1))
            subst et5 et4
            first | exact hP | simpa [tr_toA, tr_keepB, tr_load, c1, c2, c3, c6, c7] using hP | simp_all [tr_toA, tr_keepB, tr_load]
          · have c7 := Decidable.not_not.mp (of_decide_eq_false c7)
            refine xw.steps 3 (fun _ => rfl) ?_
            refine xw.getf (o := 30) rfl (tput_30 _ _ _) rfl ?_
            refine xw.steps 1 (fun _ => rfl) ?_
            show xw z NK g 93 94 [(0, .ref (z + 30)), (1, .int p), (2, .int (nAt (nSet t4.2.1 t4.2.2.2.2 0) p))] [.int p, .ref (z + 35), .int 1, .ref (z + 30)] (tput z S (t4.1, (nSet t4.2.1 t4.2.2.2.2 0), t4.2.2.1, t4.2.2.2.1, t4.2.2.2.2)) P
            refine xw.callN (o := 35) rfl rfl rfl (tput_35 _ _ _) rfl rfl (c_at (tput_35 _ _ _) ?_)
            show xw z NK g 93 97 [(0, .ref (z + 30)), (1, .int p), (2, .int (nAt (nSet t4.2.1 t4.2.2.2.2 0) p))] [.int (nAt t4.2.2.1 p), .int 1, .ref (z + 30)] (tput z S (t4.1, (nSet t4.2.1 t4.2.2.2.2 0), t4.2.2.1, t4.2.2.2.1, t4.2.2.2.2)) P
            show xw z NK g 93 97 [(0, .ref (z + 30)), (1, .int p), (2, .int (nAt (nSet t4.2.1 t4.2.2.2.2 0) p))] [.int (nAt t4.2.2.1 p), .int 1, .ref (z + 30)] (tput z S (t4.1, (nSet t4.2.1 t4.2.2.2.2 0), t4.2.2.1, t4.2.2.2.1, t4.2.2.2.2)) P
            refine xw.callO (o := 30) rfl rfl rfl (tput_30 _ _ _) rfl rfl (c_write (by omega) ?_)
            show xw z NK g 93 100 [(0, .ref (z + 30)), (1, .int p), (2, .int (nAt (nSet t4.2.1 t4.2.2.2.2 0) p))] [] (tput z S ((tr_write (t4.1, (nSet t4.2.1 t4.2.2.2.2 0), t4.2.2.1, t4.2.2.2.1, t4.2.2.2.2) 1 (nAt t4.2.2.1 p)).1, (tr_write (t4.1, (nSet t4.2.1 t4.2.2.2.2 0), t4.2.2.1, t4.2.2.2.1, t4.2.2.2.2) 1 (nAt t4.2.2.1 p)).2.1, (tr_write (t4.1, (nSet t4.2.1 t4.2.2.2.2 0), t4.2.2.1, t4.2.2.2.1, t4.2.2.2.2) 1 (nAt t4.2.2.1 p)).2.2.1, (tr_write (t4.1, (nSet t4.2.1 t4.2.2.2.2 0), t4.2.2.1, t4.2.2.2.1, t4.2.2.2.2) 1 (nAt t4.2.2.1 p)).2.2.2.1, (tr_write (t4.1, (nSet t4.2.1 t4.2.2.2.2 0), t4.2.2.1, t4.2.2.2.1, t4.2.2.2.2) 1 (nAt t4.2.2.1 p)).2.2.2.2)) P
            obtain ⟨t6, et6⟩ : ∃ t, t = (tr_write (t4.1, (nSet t4.2.1 t4.2.2.2.2 0), t4.2.2.1, t4.2.2.2.1, t4.2.2.2.2) 1 (nAt t4.2.2.1 p)) := ⟨_, rfl⟩
            have lt6 := tr_write_len (t4.1, (nSet t4.2.1 t4.2.2.2.2 0), t4.2.2.1, t4.2.2.2.1, t4.2.2.2.2) 1 (nAt t4.2.2.1 p)
            rw [← et6] at lt6
            dsimp only at lt6
            show xw z NK g 93 _ _ _ (tput z S (tr_write (t4.1, (nSet t4.2.1 t4.2.2.2.2 0), t4.2.2.1, t4.2.2.2.1, t4.2.2.2.2) 1 (nAt t4.2.2.1 p))) P
            rw [← et6]
            show xw z NK g 93 100 [(0, .ref (z + 30)), (1, .int p), (2, .int (nAt (nSet t4.2.1 t4.2.2.2.2 0) p))] [] (tput z S (t6.1, t6.2.1, t6.2.2.1, t6.2.2.2.1, t6.2.2.2.2)) P
            refine xw.steps 1 (fun _ => rfl) ?_
            refine xw.getf (o := 30) rfl (tput_30 _ _ _) rfl ?_
            refine xw.steps 2 (fun _ => rfl) ?_
            show xw z NK g 93 106 [(0, .ref (z + 30)), (1, .int p), (2, .int (nAt (nSet t4.2.1 t4.2.2.2.2 0) p))] [.int 1, .int p, .ref (z + 33)] (tput z S (t6.1, t6.2.1, t6.2.2.1, t6.2.2.2.1, t6.2.2.2.2)) P
            refine xw.callN (o := 33) rfl rfl rfl (tput_33 _ _ _) rfl rfl (c_change (tput_33 _ _ _) ?_)
            show xw z NK g 93 109 [(0, .ref (z + 30)), (1, .int p), (2, .int (nAt (nSet t4.2.1 t4.2.2.2.2 0) p))] [] (xu (tput z S (t6.1, t6.2.1, t6.2.2.1, t6.2.2.2.1, t6.2.2.2.2)) 33 (.inl (nSet t6.2.1 p 1))) P
            rw [tput_s33]
            refine xw.steps 2 (fun _ => rfl) ?_
            refine xw.getf (o := 30) rfl (tput_30 _ _ _) rfl ?_
            refine xw.putf (o := 30) (fs' := [.ref (z + 31), .ref (z + 33), .ref (z + 35), .int t6.2.2.2.1, .int t6.2.2.2.1]) rfl (tput_30 _ _ _) (Nat.le_of_ble_eq_true rfl) rfl rfl rfl ?_
            show xw z NK g 93 117 [(0, .ref (z + 30)), (1, .int p), (2, .int (nAt (nSet t4.2.1 t4.2.2.2.2 0) p))] [] (xu (tput z S (t6.1, (nSet t6.2.1 p 1), t6.2.2.1, t6.2.2.2.1, t6.2.2.2.2)) 30 (.inr (.inr (8, [.ref (z + 31), .ref (z + 33), .ref (z + 35), .int t6.2.2.2.1, .int t6.2.2.2.1])))) P
            rw [tput_s30]
            refine xw.steps 2 (fun _ => rfl) ?_
            refine xw.putf (o := 30) (fs' := [.ref (z + 31), .ref (z + 33), .ref (z + 35), .int p, .int t6.2.2.2.1]) rfl (tput_30 _ _ _) (Nat.le_of_ble_eq_true rfl) rfl rfl rfl ?_
            show xw z NK g 93 122 [(0, .ref (z + 30)), (1, .int p), (2, .int (nAt (nSet t4.2.1 t4.2.2.2.2 0) p))] [] (xu (tput z S (t6.1, (nSet t6.2.1 p 1), t6.2.2.1, t6.2.2.2.1, t6.2.2.2.1)) 30 (.inr (.inr (8, [.ref (z + 31), .ref (z + 33), .ref (z + 35), .int p, .int t6.2.2.2.1])))) P
            rw [tput_s30]
            refine xw.ret rfl (fun _ => rfl) ?_
            show P none (tput z S (t6.1, (nSet t6.2.1 p 1), t6.2.2.1, p, t6.2.2.2.1))
            subst et6 et4
            first | exact hP | simpa [tr_toA, tr_keepB, tr_load, c1, c2, c3, c6, c7] using hP | simp_all [tr_toA, tr_keepB, tr_load]
        · have c6 := Decidable.not_not.mp (of_decide_eq_false c6)
          refine xw.steps 3 (fun _ => rfl) ?_
          show xw z NK g 93 72 [(0, .ref (z + 30)), (1, .int p), (2, .int (nAt (nSet t4.2.1 t4.2.2.2.2 0) p))] [.int p, .int 3, .ref (z + 30)] (tput z S (t4.1, (nSet t4.2.1 t4.2.2.2.2 0), t4.2.2.1, t4.2.2.2.1, t4.2.2.2.2)) P
          refine xw.callO (o := 30) rfl rfl rfl (tput_30 _ _ _) rfl rfl (c_write (by omega) ?_)
          show xw z NK g 93 75 [(0, .ref (z + 30)), (1, .int p), (2, .int (nAt (nSet t4.2.1 t4.2.2.2.2 0) p))] [] (tput z S ((tr_write (t4.1, (nSet t4.2.1 t4.2.2.2.2 0), t4.2.2.1, t4.2.2.2.1, t4.2.2.2.2) 3 p).1, (tr_write (t4.1, (nSet t4.2.1 t4.2.2.2.2 0), t4.2.2.1, t4.2.2.2.1, t4.2.2.2.2) 3 p).2.1, (tr_write (t4.1, (nSet t4.2.1 t4.2.2.2.2 0), t4.2.2.1, t4.2.2.2.1, t4.2.2.2.2) 3 p).2.2.1, (tr_write (t4.1, (nSet t4.2.1 t4.2.2.2.2 0), t4.2.2.1, t4.2.2.2.1, t4.2.2.2.2) 3 p).2.2.2.1, (tr_write (t4.1, (nSet t4.2.1 t4.2.2.2.2 0), t4.2.2.1, t4.2.2.2.1, t4.2.2.2.2) 3 p).2.2.2.2)) P
          obtain ⟨t7, et7⟩ : ∃ t, t = (tr_write (t4.1, (nSet t4.2.1 t4.2.2.2.2 0), t4.2.2.1, t4.2.2.2.1, t4.2.2.2.2) 3 p) := ⟨_, rfl⟩
          have lt7 := tr_write_len (t4.1, (nSet t4.2.1 t4.2.2.2.2 0), t4.2.2.1, t4.2.2.2.1, t4.2.2.2.2) 3 p
          rw [← et7] at lt7
          dsimp only at lt7
          show xw z NK g 93 _ _ _ (tput z S (tr_write (t4.1, (nSet t4.2.1 t4.2.2.2.2 0), t4.2.2.1, t4.2.2.2.1, t4.2.2.2.2) 3 p)) P
          rw [← et7]
          show xw z NK g 93 75 [(0, .ref (z + 30)), (1, .int p), (2, .int (nAt (nSet t4.2.1 t4.2.2.2.2 0) p))] [] (tput z S (t7.1, t7.2.1, t7.2.2.1, t7.2.2.2.1, t7.2.2.2.2)) P
          refine xw.steps 2 (fun _ => rfl) ?_
          refine xw.getf (o := 30) rfl (tput_30 _ _ _) rfl ?_
          refine xw.steps 2 (fun _ => rfl) ?_
          show xw z NK g 93 106 [(0, .ref (z + 30)), (1, .int p), (2, .int (nAt (nSet t4.2.1 t4.2.2.2.2 0) p))] [.int 1, .int p, .ref (z + 33)] (tput z S (t7.1, t7.2.1, t7.2.2.1, t7.2.2.2.1, t7.2.2.2.2)) P
          refine xw.callN (o := 33) rfl rfl rfl (tput_33 _ _ _) rfl rfl (c_change (tput_33 _ _ _) ?_)
          show xw z NK g 93 109 [(0, .ref (z + 30)), (1, .int p), (2, .int (nAt (nSet t4.2.1 t4.2.2.2.2 0) p))] [] (xu (tput z S (t7.1, t7.2.1, t7.2.2.1, t7.2.2.2.1, t7.2.2.2.2)) 33 (.inl (nSet t7.2.1 p 1))) P
          rw [tput_s33]
          refine xw.steps 2 (fun _ => rfl) ?_
          refine xw.getf (o := 30) rfl (tput_30 _ _ _) rfl ?_
          refine xw.putf (o := 30) (fs' := [.ref (z + 31), .ref (z + 33), .ref (z + 35), .int t7.2.2.2.1, .int t7.2.2.2.1]) rfl (tput_30 _ _ _) (Nat.le_of_ble_eq_true rfl) rfl rfl rfl ?_
          show xw z NK g 93 117 [(0, .ref (z + 30)), (1, .int p), (2, .int (nAt (nSet t4.2.1 t4.2.2.2.2 0) p))] [] (xu (tput z S (t7.1, (nSet t7.2.1 p 1), t7.2.2.1, t7.2.2.2.1, t7.2.2.2.2)) 30 (.inr (.inr (8, [.ref (z + 31), .ref (z + 33), .ref (z + 35), .int t7.2.2.2.1, .int t7.2.2.2.1])))) P
          rw [tput_s30]
          refine xw.steps 2 (fun _ => rfl) ?_
          refine xw.putf (o := 30) (fs' := [.ref (z + 31), .ref (z + 33), .ref (z + 35), .int p, .int t7.2.2.2.1]) rfl (tput_30 _ _ _) (Nat.le_of_ble_eq_true rfl) rfl rfl rfl ?_
          show xw z NK g 93 122 [(0, .ref (z + 30)), (1, .int p), (2, .int (nAt (nSet t4.2.1 t4.2.2.2.2 0) p))] [] (xu (tput z S (t7.1, (nSet t7.2.1 p 1), t7.2.2.1, t7.2.2.2.1, t7.2.2.2.1)) 30 (.inr (.inr (8, [.ref (z + 31), .ref (z + 33), .ref (z + 35), .int p, .int t7.2.2.2.1])))) P
          rw [tput_s30]
          refine xw.ret rfl (fun _ => rfl) ?_
          show P none (tput z S (t7.1, (nSet t7.2.1 p 1), t7.2.2.1, p, t7.2.2.2.1))
          subst et7 et4
          first | exact hP | simpa [tr_toA, tr_keepB, tr_load, c1, c2, c3, c6] using hP | simp_all [tr_toA, tr_keepB, tr_load]
    · have c2 := Decidable.not_not.mp (of_decide_eq_false c2)
      refine xw.steps 3 (fun _ => rfl) ?_
      show xw z NK g 93 21 [(0, .ref (z + 30)), (1, .int p)] [.int 0, .int 6, .ref (z + 30)] (tput z S (im, ki, de, iA, iB)) P
      refine xw.callO (o := 30) rfl rfl rfl (tput_30 _ _ _) rfl rfl (c_write (by omega) ?_)
      show xw z NK g 93 24 [(0, .ref (z + 30)), (1, .int p)] [] (tput z S ((tr_write (im, ki, de, iA, iB) 6 0).1, (tr_write (im, ki, de, iA, iB) 6 0).2.1, (tr_write (im, ki, de, iA, iB) 6 0).2.2.1, (tr_write (im, ki, de, iA, iB) 6 0).2.2.2.1, (tr_write (im, ki, de, iA, iB) 6 0).2.2.2.2)) P
      obtain ⟨t8, et8⟩ : ∃ t, t = (tr_write (im, ki, de, iA, iB) 6 0) := ⟨_, rfl⟩
      have lt8 := tr_write_len (im, ki, de, iA, iB) 6 0
      rw [← et8] at lt8
      dsimp only at lt8
      show xw z NK g 93 _ _ _ (tput z S (tr_write (im, ki, de, iA, iB) 6 0)) P
      rw [← et8]
      show xw z NK g 93 24 [(0, .ref (z + 30)), (1, .int p)] [] (tput z S (t8.1, t8.2.1, t8.2.2.1, t8.2.2.2.1, t8.2.2.2.2)) P
      refine xw.steps 3 (fun _ => rfl) ?_
      refine xw.getf (o := 30) rfl (tput_30 _ _ _) rfl ?_
      refine xw.putf (o := 30) (fs' := [.ref (z + 31), .ref (z + 33), .ref (z + 35), .int t8.2.2.2.1, .int t8.2.2.2.1]) rfl (tput_30 _ _ _) (Nat.le_of_ble_eq_true rfl) rfl rfl rfl ?_
      show xw z NK g 93 117 [(0, .ref (z + 30)), (1, .int p)] [] (xu (tput z S (t8.1, t8.2.1, t8.2.2.1, t8.2.2.2.1, t8.2.2.2.2)) 30 (.inr (.inr (8, [.ref (z + 31), .ref (z + 33), .ref (z + 35), .int t8.2.2.2.1, .int t8.2.2.2.1])))) P
      rw [tput_s30]
      refine xw.steps 2 (fun _ => rfl) ?_
      refine xw.putf (o := 30) (fs' := [.ref (z + 31), .ref (z + 33), .ref (z + 35), .int p, .int t8.2.2.2.1]) rfl (tput_30 _ _ _) (Nat.le_of_ble_eq_true rfl) rfl rfl rfl ?_
      show xw z NK g 93 122 [(0, .ref (z + 30)), (1, .int p)] [] (xu (tput z S (t8.1, t8.2.1, t8.2.2.1, t8.2.2.2.1, t8.2.2.2.1)) 30 (.inr (.inr (8, [.ref (z + 31), .ref (z + 33), .ref (z + 35), .int p, .int t8.2.2.2.1])))) P
      rw [tput_s30]
      refine xw.ret rfl (fun _ => rfl) ?_
      show P none (tput z S (t8.1, t8.2.1, t8.2.2.1, p, t8.2.2.2.1))
      subst et8
      first | exact hP | simpa [tr_toA, tr_keepB, tr_load, c1, c2] using hP | simp_all [tr_toA, tr_keepB, tr_load]
  · have c1 := Decidable.not_not.mp (of_decide_eq_false c1)
    refine xw.ret rfl (fun _ => rfl) ?_
    show P none (tput z S (im, ki, de, iA, iB))
    first | exact hP | simpa [tr_toA, tr_keepB, tr_load, c1] using hP | simp_all [tr_toA, tr_keepB, tr_load]
end XT2
