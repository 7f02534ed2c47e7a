/-! TRANSLATOR: goIf .. storeByte (walks by wip/gen29.py) -/
theorem x_sub {n k : Nat} (h : k ≤ n) : nI n - nI k = nI (n - k) := pk_sub h
theorem c_settleX {z : Nat} {NK : List Nat} {g : mx_G} {S : xS} {P : Option Value → xS → Prop} {t : TT} {a b : Nat} {x y : Int32} (hx : x = nI a) (hy : y = nI b) (hab : a ≤ b) (hb : b < 2 ^ 30) (hi : t.1.length + 6 * (b - a) ≤ 131072) (hP : P none (tput z S (tr_settle (b - a) a t))) : xw z NK g 94 0 [(0, .ref (z + 30)), (1, .int x), (2, .int y)] [] (tput z S t) P := by
  subst hx; subst hy
  exact c_settle hab hb hi hP
def tr_goIf (t : TT) (n l : Int32) : TT := tr_drop (tr_write (tr_toA (tr_settle (t.2.1.length - 1 - 0) 0 t) (nI t.2.1.length - 1)) n l) 1
def tr_case (t : TT) (k l : Int32) : TT :=
  let u := tr_write (tr_toA (tr_settle (t.2.1.length - 1 - 0) 0 t) (nI t.2.1.length - 1)) 1 k
  tr_write (u.1, u.2.1, u.2.2.1, -1, nI t.2.1.length - 1) 23 l
def tr_byte (t : TT) : TT := tr_drop (tr_write (tr_meet (tr_settle ((t.2.1.length - 3 + 1) - (t.2.1.length - 3)) (t.2.1.length - 3) t) false).1 16 (nI t.2.1.length - 3)) 3
def tr_keep (t : TT) (k : Int32) : TT :=
  let u := if (tr_meet t true).2 = true then tr_write (tr_meet t true).1 13 (a_mir k) else tr_write (tr_meet t true).1 14 k
  (u.1, u.2.1, u.2.2.1, nI u.2.1.length - 1, nI u.2.1.length - 1 - 1)
def tr_cgo (t : TT) (k c l : Int32) : TT :=
  let u := tr_meet (tr_settle (t.2.1.length - 2 - 0) 0 t) true
  let w := if u.2 = true then a_mir k else k
  tr_drop (tr_write u.1 (23 + (if c = 11 then a_opp w else w)) l) 2
section XT4
variable {z : Nat} {NK : List Nat} {g : mx_G} {S : xS} {P : Option Value → xS → Prop} {im ki de : List Int32} {iA iB : Int32}
set_option maxHeartbeats 4000000 in
/-- RowCode$Translator.goIf(II)V -/
theorem c_goIf (hi : im.length + 6 * ki.length + 60 ≤ 131072) (h1 : 1 ≤ ki.length) {n l : Int32} (hP : P none (tput z S (tr_goIf (im, ki, de, iA, iB) n l))) : xw z NK g 100 0 [(0, .ref (z + 30)), (1, .int n), (2, .int l)] [] (tput z S (im, ki, de, iA, iB)) P := by
  refine xw.steps 1 (fun _ => rfl) ?_
  refine xw.getf (o := 30) rfl (tput_30 _ _ _) rfl ?_
  show xw z NK g 100 4 [(0, .ref (z + 30)), (1, .int n), (2, .int l)] [.ref (z + 33)] (tput z S (im, ki, de, iA, iB)) P
  refine xw.callN (o := 33) rfl rfl rfl (tput_33 _ _ _) rfl rfl (c_size (tput_33 _ _ _) ?_)
  show xw z NK g 100 7 [(0, .ref (z + 30)), (1, .int n), (2, .int l)] [.int (nI ki.length)] (tput z S (im, ki, de, iA, iB)) P
  refine xw.steps 6 (fun _ => rfl) ?_
  show xw z NK g 100 13 [(0, .ref (z + 30)), (1, .int n), (2, .int l), (3, .int ((nI ki.length) - 1))] [.int ((nI ki.length) - 1), .int 0, .ref (z + 30)] (tput z S (im, ki, de, iA, iB)) P
  refine xw.callO (o := 30) rfl rfl rfl (tput_30 _ _ _) rfl rfl (c_settleX (t := (im, ki, de, iA, iB)) (a := 0) (b := (ki.length - 1)) rfl (x_sub (k := 1) (by omega)) (by omega) (by omega) (by dsimp only; omega) ?_)
  show xw z NK g 100 16 [(0, .ref (z + 30)), (1, .int n), (2, .int l), (3, .int ((nI ki.length) - 1))] [] (tput z S (tr_settle ((ki.length - 1) - 0) 0 (im, ki, de, iA, iB))) P
  obtain ⟨t1, et1⟩ : ∃ t, t = (tr_settle ((ki.length - 1) - 0) 0 (im, ki, de, iA, iB)) := ⟨_, rfl⟩
  have lt1 := tr_settle_len ((ki.length - 1) - 0) 0 (im, ki, de, iA, iB)
  rw [← et1] at lt1
  try dsimp only at lt1
  rw [← et1]
  show xw z NK g 100 16 [(0, .ref (z + 30)), (1, .int n), (2, .int l), (3, .int ((nI ki.length) - 1))] [] (tput z S t1) P
  refine xw.steps 2 (fun _ => rfl) ?_
  show xw z NK g 100 18 [(0, .ref (z + 30)), (1, .int n), (2, .int l), (3, .int ((nI ki.length) - 1))] [.int ((nI ki.length) - 1), .ref (z + 30)] (tput z S t1) P
  refine xw.callO (o := 30) rfl rfl rfl (tput_30 _ _ _) rfl rfl (c_toA (im := t1.1) (ki := t1.2.1) (de := t1.2.2.1) (iA := t1.2.2.2.1) (iB := t1.2.2.2.2) (by omega) ?_)
  show xw z NK g 100 21 [(0, .ref (z + 30)), (1, .int n), (2, .int l), (3, .int ((nI ki.length) - 1))] [] (tput z S (tr_toA t1 ((nI ki.length) - 1))) P
  obtain ⟨t2, et2⟩ : ∃ t, t = (tr_toA t1 ((nI ki.length) - 1)) := ⟨_, rfl⟩
  have lt2 := tr_toA_len t1 ((nI ki.length) - 1)
  rw [← et2] at lt2
  try dsimp only at lt2
  show xw z NK g 100 _ _ _ (tput z S (tr_toA t1 ((nI ki.length) - 1))) P
  rw [← et2]
  show xw z NK g 100 21 [(0, .ref (z + 30)), (1, .int n), (2, .int l), (3, .int ((nI ki.length) - 1))] [] (tput z S t2) P
  refine xw.steps 3 (fun _ => rfl) ?_
  show xw z NK g 100 24 [(0, .ref (z + 30)), (1, .int n), (2, .int l), (3, .int ((nI ki.length) - 1))] [.int l, .int n, .ref (z + 30)] (tput z S t2) P
  refine xw.callO (o := 30) rfl rfl rfl (tput_30 _ _ _) rfl rfl (c_write (im := t2.1) (ki := t2.2.1) (de := t2.2.2.1) (iA := t2.2.2.2.1) (iB := t2.2.2.2.2) (by omega) ?_)
  show xw z NK g 100 27 [(0, .ref (z + 30)), (1, .int n), (2, .int l), (3, .int ((nI ki.length) - 1))] [] (tput z S (tr_write t2 n l)) P
  obtain ⟨t3, et3⟩ : ∃ t, t = (tr_write t2 n l) := ⟨_, rfl⟩
  have lt3 := tr_write_len t2 n l
  rw [← et3] at lt3
  try dsimp only at lt3
  show xw z NK g 100 _ _ _ (tput z S (tr_write t2 n l)) P
  rw [← et3]
  show xw z NK g 100 27 [(0, .ref (z + 30)), (1, .int n), (2, .int l), (3, .int ((nI ki.length) - 1))] [] (tput z S t3) P
  refine xw.steps 2 (fun _ => rfl) ?_
  show xw z NK g 100 29 [(0, .ref (z + 30)), (1, .int n), (2, .int l), (3, .int ((nI ki.length) - 1))] [.int 1, .ref (z + 30)] (tput z S t3) P
  refine xw.callO (o := 30) rfl rfl rfl (tput_30 _ _ _) rfl rfl (c_tdrop (im := t3.1) (ki := t3.2.1) (de := t3.2.2.1) (iA := t3.2.2.2.1) (iB := t3.2.2.2.2)  ?_)
  show xw z NK g 100 32 [(0, .ref (z + 30)), (1, .int n), (2, .int l), (3, .int ((nI ki.length) - 1))] [] (tput z S (tr_drop t3 1)) P
  obtain ⟨t4, et4⟩ : ∃ t, t = (tr_drop t3 1) := ⟨_, rfl⟩
  have lt4 := tr_drop_len t3 1
  rw [← et4] at lt4
  try dsimp only at lt4
  show xw z NK g 100 _ _ _ (tput z S (tr_drop t3 1)) P
  rw [← et4]
  show xw z NK g 100 32 [(0, .ref (z + 30)), (1, .int n), (2, .int l), (3, .int ((nI ki.length) - 1))] [] (tput z S t4) P
  refine xw.ret rfl (fun _ => rfl) ?_
  show P none (tput z S t4)
  subst et4 et3 et2 et1
  first | exact hP | simpa [tr_goIf] using hP | simp_all [tr_goIf]
set_option maxHeartbeats 4000000 in
/-- RowCode$Translator.goInCase(II)V -/
theorem c_goInCase (hi : im.length + 6 * ki.length + 60 ≤ 131072) (h1 : 1 ≤ ki.length) {k l : Int32} (hP : P none (tput z S (tr_case (im, ki, de, iA, iB) k l))) : xw z NK g 102 0 [(0, .ref (z + 30)), (1, .int k), (2, .int l)] [] (tput z S (im, ki, de, iA, iB)) P := by
  refine xw.steps 1 (fun _ => rfl) ?_
  refine xw.getf (o := 30) rfl (tput_30 _ _ _) rfl ?_
  show xw z NK g 102 4 [(0, .ref (z + 30)), (1, .int k), (2, .int l)] [.ref (z + 33)] (tput z S (im, ki, de, iA, iB)) P
  refine xw.callN (o := 33) rfl rfl rfl (tput_33 _ _ _) rfl rfl (c_size (tput_33 _ _ _) ?_)
  show xw z NK g 102 7 [(0, .ref (z + 30)), (1, .int k), (2, .int l)] [.int (nI ki.length)] (tput z S (im, ki, de, iA, iB)) P
  refine xw.steps 6 (fun _ => rfl) ?_
  show xw z NK g 102 13 [(0, .ref (z + 30)), (1, .int k), (2, .int l), (3, .int ((nI ki.length) - 1))] [.int ((nI ki.length) - 1), .int 0, .ref (z + 30)] (tput z S (im, ki, de, iA, iB)) P
  refine xw.callO (o := 30) rfl rfl rfl (tput_30 _ _ _) rfl rfl (c_settleX (t := (im, ki, de, iA, iB)) (a := 0) (b := (ki.length - 1)) rfl (x_sub (k := 1) (by omega)) (by omega) (by omega) (by dsimp only; omega) ?_)
  show xw z NK g 102 16 [(0, .ref (z + 30)), (1, .int k), (2, .int l), (3, .int ((nI ki.length) - 1))] [] (tput z S (tr_settle ((ki.length - 1) - 0) 0 (im, ki, de, iA, iB))) P
  obtain ⟨t1, et1⟩ : ∃ t, t = (tr_settle ((ki.length - 1) - 0) 0 (im, ki, de, iA, iB)) := ⟨_, rfl⟩
  have lt1 := tr_settle_len ((ki.length - 1) - 0) 0 (im, ki, de, iA, iB)
  rw [← et1] at lt1
  try dsimp only at lt1
  rw [← et1]
  show xw z NK g 102 16 [(0, .ref (z + 30)), (1, .int k), (2, .int l), (3, .int ((nI ki.length) - 1))] [] (tput z S t1) P
  refine xw.steps 2 (fun _ => rfl) ?_
  show xw z NK g 102 18 [(0, .ref (z + 30)), (1, .int k), (2, .int l), (3, .int ((nI ki.length) - 1))] [.int ((nI ki.length) - 1), .ref (z + 30)] (tput z S t1) P
  refine xw.callO (o := 30) rfl rfl rfl (tput_30 _ _ _) rfl rfl (c_toA (im := t1.1) (ki := t1.2.1) (de := t1.2.2.1) (iA := t1.2.2.2.1) (iB := t1.2.2.2.2) (by omega) ?_)
  show xw z NK g 102 21 [(0, .ref (z + 30)), (1, .int k), (2, .int l), (3, .int ((nI ki.length) - 1))] [] (tput z S (tr_toA t1 ((nI ki.length) - 1))) P
  obtain ⟨t2, et2⟩ : ∃ t, t = (tr_toA t1 ((nI ki.length) - 1)) := ⟨_, rfl⟩
  have lt2 := tr_toA_len t1 ((nI ki.length) - 1)
  rw [← et2] at lt2
  try dsimp only at lt2
  show xw z NK g 102 _ _ _ (tput z S (tr_toA t1 ((nI ki.length) - 1))) P
  rw [← et2]
  show xw z NK g 102 21 [(0, .ref (z + 30)), (1, .int k), (2, .int l), (3, .int ((nI ki.length) - 1))] [] (tput z S t2) P
  refine xw.steps 3 (fun _ => rfl) ?_
  show xw z NK g 102 24 [(0, .ref (z + 30)), (1, .int k), (2, .int l), (3, .int ((nI ki.length) - 1))] [.int k, .int 1, .ref (z + 30)] (tput z S t2) P
  refine xw.callO (o := 30) rfl rfl rfl (tput_30 _ _ _) rfl rfl (c_write (im := t2.1) (ki := t2.2.1) (de := t2.2.2.1) (iA := t2.2.2.2.1) (iB := t2.2.2.2.2) (by omega) ?_)
  show xw z NK g 102 27 [(0, .ref (z + 30)), (1, .int k), (2, .int l), (3, .int ((nI ki.length) - 1))] [] (tput z S (tr_write t2 1 k)) P
  obtain ⟨t3, et3⟩ : ∃ t, t = (tr_write t2 1 k) := ⟨_, rfl⟩
  have lt3 := tr_write_len t2 1 k
  rw [← et3] at lt3
  try dsimp only at lt3
  show xw z NK g 102 _ _ _ (tput z S (tr_write t2 1 k)) P
  rw [← et3]
  show xw z NK g 102 27 [(0, .ref (z + 30)), (1, .int k), (2, .int l), (3, .int ((nI ki.length) - 1))] [] (tput z S t3) P
  refine xw.steps 2 (fun _ => rfl) ?_
  refine xw.putf (o := 30) (fs' := [.ref (z + 31), .ref (z + 33), .ref (z + 35), .int t3.2.2.2.1, .int ((nI ki.length) - 1)]) rfl (tput_30 _ _ _) (Nat.le_of_ble_eq_true rfl) rfl rfl rfl ?_
  show xw z NK g 102 32 [(0, .ref (z + 30)), (1, .int k), (2, .int l), (3, .int ((nI ki.length) - 1))] [] (xu (tput z S t3) 30 (.inr (.inr (8, [.ref (z + 31), .ref (z + 33), .ref (z + 35), .int t3.2.2.2.1, .int ((nI ki.length) - 1)])))) P
  rw [tput_s30]
  refine xw.steps 2 (fun _ => rfl) ?_
  refine xw.putf (o := 30) (fs' := [.ref (z + 31), .ref (z + 33), .ref (z + 35), .int (-1), .int ((nI ki.length) - 1)]) rfl (tput_30 _ _ _) (Nat.le_of_ble_eq_true rfl) rfl rfl rfl ?_
  show xw z NK g 102 37 [(0, .ref (z + 30)), (1, .int k), (2, .int l), (3, .int ((nI ki.length) - 1))] [] (xu (tput z S (t3.1, t3.2.1, t3.2.2.1, t3.2.2.2.1, ((nI ki.length) - 1))) 30 (.inr (.inr (8, [.ref (z + 31), .ref (z + 33), .ref (z + 35), .int (-1), .int ((nI ki.length) - 1)])))) P
  rw [tput_s30]
  refine xw.steps 3 (fun _ => rfl) ?_
  show xw z NK g 102 41 [(0, .ref (z + 30)), (1, .int k), (2, .int l), (3, .int ((nI ki.length) - 1))] [.int l, .int 23, .ref (z + 30)] (tput z S (t3.1, t3.2.1, t3.2.2.1, (-1), ((nI ki.length) - 1))) P
  refine xw.callO (o := 30) rfl rfl rfl (tput_30 _ _ _) rfl rfl (c_write (im := t3.1) (ki := t3.2.1) (de := t3.2.2.1) (iA := (-1)) (iB := ((nI ki.length) - 1)) (by omega) ?_)
  show xw z NK g 102 44 [(0, .ref (z + 30)), (1, .int k), (2, .int l), (3, .int ((nI ki.length) - 1))] [] (tput z S (tr_write (t3.1, t3.2.1, t3.2.2.1, (-1), ((nI ki.length) - 1)) 23 l)) P
  obtain ⟨t4, et4⟩ : ∃ t, t = (tr_write (t3.1, t3.2.1, t3.2.2.1, (-1), ((nI ki.length) - 1)) 23 l) := ⟨_, rfl⟩
  have lt4 := tr_write_len (t3.1, t3.2.1, t3.2.2.1, (-1), ((nI ki.length) - 1)) 23 l
  rw [← et4] at lt4
  try dsimp only at lt4
  show xw z NK g 102 _ _ _ (tput z S (tr_write (t3.1, t3.2.1, t3.2.2.1, (-1), ((nI ki.length) - 1)) 23 l)) P
  rw [← et4]
  show xw z NK g 102 44 [(0, .ref (z + 30)), (1, .int k), (2, .int l), (3, .int ((nI ki.length) - 1))] [] (tput z S t4) P
  refine xw.ret rfl (fun _ => rfl) ?_
  show P none (tput z S t4)
  subst et4 et3 et2 et1
  first | exact hP | simpa [tr_case] using hP | simp_all [tr_case]
set_option maxHeartbeats 4000000 in
/-- RowCode$Translator.storeByte()V -/
theorem c_storeByte (hi : im.length + 6 * ki.length + 60 ≤ 131072) (h1 : 3 ≤ ki.length)  (hP : P none (tput z S (tr_byte (im, ki, de, iA, iB)))) : xw z NK g 99 0 [(0, .ref (z + 30))] [] (tput z S (im, ki, de, iA, iB)) P := by
  refine xw.steps 1 (fun _ => rfl) ?_
  refine xw.getf (o := 30) rfl (tput_30 _ _ _) rfl ?_
  show xw z NK g 99 4 [(0, .ref (z + 30))] [.ref (z + 33)] (tput z S (im, ki, de, iA, iB)) P
  refine xw.callN (o := 33) rfl rfl rfl (tput_33 _ _ _) rfl rfl (c_size (tput_33 _ _ _) ?_)
  show xw z NK g 99 7 [(0, .ref (z + 30))] [.int (nI ki.length)] (tput z S (im, ki, de, iA, iB)) P
  refine xw.steps 8 (fun _ => rfl) ?_
  show xw z NK g 99 15 [(0, .ref (z + 30)), (1, .int ((nI ki.length) - 3))] [.int (((nI ki.length) - 3) + 1), .int ((nI ki.length) - 3), .ref (z + 30)] (tput z S (im, ki, de, iA, iB)) P
  refine xw.callO (o := 30) rfl rfl rfl (tput_30 _ _ _) rfl rfl (c_settleX (t := (im, ki, de, iA, iB)) (a := (ki.length - 3)) (b := (ki.length - 3 + 1)) (x_sub (k := 3) (by omega)) (by rw [← nI_1, ← x_sub (k := 3) (by omega)]; rfl) (by omega) (by omega) (by dsimp only; omega) ?_)
  show xw z NK g 99 18 [(0, .ref (z + 30)), (1, .int ((nI ki.length) - 3))] [] (tput z S (tr_settle ((ki.length - 3 + 1) - (ki.length - 3)) (ki.length - 3) (im, ki, de, iA, iB))) P
  obtain ⟨t1, et1⟩ : ∃ t, t = (tr_settle ((ki.length - 3 + 1) - (ki.length - 3)) (ki.length - 3) (im, ki, de, iA, iB)) := ⟨_, rfl⟩
  have lt1 := tr_settle_len ((ki.length - 3 + 1) - (ki.length - 3)) (ki.length - 3) (im, ki, de, iA, iB)
  rw [← et1] at lt1
  try dsimp only at lt1
  rw [← et1]
  show xw z NK g 99 18 [(0, .ref (z + 30)), (1, .int ((nI ki.length) - 3))] [] (tput z S t1) P
  refine xw.steps 2 (fun _ => rfl) ?_
  show xw z NK g 99 20 [(0, .ref (z + 30)), (1, .int ((nI ki.length) - 3))] [.int 0, .ref (z + 30)] (tput z S t1) P
  refine xw.callO (o := 30) rfl rfl rfl (tput_30 _ _ _) rfl rfl (c_meet (im := t1.1) (ki := t1.2.1) (de := t1.2.2.1) (iA := t1.2.2.2.1) (iB := t1.2.2.2.2) (m := false) (by omega) ?_)
  show xw z NK g 99 23 [(0, .ref (z + 30)), (1, .int ((nI ki.length) - 3))] [.int (bI (tr_meet t1 false).2)] (tput z S (tr_meet t1 false).1) P
  obtain ⟨t2, et2⟩ : ∃ t, t = (tr_meet t1 false) := ⟨_, rfl⟩
  have lt2 := tr_meet_len t1 false
  rw [← et2] at lt2
  try dsimp only at lt2
  rw [← et2]
  show xw z NK g 99 23 [(0, .ref (z + 30)), (1, .int ((nI ki.length) - 3))] [.int (bI t2.2)] (tput z S t2.1) P
  refine xw.steps 4 (fun _ => rfl) ?_
  show xw z NK g 99 28 [(0, .ref (z + 30)), (1, .int ((nI ki.length) - 3))] [.int ((nI ki.length) - 3), .int 16, .ref (z + 30)] (tput z S t2.1) P
  refine xw.callO (o := 30) rfl rfl rfl (tput_30 _ _ _) rfl rfl (c_write (im := t2.1.1) (ki := t2.1.2.1) (de := t2.1.2.2.1) (iA := t2.1.2.2.2.1) (iB := t2.1.2.2.2.2) (by omega) ?_)
  show xw z NK g 99 31 [(0, .ref (z + 30)), (1, .int ((nI ki.length) - 3))] [] (tput z S (tr_write t2.1 16 ((nI ki.length) - 3))) P
  obtain ⟨t3, et3⟩ : ∃ t, t = (tr_write t2.1 16 ((nI ki.length) - 3)) := ⟨_, rfl⟩
  have lt3 := tr_write_len t2.1 16 ((nI ki.length) - 3)
  rw [← et3] at lt3
  try dsimp only at lt3
  show xw z NK g 99 _ _ _ (tput z S (tr_write t2.1 16 ((nI ki.length) - 3))) P
  rw [← et3]
  show xw z NK g 99 31 [(0, .ref (z + 30)), (1, .int ((nI ki.length) - 3))] [] (tput z S t3) P
  refine xw.steps 2 (fun _ => rfl) ?_
  show xw z NK g 99 33 [(0, .ref (z + 30)), (1, .int ((nI ki.length) - 3))] [.int 3, .ref (z + 30)] (tput z S t3) P
  refine xw.callO (o := 30) rfl rfl rfl (tput_30 _ _ _) rfl rfl (c_tdrop (im := t3.1) (ki := t3.2.1) (de := t3.2.2.1) (iA := t3.2.2.2.1) (iB := t3.2.2.2.2)  ?_)
  show xw z NK g 99 36 [(0, .ref (z + 30)), (1, .int ((nI ki.length) - 3))] [] (tput z S (tr_drop t3 3)) P
  obtain ⟨t4, et4⟩ : ∃ t, t = (tr_drop t3 3) := ⟨_, rfl⟩
  have lt4 := tr_drop_len t3 3
  rw [← et4] at lt4
  try dsimp only at lt4
  show xw z NK g 99 _ _ _ (tput z S (tr_drop t3 3)) P
  rw [← et4]
  show xw z NK g 99 36 [(0, .ref (z + 30)), (1, .int ((nI ki.length) - 3))] [] (tput z S t4) P
  refine xw.ret rfl (fun _ => rfl) ?_
  show P none (tput z S t4)
  subst et4 et3 et2 et1
  first | exact hP | simpa [tr_byte] using hP | simp_all [tr_byte]
set_option maxHeartbeats 4000000 in
/-- RowCode$Translator.compareAndKeep(I)V -/
theorem c_keep (hi : im.length + 60 ≤ 131072) {k : Int32} (hP : P none (tput z S (tr_keep (im, ki, de, iA, iB) k))) : xw z NK g 97 0 [(0, .ref (z + 30)), (1, .int k)] [] (tput z S (im, ki, de, iA, iB)) P := by
  refine xw.steps 2 (fun _ => rfl) ?_
  show xw z NK g 97 2 [(0, .ref (z + 30)), (1, .int k)] [.int 1, .ref (z + 30)] (tput z S (im, ki, de, iA, iB)) P
  refine xw.callO (o := 30) rfl rfl rfl (tput_30 _ _ _) rfl rfl (c_meet (im := im) (ki := ki) (de := de) (iA := iA) (iB := iB) (m := true) (by omega) ?_)
  show xw z NK g 97 5 [(0, .ref (z + 30)), (1, .int k)] [.int (bI (tr_meet (im, ki, de, iA, iB) true).2)] (tput z S (tr_meet (im, ki, de, iA, iB) true).1) P
  obtain ⟨t1, et1⟩ : ∃ t, t = (tr_meet (im, ki, de, iA, iB) true) := ⟨_, rfl⟩
  have lt1 := tr_meet_len (im, ki, de, iA, iB) true
  rw [← et1] at lt1
  try dsimp only at lt1
  rw [← et1]
  show xw z NK g 97 5 [(0, .ref (z + 30)), (1, .int k)] [.int (bI t1.2)] (tput z S t1.1) P
  refine xw.if_ rfl (fun c1 => ?_) (fun c1 => ?_)
  · have c1 := bI_eq0 (of_decide_eq_true c1)
    refine xw.steps 3 (fun _ => rfl) ?_
    show xw z NK g 97 25 [(0, .ref (z + 30)), (1, .int k)] [.int k, .int 14, .ref (z + 30)] (tput z S t1.1) P
    refine xw.callO (o := 30) rfl rfl rfl (tput_30 _ _ _) rfl rfl (c_write (im := t1.1.1) (ki := t1.1.2.1) (de := t1.1.2.2.1) (iA := t1.1.2.2.2.1) (iB := t1.1.2.2.2.2) (by omega) ?_)
    show xw z NK g 97 28 [(0, .ref (z + 30)), (1, .int k)] [] (tput z S (tr_write t1.1 14 k)) P
    obtain ⟨t2, et2⟩ : ∃ t, t = (tr_write t1.1 14 k) := ⟨_, rfl⟩
    have lt2 := tr_write_len t1.1 14 k
    rw [← et2] at lt2
    try dsimp only at lt2
    show xw z NK g 97 _ _ _ (tput z S (tr_write t1.1 14 k)) P
    rw [← et2]
    show xw z NK g 97 28 [(0, .ref (z + 30)), (1, .int k)] [] (tput z S t2) P
    refine xw.steps 2 (fun _ => rfl) ?_
    refine xw.getf (o := 30) rfl (tput_30 _ _ _) rfl ?_
    show xw z NK g 97 33 [(0, .ref (z + 30)), (1, .int k)] [.ref (z + 33), .ref (z + 30)] (tput z S t2) P
    refine xw.callN (o := 33) rfl rfl rfl (tput_33 _ _ _) rfl rfl (c_size (tput_33 _ _ _) ?_)
    show xw z NK g 97 36 [(0, .ref (z + 30)), (1, .int k)] [.int (nI t2.2.1.length), .ref (z + 30)] (tput z S t2) P
    refine xw.steps 2 (fun _ => rfl) ?_
    refine xw.putf (o := 30) (fs' := [.ref (z + 31), .ref (z + 33), .ref (z + 35), .int ((nI t2.2.1.length) - 1), .int t2.2.2.2.2]) rfl (tput_30 _ _ _) (Nat.le_of_ble_eq_true rfl) rfl rfl rfl ?_
    show xw z NK g 97 41 [(0, .ref (z + 30)), (1, .int k)] [] (xu (tput z S t2) 30 (.inr (.inr (8, [.ref (z + 31), .ref (z + 33), .ref (z + 35), .int ((nI t2.2.1.length) - 1), .int t2.2.2.2.2])))) P
    rw [tput_s30]
    refine xw.steps 2 (fun _ => rfl) ?_
    refine xw.getf (o := 30) rfl (tput_30 _ _ _) rfl ?_
    refine xw.steps 2 (fun _ => rfl) ?_
    refine xw.putf (o := 30) (fs' := [.ref (z + 31), .ref (z + 33), .ref (z + 35), .int ((nI t2.2.1.length) - 1), .int (((nI t2.2.1.length) - 1) - 1)]) rfl (tput_30 _ _ _) (Nat.le_of_ble_eq_true rfl) rfl rfl rfl ?_
    show xw z NK g 97 51 [(0, .ref (z + 30)), (1, .int k)] [] (xu (tput z S (t2.1, t2.2.1, t2.2.2.1, ((nI t2.2.1.length) - 1), t2.2.2.2.2)) 30 (.inr (.inr (8, [.ref (z + 31), .ref (z + 33), .ref (z + 35), .int ((nI t2.2.1.length) - 1), .int (((nI t2.2.1.length) - 1) - 1)])))) P
    rw [tput_s30]
    refine xw.ret rfl (fun _ => rfl) ?_
    show P none (tput z S (t2.1, t2.2.1, t2.2.2.1, ((nI t2.2.1.length) - 1), (((nI t2.2.1.length) - 1) - 1)))
    subst et2 et1
    first | exact hP | simpa [tr_keep, c1] using hP | simp_all [tr_keep]
  · have c1 := bI_ne0 (of_decide_eq_false c1)
    refine xw.steps 3 (fun _ => rfl) ?_
    show xw z NK g 97 12 [(0, .ref (z + 30)), (1, .int k)] [.int k, .int 13, .ref (z + 30)] (tput z S t1.1) P
    refine xw.callS rfl rfl rfl rfl rfl (c_mirrored ?_)
    show xw z NK g 97 15 [(0, .ref (z + 30)), (1, .int k)] [.int (a_mir k), .int 13, .ref (z + 30)] (tput z S t1.1) P
    show xw z NK g 97 15 [(0, .ref (z + 30)), (1, .int k)] [.int (a_mir k), .int 13, .ref (z + 30)] (tput z S t1.1) P
    refine xw.callO (o := 30) rfl rfl rfl (tput_30 _ _ _) rfl rfl (c_write (im := t1.1.1) (ki := t1.1.2.1) (de := t1.1.2.2.1) (iA := t1.1.2.2.2.1) (iB := t1.1.2.2.2.2) (by omega) ?_)
    show xw z NK g 97 18 [(0, .ref (z + 30)), (1, .int k)] [] (tput z S (tr_write t1.1 13 (a_mir k))) P
    obtain ⟨t3, et3⟩ : ∃ t, t = (tr_write t1.1 13 (a_mir k)) := ⟨_, rfl⟩
    have lt3 := tr_write_len t1.1 13 (a_mir k)
    rw [← et3] at lt3
    try dsimp only at lt3
    show xw z NK g 97 _ _ _ (tput z S (tr_write t1.1 13 (a_mir k))) P
    rw [← et3]
    show xw z NK g 97 18 [(0, .ref (z + 30)), (1, .int k)] [] (tput z S t3) P
    refine xw.steps 3 (fun _ => rfl) ?_
    refine xw.getf (o := 30) rfl (tput_30 _ _ _) rfl ?_
    show xw z NK g 97 33 [(0, .ref (z + 30)), (1, .int k)] [.ref (z + 33), .ref (z + 30)] (tput z S t3) P
    refine xw.callN (o := 33) rfl rfl rfl (tput_33 _ _ _) rfl rfl (c_size (tput_33 _ _ _) ?_)
    show xw z NK g 97 36 [(0, .ref (z + 30)), (1, .int k)] [.int (nI t3.2.1.length), .ref (z + 30)] (tput z S t3) P
    refine xw.steps 2 (fun _ => rfl) ?_
    refine xw.putf (o := 30) (fs' := [.ref (z + 31), .ref (z + 33), .ref (z + 35), .int ((nI t3.2.1.length) - 1), .int t3.2.2.2.2]) rfl (tput_30 _ _ _) (Nat.le_of_ble_eq_true rfl) rfl rfl rfl ?_
    show xw z NK g 97 41 [(0, .ref (z + 30)), (1, .int k)] [] (xu (tput z S t3) 30 (.inr (.inr (8, [.ref (z + 31), .ref (z + 33), .ref (z + 35), .int ((nI t3.2.1.length) - 1), .int t3.2.2.2.2])))) P
    rw [tput_s30]
    refine xw.steps 2 (fun _ => rfl) ?_
    refine xw.getf (o := 30) rfl (tput_30 _ _ _) rfl ?_
    refine xw.steps 2 (fun _ => rfl) ?_
    refine xw.putf (o := 30) (fs' := [.ref (z + 31), .ref (z + 33), .ref (z + 35), .int ((nI t3.2.1.length) - 1), .int (((nI t3.2.1.length) - 1) - 1)]) rfl (tput_30 _ _ _) (Nat.le_of_ble_eq_true rfl) rfl rfl rfl ?_
    show xw z NK g 97 51 [(0, .ref (z + 30)), (1, .int k)] [] (xu (tput z S (t3.1, t3.2.1, t3.2.2.1, ((nI t3.2.1.length) - 1), t3.2.2.2.2)) 30 (.inr (.inr (8, [.ref (z + 31), .ref (z + 33), .ref (z + 35), .int ((nI t3.2.1.length) - 1), .int (((nI t3.2.1.length) - 1) - 1)])))) P
    rw [tput_s30]
    refine xw.ret rfl (fun _ => rfl) ?_
    show P none (tput z S (t3.1, t3.2.1, t3.2.2.1, ((nI t3.2.1.length) - 1), (((nI t3.2.1.length) - 1) - 1)))
    subst et3 et1
    first | exact hP | simpa [tr_keep, c1] using hP | simp_all [tr_keep]
set_option maxHeartbeats 4000000 in
/-- RowCode$Translator.compareAndGo(III)V -/
theorem c_cgo (hi : im.length + 6 * ki.length + 60 ≤ 131072) (h1 : 2 ≤ ki.length) {k c l : Int32} (hP : P none (tput z S (tr_cgo (im, ki, de, iA, iB) k c l))) : xw z NK g 101 0 [(0, .ref (z + 30)), (1, .int k), (2, .int c), (3, .int l)] [] (tput z S (im, ki, de, iA, iB)) P := by
  refine xw.steps 3 (fun _ => rfl) ?_
  refine xw.getf (o := 30) rfl (tput_30 _ _ _) rfl ?_
  show xw z NK g 101 6 [(0, .ref (z + 30)), (1, .int k), (2, .int c), (3, .int l)] [.ref (z + 33), .int 0, .ref (z + 30)] (tput z S (im, ki, de, iA, iB)) P
  refine xw.callN (o := 33) rfl rfl rfl (tput_33 _ _ _) rfl rfl (c_size (tput_33 _ _ _) ?_)
  show xw z NK g 101 9 [(0, .ref (z + 30)), (1, .int k), (2, .int c), (3, .int l)] [.int (nI ki.length), .int 0, .ref (z + 30)] (tput z S (im, ki, de, iA, iB)) P
  refine xw.steps 2 (fun _ => rfl) ?_
  show xw z NK g 101 11 [(0, .ref (z + 30)), (1, .int k), (2, .int c), (3, .int l)] [.int ((nI ki.length) - 2), .int 0, .ref (z + 30)] (tput z S (im, ki, de, iA, iB)) P
  refine xw.callO (o := 30) rfl rfl rfl (tput_30 _ _ _) rfl rfl (c_settleX (t := (im, ki, de, iA, iB)) (a := 0) (b := (ki.length - 2)) rfl (x_sub (k := 2) (by omega)) (by omega) (by omega) (by dsimp only; omega) ?_)
  show xw z NK g 101 14 [(0, .ref (z + 30)), (1, .int k), (2, .int c), (3, .int l)] [] (tput z S (tr_settle ((ki.length - 2) - 0) 0 (im, ki, de, iA, iB))) P
  obtain ⟨t1, et1⟩ : ∃ t, t = (tr_settle ((ki.length - 2) - 0) 0 (im, ki, de, iA, iB)) := ⟨_, rfl⟩
  have lt1 := tr_settle_len ((ki.length - 2) - 0) 0 (im, ki, de, iA, iB)
  rw [← et1] at lt1
  try dsimp only at lt1
  rw [← et1]
  show xw z NK g 101 14 [(0, .ref (z + 30)), (1, .int k), (2, .int c), (3, .int l)] [] (tput z S t1) P
  refine xw.steps 2 (fun _ => rfl) ?_
  show xw z NK g 101 16 [(0, .ref (z + 30)), (1, .int k), (2, .int c), (3, .int l)] [.int 1, .ref (z + 30)] (tput z S t1) P
  refine xw.callO (o := 30) rfl rfl rfl (tput_30 _ _ _) rfl rfl (c_meet (im := t1.1) (ki := t1.2.1) (de := t1.2.2.1) (iA := t1.2.2.2.1) (iB := t1.2.2.2.2) (m := true) (by omega) ?_)
  show xw z NK g 101 19 [(0, .ref (z + 30)), (1, .int k), (2, .int c), (3, .int l)] [.int (bI (tr_meet t1 true).2)] (tput z S (tr_meet t1 true).1) P
  obtain ⟨t2, et2⟩ : ∃ t, t = (tr_meet t1 true) := ⟨_, rfl⟩
  have lt2 := tr_meet_len t1 true
  rw [← et2] at lt2
  try dsimp only at lt2
  rw [← et2]
  show xw z NK g 101 19 [(0, .ref (z + 30)), (1, .int k), (2, .int c), (3, .int l)] [.int (bI t2.2)] (tput z S t2.1) P
  refine xw.if_ rfl (fun c1 => ?_) (fun c1 => ?_)
  · have c1 := bI_eq0 (of_decide_eq_true c1)
    refine xw.steps 6 (fun _ => rfl) ?_
    refine xw.icmp rfl (fun c2 => ?_) (fun c2 => ?_)
    · have c2 := of_decide_eq_true c2
      refine xw.steps 3 (fun _ => rfl) ?_
      show xw z NK g 101 53 [(0, .ref (z + 30)), (1, .int k), (2, .int c), (3, .int l), (4, .int k)] [.int l, .int (23 + k), .ref (z + 30)] (tput z S t2.1) P
      refine xw.callO (o := 30) rfl rfl rfl (tput_30 _ _ _) rfl rfl (c_write (im := t2.1.1) (ki := t2.1.2.1) (de := t2.1.2.2.1) (iA := t2.1.2.2.2.1) (iB := t2.1.2.2.2.2) (by omega) ?_)
      show xw z NK g 101 56 [(0, .ref (z + 30)), (1, .int k), (2, .int c), (3, .int l), (4, .int k)] [] (tput z S (tr_write t2.1 (23 + k) l)) P
      obtain ⟨t3, et3⟩ : ∃ t, t = (tr_write t2.1 (23 + k) l) := ⟨_, rfl⟩
      have lt3 := tr_write_len t2.1 (23 + k) l
      rw [← et3] at lt3
      try dsimp only at lt3
      show xw z NK g 101 _ _ _ (tput z S (tr_write t2.1 (23 + k) l)) P
      rw [← et3]
      show xw z NK g 101 56 [(0, .ref (z + 30)), (1, .int k), (2, .int c), (3, .int l), (4, .int k)] [] (tput z S t3) P
      refine xw.steps 2 (fun _ => rfl) ?_
      show xw z NK g 101 58 [(0, .ref (z + 30)), (1, .int k), (2, .int c), (3, .int l), (4, .int k)] [.int 2, .ref (z + 30)] (tput z S t3) P
      refine xw.callO (o := 30) rfl rfl rfl (tput_30 _ _ _) rfl rfl (c_tdrop (im := t3.1) (ki := t3.2.1) (de := t3.2.2.1) (iA := t3.2.2.2.1) (iB := t3.2.2.2.2)  ?_)
      show xw z NK g 101 61 [(0, .ref (z + 30)), (1, .int k), (2, .int c), (3, .int l), (4, .int k)] [] (tput z S (tr_drop t3 2)) P
      obtain ⟨t4, et4⟩ : ∃ t, t = (tr_drop t3 2) := ⟨_, rfl⟩
      have lt4 := tr_drop_len t3 2
      rw [← et4] at lt4
      try dsimp only at lt4
      show xw z NK g 101 _ _ _ (tput z S (tr_drop t3 2)) P
      rw [← et4]
      show xw z NK g 101 61 [(0, .ref (z + 30)), (1, .int k), (2, .int c), (3, .int l), (4, .int k)] [] (tput z S t4) P
      refine xw.ret rfl (fun _ => rfl) ?_
      show P none (tput z S t4)
      subst et4 et3 et2 et1
      first | exact hP | simpa [tr_cgo, c1, c2] using hP | simp_all [tr_cgo]
    · have c2 := Decidable.not_not.mp (of_decide_eq_false c2)
      refine xw.steps 1 (fun _ => rfl) ?_
      show xw z NK g 101 43 [(0, .ref (z + 30)), (1, .int k), (2, .int c), (3, .int l), (4, .int k)] [.int k, .int 23, .ref (z + 30)] (tput z S t2.1) P
      refine xw.callS rfl rfl rfl rfl rfl (c_opposite ?_)
      show xw z NK g 101 46 [(0, .ref (z + 30)), (1, .int k), (2, .int c), (3, .int l), (4, .int k)] [.int (a_opp k), .int 23, .ref (z + 30)] (tput z S t2.1) P
      refine xw.steps 3 (fun _ => rfl) ?_
      show xw z NK g 101 53 [(0, .ref (z + 30)), (1, .int k), (2, .int c), (3, .int l), (4, .int k)] [.int l, .int (23 + (a_opp k)), .ref (z + 30)] (tput z S t2.1) P
      refine xw.callO (o := 30) rfl rfl rfl (tput_30 _ _ _) rfl rfl (c_write (im := t2.1.1) (ki := t2.1.2.1) (de := t2.1.2.2.1) (iA := t2.1.2.2.2.1) (iB := t2.1.2.2.2.2) (by omega) ?_)
      show xw z NK g 101 56 [(0, .ref (z + 30)), (1, .int k), (2, .int c), (3, .int l), (4, .int k)] [] (tput z S (tr_write t2.1 (23 + (a_opp k)) l)) P
      obtain ⟨t5, et5⟩ : ∃ t, t = (tr_write t2.1 (23 + (a_opp k)) l) := ⟨_, rfl⟩
      have lt5 := tr_write_len t2.1 (23 + (a_opp k)) l
      rw [← et5] at lt5
      try dsimp only at lt5
      show xw z NK g 101 _ _ _ (tput z S (tr_write t2.1 (23 + (a_opp k)) l)) P
      rw [← et5]
      show xw z NK g 101 56 [(0, .ref (z + 30)), (1, .int k), (2, .int c), (3, .int l), (4, .int k)] [] (tput z S t5) P
      refine xw.steps 2 (fun _ => rfl) ?_
      show xw z NK g 101 58 [(0, .ref (z + 30)), (1, .int k), (2, .int c), (3, .int l), (4, .int k)] [.int 2, .ref (z + 30)] (tput z S t5) P
      refine xw.callO (o := 30) rfl rfl rfl (tput_30 _ _ _) rfl rfl (c_tdrop (im := t5.1) (ki := t5.2.1) (de := t5.2.2.1) (iA := t5.2.2.2.1) (iB := t5.2.2.2.2)  ?_)
      show xw z NK g 101 61 [(0, .ref (z + 30)), (1, .int k), (2, .int c), (3, .int l), (4, .int k)] [] (tput z S (tr_drop t5 2)) P
      obtain ⟨t6, et6⟩ : ∃ t, t = (tr_drop t5 2) := ⟨_, rfl⟩
      have lt6 := tr_drop_len t5 2
      rw [← et6] at lt6
      try dsimp only at lt6
      show xw z NK g 101 _ _ _ (tput z S (tr_drop t5 2)) P
      rw [← et6]
      show xw z NK g 101 61 [(0, .ref (z + 30)), (1, .int k), (2, .int c), (3, .int l), (4, .int k)] [] (tput z S t6) P
      refine xw.ret rfl (fun _ => rfl) ?_
      show P none (tput z S t6)
      subst et6 et5 et2 et1
      first | exact hP | simpa [tr_cgo, c1, c2] using hP | simp_all [tr_cgo]
  · have c1 := bI_ne0 (of_decide_eq_false c1)
    refine xw.steps 1 (fun _ => rfl) ?_
    show xw z NK g 101 23 [(0, .ref (z + 30)), (1, .int k), (2, .int c), (3, .int l)] [.int k] (tput z S t2.1) P
    refine xw.callS rfl rfl rfl rfl rfl (c_mirrored ?_)
    show xw z NK g 101 26 [(0, .ref (z + 30)), (1, .int k), (2, .int c), (3, .int l)] [.int (a_mir k)] (tput z S t2.1) P
    refine xw.steps 6 (fun _ => rfl) ?_
    refine xw.icmp rfl (fun c3 => ?_) (fun c3 => ?_)
    · have c3 := of_decide_eq_true c3
      refine xw.steps 3 (fun _ => rfl) ?_
      show xw z NK g 101 53 [(0, .ref (z + 30)), (1, .int k), (2, .int c), (3, .int l), (4, .int (a_mir k))] [.int l, .int (23 + (a_mir k)), .ref (z + 30)] (tput z S t2.1) P
      refine xw.callO (o := 30) rfl rfl rfl (tput_30 _ _ _) rfl rfl (c_write (im := t2.1.1) (ki := t2.1.2.1) (de := t2.1.2.2.1) (iA := t2.1.2.2.2.1) (iB := t2.1.2.2.2.2) (by omega) ?_)
      show xw z NK g 101 56 [(0, .ref (z + 30)), (1, .int k), (2, .int c), (3, .int l), (4, .int (a_mir k))] [] (tput z S (tr_write t2.1 (23 + (a_mir k)) l)) P
      obtain ⟨t7, et7⟩ : ∃ t, t = (tr_write t2.1 (23 + (a_mir k)) l) := ⟨_, rfl⟩
      have lt7 := tr_write_len t2.1 (23 + (a_mir k)) l
      rw [← et7] at lt7
      try dsimp only at lt7
      show xw z NK g 101 _ _ _ (tput z S (tr_write t2.1 (23 + (a_mir k)) l)) P
      rw [← et7]
      show xw z NK g 101 56 [(0, .ref (z + 30)), (1, .int k), (2, .int c), (3, .int l), (4, .int (a_mir k))] [] (tput z S t7) P
      refine xw.steps 2 (fun _ => rfl) ?_
      show xw z NK g 101 58 [(0, .ref (z + 30)), (1, .int k), (2, .int c), (3, .int l), (4, .int (a_mir k))] [.int 2, .ref (z + 30)] (tput z S t7) P
      refine xw.callO (o := 30) rfl rfl rfl (tput_30 _ _ _) rfl rfl (c_tdrop (im := t7.1) (ki := t7.2.1) (de := t7.2.2.1) (iA := t7.2.2.2.1) (iB := t7.2.2.2.2)  ?_)
      show xw z NK g 101 61 [(0, .ref (z + 30)), (1, .int k), (2, .int c), (3, .int l), (4, .int (a_mir k))] [] (tput z S (tr_drop t7 2)) P
      obtain ⟨t8, et8⟩ : ∃ t, t = (tr_drop t7 2) := ⟨_, rfl⟩
      have lt8 := tr_drop_len t7 2
      rw [← et8] at lt8
      try dsimp only at lt8
      show xw z NK g 101 _ _ _ (tput z S (tr_drop t7 2)) P
      rw [← et8]
      show xw z NK g 101 61 [(0, .ref (z + 30)), (1, .int k), (2, .int c), (3, .int l), (4, .int (a_mir k))] [] (tput z S t8) P
      refine xw.ret rfl (fun _ => rfl) ?_
      show P none (tput z S t8)
      subst et8 et7 et2 et1
      first | exact hP | simpa [tr_cgo, c1, c3] using hP | simp_all [tr_cgo]
    · have c3 := Decidable.not_not.mp (of_decide_eq_false c3)
      refine xw.steps 1 (fun _ => rfl) ?_
      show xw z NK g 101 43 [(0, .ref (z + 30)), (1, .int k), (2, .int c), (3, .int l), (4, .int (a_mir k))] [.int (a_mir k), .int 23, .ref (z + 30)] (tput z S t2.1) P
      refine xw.callS rfl rfl rfl rfl rfl (c_opposite ?_)
      show xw z NK g 101 46 [(0, .ref (z + 30)), (1, .int k), (2, .int c), (3, .int l), (4, .int (a_mir k))] [.int (a_opp (a_mir k)), .int 23, .ref (z + 30)] (tput z S t2.1) P
      refine xw.steps 3 (fun _ => rfl) ?_
      show xw z NK g 101 53 [(0, .ref (z + 30)), (1, .int k), (2, .int c), (3, .int l), (4, .int (a_mir k))] [.int l, .int (23 + (a_opp (a_mir k))), .ref (z + 30)] (tput z S t2.1) P
      refine xw.callO (o := 30) rfl rfl rfl (tput_30 _ _ _) rfl rfl (c_write (im := t2.1.1) (ki := t2.1.2.1) (de := t2.1.2.2.1) (iA := t2.1.2.2.2.1) (iB := t2.1.2.2.2.2) (by omega) ?_)
      show xw z NK g 101 56 [(0, .ref (z + 30)), (1, .int k), (2, .int c), (3, .int l), (4, .int (a_mir k))] [] (tput z S (tr_write t2.1 (23 + (a_opp (a_mir k))) l)) P
      obtain ⟨t9, et9⟩ : ∃ t, t = (tr_write t2.1 (23 + (a_opp (a_mir k))) l) := ⟨_, rfl⟩
      have lt9 := tr_write_len t2.1 (23 + (a_opp (a_mir k))) l
      rw [← et9] at lt9
      try dsimp only at lt9
      show xw z NK g 101 _ _ _ (tput z S (tr_write t2.1 (23 + (a_opp (a_mir k))) l)) P
      rw [← et9]
      show xw z NK g 101 56 [(0, .ref (z + 30)), (1, .int k), (2, .int c), (3, .int l), (4, .int (a_mir k))] [] (tput z S t9) P
      refine xw.steps 2 (fun _ => rfl) ?_
      show xw z NK g 101 58 [(0, .ref (z + 30)), (1, .int k), (2, .int c), (3, .int l), (4, .int (a_mir k))] [.int 2, .ref (z + 30)] (tput z S t9) P
      refine xw.callO (o := 30) rfl rfl rfl (tput_30 _ _ _) rfl rfl (c_tdrop (im := t9.1) (ki := t9.2.1) (de := t9.2.2.1) (iA := t9.2.2.2.1) (iB := t9.2.2.2.2)  ?_)
      show xw z NK g 101 61 [(0, .ref (z + 30)), (1, .int k), (2, .int c), (3, .int l), (4, .int (a_mir k))] [] (tput z S (tr_drop t9 2)) P
      obtain ⟨t10, et10⟩ : ∃ t, t = (tr_drop t9 2) := ⟨_, rfl⟩
      have lt10 := tr_drop_len t9 2
      rw [← et10] at lt10
      try dsimp only at lt10
      show xw z NK g 101 _ _ _ (tput z S (tr_drop t9 2)) P
      rw [← et10]
      show xw z NK g 101 61 [(0, .ref (z + 30)), (1, .int k), (2, .int c), (3, .int l), (4, .int (a_mir k))] [] (tput z S t10) P
      refine xw.ret rfl (fun _ => rfl) ?_
      show P none (tput z S t10)
      subst et10 et9 et2 et1
      first | exact hP | simpa [tr_cgo, c1, c3] using hP | simp_all [tr_cgo]
end XT4
