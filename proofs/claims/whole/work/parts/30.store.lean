/-! TRANSLATOR: storeLocal (walks by wip/gen30.py) -/
def tr_sl (k : Int32) : Nat → Nat → TT → TT
  | 0, _, t => t
  | d + 1, i, t => tr_sl k d (i + 1) (if nAt t.2.1 (nI i) = 3 ∧ nAt t.2.2.1 (nI i) = k then tr_settle (i + 1 - i) i t else t)
def tr_store (t : TT) (k : Int32) : TT := tr_drop (tr_write (tr_toA (tr_sl k (t.2.1.length - 1) 0 t) (nI (t.2.1.length - 1))) 7 k) 1
theorem tr_sl_len (k : Int32) : ∀ (d i : Nat) (t : TT), (tr_sl k d i t).1.length ≤ t.1.length + 6 * d ∧ (tr_sl k d i t).2.1.length = t.2.1.length ∧ (tr_sl k d i t).2.2.1 = t.2.2.1 := by
  intro d
  induction d with
  | zero => intro i t; simp [tr_sl]
  | succ d ih =>
    intro i t
    have h2 := ih (i + 1) (if nAt t.2.1 (nI i) = 3 ∧ nAt t.2.2.1 (nI i) = k then tr_settle (i + 1 - i) i t else t)
    have h1 : (if nAt t.2.1 (nI i) = 3 ∧ nAt t.2.2.1 (nI i) = k then tr_settle (i + 1 - i) i t else t).1.length ≤ t.1.length + 6 ∧ (if nAt t.2.1 (nI i) = 3 ∧ nAt t.2.2.1 (nI i) = k then tr_settle (i + 1 - i) i t else t).2.1.length = t.2.1.length ∧ (if nAt t.2.1 (nI i) = 3 ∧ nAt t.2.2.1 (nI i) = k then tr_settle (i + 1 - i) i t else t).2.2.1 = t.2.2.1 := by
      split
      · have h3 := tr_settle_len (i + 1 - i) i t
        exact ⟨by omega, h3.2⟩
      · exact ⟨by omega, rfl, rfl⟩
    refine ⟨?_, h2.2.1.trans h1.2.1, h2.2.2.trans h1.2.2⟩
    show (tr_sl k d (i + 1) _).1.length ≤ _
    omega
section XT5
variable {z : Nat} {NK : List Nat} {g : mx_G} {S : xS} {P : Option Value → xS → Prop} {im ki de : List Int32} {iA iB : Int32}
set_option maxHeartbeats 4000000 in
/-- RowCode$Translator.storeLocal(I)V -/
theorem c_storeLocal {k : Int32} (hi : im.length + 6 * ki.length + 60 ≤ 131072) (h1 : 1 ≤ ki.length) (hP : P none (tput z S (tr_store (im, ki, de, iA, iB) k))) : xw z NK g 98 0 [(0, .ref (z + 30)), (1, .int k)] [] (tput z S (im, ki, de, iA, iB)) P := by
  have loop : ∀ (d i : Nat) (hi : i + d = (ki.length - 1)) (im2 : List Int32) (ki2 : List Int32) (de2 : List Int32) (iA2 : Int32) (iB2 : Int32) (hk2 : ki2.length = ki.length) (hi2 : im2.length + 6 * d + 60 ≤ 131072) (hP : P none (tput z S (tr_drop (tr_write (tr_toA (tr_sl k d i (im2, ki2, de2, iA2, iB2)) (nI (ki.length - 1))) 7 k) 1))), xw z NK g 98 12 [(0, .ref (z + 30)), (1, .int k), (2, .int (nI (ki.length - 1))), (3, .int (nI i))] [] (tput z S (im2, ki2, de2, iA2, iB2)) P := by
    intro d
    induction d with
    | zero =>
      intro i hi im2 ki2 de2 iA2 iB2 hk2 hi2 hP
      refine xw.steps 2 (fun _ => rfl) ?_
      refine xw.icmp rfl (fun c1 => ?_) (fun c1 => ?_)
      · have c1 := Int32.not_lt.mpr (of_decide_eq_true c1)
        refine xw.steps 2 (fun _ => rfl) ?_
        show xw z NK g 98 57 [(0, .ref (z + 30)), (1, .int k), (2, .int (nI (ki.length - 1))), (3, .int (nI i))] [.int (nI (ki.length - 1)), .ref (z + 30)] (tput z S (im2, ki2, de2, iA2, iB2)) P
        refine xw.callO (o := 30) rfl rfl rfl (tput_30 _ _ _) rfl rfl (c_toA (im := im2) (ki := ki2) (de := de2) (iA := iA2) (iB := iB2) (by omega) ?_)
        show xw z NK g 98 60 [(0, .ref (z + 30)), (1, .int k), (2, .int (nI (ki.length - 1))), (3, .int (nI i))] [] (tput z S (tr_toA (im2, ki2, de2, iA2, iB2) (nI (ki.length - 1)))) P
        obtain ⟨t1, et1⟩ : ∃ t, t = (tr_toA (im2, ki2, de2, iA2, iB2) (nI (ki.length - 1))) := ⟨_, rfl⟩
        have lt1 := tr_toA_len (im2, ki2, de2, iA2, iB2) (nI (ki.length - 1))
        rw [← et1] at lt1
        try dsimp only at lt1
        show xw z NK g 98 _ _ _ (tput z S (tr_toA (im2, ki2, de2, iA2, iB2) (nI (ki.length - 1)))) P
        rw [← et1]
        show xw z NK g 98 60 [(0, .ref (z + 30)), (1, .int k), (2, .int (nI (ki.length - 1))), (3, .int (nI i))] [] (tput z S t1) P
        refine xw.steps 3 (fun _ => rfl) ?_
        show xw z NK g 98 64 [(0, .ref (z + 30)), (1, .int k), (2, .int (nI (ki.length - 1))), (3, .int (nI i))] [.int k, .int 7, .ref (z + 30)] (tput z S t1) P
        refine xw.callO (o := 30) rfl rfl rfl (tput_30 _ _ _) rfl rfl (c_write (im := t1.1) (ki := t1.2.1) (de := t1.2.2.1) (iA := t1.2.2.2.1) (iB := t1.2.2.2.2) (by omega) ?_)
        show xw z NK g 98 67 [(0, .ref (z + 30)), (1, .int k), (2, .int (nI (ki.length - 1))), (3, .int (nI i))] [] (tput z S (tr_write t1 7 k)) P
        obtain ⟨t2, et2⟩ : ∃ t, t = (tr_write t1 7 k) := ⟨_, rfl⟩
        have lt2 := tr_write_len t1 7 k
        rw [← et2] at lt2
        try dsimp only at lt2
        show xw z NK g 98 _ _ _ (tput z S (tr_write t1 7 k)) P
        rw [← et2]
        show xw z NK g 98 67 [(0, .ref (z + 30)), (1, .int k), (2, .int (nI (ki.length - 1))), (3, .int (nI i))] [] (tput z S t2) P
        refine xw.steps 2 (fun _ => rfl) ?_
        show xw z NK g 98 69 [(0, .ref (z + 30)), (1, .int k), (2, .int (nI (ki.length - 1))), (3, .int (nI i))] [.int 1, .ref (z + 30)] (tput z S t2) P
        refine xw.callO (o := 30) rfl rfl rfl (tput_30 _ _ _) rfl rfl (c_tdrop (im := t2.1) (ki := t2.2.1) (de := t2.2.2.1) (iA := t2.2.2.2.1) (iB := t2.2.2.2.2)  ?_)
        show xw z NK g 98 72 [(0, .ref (z + 30)), (1, .int k), (2, .int (nI (ki.length - 1))), (3, .int (nI i))] [] (tput z S (tr_drop t2 1)) P
        obtain ⟨t3, et3⟩ : ∃ t, t = (tr_drop t2 1) := ⟨_, rfl⟩
        have lt3 := tr_drop_len t2 1
        rw [← et3] at lt3
        try dsimp only at lt3
        show xw z NK g 98 _ _ _ (tput z S (tr_drop t2 1)) P
        rw [← et3]
        show xw z NK g 98 72 [(0, .ref (z + 30)), (1, .int k), (2, .int (nI (ki.length - 1))), (3, .int (nI i))] [] (tput z S t3) P
        refine xw.ret rfl (fun _ => rfl) ?_
        show P none (tput z S t3)
        subst et3 et2 et1
        exact hP
      · have c1 := Int32.not_le.mp (of_decide_eq_false c1)
        show xw z NK g 98 17 [(0, .ref (z + 30)), (1, .int k), (2, .int (nI (ki.length - 1))), (3, .int (nI i))] [] (tput z S (im2, ki2, de2, iA2, iB2)) P
        exact absurd c1 (nI_nlt (by omega) (by omega))
    | succ d ih =>
      intro i hi im2 ki2 de2 iA2 iB2 hk2 hi2 hP
      refine xw.steps 2 (fun _ => rfl) ?_
      refine xw.icmp rfl (fun c1 => ?_) (fun c1 => ?_)
      · have c1 := Int32.not_lt.mpr (of_decide_eq_true c1)
        show xw z NK g 98 55 [(0, .ref (z + 30)), (1, .int k), (2, .int (nI (ki.length - 1))), (3, .int (nI i))] [] (tput z S (im2, ki2, de2, iA2, iB2)) P
        exact absurd (nI_lt (by omega) (by omega)) c1
      · have c1 := Int32.not_le.mp (of_decide_eq_false c1)
        refine xw.steps 1 (fun _ => rfl) ?_
        refine xw.getf (o := 30) rfl (tput_30 _ _ _) rfl ?_
        refine xw.steps 1 (fun _ => rfl) ?_
        show xw z NK g 98 22 [(0, .ref (z + 30)), (1, .int k), (2, .int (nI (ki.length - 1))), (3, .int (nI i))] [.int (nI i), .ref (z + 33)] (tput z S (im2, ki2, de2, iA2, iB2)) P
        refine xw.callN (o := 33) rfl rfl rfl (tput_33 _ _ _) rfl rfl (c_at (tput_33 _ _ _) ?_)
        show xw z NK g 98 25 [(0, .ref (z + 30)), (1, .int k), (2, .int (nI (ki.length - 1))), (3, .int (nI i))] [.int (nAt ki2 (nI i))] (tput z S (im2, ki2, de2, iA2, iB2)) P
        refine xw.steps 1 (fun _ => rfl) ?_
        refine xw.icmp rfl (fun c2 => ?_) (fun c2 => ?_)
        · have c2 := of_decide_eq_true c2
          refine xw.steps 2 (fun _ => rfl) ?_
          show xw z NK g 98 12 [(0, .ref (z + 30)), (1, .int k), (2, .int (nI (ki.length - 1))), (3, .int ((nI i) + 1))] [] (tput z S (im2, ki2, de2, iA2, iB2)) P
          rw [nI_1]
          exact ih (i + 1) (by omega) im2 ki2 de2 iA2 iB2 (by omega) (by omega) (by first | simpa [tr_sl, c1, c2] using hP | simp_all [tr_sl])
        · have c2 := Decidable.not_not.mp (of_decide_eq_false c2)
          refine xw.steps 1 (fun _ => rfl) ?_
          refine xw.getf (o := 30) rfl (tput_30 _ _ _) rfl ?_
          refine xw.steps 1 (fun _ => rfl) ?_
          show xw z NK g 98 34 [(0, .ref (z + 30)), (1, .int k), (2, .int (nI (ki.length - 1))), (3, .int (nI i))] [.int (nI i), .ref (z + 35)] (tput z S (im2, ki2, de2, iA2, iB2)) P
          refine xw.callN (o := 35) rfl rfl rfl (tput_35 _ _ _) rfl rfl (c_at (tput_35 _ _ _) ?_)
          show xw z NK g 98 37 [(0, .ref (z + 30)), (1, .int k), (2, .int (nI (ki.length - 1))), (3, .int (nI i))] [.int (nAt de2 (nI i))] (tput z S (im2, ki2, de2, iA2, iB2)) P
          refine xw.steps 1 (fun _ => rfl) ?_
          refine xw.icmp rfl (fun c3 => ?_) (fun c3 => ?_)
          · have c3 := of_decide_eq_true c3
            refine xw.steps 2 (fun _ => rfl) ?_
            show xw z NK g 98 12 [(0, .ref (z + 30)), (1, .int k), (2, .int (nI (ki.length - 1))), (3, .int ((nI i) + 1))] [] (tput z S (im2, ki2, de2, iA2, iB2)) P
            rw [nI_1]
            exact ih (i + 1) (by omega) im2 ki2 de2 iA2 iB2 (by omega) (by omega) (by first | simpa [tr_sl, c1, c2, c3] using hP | simp_all [tr_sl])
          · have c3 := Decidable.not_not.mp (of_decide_eq_false c3)
            refine xw.steps 5 (fun _ => rfl) ?_
            show xw z NK g 98 46 [(0, .ref (z + 30)), (1, .int k), (2, .int (nI (ki.length - 1))), (3, .int (nI i))] [.int ((nI i) + 1), .int (nI i), .ref (z + 30)] (tput z S (im2, ki2, de2, iA2, iB2)) P
            refine xw.callO (o := 30) rfl rfl rfl (tput_30 _ _ _) rfl rfl (c_settleX (t := (im2, ki2, de2, iA2, iB2)) (a := i) (b := (i + 1)) rfl (nI_1 i) (by omega) (by omega) (by dsimp only; omega) ?_)
            show xw z NK g 98 49 [(0, .ref (z + 30)), (1, .int k), (2, .int (nI (ki.length - 1))), (3, .int (nI i))] [] (tput z S (tr_settle ((i + 1) - i) i (im2, ki2, de2, iA2, iB2))) P
            obtain ⟨t1, et1⟩ : ∃ t, t = (tr_settle ((i + 1) - i) i (im2, ki2, de2, iA2, iB2)) := ⟨_, rfl⟩
            have lt1 := tr_settle_len ((i + 1) - i) i (im2, ki2, de2, iA2, iB2)
            rw [← et1] at lt1
            try dsimp only at lt1
            rw [← et1]
            show xw z NK g 98 49 [(0, .ref (z + 30)), (1, .int k), (2, .int (nI (ki.length - 1))), (3, .int (nI i))] [] (tput z S t1) P
            refine xw.steps 2 (fun _ => rfl) ?_
            show xw z NK g 98 12 [(0, .ref (z + 30)), (1, .int k), (2, .int (nI (ki.length - 1))), (3, .int ((nI i) + 1))] [] (tput z S t1) P
            rw [nI_1]
            exact ih (i + 1) (by omega) t1.1 t1.2.1 t1.2.2.1 t1.2.2.2.1 t1.2.2.2.2 (by omega) (by omega) (by subst et1; first | simpa [tr_sl, c1, c2, c3] using hP | simp_all [tr_sl])
  refine xw.steps 1 (fun _ => rfl) ?_
  refine xw.getf (o := 30) rfl (tput_30 _ _ _) rfl ?_
  show xw z NK g 98 4 [(0, .ref (z + 30)), (1, .int k)] [.ref (z + 33)] (tput z S (im, ki, de, iA, iB)) P
  refine xw.callN (o := 33) rfl rfl rfl (tput_33 _ _ _) rfl rfl (c_size (tput_33 _ _ _) ?_)
  show xw z NK g 98 7 [(0, .ref (z + 30)), (1, .int k)] [.int (nI ki.length)] (tput z S (im, ki, de, iA, iB)) P
  refine xw.steps 5 (fun _ => rfl) ?_
  show xw z NK g 98 12 [(0, .ref (z + 30)), (1, .int k), (2, .int ((nI ki.length) - 1)), (3, .int 0)] [] (tput z S (im, ki, de, iA, iB)) P
  have et : nI ki.length - 1 = nI (ki.length - 1) := x_sub (k := 1) h1
  rw [et]
  exact loop (ki.length - 1) 0 (by omega) im ki de iA iB rfl (by omega) hP
end XT5
