/-! TRANSLATOR: settle, meet, changeTop (walks by wip/gen28.py) -/
def tr_settle1 (t : TT) (p : Int32) : TT :=
  if nAt t.2.1 p = 0 then t else
  if t.2.2.2.2 = p then ((tr_write t 5 p).1, nSet (tr_write t 5 p).2.1 p 0, (tr_write t 5 p).2.2.1, (tr_write t 5 p).2.2.2.1, -1)
  else ((tr_write (tr_toA t p) 4 p).1, nSet (tr_write (tr_toA t p) 4 p).2.1 p 0, (tr_write (tr_toA t p) 4 p).2.2.1, -1, (tr_write (tr_toA t p) 4 p).2.2.2.2)
def tr_settle : Nat → Nat → TT → TT
  | 0, _, t => t
  | d + 1, i, t => tr_settle d (i + 1) (tr_settle1 t (nI i))
theorem tr_settle1_len (t : TT) (p : Int32) : (tr_settle1 t p).1.length ≤ t.1.length + 6 ∧ (tr_settle1 t p).2.1.length = t.2.1.length ∧ (tr_settle1 t p).2.2.1 = t.2.2.1 := by
  unfold tr_settle1
  split
  · simp
  · split
    · exact ⟨Nat.le_trans (tr_write_len t 5 p).1 (by omega), nSet_len _ _ _, rfl⟩
    · have h1 := tr_toA_len t p
      have h2 := tr_write_len (tr_toA t p) 4 p
      refine ⟨?_, ?_, ?_⟩
      · dsimp only; omega
      · dsimp only; rw [nSet_len, h2.2]; exact h1.2.1
      · dsimp only; rw [h2.2]; exact h1.2.2
theorem tr_settle_len : ∀ (d i : Nat) (t : TT), (tr_settle d i t).1.length ≤ t.1.length + 6 * d ∧ (tr_settle d i t).2.1.length = t.2.1.length ∧ (tr_settle d i t).2.2.1 = t.2.2.1 := by
  intro d
  induction d with
  | zero => intro i t; simp [tr_settle]
  | succ d ih =>
    intro i t
    have h1 := tr_settle1_len t (nI i)
    have h2 := ih (i + 1) (tr_settle1 t (nI i))
    refine ⟨?_, ?_, ?_⟩
    · show (tr_settle d (i + 1) (tr_settle1 t (nI i))).1.length ≤ _; omega
    · exact h2.2.1.trans h1.2.1
    · exact h2.2.2.trans h1.2.2
/-- the top two into B and A, or crosswise: the cells, and whether crosswise -/
def tr_meet (t : TT) (m : Bool) : TT × Bool :=
  let y := nI t.2.1.length - 1
  let x := y - 1
  if t.2.2.2.1 = y ∧ t.2.2.2.2 = x then (t, false)
  else if ¬ t.2.2.2.1 = y ∧ ¬ t.2.2.2.2 = y then (tr_toA (tr_toA t x) y, false)
  else if t.2.2.2.1 = x then (if m = true then (t, true) else (tr_toA t y, false))
  else (if m = true then (tr_toA (tr_toA t y) x, true) else (tr_toA (tr_toA (tr_toA t y) x) y, false))
def tr_top (t : TT) (n : Int32) : TT := tr_write (tr_toA t (nI t.2.1.length - 1)) n 0
theorem tr_meet_len (t : TT) (m : Bool) : (tr_meet t m).1.1.length ≤ t.1.length + 12 ∧ (tr_meet t m).1.2.1.length = t.2.1.length ∧ (tr_meet t m).1.2.2.1 = t.2.2.1 := by
  have h := fun t p => tr_toA_len t p
  have k1 : ∀ p q, (tr_toA (tr_toA t p) q).1.length ≤ t.1.length + 12 ∧ (tr_toA (tr_toA t p) q).2.1.length = t.2.1.length ∧ (tr_toA (tr_toA t p) q).2.2.1 = t.2.2.1 := fun p q => by
    have a := h t p; have b := h (tr_toA t p) q
    exact ⟨by omega, b.2.1.trans a.2.1, b.2.2.trans a.2.2⟩
  have k2 : ∀ p q r, (tr_toA (tr_toA (tr_toA t p) q) r).1.length ≤ t.1.length + 12 ∧ (tr_toA (tr_toA (tr_toA t p) q) r).2.1.length = t.2.1.length ∧ (tr_toA (tr_toA (tr_toA t p) q) r).2.2.1 = t.2.2.1 := fun p q r => by
    have a := h t p; have b := h (tr_toA t p) q; have c := h (tr_toA (tr_toA t p) q) r
    exact ⟨by omega, c.2.1.trans (b.2.1.trans a.2.1), c.2.2.trans (b.2.2.trans a.2.2)⟩
  have k0 : ∀ p, (tr_toA t p).1.length ≤ t.1.length + 12 ∧ (tr_toA t p).2.1.length = t.2.1.length ∧ (tr_toA t p).2.2.1 = t.2.2.1 := fun p => ⟨Nat.le_trans (h t p).1 (by omega), (h t p).2⟩
  unfold tr_meet
  dsimp only
  repeat' split
  · exact ⟨Nat.le_add_right _ _, rfl, rfl⟩
  · exact k1 _ _
  · exact ⟨Nat.le_add_right _ _, rfl, rfl⟩
  · exact k0 _
  · exact k1 _ _
  · exact k2 _ _ _
theorem tr_top_len (t : TT) (n : Int32) : (tr_top t n).1.length ≤ t.1.length + 6 ∧ (tr_top t n).2.1.length = t.2.1.length ∧ (tr_top t n).2.2.1 = t.2.2.1 := by
  have h1 := tr_toA_len t (nI t.2.1.length - 1)
  have h2 := tr_write_len (tr_toA t (nI t.2.1.length - 1)) n 0
  unfold tr_top
  refine ⟨by omega, ?_, ?_⟩
  · rw [h2.2]; exact h1.2.1
  · rw [h2.2]; exact h1.2.2
section XT3
variable {z : Nat} {NK : List Nat} {g : mx_G} {S : xS} {P : Option Value → xS → Prop} {im ki de : List Int32} {iA iB : Int32}
set_option maxHeartbeats 4000000 in
/-- RowCode$Translator.settle(II)V -/
theorem c_settle {a b : Nat} (hab : a ≤ b) (hb : b < 2 ^ 30) (hi : im.length + 6 * (b - a) ≤ 131072) (hP : P none (tput z S (tr_settle (b - a) a (im, ki, de, iA, iB)))) : xw z NK g 94 0 [(0, .ref (z + 30)), (1, .int (nI a)), (2, .int (nI b))] [] (tput z S (im, ki, de, iA, iB)) P := by
  have loop : ∀ (d i : Nat) (hi : i + d = b) (im2 : List Int32) (ki2 : List Int32) (de2 : List Int32) (iA2 : Int32) (iB2 : Int32) (hi2 : im2.length + 6 * d ≤ 131072) (hP : P none (tput z S (tr_settle d i (im2, ki2, de2, iA2, iB2)))), xw z NK g 94 2 [(0, .ref (z + 30)), (1, .int (nI a)), (2, .int (nI b)), (3, .int (nI i))] [] (tput z S (im2, ki2, de2, iA2, iB2)) P := by
    intro d
    induction d with
    | zero =>
      intro i hi im2 ki2 de2 iA2 iB2 hi2 hP
      refine xw.steps 2 (fun _ => rfl) ?_
      refine xw.icmp rfl (fun c1 => ?_) (fun c1 => ?_)
      · have c1 := Int32.not_lt.mpr (of_decide_eq_true c1)
        refine xw.ret rfl (fun _ => rfl) ?_
        show P none (tput z S (im2, ki2, de2, iA2, iB2))
        exact hP
      · have c1 := Int32.not_le.mp (of_decide_eq_false c1)
        show xw z NK g 94 7 [(0, .ref (z + 30)), (1, .int (nI a)), (2, .int (nI b)), (3, .int (nI i))] [] (tput z S (im2, ki2, de2, iA2, iB2)) P
        exact absurd c1 (nI_nlt (by omega) (by omega))
    | succ d ih =>
      intro i hi im2 ki2 de2 iA2 iB2 hi2 hP
      refine xw.steps 2 (fun _ => rfl) ?_
      refine xw.icmp rfl (fun c1 => ?_) (fun c1 => ?_)
      · have c1 := Int32.not_lt.mpr (of_decide_eq_true c1)
        show xw z NK g 94 74 [(0, .ref (z + 30)), (1, .int (nI a)), (2, .int (nI b)), (3, .int (nI i))] [] (tput z S (im2, ki2, de2, iA2, iB2)) P
        exact absurd (nI_lt (by omega) (by omega)) c1
      · have c1 := Int32.not_le.mp (of_decide_eq_false c1)
        refine xw.steps 1 (fun _ => rfl) ?_
        refine xw.getf (o := 30) rfl (tput_30 _ _ _) rfl ?_
        refine xw.steps 1 (fun _ => rfl) ?_
        show xw z NK g 94 12 [(0, .ref (z + 30)), (1, .int (nI a)), (2, .int (nI b)), (3, .int (nI i))] [.int (nI i), .ref (z + 33)] (tput z S (im2, ki2, de2, iA2, iB2)) P
        refine xw.callN (o := 33) rfl rfl rfl (tput_33 _ _ _) rfl rfl (c_at (tput_33 _ _ _) ?_)
        show xw z NK g 94 15 [(0, .ref (z + 30)), (1, .int (nI a)), (2, .int (nI b)), (3, .int (nI i))] [.int (nAt ki2 (nI i))] (tput z S (im2, ki2, de2, iA2, iB2)) P
        refine xw.if_ rfl (fun c2 => ?_) (fun c2 => ?_)
        · have c2 := of_decide_eq_true c2
          refine xw.steps 1 (fun _ => rfl) ?_
          refine xw.getf (o := 30) rfl (tput_30 _ _ _) rfl ?_
          refine xw.steps 1 (fun _ => rfl) ?_
          refine xw.icmp rfl (fun c3 => ?_) (fun c3 => ?_)
          · have c3 := of_decide_eq_true c3
            refine xw.steps 2 (fun _ => rfl) ?_
            show xw z NK g 94 45 [(0, .ref (z + 30)), (1, .int (nI a)), (2, .int (nI b)), (3, .int (nI i))] [.int (nI i), .ref (z + 30)] (tput z S (im2, ki2, de2, iA2, iB2)) P
            refine xw.callO (o := 30) rfl rfl rfl (tput_30 _ _ _) rfl rfl (c_toA (by omega) ?_)
            show xw z NK g 94 48 [(0, .ref (z + 30)), (1, .int (nI a)), (2, .int (nI b)), (3, .int (nI i))] [] (tput z S (tr_toA (im2, ki2, de2, iA2, iB2) (nI i))) P
            obtain ⟨t1, et1⟩ : ∃ t, t = (tr_toA (im2, ki2, de2, iA2, iB2) (nI i)) := ⟨_, rfl⟩
            have lt1 := tr_toA_len (im2, ki2, de2, iA2, iB2) (nI i)
            rw [← et1] at lt1
            try dsimp only at lt1
            show xw z NK g 94 _ _ _ (tput z S (tr_toA (im2, ki2, de2, iA2, iB2) (nI i))) P
            rw [← et1]
            show xw z NK g 94 48 [(0, .ref (z + 30)), (1, .int (nI a)), (2, .int (nI b)), (3, .int (nI i))] [] (tput z S t1) P
            refine xw.steps 3 (fun _ => rfl) ?_
            show xw z NK g 94 51 [(0, .ref (z + 30)), (1, .int (nI a)), (2, .int (nI b)), (3, .int (nI i))] [.int (nI i), .int 4, .ref (z + 30)] (tput z S t1) P
            refine xw.callO (o := 30) rfl rfl rfl (tput_30 _ _ _) rfl rfl (c_write (by omega) ?_)
            show xw z NK g 94 54 [(0, .ref (z + 30)), (1, .int (nI a)), (2, .int (nI b)), (3, .int (nI i))] [] (tput z S (tr_write t1 4 (nI i))) P
            obtain ⟨t2, et2⟩ : ∃ t, t = (tr_write t1 4 (nI i)) := ⟨_, rfl⟩
            have lt2 := tr_write_len t1 4 (nI i)
            rw [← et2] at lt2
            try dsimp only at lt2
            show xw z NK g 94 _ _ _ (tput z S (tr_write t1 4 (nI i))) P
            rw [← et2]
            show xw z NK g 94 54 [(0, .ref (z + 30)), (1, .int (nI a)), (2, .int (nI b)), (3, .int (nI i))] [] (tput z S t2) P
            refine xw.steps 2 (fun _ => rfl) ?_
            refine xw.putf (o := 30) (fs' := [.ref (z + 31), .ref (z + 33), .ref (z + 35), .int (-1), .int t2.2.2.2.2]) rfl (tput_30 _ _ _) (Nat.le_of_ble_eq_true rfl) rfl rfl rfl ?_
            show xw z NK g 94 59 [(0, .ref (z + 30)), (1, .int (nI a)), (2, .int (nI b)), (3, .int (nI i))] [] (xu (tput z S t2) 30 (.inr (.inr (8, [.ref (z + 31), .ref (z + 33), .ref (z + 35), .int (-1), .int t2.2.2.2.2])))) P
            rw [tput_s30]
            refine xw.steps 1 (fun _ => rfl) ?_
            refine xw.getf (o := 30) rfl (tput_30 _ _ _) rfl ?_
            refine xw.steps 2 (fun _ => rfl) ?_
            show xw z NK g 94 65 [(0, .ref (z + 30)), (1, .int (nI a)), (2, .int (nI b)), (3, .int (nI i))] [.int 0, .int (nI i), .ref (z + 33)] (tput z S (t2.1, t2.2.1, t2.2.2.1, (-1), t2.2.2.2.2)) P
            refine xw.callN (o := 33) rfl rfl rfl (tput_33 _ _ _) rfl rfl (c_change (tput_33 _ _ _) ?_)
            show xw z NK g 94 68 [(0, .ref (z + 30)), (1, .int (nI a)), (2, .int (nI b)), (3, .int (nI i))] [] (xu (tput z S (t2.1, t2.2.1, t2.2.2.1, (-1), t2.2.2.2.2)) 33 (.inl (nSet t2.2.1 (nI i) 0))) P
            rw [tput_s33]
            refine xw.steps 2 (fun _ => rfl) ?_
            show xw z NK g 94 2 [(0, .ref (z + 30)), (1, .int (nI a)), (2, .int (nI b)), (3, .int ((nI i) + 1))] [] (tput z S (t2.1, (nSet t2.2.1 (nI i) 0), t2.2.2.1, (-1), t2.2.2.2.2)) P
            rw [nI_1]
            exact ih (i + 1) (by omega) _ _ _ _ _ (by have h9 := tr_settle1_len (im2, ki2, de2, iA2, iB2) (nI i); rw [(show tr_settle1 (im2, ki2, de2, iA2, iB2) (nI i) = (t2.1, (nSet t2.2.1 (nI i) 0), t2.2.2.1, (-1), t2.2.2.2.2) from by subst et2 et1; first | (simp [tr_settle1, c1, c2, c3]; done) | simp_all [tr_settle1])] at h9; dsimp only at h9; omega) (by have hP2 : P none (tput z S (tr_settle d (i + 1) (tr_settle1 (im2, ki2, de2, iA2, iB2) (nI i)))) := hP; rw [(show tr_settle1 (im2, ki2, de2, iA2, iB2) (nI i) = (t2.1, (nSet t2.2.1 (nI i) 0), t2.2.2.1, (-1), t2.2.2.2.2) from by subst et2 et1; first | (simp [tr_settle1, c1, c2, c3]; done) | simp_all [tr_settle1])] at hP2; exact hP2)
          · have c3 := Decidable.not_not.mp (of_decide_eq_false c3)
            refine xw.steps 3 (fun _ => rfl) ?_
            show xw z NK g 94 32 [(0, .ref (z + 30)), (1, .int (nI a)), (2, .int (nI b)), (3, .int (nI i))] [.int (nI i), .int 5, .ref (z + 30)] (tput z S (im2, ki2, de2, iA2, iB2)) P
            refine xw.callO (o := 30) rfl rfl rfl (tput_30 _ _ _) rfl rfl (c_write (by omega) ?_)
            show xw z NK g 94 35 [(0, .ref (z + 30)), (1, .int (nI a)), (2, .int (nI b)), (3, .int (nI i))] [] (tput z S (tr_write (im2, ki2, de2, iA2, iB2) 5 (nI i))) P
            obtain ⟨t3, et3⟩ : ∃ t, t = (tr_write (im2, ki2, de2, iA2, iB2) 5 (nI i)) := ⟨_, rfl⟩
            have lt3 := tr_write_len (im2, ki2, de2, iA2, iB2) 5 (nI i)
            rw [← et3] at lt3
            try dsimp only at lt3
            show xw z NK g 94 _ _ _ (tput z S (tr_write (im2, ki2, de2, iA2, iB2) 5 (nI i))) P
            rw [← et3]
            show xw z NK g 94 35 [(0, .ref (z + 30)), (1, .int (nI a)), (2, .int (nI b)), (3, .int (nI i))] [] (tput z S t3) P
            refine xw.steps 2 (fun _ => rfl) ?_
            refine xw.putf (o := 30) (fs' := [.ref (z + 31), .ref (z + 33), .ref (z + 35), .int t3.2.2.2.1, .int (-1)]) rfl (tput_30 _ _ _) (Nat.le_of_ble_eq_true rfl) rfl rfl rfl ?_
            show xw z NK g 94 40 [(0, .ref (z + 30)), (1, .int (nI a)), (2, .int (nI b)), (3, .int (nI i))] [] (xu (tput z S t3) 30 (.inr (.inr (8, [.ref (z + 31), .ref (z + 33), .ref (z + 35), .int t3.2.2.2.1, .int (-1)])))) P
            rw [tput_s30]
            refine xw.steps 2 (fun _ => rfl) ?_
            refine xw.getf (o := 30) rfl (tput_30 _ _ _) rfl ?_
            refine xw.steps 2 (fun _ => rfl) ?_
            show xw z NK g 94 65 [(0, .ref (z + 30)), (1, .int (nI a)), (2, .int (nI b)), (3, .int (nI i))] [.int 0, .int (nI i), .ref (z + 33)] (tput z S (t3.1, t3.2.1, t3.2.2.1, t3.2.2.2.1, (-1))) P
            refine xw.callN (o := 33) rfl rfl rfl (tput_33 _ _ _) rfl rfl (c_change (tput_33 _ _ _) ?_)
            show xw z NK g 94 68 [(0, .ref (z + 30)), (1, .int (nI a)), (2, .int (nI b)), (3, .int (nI i))] [] (xu (tput z S (t3.1, t3.2.1, t3.2.2.1, t3.2.2.2.1, (-1))) 33 (.inl (nSet t3.2.1 (nI i) 0))) P
            rw [tput_s33]
            refine xw.steps 2 (fun _ => rfl) ?_
            show xw z NK g 94 2 [(0, .ref (z + 30)), (1, .int (nI a)), (2, .int (nI b)), (3, .int ((nI i) + 1))] [] (tput z S (t3.1, (nSet t3.2.1 (nI i) 0), t3.2.2.1, t3.2.2.2.1, (-1))) P
            rw [nI_1]
            exact ih (i + 1) (by omega) _ _ _ _ _ (by have h9 := tr_settle1_len (im2, ki2, de2, iA2, iB2) (nI i); rw [(show tr_settle1 (im2, ki2, de2, iA2, iB2) (nI i) = (t3.1, (nSet t3.2.1 (nI i) 0), t3.2.2.1, t3.2.2.2.1, (-1)) from by subst et3; first | (simp [tr_settle1, c1, c2, c3]; done) | simp_all [tr_settle1])] at h9; dsimp only at h9; omega) (by have hP2 : P none (tput z S (tr_settle d (i + 1) (tr_settle1 (im2, ki2, de2, iA2, iB2) (nI i)))) := hP; rw [(show tr_settle1 (im2, ki2, de2, iA2, iB2) (nI i) = (t3.1, (nSet t3.2.1 (nI i) 0), t3.2.2.1, t3.2.2.2.1, (-1)) from by subst et3; first | (simp [tr_settle1, c1, c2, c3]; done) | simp_all [tr_settle1])] at hP2; exact hP2)
        · have c2 := Decidable.not_not.mp (of_decide_eq_false c2)
          refine xw.steps 3 (fun _ => rfl) ?_
          show xw z NK g 94 2 [(0, .ref (z + 30)), (1, .int (nI a)), (2, .int (nI b)), (3, .int ((nI i) + 1))] [] (tput z S (im2, ki2, de2, iA2, iB2)) P
          rw [nI_1]
          exact ih (i + 1) (by omega) _ _ _ _ _ (by have h9 := tr_settle1_len (im2, ki2, de2, iA2, iB2) (nI i); rw [(show tr_settle1 (im2, ki2, de2, iA2, iB2) (nI i) = (im2, ki2, de2, iA2, iB2) from by first | (simp [tr_settle1, c1, c2]; done) | simp_all [tr_settle1])] at h9; dsimp only at h9; omega) (by have hP2 : P none (tput z S (tr_settle d (i + 1) (tr_settle1 (im2, ki2, de2, iA2, iB2) (nI i)))) := hP; rw [(show tr_settle1 (im2, ki2, de2, iA2, iB2) (nI i) = (im2, ki2, de2, iA2, iB2) from by first | (simp [tr_settle1, c1, c2]; done) | simp_all [tr_settle1])] at hP2; exact hP2)
  refine xw.steps 2 (fun _ => rfl) ?_
  exact loop (b - a) a (by omega) im ki de iA iB hi hP
set_option maxHeartbeats 4000000 in
/-- RowCode$Translator.meet(Z)Z -/
theorem c_meet {m : Bool} (hi : im.length + 12 ≤ 131072) (hP : P (some (.int (bI (tr_meet (im, ki, de, iA, iB) m).2))) (tput z S (tr_meet (im, ki, de, iA, iB) m).1)) : xw z NK g 95 0 [(0, .ref (z + 30)), (1, .int (bI m))] [] (tput z S (im, ki, de, iA, iB)) P := by
  refine xw.steps 1 (fun _ => rfl) ?_
  refine xw.getf (o := 30) rfl (tput_30 _ _ _) rfl ?_
  show xw z NK g 95 4 [(0, .ref (z + 30)), (1, .int (bI m))] [.ref (z + 33)] (tput z S (im, ki, de, iA, iB)) P
  refine xw.callN (o := 33) rfl rfl rfl (tput_33 _ _ _) rfl rfl (c_size (tput_33 _ _ _) ?_)
  show xw z NK g 95 7 [(0, .ref (z + 30)), (1, .int (bI m))] [.int (nI ki.length)] (tput z S (im, ki, de, iA, iB)) P
  refine xw.steps 8 (fun _ => rfl) ?_
  refine xw.getf (o := 30) rfl (tput_30 _ _ _) rfl ?_
  refine xw.steps 1 (fun _ => rfl) ?_
  refine xw.icmp rfl (fun c1 => ?_) (fun c1 => ?_)
  · have c1 := of_decide_eq_true c1
    refine xw.steps 1 (fun _ => rfl) ?_
    refine xw.getf (o := 30) rfl (tput_30 _ _ _) rfl ?_
    refine xw.steps 1 (fun _ => rfl) ?_
    refine xw.icmp rfl (fun c2 => ?_) (fun c2 => ?_)
    · have c2 := of_decide_eq_true c2
      refine xw.steps 1 (fun _ => rfl) ?_
      refine xw.getf (o := 30) rfl (tput_30 _ _ _) rfl ?_
      refine xw.steps 1 (fun _ => rfl) ?_
      refine xw.icmp rfl (fun c3 => ?_) (fun c3 => ?_)
      · have c3 := of_decide_eq_true c3
        refine xw.steps 1 (fun _ => rfl) ?_
        refine xw.if_ rfl (fun c4 => ?_) (fun c4 => ?_)
        · have c4 := bI_ne0 (of_decide_eq_true c4)
          refine xw.steps 1 (fun _ => rfl) ?_
          refine xw.ret rfl (fun _ => mx_ret_b _ _) ?_
          show P (some (.int (bI m))) (tput z S (im, ki, de, iA, iB))
          unfold tr_meet at hP
          dsimp only at hP
          first
          | (rw [if_pos ⟨by assumption, by assumption⟩] at hP; exact hP)
          | (rw [if_neg (fun u => by first | exact absurd u.1 (by assumption) | exact absurd u.2 (by assumption))] at hP; rw [if_pos ⟨by assumption, by assumption⟩] at hP; exact hP)
          | (rw [if_neg (fun u => by first | exact absurd u.1 (by assumption) | exact absurd u.2 (by assumption)), if_neg (fun u => by first | exact u.1 (by assumption) | exact u.2 (by assumption))] at hP; rw [if_pos (by assumption)] at hP; (first | rw [if_pos (show m = true by assumption)] at hP | rw [if_neg (show ¬ m = true by rw [(by assumption : m = false)]; decide)] at hP); first | exact hP | simpa [bI, c4] using hP)
          | (rw [if_neg (fun u => by first | exact absurd u.1 (by assumption) | exact absurd u.2 (by assumption)), if_neg (fun u => by first | exact u.1 (by assumption) | exact u.2 (by assumption))] at hP; rw [if_neg (by assumption)] at hP; (first | rw [if_pos (show m = true by assumption)] at hP | rw [if_neg (show ¬ m = true by rw [(by assumption : m = false)]; decide)] at hP); first | exact hP | simpa [bI, c4] using hP)
        · have c4 := bI_eq0 (Decidable.not_not.mp (of_decide_eq_false c4))
          refine xw.steps 2 (fun _ => rfl) ?_
          show xw z NK g 95 84 [(0, .ref (z + 30)), (1, .int (bI m)), (2, .int ((nI ki.length) - 1)), (3, .int (((nI ki.length) - 1) - 1))] [.int ((nI ki.length) - 1), .ref (z + 30)] (tput z S (im, ki, de, iA, iB)) P
          refine xw.callO (o := 30) rfl rfl rfl (tput_30 _ _ _) rfl rfl (c_toA (by omega) ?_)
          show xw z NK g 95 87 [(0, .ref (z + 30)), (1, .int (bI m)), (2, .int ((nI ki.length) - 1)), (3, .int (((nI ki.length) - 1) - 1))] [] (tput z S (tr_toA (im, ki, de, iA, iB) ((nI ki.length) - 1))) P
          obtain ⟨t1, et1⟩ : ∃ t, t = (tr_toA (im, ki, de, iA, iB) ((nI ki.length) - 1)) := ⟨_, rfl⟩
          have lt1 := tr_toA_len (im, ki, de, iA, iB) ((nI ki.length) - 1)
          rw [← et1] at lt1
          try dsimp only at lt1
          show xw z NK g 95 _ _ _ (tput z S (tr_toA (im, ki, de, iA, iB) ((nI ki.length) - 1))) P
          rw [← et1]
          show xw z NK g 95 87 [(0, .ref (z + 30)), (1, .int (bI m)), (2, .int ((nI ki.length) - 1)), (3, .int (((nI ki.length) - 1) - 1))] [] (tput z S t1) P
          refine xw.steps 1 (fun _ => rfl) ?_
          refine xw.ret rfl (fun _ => mx_ret_b _ _) ?_
          show P (some (.int (bI m))) (tput z S t1)
          subst et1
          unfold tr_meet at hP
          dsimp only at hP
          first
          | (rw [if_pos ⟨by assumption, by assumption⟩] at hP; exact hP)
          | (rw [if_neg (fun u => by first | exact absurd u.1 (by assumption) | exact absurd u.2 (by assumption))] at hP; rw [if_pos ⟨by assumption, by assumption⟩] at hP; exact hP)
          | (rw [if_neg (fun u => by first | exact absurd u.1 (by assumption) | exact absurd u.2 (by assumption)), if_neg (fun u => by first | exact u.1 (by assumption) | exact u.2 (by assumption))] at hP; rw [if_pos (by assumption)] at hP; (first | rw [if_pos (show m = true by assumption)] at hP | rw [if_neg (show ¬ m = true by rw [(by assumption : m = false)]; decide)] at hP); first | exact hP | simpa [bI, c4] using hP)
          | (rw [if_neg (fun u => by first | exact absurd u.1 (by assumption) | exact absurd u.2 (by assumption)), if_neg (fun u => by first | exact u.1 (by assumption) | exact u.2 (by assumption))] at hP; rw [if_neg (by assumption)] at hP; (first | rw [if_pos (show m = true by assumption)] at hP | rw [if_neg (show ¬ m = true by rw [(by assumption : m = false)]; decide)] at hP); first | exact hP | simpa [bI, c4] using hP)
      · have c3 := of_decide_eq_false c3
        refine xw.steps 2 (fun _ => rfl) ?_
        show xw z NK g 95 70 [(0, .ref (z + 30)), (1, .int (bI m)), (2, .int ((nI ki.length) - 1)), (3, .int (((nI ki.length) - 1) - 1))] [.int ((nI ki.length) - 1), .ref (z + 30)] (tput z S (im, ki, de, iA, iB)) P
        refine xw.callO (o := 30) rfl rfl rfl (tput_30 _ _ _) rfl rfl (c_toA (by omega) ?_)
        show xw z NK g 95 73 [(0, .ref (z + 30)), (1, .int (bI m)), (2, .int ((nI ki.length) - 1)), (3, .int (((nI ki.length) - 1) - 1))] [] (tput z S (tr_toA (im, ki, de, iA, iB) ((nI ki.length) - 1))) P
        obtain ⟨t2, et2⟩ : ∃ t, t = (tr_toA (im, ki, de, iA, iB) ((nI ki.length) - 1)) := ⟨_, rfl⟩
        have lt2 := tr_toA_len (im, ki, de, iA, iB) ((nI ki.length) - 1)
        rw [← et2] at lt2
        try dsimp only at lt2
        show xw z NK g 95 _ _ _ (tput z S (tr_toA (im, ki, de, iA, iB) ((nI ki.length) - 1))) P
        rw [← et2]
        show xw z NK g 95 73 [(0, .ref (z + 30)), (1, .int (bI m)), (2, .int ((nI ki.length) - 1)), (3, .int (((nI ki.length) - 1) - 1))] [] (tput z S t2) P
        refine xw.steps 2 (fun _ => rfl) ?_
        show xw z NK g 95 75 [(0, .ref (z + 30)), (1, .int (bI m)), (2, .int ((nI ki.length) - 1)), (3, .int (((nI ki.length) - 1) - 1))] [.int (((nI ki.length) - 1) - 1), .ref (z + 30)] (tput z S t2) P
        refine xw.callO (o := 30) rfl rfl rfl (tput_30 _ _ _) rfl rfl (c_toA (by omega) ?_)
        show xw z NK g 95 78 [(0, .ref (z + 30)), (1, .int (bI m)), (2, .int ((nI ki.length) - 1)), (3, .int (((nI ki.length) - 1) - 1))] [] (tput z S (tr_toA t2 (((nI ki.length) - 1) - 1))) P
        obtain ⟨t3, et3⟩ : ∃ t, t = (tr_toA t2 (((nI ki.length) - 1) - 1)) := ⟨_, rfl⟩
        have lt3 := tr_toA_len t2 (((nI ki.length) - 1) - 1)
        rw [← et3] at lt3
        try dsimp only at lt3
        show xw z NK g 95 _ _ _ (tput z S (tr_toA t2 (((nI ki.length) - 1) - 1))) P
        rw [← et3]
        show xw z NK g 95 78 [(0, .ref (z + 30)), (1, .int (bI m)), (2, .int ((nI ki.length) - 1)), (3, .int (((nI ki.length) - 1) - 1))] [] (tput z S t3) P
        refine xw.steps 1 (fun _ => rfl) ?_
        refine xw.if_ rfl (fun c5 => ?_) (fun c5 => ?_)
        · have c5 := bI_ne0 (of_decide_eq_true c5)
          refine xw.steps 1 (fun _ => rfl) ?_
          refine xw.ret rfl (fun _ => mx_ret_b _ _) ?_
          show P (some (.int (bI m))) (tput z S t3)
          subst et3 et2
          unfold tr_meet at hP
          dsimp only at hP
          first
          | (rw [if_pos ⟨by assumption, by assumption⟩] at hP; exact hP)
          | (rw [if_neg (fun u => by first | exact absurd u.1 (by assumption) | exact absurd u.2 (by assumption))] at hP; rw [if_pos ⟨by assumption, by assumption⟩] at hP; exact hP)
          | (rw [if_neg (fun u => by first | exact absurd u.1 (by assumption) | exact absurd u.2 (by assumption)), if_neg (fun u => by first | exact u.1 (by assumption) | exact u.2 (by assumption))] at hP; rw [if_pos (by assumption)] at hP; (first | rw [if_pos (show m = true by assumption)] at hP | rw [if_neg (show ¬ m = true by rw [(by assumption : m = false)]; decide)] at hP); first | exact hP | simpa [bI, c5] using hP)
          | (rw [if_neg (fun u => by first | exact absurd u.1 (by assumption) | exact absurd u.2 (by assumption)), if_neg (fun u => by first | exact u.1 (by assumption) | exact u.2 (by assumption))] at hP; rw [if_neg (by assumption)] at hP; (first | rw [if_pos (show m = true by assumption)] at hP | rw [if_neg (show ¬ m = true by rw [(by assumption : m = false)]; decide)] at hP); first | exact hP | simpa [bI, c5] using hP)
        · have c5 := bI_eq0 (Decidable.not_not.mp (of_decide_eq_false c5))
          refine xw.steps 2 (fun _ => rfl) ?_
          show xw z NK g 95 84 [(0, .ref (z + 30)), (1, .int (bI m)), (2, .int ((nI ki.length) - 1)), (3, .int (((nI ki.length) - 1) - 1))] [.int ((nI ki.length) - 1), .ref (z + 30)] (tput z S t3) P
          refine xw.callO (o := 30) rfl rfl rfl (tput_30 _ _ _) rfl rfl (c_toA (by omega) ?_)
          show xw z NK g 95 87 [(0, .ref (z + 30)), (1, .int (bI m)), (2, .int ((nI ki.length) - 1)), (3, .int (((nI ki.length) - 1) - 1))] [] (tput z S (tr_toA t3 ((nI ki.length) - 1))) P
          obtain ⟨t4, et4⟩ : ∃ t, t = (tr_toA t3 ((nI ki.length) - 1)) := ⟨_, rfl⟩
          have lt4 := tr_toA_len t3 ((nI ki.length) - 1)
          rw [← et4] at lt4
          try dsimp only at lt4
          show xw z NK g 95 _ _ _ (tput z S (tr_toA t3 ((nI ki.length) - 1))) P
          rw [← et4]
          show xw z NK g 95 87 [(0, .ref (z + 30)), (1, .int (bI m)), (2, .int ((nI ki.length) - 1)), (3, .int (((nI ki.length) - 1) - 1))] [] (tput z S t4) P
          refine xw.steps 1 (fun _ => rfl) ?_
          refine xw.ret rfl (fun _ => mx_ret_b _ _) ?_
          show P (some (.int (bI m))) (tput z S t4)
          subst et4 et3 et2
          unfold tr_meet at hP
          dsimp only at hP
          first
          | (rw [if_pos ⟨by assumption, by assumption⟩] at hP; exact hP)
          | (rw [if_neg (fun u => by first | exact absurd u.1 (by assumption) | exact absurd u.2 (by assumption))] at hP; rw [if_pos ⟨by assumption, by assumption⟩] at hP; exact hP)
          | (rw [if_neg (fun u => by first | exact absurd u.1 (by assumption) | exact absurd u.2 (by assumption)), if_neg (fun u => by first | exact u.1 (by assumption) | exact u.2 (by assumption))] at hP; rw [if_pos (by assumption)] at hP; (first | rw [if_pos (show m = true by assumption)] at hP | rw [if_neg (show ¬ m = true by rw [(by assumption : m = false)]; decide)] at hP); first | exact hP | simpa [bI, c5] using hP)
          | (rw [if_neg (fun u => by first | exact absurd u.1 (by assumption) | exact absurd u.2 (by assumption)), if_neg (fun u => by first | exact u.1 (by assumption) | exact u.2 (by assumption))] at hP; rw [if_neg (by assumption)] at hP; (first | rw [if_pos (show m = true by assumption)] at hP | rw [if_neg (show ¬ m = true by rw [(by assumption : m = false)]; decide)] at hP); first | exact hP | simpa [bI, c5] using hP)
    · have c2 := of_decide_eq_false c2
      refine xw.steps 1 (fun _ => rfl) ?_
      refine xw.getf (o := 30) rfl (tput_30 _ _ _) rfl ?_
      refine xw.steps 1 (fun _ => rfl) ?_
      refine xw.icmp rfl (fun c6 => ?_) (fun c6 => ?_)
      · have c6 := of_decide_eq_true c6
        refine xw.steps 1 (fun _ => rfl) ?_
        refine xw.getf (o := 30) rfl (tput_30 _ _ _) rfl ?_
        refine xw.steps 1 (fun _ => rfl) ?_
        refine xw.icmp rfl (fun c7 => ?_) (fun c7 => ?_)
        · have c7 := of_decide_eq_true c7
          refine xw.steps 1 (fun _ => rfl) ?_
          refine xw.if_ rfl (fun c8 => ?_) (fun c8 => ?_)
          · have c8 := bI_ne0 (of_decide_eq_true c8)
            refine xw.steps 1 (fun _ => rfl) ?_
            refine xw.ret rfl (fun _ => mx_ret_b _ _) ?_
            show P (some (.int (bI m))) (tput z S (im, ki, de, iA, iB))
            unfold tr_meet at hP
            dsimp only at hP
            first
            | (rw [if_pos ⟨by assumption, by assumption⟩] at hP; exact hP)
            | (rw [if_neg (fun u => by first | exact absurd u.1 (by assumption) | exact absurd u.2 (by assumption))] at hP; rw [if_pos ⟨by assumption, by assumption⟩] at hP; exact hP)
            | (rw [if_neg (fun u => by first | exact absurd u.1 (by assumption) | exact absurd u.2 (by assumption)), if_neg (fun u => by first | exact u.1 (by assumption) | exact u.2 (by assumption))] at hP; rw [if_pos (by assumption)] at hP; (first | rw [if_pos (show m = true by assumption)] at hP | rw [if_neg (show ¬ m = true by rw [(by assumption : m = false)]; decide)] at hP); first | exact hP | simpa [bI, c8] using hP)
            | (rw [if_neg (fun u => by first | exact absurd u.1 (by assumption) | exact absurd u.2 (by assumption)), if_neg (fun u => by first | exact u.1 (by assumption) | exact u.2 (by assumption))] at hP; rw [if_neg (by assumption)] at hP; (first | rw [if_pos (show m = true by assumption)] at hP | rw [if_neg (show ¬ m = true by rw [(by assumption : m = false)]; decide)] at hP); first | exact hP | simpa [bI, c8] using hP)
          · have c8 := bI_eq0 (Decidable.not_not.mp (of_decide_eq_false c8))
            refine xw.steps 2 (fun _ => rfl) ?_
            show xw z NK g 95 84 [(0, .ref (z + 30)), (1, .int (bI m)), (2, .int ((nI ki.length) - 1)), (3, .int (((nI ki.length) - 1) - 1))] [.int ((nI ki.length) - 1), .ref (z + 30)] (tput z S (im, ki, de, iA, iB)) P
            refine xw.callO (o := 30) rfl rfl rfl (tput_30 _ _ _) rfl rfl (c_toA (by omega) ?_)
            show xw z NK g 95 87 [(0, .ref (z + 30)), (1, .int (bI m)), (2, .int ((nI ki.length) - 1)), (3, .int (((nI ki.length) - 1) - 1))] [] (tput z S (tr_toA (im, ki, de, iA, iB) ((nI ki.length) - 1))) P
            obtain ⟨t5, et5⟩ : ∃ t, t = (tr_toA (im, ki, de, iA, iB) ((nI ki.length) - 1)) := ⟨_, rfl⟩
            have lt5 := tr_toA_len (im, ki, de, iA, iB) ((nI ki.length) - 1)
            rw [← et5] at lt5
            try dsimp only at lt5
            show xw z NK g 95 _ _ _ (tput z S (tr_toA (im, ki, de, iA, iB) ((nI ki.length) - 1))) P
            rw [← et5]
            show xw z NK g 95 87 [(0, .ref (z + 30)), (1, .int (bI m)), (2, .int ((nI ki.length) - 1)), (3, .int (((nI ki.length) - 1) - 1))] [] (tput z S t5) P
            refine xw.steps 1 (fun _ => rfl) ?_
            refine xw.ret rfl (fun _ => mx_ret_b _ _) ?_
            show P (some (.int (bI m))) (tput z S t5)
            subst et5
            unfold tr_meet at hP
            dsimp only at hP
            first
            | (rw [if_pos ⟨by assumption, by assumption⟩] at hP; exact hP)
            | (rw [if_neg (fun u => by first | exact absurd u.1 (by assumption) | exact absurd u.2 (by assumption))] at hP; rw [if_pos ⟨by assumption, by assumption⟩] at hP; exact hP)
            | (rw [if_neg (fun u => by first | exact absurd u.1 (by assumption) | exact absurd u.2 (by assumption)), if_neg (fun u => by first | exact u.1 (by assumption) | exact u.2 (by assumption))] at hP; rw [if_pos (by assumption)] at hP; (first | rw [if_pos (show m = true by assumption)] at hP | rw [if_neg (show ¬ m = true by rw [(by assumption : m = false)]; decide)] at hP); first | exact hP | simpa [bI, c8] using hP)
            | (rw [if_neg (fun u => by first | exact absurd u.1 (by assumption) | exact absurd u.2 (by assumption)), if_neg (fun u => by first | exact u.1 (by assumption) | exact u.2 (by assumption))] at hP; rw [if_neg (by assumption)] at hP; (first | rw [if_pos (show m = true by assumption)] at hP | rw [if_neg (show ¬ m = true by rw [(by assumption : m = false)]; decide)] at hP); first | exact hP | simpa [bI, c8] using hP)
        · have c7 := of_decide_eq_false c7
          refine xw.steps 2 (fun _ => rfl) ?_
          show xw z NK g 95 70 [(0, .ref (z + 30)), (1, .int (bI m)), (2, .int ((nI ki.length) - 1)), (3, .int (((nI ki.length) - 1) - 1))] [.int ((nI ki.length) - 1), .ref (z + 30)] (tput z S (im, ki, de, iA, iB)) P
          refine xw.callO (o := 30) rfl rfl rfl (tput_30 _ _ _) rfl rfl (c_toA (by omega) ?_)
          show xw z NK g 95 73 [(0, .ref (z + 30)), (1, .int (bI m)), (2, .int ((nI ki.length) - 1)), (3, .int (((nI ki.length) - 1) - 1))] [] (tput z S (tr_toA (im, ki, de, iA, iB) ((nI ki.length) - 1))) P
          obtain ⟨t6, et6⟩ : ∃ t, t = (tr_toA (im, ki, de, iA, iB) ((nI ki.length) - 1)) := ⟨_, rfl⟩
          have lt6 := tr_toA_len (im, ki, de, iA, iB) ((nI ki.length) - 1)
          rw [← et6] at lt6
          try dsimp only at lt6
          show xw z NK g 95 _ _ _ (tput z S (tr_toA (im, ki, de, iA, iB) ((nI ki.length) - 1))) P
          rw [← et6]
          show xw z NK g 95 73 [(0, .ref (z + 30)), (1, .int (bI m)), (2, .int ((nI ki.length) - 1)), (3, .int (((nI ki.length) - 1) - 1))] [] (tput z S t6) P
          refine xw.steps 2 (fun _ => rfl) ?_
          show xw z NK g 95 75 [(0, .ref (z + 30)), (1, .int (bI m)), (2, .int ((nI ki.length) - 1)), (3, .int (((nI ki.length) - 1) - 1))] [.int (((nI ki.length) - 1) - 1), .ref (z + 30)] (tput z S t6) P
          refine xw.callO (o := 30) rfl rfl rfl (tput_30 _ _ _) rfl rfl (c_toA (by omega) ?_)
          show xw z NK g 95 78 [(0, .ref (z + 30)), (1, .int (bI m)), (2, .int ((nI ki.length) - 1)), (3, .int (((nI ki.length) - 1) - 1))] [] (tput z S (tr_toA t6 (((nI ki.length) - 1) - 1))) P
          obtain ⟨t7, et7⟩ : ∃ t, t = (tr_toA t6 (((nI ki.length) - 1) - 1)) := ⟨_, rfl⟩
          have lt7 := tr_toA_len t6 (((nI ki.length) - 1) - 1)
          rw [← et7] at lt7
          try dsimp only at lt7
          show xw z NK g 95 _ _ _ (tput z S (tr_toA t6 (((nI ki.length) - 1) - 1))) P
          rw [← et7]
          show xw z NK g 95 78 [(0, .ref (z + 30)), (1, .int (bI m)), (2, .int ((nI ki.length) - 1)), (3, .int (((nI ki.length) - 1) - 1))] [] (tput z S t7) P
          refine xw.steps 1 (fun _ => rfl) ?_
          refine xw.if_ rfl (fun c9 => ?_) (fun c9 => ?_)
          · have c9 := bI_ne0 (of_decide_eq_true c9)
            refine xw.steps 1 (fun _ => rfl) ?_
            refine xw.ret rfl (fun _ => mx_ret_b _ _) ?_
            show P (some (.int (bI m))) (tput z S t7)
            subst et7 et6
            unfold tr_meet at hP
            dsimp only at hP
            first
            | (rw [if_pos ⟨by assumption, by assumption⟩] at hP; exact hP)
            | (rw [if_neg (fun u => by first | exact absurd u.1 (by assumption) | exact absurd u.2 (by assumption))] at hP; rw [if_pos ⟨by assumption, by assumption⟩] at hP; exact hP)
            | (rw [if_neg (fun u => by first | exact absurd u.1 (by assumption) | exact absurd u.2 (by assumption)), if_neg (fun u => by first | exact u.1 (by assumption) | exact u.2 (by assumption))] at hP; rw [if_pos (by assumption)] at hP; (first | rw [if_pos (show m = true by assumption)] at hP | rw [if_neg (show ¬ m = true by rw [(by assumption : m = false)]; decide)] at hP); first | exact hP | simpa [bI, c9] using hP)
            | (rw [if_neg (fun u => by first | exact absurd u.1 (by assumption) | exact absurd u.2 (by assumption)), if_neg (fun u => by first | exact u.1 (by assumption) | exact u.2 (by assumption))] at hP; rw [if_neg (by assumption)] at hP; (first | rw [if_pos (show m = true by assumption)] at hP | rw [if_neg (show ¬ m = true by rw [(by assumption : m = false)]; decide)] at hP); first | exact hP | simpa [bI, c9] using hP)
          · have c9 := bI_eq0 (Decidable.not_not.mp (of_decide_eq_false c9))
            refine xw.steps 2 (fun _ => rfl) ?_
            show xw z NK g 95 84 [(0, .ref (z + 30)), (1, .int (bI m)), (2, .int ((nI ki.length) - 1)), (3, .int (((nI ki.length) - 1) - 1))] [.int ((nI ki.length) - 1), .ref (z + 30)] (tput z S t7) P
            refine xw.callO (o := 30) rfl rfl rfl (tput_30 _ _ _) rfl rfl (c_toA (by omega) ?_)
            show xw z NK g 95 87 [(0, .ref (z + 30)), (1, .int (bI m)), (2, .int ((nI ki.length) - 1)), (3, .int (((nI ki.length) - 1) - 1))] [] (tput z S (tr_toA t7 ((nI ki.length) - 1))) P
            obtain ⟨t8, et8⟩ : ∃ t, t = (tr_toA t7 ((nI ki.length) - 1)) := ⟨_, rfl⟩
            have lt8 := tr_toA_len t7 ((nI ki.length) - 1)
            rw [← et8] at lt8
            try dsimp only at lt8
            show xw z NK g 95 _ _ _ (tput z S (tr_toA t7 ((nI ki.length) - 1))) P
            rw [← et8]
            show xw z NK g 95 87 [(0, .ref (z + 30)), (1, .int (bI m)), (2, .int ((nI ki.length) - 1)), (3, .int (((nI ki.length) - 1) - 1))] [] (tput z S t8) P
            refine xw.steps 1 (fun _ => rfl) ?_
            refine xw.ret rfl (fun _ => mx_ret_b _ _) ?_
            show P (some (.int (bI m))) (tput z S t8)
            subst et8 et7 et6
            unfold tr_meet at hP
            dsimp only at hP
            first
            | (rw [if_pos ⟨by assumption, by assumption⟩] at hP; exact hP)
            | (rw [if_neg (fun u => by first | exact absurd u.1 (by assumption) | exact absurd u.2 (by assumption))] at hP; rw [if_pos ⟨by assumption, by assumption⟩] at hP; exact hP)
            | (rw [if_neg (fun u => by first | exact absurd u.1 (by assumption) | exact absurd u.2 (by assumption)), if_neg (fun u => by first | exact u.1 (by assumption) | exact u.2 (by assumption))] at hP; rw [if_pos (by assumption)] at hP; (first | rw [if_pos (show m = true by assumption)] at hP | rw [if_neg (show ¬ m = true by rw [(by assumption : m = false)]; decide)] at hP); first | exact hP | simpa [bI, c9] using hP)
            | (rw [if_neg (fun u => by first | exact absurd u.1 (by assumption) | exact absurd u.2 (by assumption)), if_neg (fun u => by first | exact u.1 (by assumption) | exact u.2 (by assumption))] at hP; rw [if_neg (by assumption)] at hP; (first | rw [if_pos (show m = true by assumption)] at hP | rw [if_neg (show ¬ m = true by rw [(by assumption : m = false)]; decide)] at hP); first | exact hP | simpa [bI, c9] using hP)
      · have c6 := of_decide_eq_false c6
        refine xw.steps 2 (fun _ => rfl) ?_
        show xw z NK g 95 50 [(0, .ref (z + 30)), (1, .int (bI m)), (2, .int ((nI ki.length) - 1)), (3, .int (((nI ki.length) - 1) - 1))] [.int (((nI ki.length) - 1) - 1), .ref (z + 30)] (tput z S (im, ki, de, iA, iB)) P
        refine xw.callO (o := 30) rfl rfl rfl (tput_30 _ _ _) rfl rfl (c_toA (by omega) ?_)
        show xw z NK g 95 53 [(0, .ref (z + 30)), (1, .int (bI m)), (2, .int ((nI ki.length) - 1)), (3, .int (((nI ki.length) - 1) - 1))] [] (tput z S (tr_toA (im, ki, de, iA, iB) (((nI ki.length) - 1) - 1))) P
        obtain ⟨t9, et9⟩ : ∃ t, t = (tr_toA (im, ki, de, iA, iB) (((nI ki.length) - 1) - 1)) := ⟨_, rfl⟩
        have lt9 := tr_toA_len (im, ki, de, iA, iB) (((nI ki.length) - 1) - 1)
        rw [← et9] at lt9
        try dsimp only at lt9
        show xw z NK g 95 _ _ _ (tput z S (tr_toA (im, ki, de, iA, iB) (((nI ki.length) - 1) - 1))) P
        rw [← et9]
        show xw z NK g 95 53 [(0, .ref (z + 30)), (1, .int (bI m)), (2, .int ((nI ki.length) - 1)), (3, .int (((nI ki.length) - 1) - 1))] [] (tput z S t9) P
        refine xw.steps 2 (fun _ => rfl) ?_
        show xw z NK g 95 55 [(0, .ref (z + 30)), (1, .int (bI m)), (2, .int ((nI ki.length) - 1)), (3, .int (((nI ki.length) - 1) - 1))] [.int ((nI ki.length) - 1), .ref (z + 30)] (tput z S t9) P
        refine xw.callO (o := 30) rfl rfl rfl (tput_30 _ _ _) rfl rfl (c_toA (by omega) ?_)
        show xw z NK g 95 58 [(0, .ref (z + 30)), (1, .int (bI m)), (2, .int ((nI ki.length) - 1)), (3, .int (((nI ki.length) - 1) - 1))] [] (tput z S (tr_toA t9 ((nI ki.length) - 1))) P
        obtain ⟨t10, et10⟩ : ∃ t, t = (tr_toA t9 ((nI ki.length) - 1)) := ⟨_, rfl⟩
        have lt10 := tr_toA_len t9 ((nI ki.length) - 1)
        rw [← et10] at lt10
        try dsimp only at lt10
        show xw z NK g 95 _ _ _ (tput z S (tr_toA t9 ((nI ki.length) - 1))) P
        rw [← et10]
        show xw z NK g 95 58 [(0, .ref (z + 30)), (1, .int (bI m)), (2, .int ((nI ki.length) - 1)), (3, .int (((nI ki.length) - 1) - 1))] [] (tput z S t10) P
        refine xw.steps 1 (fun _ => rfl) ?_
        refine xw.ret rfl (fun _ => rfl) ?_
        show P (some (.int 0)) (tput z S t10)
        subst et10 et9
        unfold tr_meet at hP
        dsimp only at hP
        first
        | (rw [if_pos ⟨by assumption, by assumption⟩] at hP; exact hP)
        | (rw [if_neg (fun u => by first | exact absurd u.1 (by assumption) | exact absurd u.2 (by assumption))] at hP; rw [if_pos ⟨by assumption, by assumption⟩] at hP; exact hP)
        | (rw [if_neg (fun u => by first | exact absurd u.1 (by assumption) | exact absurd u.2 (by assumption)), if_neg (fun u => by first | exact u.1 (by assumption) | exact u.2 (by assumption))] at hP; rw [if_pos (by assumption)] at hP; (first | rw [if_pos (show m = true by assumption)] at hP | rw [if_neg (show ¬ m = true by rw [(by assumption : m = false)]; decide)] at hP); first | exact hP | simpa [bI, c6] using hP)
        | (rw [if_neg (fun u => by first | exact absurd u.1 (by assumption) | exact absurd u.2 (by assumption)), if_neg (fun u => by first | exact u.1 (by assumption) | exact u.2 (by assumption))] at hP; rw [if_neg (by assumption)] at hP; (first | rw [if_pos (show m = true by assumption)] at hP | rw [if_neg (show ¬ m = true by rw [(by assumption : m = false)]; decide)] at hP); first | exact hP | simpa [bI, c6] using hP)
  · have c1 := Decidable.not_not.mp (of_decide_eq_false c1)
    refine xw.steps 1 (fun _ => rfl) ?_
    refine xw.getf (o := 30) rfl (tput_30 _ _ _) rfl ?_
    refine xw.steps 1 (fun _ => rfl) ?_
    refine xw.icmp rfl (fun c10 => ?_) (fun c10 => ?_)
    · have c10 := of_decide_eq_true c10
      refine xw.steps 1 (fun _ => rfl) ?_
      refine xw.getf (o := 30) rfl (tput_30 _ _ _) rfl ?_
      refine xw.steps 1 (fun _ => rfl) ?_
      refine xw.icmp rfl (fun c11 => ?_) (fun c11 => ?_)
      · have c11 := of_decide_eq_true c11
        refine xw.steps 1 (fun _ => rfl) ?_
        refine xw.getf (o := 30) rfl (tput_30 _ _ _) rfl ?_
        refine xw.steps 1 (fun _ => rfl) ?_
        refine xw.icmp rfl (fun c12 => ?_) (fun c12 => ?_)
        · have c12 := of_decide_eq_true c12
          refine xw.steps 1 (fun _ => rfl) ?_
          refine xw.if_ rfl (fun c13 => ?_) (fun c13 => ?_)
          · have c13 := bI_ne0 (of_decide_eq_true c13)
            refine xw.steps 1 (fun _ => rfl) ?_
            refine xw.ret rfl (fun _ => mx_ret_b _ _) ?_
            show P (some (.int (bI m))) (tput z S (im, ki, de, iA, iB))
            unfold tr_meet at hP
            dsimp only at hP
            first
            | (rw [if_pos ⟨by assumption, by assumption⟩] at hP; exact hP)
            | (rw [if_neg (fun u => by first | exact absurd u.1 (by assumption) | exact absurd u.2 (by assumption))] at hP; rw [if_pos ⟨by assumption, by assumption⟩] at hP; exact hP)
            | (rw [if_neg (fun u => by first | exact absurd u.1 (by assumption) | exact absurd u.2 (by assumption)), if_neg (fun u => by first | exact u.1 (by assumption) | exact u.2 (by assumption))] at hP; rw [if_pos (by assumption)] at hP; (first | rw [if_pos (show m = true by assumption)] at hP | rw [if_neg (show ¬ m = true by rw [(by assumption : m = false)]; decide)] at hP); first | exact hP | simpa [bI, c13] using hP)
            | (rw [if_neg (fun u => by first | exact absurd u.1 (by assumption) | exact absurd u.2 (by assumption)), if_neg (fun u => by first | exact u.1 (by assumption) | exact u.2 (by assumption))] at hP; rw [if_neg (by assumption)] at hP; (first | rw [if_pos (show m = true by assumption)] at hP | rw [if_neg (show ¬ m = true by rw [(by assumption : m = false)]; decide)] at hP); first | exact hP | simpa [bI, c13] using hP)
          · have c13 := bI_eq0 (Decidable.not_not.mp (of_decide_eq_false c13))
            refine xw.steps 2 (fun _ => rfl) ?_
            show xw z NK g 95 84 [(0, .ref (z + 30)), (1, .int (bI m)), (2, .int ((nI ki.length) - 1)), (3, .int (((nI ki.length) - 1) - 1))] [.int ((nI ki.length) - 1), .ref (z + 30)] (tput z S (im, ki, de, iA, iB)) P
            refine xw.callO (o := 30) rfl rfl rfl (tput_30 _ _ _) rfl rfl (c_toA (by omega) ?_)
            show xw z NK g 95 87 [(0, .ref (z + 30)), (1, .int (bI m)), (2, .int ((nI ki.length) - 1)), (3, .int (((nI ki.length) - 1) - 1))] [] (tput z S (tr_toA (im, ki, de, iA, iB) ((nI ki.length) - 1))) P
            obtain ⟨t11, et11⟩ : ∃ t, t = (tr_toA (im, ki, de, iA, iB) ((nI ki.length) - 1)) := ⟨_, rfl⟩
            have lt11 := tr_toA_len (im, ki, de, iA, iB) ((nI ki.length) - 1)
            rw [← et11] at lt11
            try dsimp only at lt11
            show xw z NK g 95 _ _ _ (tput z S (tr_toA (im, ki, de, iA, iB) ((nI ki.length) - 1))) P
            rw [← et11]
            show xw z NK g 95 87 [(0, .ref (z + 30)), (1, .int (bI m)), (2, .int ((nI ki.length) - 1)), (3, .int (((nI ki.length) - 1) - 1))] [] (tput z S t11) P
            refine xw.steps 1 (fun _ => rfl) ?_
            refine xw.ret rfl (fun _ => mx_ret_b _ _) ?_
            show P (some (.int (bI m))) (tput z S t11)
            subst et11
            unfold tr_meet at hP
            dsimp only at hP
            first
            | (rw [if_pos ⟨by assumption, by assumption⟩] at hP; exact hP)
            | (rw [if_neg (fun u => by first | exact absurd u.1 (by assumption) | exact absurd u.2 (by assumption))] at hP; rw [if_pos ⟨by assumption, by assumption⟩] at hP; exact hP)
            | (rw [if_neg (fun u => by first | exact absurd u.1 (by assumption) | exact absurd u.2 (by assumption)), if_neg (fun u => by first | exact u.1 (by assumption) | exact u.2 (by assumption))] at hP; rw [if_pos (by assumption)] at hP; (first | rw [if_pos (show m = true by assumption)] at hP | rw [if_neg (show ¬ m = true by rw [(by assumption : m = false)]; decide)] at hP); first | exact hP | simpa [bI, c13] using hP)
            | (rw [if_neg (fun u => by first | exact absurd u.1 (by assumption) | exact absurd u.2 (by assumption)), if_neg (fun u => by first | exact u.1 (by assumption) | exact u.2 (by assumption))] at hP; rw [if_neg (by assumption)] at hP; (first | rw [if_pos (show m = true by assumption)] at hP | rw [if_neg (show ¬ m = true by rw [(by assumption : m = false)]; decide)] at hP); first | exact hP | simpa [bI, c13] using hP)
        · have c12 := of_decide_eq_false c12
          refine xw.steps 2 (fun _ => rfl) ?_
          show xw z NK g 95 70 [(0, .ref (z + 30)), (1, .int (bI m)), (2, .int ((nI ki.length) - 1)), (3, .int (((nI ki.length) - 1) - 1))] [.int ((nI ki.length) - 1), .ref (z + 30)] (tput z S (im, ki, de, iA, iB)) P
          refine xw.callO (o := 30) rfl rfl rfl (tput_30 _ _ _) rfl rfl (c_toA (by omega) ?_)
          show xw z NK g 95 73 [(0, .ref (z + 30)), (1, .int (bI m)), (2, .int ((nI ki.length) - 1)), (3, .int (((nI ki.length) - 1) - 1))] [] (tput z S (tr_toA (im, ki, de, iA, iB) ((nI ki.length) - 1))) P
          obtain ⟨t12, et12⟩ : ∃ t, t = (tr_toA (im, ki, de, iA, iB) ((nI ki.length) - 1)) := ⟨_, rfl⟩
          have lt12 := tr_toA_len (im, ki, de, iA, iB) ((nI ki.length) - 1)
          rw [← et12] at lt12
          try dsimp only at lt12
          show xw z NK g 95 _ _ _ (tput z S (tr_toA (im, ki, de, iA, iB) ((nI ki.length) - 1))) P
          rw [← et12]
          show xw z NK g 95 73 [(0, .ref (z + 30)), (1, .int (bI m)), (2, .int ((nI ki.length) - 1)), (3, .int (((nI ki.length) - 1) - 1))] [] (tput z S t12) P
          refine xw.steps 2 (fun _ => rfl) ?_
          show xw z NK g 95 75 [(0, .ref (z + 30)), (1, .int (bI m)), (2, .int ((nI ki.length) - 1)), (3, .int (((nI ki.length) - 1) - 1))] [.int (((nI ki.length) - 1) - 1), .ref (z + 30)] (tput z S t12) P
          refine xw.callO (o := 30) rfl rfl rfl (tput_30 _ _ _) rfl rfl (c_toA (by omega) ?_)
          show xw z NK g 95 78 [(0, .ref (z + 30)), (1, .int (bI m)), (2, .int ((nI ki.length) - 1)), (3, .int (((nI ki.length) - 1) - 1))] [] (tput z S (tr_toA t12 (((nI ki.length) - 1) - 1))) P
          obtain ⟨t13, et13⟩ : ∃ t, t = (tr_toA t12 (((nI ki.length) - 1) - 1)) := ⟨_, rfl⟩
          have lt13 := tr_toA_len t12 (((nI ki.length) - 1) - 1)
          rw [← et13] at lt13
          try dsimp only at lt13
          show xw z NK g 95 _ _ _ (tput z S (tr_toA t12 (((nI ki.length) - 1) - 1))) P
          rw [← et13]
          show xw z NK g 95 78 [(0, .ref (z + 30)), (1, .int (bI m)), (2, .int ((nI ki.length) - 1)), (3, .int (((nI ki.length) - 1) - 1))] [] (tput z S t13) P
          refine xw.steps 1 (fun _ => rfl) ?_
          refine xw.if_ rfl (fun c14 => ?_) (fun c14 => ?_)
          · have c14 := bI_ne0 (of_decide_eq_true c14)
            refine xw.steps 1 (fun _ => rfl) ?_
            refine xw.ret rfl (fun _ => mx_ret_b _ _) ?_
            show P (some (.int (bI m))) (tput z S t13)
            subst et13 et12
            unfold tr_meet at hP
            dsimp only at hP
            first
            | (rw [if_pos ⟨by assumption, by assumption⟩] at hP; exact hP)
            | (rw [if_neg (fun u => by first | exact absurd u.1 (by assumption) | exact absurd u.2 (by assumption))] at hP; rw [if_pos ⟨by assumption, by assumption⟩] at hP; exact hP)
            | (rw [if_neg (fun u => by first | exact absurd u.1 (by assumption) | exact absurd u.2 (by assumption)), if_neg (fun u => by first | exact u.1 (by assumption) | exact u.2 (by assumption))] at hP; rw [if_pos (by assumption)] at hP; (first | rw [if_pos (show m = true by assumption)] at hP | rw [if_neg (show ¬ m = true by rw [(by assumption : m = false)]; decide)] at hP); first | exact hP | simpa [bI, c14] using hP)
            | (rw [if_neg (fun u => by first | exact absurd u.1 (by assumption) | exact absurd u.2 (by assumption)), if_neg (fun u => by first | exact u.1 (by assumption) | exact u.2 (by assumption))] at hP; rw [if_neg (by assumption)] at hP; (first | rw [if_pos (show m = true by assumption)] at hP | rw [if_neg (show ¬ m = true by rw [(by assumption : m = false)]; decide)] at hP); first | exact hP | simpa [bI, c14] using hP)
          · have c14 := bI_eq0 (Decidable.not_not.mp (of_decide_eq_false c14))
            refine xw.steps 2 (fun _ => rfl) ?_
            show xw z NK g 95 84 [(0, .ref (z + 30)), (1, .int (bI m)), (2, .int ((nI ki.length) - 1)), (3, .int (((nI ki.length) - 1) - 1))] [.int ((nI ki.length) - 1), .ref (z + 30)] (tput z S t13) P
            refine xw.callO (o := 30) rfl rfl rfl (tput_30 _ _ _) rfl rfl (c_toA (by omega) ?_)
            show xw z NK g 95 87 [(0, .ref (z + 30)), (1, .int (bI m)), (2, .int ((nI ki.length) - 1)), (3, .int (((nI ki.length) - 1) - 1))] [] (tput z S (tr_toA t13 ((nI ki.length) - 1))) P
            obtain ⟨t14, et14⟩ : ∃ t, t = (tr_toA t13 ((nI ki.length) - 1)) := ⟨_, rfl⟩
            have lt14 := tr_toA_len t13 ((nI ki.length) - 1)
            rw [← et14] at lt14
            try dsimp only at lt14
            show xw z NK g 95 _ _ _ (tput z S (tr_toA t13 ((nI ki.length) - 1))) P
            rw [← et14]
            show xw z NK g 95 87 [(0, .ref (z + 30)), (1, .int (bI m)), (2, .int ((nI ki.length) - 1)), (3, .int (((nI ki.length) - 1) - 1))] [] (tput z S t14) P
            refine xw.steps 1 (fun _ => rfl) ?_
            refine xw.ret rfl (fun _ => mx_ret_b _ _) ?_
            show P (some (.int (bI m))) (tput z S t14)
            subst et14 et13 et12
            unfold tr_meet at hP
            dsimp only at hP
            first
            | (rw [if_pos ⟨by assumption, by assumption⟩] at hP; exact hP)
            | (rw [if_neg (fun u => by first | exact absurd u.1 (by assumption) | exact absurd u.2 (by assumption))] at hP; rw [if_pos ⟨by assumption, by assumption⟩] at hP; exact hP)
            | (rw [if_neg (fun u => by first | exact absurd u.1 (by assumption) | exact absurd u.2 (by assumption)), if_neg (fun u => by first | exact u.1 (by assumption) | exact u.2 (by assumption))] at hP; rw [if_pos (by assumption)] at hP; (first | rw [if_pos (show m = true by assumption)] at hP | rw [if_neg (show ¬ m = true by rw [(by assumption : m = false)]; decide)] at hP); first | exact hP | simpa [bI, c14] using hP)
            | (rw [if_neg (fun u => by first | exact absurd u.1 (by assumption) | exact absurd u.2 (by assumption)), if_neg (fun u => by first | exact u.1 (by assumption) | exact u.2 (by assumption))] at hP; rw [if_neg (by assumption)] at hP; (first | rw [if_pos (show m = true by assumption)] at hP | rw [if_neg (show ¬ m = true by rw [(by assumption : m = false)]; decide)] at hP); first | exact hP | simpa [bI, c14] using hP)
      · have c11 := of_decide_eq_false c11
        refine xw.steps 1 (fun _ => rfl) ?_
        refine xw.getf (o := 30) rfl (tput_30 _ _ _) rfl ?_
        refine xw.steps 1 (fun _ => rfl) ?_
        refine xw.icmp rfl (fun c15 => ?_) (fun c15 => ?_)
        · have c15 := of_decide_eq_true c15
          refine xw.steps 1 (fun _ => rfl) ?_
          refine xw.getf (o := 30) rfl (tput_30 _ _ _) rfl ?_
          refine xw.steps 1 (fun _ => rfl) ?_
          refine xw.icmp rfl (fun c16 => ?_) (fun c16 => ?_)
          · have c16 := of_decide_eq_true c16
            refine xw.steps 1 (fun _ => rfl) ?_
            refine xw.if_ rfl (fun c17 => ?_) (fun c17 => ?_)
            · have c17 := bI_ne0 (of_decide_eq_true c17)
              refine xw.steps 1 (fun _ => rfl) ?_
              refine xw.ret rfl (fun _ => mx_ret_b _ _) ?_
              show P (some (.int (bI m))) (tput z S (im, ki, de, iA, iB))
              unfold tr_meet at hP
              dsimp only at hP
              first
              | (rw [if_pos ⟨by assumption, by assumption⟩] at hP; exact hP)
              | (rw [if_neg (fun u => by first | exact absurd u.1 (by assumption) | exact absurd u.2 (by assumption))] at hP; rw [if_pos ⟨by assumption, by assumption⟩] at hP; exact hP)
              | (rw [if_neg (fun u => by first | exact absurd u.1 (by assumption) | exact absurd u.2 (by assumption)), if_neg (fun u => by first | exact u.1 (by assumption) | exact u.2 (by assumption))] at hP; rw [if_pos (by assumption)] at hP; (first | rw [if_pos (show m = true by assumption)] at hP | rw [if_neg (show ¬ m = true by rw [(by assumption : m = false)]; decide)] at hP); first | exact hP | simpa [bI, c17] using hP)
              | (rw [if_neg (fun u => by first | exact absurd u.1 (by assumption) | exact absurd u.2 (by assumption)), if_neg (fun u => by first | exact u.1 (by assumption) | exact u.2 (by assumption))] at hP; rw [if_neg (by assumption)] at hP; (first | rw [if_pos (show m = true by assumption)] at hP | rw [if_neg (show ¬ m = true by rw [(by assumption : m = false)]; decide)] at hP); first | exact hP | simpa [bI, c17] using hP)
            · have c17 := bI_eq0 (Decidable.not_not.mp (of_decide_eq_false c17))
              refine xw.steps 2 (fun _ => rfl) ?_
              show xw z NK g 95 84 [(0, .ref (z + 30)), (1, .int (bI m)), (2, .int ((nI ki.length) - 1)), (3, .int (((nI ki.length) - 1) - 1))] [.int ((nI ki.length) - 1), .ref (z + 30)] (tput z S (im, ki, de, iA, iB)) P
              refine xw.callO (o := 30) rfl rfl rfl (tput_30 _ _ _) rfl rfl (c_toA (by omega) ?_)
              show xw z NK g 95 87 [(0, .ref (z + 30)), (1, .int (bI m)), (2, .int ((nI ki.length) - 1)), (3, .int (((nI ki.length) - 1) - 1))] [] (tput z S (tr_toA (im, ki, de, iA, iB) ((nI ki.length) - 1))) P
              obtain ⟨t15, et15⟩ : ∃ t, t = (tr_toA (im, ki, de, iA, iB) ((nI ki.length) - 1)) := ⟨_, rfl⟩
              have lt15 := tr_toA_len (im, ki, de, iA, iB) ((nI ki.length) - 1)
              rw [← et15] at lt15
              try dsimp only at lt15
              show xw z NK g 95 _ _ _ (tput z S (tr_toA (im, ki, de, iA, iB) ((nI ki.length) - 1))) P
              rw [← et15]
              show xw z NK g 95 87 [(0, .ref (z + 30)), (1, .int (bI m)), (2, .int ((nI ki.length) - 1)), (3, .int (((nI ki.length) - 1) - 1))] [] (tput z S t15) P
              refine xw.steps 1 (fun _ => rfl) ?_
              refine xw.ret rfl (fun _ => mx_ret_b _ _) ?_
              show P (some (.int (bI m))) (tput z S t15)
              subst et15
              unfold tr_meet at hP
              dsimp only at hP
              first
              | (rw [if_pos ⟨by assumption, by assumption⟩] at hP; exact hP)
              | (rw [if_neg (fun u => by first | exact absurd u.1 (by assumption) | exact absurd u.2 (by assumption))] at hP; rw [if_pos ⟨by assumption, by assumption⟩] at hP; exact hP)
              | (rw [if_neg (fun u => by first | exact absurd u.1 (by assumption) | exact absurd u.2 (by assumption)), if_neg (fun u => by first | exact u.1 (by assumption) | exact u.2 (by assumption))] at hP; rw [if_pos (by assumption)] at hP; (first | rw [if_pos (show m = true by assumption)] at hP | rw [if_neg (show ¬ m = true by rw [(by assumption : m = false)]; decide)] at hP); first | exact hP | simpa [bI, c17] using hP)
              | (rw [if_neg (fun u => by first | exact absurd u.1 (by assumption) | exact absurd u.2 (by assumption)), if_neg (fun u => by first | exact u.1 (by assumption) | exact u.2 (by assumption))] at hP; rw [if_neg (by assumption)] at hP; (first | rw [if_pos (show m = true by assumption)] at hP | rw [if_neg (show ¬ m = true by rw [(by assumption : m = false)]; decide)] at hP); first | exact hP | simpa [bI, c17] using hP)
          · have c16 := of_decide_eq_false c16
            refine xw.steps 2 (fun _ => rfl) ?_
            show xw z NK g 95 70 [(0, .ref (z + 30)), (1, .int (bI m)), (2, .int ((nI ki.length) - 1)), (3, .int (((nI ki.length) - 1) - 1))] [.int ((nI ki.length) - 1), .ref (z + 30)] (tput z S (im, ki, de, iA, iB)) P
            refine xw.callO (o := 30) rfl rfl rfl (tput_30 _ _ _) rfl rfl (c_toA (by omega) ?_)
            show xw z NK g 95 73 [(0, .ref (z + 30)), (1, .int (bI m)), (2, .int ((nI ki.length) - 1)), (3, .int (((nI ki.length) - 1) - 1))] [] (tput z S (tr_toA (im, ki, de, iA, iB) ((nI ki.length) - 1))) P
            obtain ⟨t16, et16⟩ : ∃ t, t = (tr_toA (im, ki, de, iA, iB) ((nI ki.length) - 1)) := ⟨_, rfl⟩
            have lt16 := tr_toA_len (im, ki, de, iA, iB) ((nI ki.length) - 1)
            rw [← et16] at lt16
            try dsimp only at lt16
            show xw z NK g 95 _ _ _ (tput z S (tr_toA (im, ki, de, iA, iB) ((nI ki.length) - 1))) P
            rw [← et16]
            show xw z NK g 95 73 [(0, .ref (z + 30)), (1, .int (bI m)), (2, .int ((nI ki.length) - 1)), (3, .int (((nI ki.length) - 1) - 1))] [] (tput z S t16) P
            refine xw.steps 2 (fun _ => rfl) ?_
            show xw z NK g 95 75 [(0, .ref (z + 30)), (1, .int (bI m)), (2, .int ((nI ki.length) - 1)), (3, .int (((nI ki.length) - 1) - 1))] [.int (((nI ki.length) - 1) - 1), .ref (z + 30)] (tput z S t16) P
            refine xw.callO (o := 30) rfl rfl rfl (tput_30 _ _ _) rfl rfl (c_toA (by omega) ?_)
            show xw z NK g 95 78 [(0, .ref (z + 30)), (1, .int (bI m)), (2, .int ((nI ki.length) - 1)), (3, .int (((nI ki.length) - 1) - 1))] [] (tput z S (tr_toA t16 (((nI ki.length) - 1) - 1))) P
            obtain ⟨t17, et17⟩ : ∃ t, t = (tr_toA t16 (((nI ki.length) - 1) - 1)) := ⟨_, rfl⟩
            have lt17 := tr_toA_len t16 (((nI ki.length) - 1) - 1)
            rw [← et17] at lt17
            try dsimp only at lt17
            show xw z NK g 95 _ _ _ (tput z S (tr_toA t16 (((nI ki.length) - 1) - 1))) P
            rw [← et17]
            show xw z NK g 95 78 [(0, .ref (z + 30)), (1, .int (bI m)), (2, .int ((nI ki.length) - 1)), (3, .int (((nI ki.length) - 1) - 1))] [] (tput z S t17) P
            refine xw.steps 1 (fun _ => rfl) ?_
            refine xw.if_ rfl (fun c18 => ?_) (fun c18 => ?_)
            · have c18 := bI_ne0 (of_decide_eq_true c18)
              refine xw.steps 1 (fun _ => rfl) ?_
              refine xw.ret rfl (fun _ => mx_ret_b _ _) ?_
              show P (some (.int (bI m))) (tput z S t17)
              subst et17 et16
              unfold tr_meet at hP
              dsimp only at hP
              first
              | (rw [if_pos ⟨by assumption, by assumption⟩] at hP; exact hP)
              | (rw [if_neg (fun u => by first | exact absurd u.1 (by assumption) | exact absurd u.2 (by assumption))] at hP; rw [if_pos ⟨by assumption, by assumption⟩] at hP; exact hP)
              | (rw [if_neg (fun u => by first | exact absurd u.1 (by assumption) | exact absurd u.2 (by assumption)), if_neg (fun u => by first | exact u.1 (by assumption) | exact u.2 (by assumption))] at hP; rw [if_pos (by assumption)] at hP; (first | rw [if_pos (show m = true by assumption)] at hP | rw [if_neg (show ¬ m = true by rw [(by assumption : m = false)]; decide)] at hP); first | exact hP | simpa [bI, c18] using hP)
              | (rw [if_neg (fun u => by first | exact absurd u.1 (by assumption) | exact absurd u.2 (by assumption)), if_neg (fun u => by first | exact u.1 (by assumption) | exact u.2 (by assumption))] at hP; rw [if_neg (by assumption)] at hP; (first | rw [if_pos (show m = true by assumption)] at hP | rw [if_neg (show ¬ m = true by rw [(by assumption : m = false)]; decide)] at hP); first | exact hP | simpa [bI, c18] using hP)
            · have c18 := bI_eq0 (Decidable.not_not.mp (of_decide_eq_false c18))
              refine xw.steps 2 (fun _ => rfl) ?_
              show xw z NK g 95 84 [(0, .ref (z + 30)), (1, .int (bI m)), (2, .int ((nI ki.length) - 1)), (3, .int (((nI ki.length) - 1) - 1))] [.int ((nI ki.length) - 1), .ref (z + 30)] (tput z S t17) P
              refine xw.callO (o := 30) rfl rfl rfl (tput_30 _ _ _) rfl rfl (c_toA (by omega) ?_)
              show xw z NK g 95 87 [(0, .ref (z + 30)), (1, .int (bI m)), (2, .int ((nI ki.length) - 1)), (3, .int (((nI ki.length) - 1) - 1))] [] (tput z S (tr_toA t17 ((nI ki.length) - 1))) P
              obtain ⟨t18, et18⟩ : ∃ t, t = (tr_toA t17 ((nI ki.length) - 1)) := ⟨_, rfl⟩
              have lt18 := tr_toA_len t17 ((nI ki.length) - 1)
              rw [← et18] at lt18
              try dsimp only at lt18
              show xw z NK g 95 _ _ _ (tput z S (tr_toA t17 ((nI ki.length) - 1))) P
              rw [← et18]
              show xw z NK g 95 87 [(0, .ref (z + 30)), (1, .int (bI m)), (2, .int ((nI ki.length) - 1)), (3, .int (((nI ki.length) - 1) - 1))] [] (tput z S t18) P
              refine xw.steps 1 (fun _ => rfl) ?_
              refine xw.ret rfl (fun _ => mx_ret_b _ _) ?_
              show P (some (.int (bI m))) (tput z S t18)
              subst et18 et17 et16
              unfold tr_meet at hP
              dsimp only at hP
              first
              | (rw [if_pos ⟨by assumption, by assumption⟩] at hP; exact hP)
              | (rw [if_neg (fun u => by first | exact absurd u.1 (by assumption) | exact absurd u.2 (by assumption))] at hP; rw [if_pos ⟨by assumption, by assumption⟩] at hP; exact hP)
              | (rw [if_neg (fun u => by first | exact absurd u.1 (by assumption) | exact absurd u.2 (by assumption)), if_neg (fun u => by first | exact u.1 (by assumption) | exact u.2 (by assumption))] at hP; rw [if_pos (by assumption)] at hP; (first | rw [if_pos (show m = true by assumption)] at hP | rw [if_neg (show ¬ m = true by rw [(by assumption : m = false)]; decide)] at hP); first | exact hP | simpa [bI, c18] using hP)
              | (rw [if_neg (fun u => by first | exact absurd u.1 (by assumption) | exact absurd u.2 (by assumption)), if_neg (fun u => by first | exact u.1 (by assumption) | exact u.2 (by assumption))] at hP; rw [if_neg (by assumption)] at hP; (first | rw [if_pos (show m = true by assumption)] at hP | rw [if_neg (show ¬ m = true by rw [(by assumption : m = false)]; decide)] at hP); first | exact hP | simpa [bI, c18] using hP)
        · have c15 := of_decide_eq_false c15
          refine xw.steps 2 (fun _ => rfl) ?_
          show xw z NK g 95 50 [(0, .ref (z + 30)), (1, .int (bI m)), (2, .int ((nI ki.length) - 1)), (3, .int (((nI ki.length) - 1) - 1))] [.int (((nI ki.length) - 1) - 1), .ref (z + 30)] (tput z S (im, ki, de, iA, iB)) P
          refine xw.callO (o := 30) rfl rfl rfl (tput_30 _ _ _) rfl rfl (c_toA (by omega) ?_)
          show xw z NK g 95 53 [(0, .ref (z + 30)), (1, .int (bI m)), (2, .int ((nI ki.length) - 1)), (3, .int (((nI ki.length) - 1) - 1))] [] (tput z S (tr_toA (im, ki, de, iA, iB) (((nI ki.length) - 1) - 1))) P
          obtain ⟨t19, et19⟩ : ∃ t, t = (tr_toA (im, ki, de, iA, iB) (((nI ki.length) - 1) - 1)) := ⟨_, rfl⟩
          have lt19 := tr_toA_len (im, ki, de, iA, iB) (((nI ki.length) - 1) - 1)
          rw [← et19] at lt19
          try dsimp only at lt19
          show xw z NK g 95 _ _ _ (tput z S (tr_toA (im, ki, de, iA, iB) (((nI ki.length) - 1) - 1))) P
          rw [← et19]
          show xw z NK g 95 53 [(0, .ref (z + 30)), (1, .int (bI m)), (2, .int ((nI ki.length) - 1)), (3, .int (((nI ki.length) - 1) - 1))] [] (tput z S t19) P
          refine xw.steps 2 (fun _ => rfl) ?_
          show xw z NK g 95 55 [(0, .ref (z + 30)), (1, .int (bI m)), (2, .int ((nI ki.length) - 1)), (3, .int (((nI ki.length) - 1) - 1))] [.int ((nI ki.length) - 1), .ref (z + 30)] (tput z S t19) P
          refine xw.callO (o := 30) rfl rfl rfl (tput_30 _ _ _) rfl rfl (c_toA (by omega) ?_)
          show xw z NK g 95 58 [(0, .ref (z + 30)), (1, .int (bI m)), (2, .int ((nI ki.length) - 1)), (3, .int (((nI ki.length) - 1) - 1))] [] (tput z S (tr_toA t19 ((nI ki.length) - 1))) P
          obtain ⟨t20, et20⟩ : ∃ t, t = (tr_toA t19 ((nI ki.length) - 1)) := ⟨_, rfl⟩
          have lt20 := tr_toA_len t19 ((nI ki.length) - 1)
          rw [← et20] at lt20
          try dsimp only at lt20
          show xw z NK g 95 _ _ _ (tput z S (tr_toA t19 ((nI ki.length) - 1))) P
          rw [← et20]
          show xw z NK g 95 58 [(0, .ref (z + 30)), (1, .int (bI m)), (2, .int ((nI ki.length) - 1)), (3, .int (((nI ki.length) - 1) - 1))] [] (tput z S t20) P
          refine xw.steps 1 (fun _ => rfl) ?_
          refine xw.ret rfl (fun _ => rfl) ?_
          show P (some (.int 0)) (tput z S t20)
          subst et20 et19
          unfold tr_meet at hP
          dsimp only at hP
          first
          | (rw [if_pos ⟨by assumption, by assumption⟩] at hP; exact hP)
          | (rw [if_neg (fun u => by first | exact absurd u.1 (by assumption) | exact absurd u.2 (by assumption))] at hP; rw [if_pos ⟨by assumption, by assumption⟩] at hP; exact hP)
          | (rw [if_neg (fun u => by first | exact absurd u.1 (by assumption) | exact absurd u.2 (by assumption)), if_neg (fun u => by first | exact u.1 (by assumption) | exact u.2 (by assumption))] at hP; rw [if_pos (by assumption)] at hP; (first | rw [if_pos (show m = true by assumption)] at hP | rw [if_neg (show ¬ m = true by rw [(by assumption : m = false)]; decide)] at hP); first | exact hP | simpa [bI, c15] using hP)
          | (rw [if_neg (fun u => by first | exact absurd u.1 (by assumption) | exact absurd u.2 (by assumption)), if_neg (fun u => by first | exact u.1 (by assumption) | exact u.2 (by assumption))] at hP; rw [if_neg (by assumption)] at hP; (first | rw [if_pos (show m = true by assumption)] at hP | rw [if_neg (show ¬ m = true by rw [(by assumption : m = false)]; decide)] at hP); first | exact hP | simpa [bI, c15] using hP)
    · have c10 := Decidable.not_not.mp (of_decide_eq_false c10)
      refine xw.steps 1 (fun _ => rfl) ?_
      refine xw.ret rfl (fun _ => rfl) ?_
      show P (some (.int 0)) (tput z S (im, ki, de, iA, iB))
      unfold tr_meet at hP
      dsimp only at hP
      first
      | (rw [if_pos ⟨by assumption, by assumption⟩] at hP; exact hP)
      | (rw [if_neg (fun u => by first | exact absurd u.1 (by assumption) | exact absurd u.2 (by assumption))] at hP; rw [if_pos ⟨by assumption, by assumption⟩] at hP; exact hP)
      | (rw [if_neg (fun u => by first | exact absurd u.1 (by assumption) | exact absurd u.2 (by assumption)), if_neg (fun u => by first | exact u.1 (by assumption) | exact u.2 (by assumption))] at hP; rw [if_pos (by assumption)] at hP; (first | rw [if_pos (show m = true by assumption)] at hP | rw [if_neg (show ¬ m = true by rw [(by assumption : m = false)]; decide)] at hP); first | exact hP | simpa [bI, c10] using hP)
      | (rw [if_neg (fun u => by first | exact absurd u.1 (by assumption) | exact absurd u.2 (by assumption)), if_neg (fun u => by first | exact u.1 (by assumption) | exact u.2 (by assumption))] at hP; rw [if_neg (by assumption)] at hP; (first | rw [if_pos (show m = true by assumption)] at hP | rw [if_neg (show ¬ m = true by rw [(by assumption : m = false)]; decide)] at hP); first | exact hP | simpa [bI, c10] using hP)
set_option maxHeartbeats 2000000 in
/-- RowCode$Translator.changeTop(I)V -/
theorem c_changeTop (hi : im.length + 6 ≤ 131072) {n : Int32} (hP : P none (tput z S (tr_top (im, ki, de, iA, iB) n))) : xw z NK g 96 0 [(0, .ref (z + 30)), (1, .int n)] [] (tput z S (im, ki, de, iA, iB)) P := by
  refine xw.steps 2 (fun _ => rfl) ?_
  refine xw.getf (o := 30) rfl (tput_30 _ _ _) rfl ?_
  show xw z NK g 96 5 [(0, .ref (z + 30)), (1, .int n)] [.ref (z + 33), .ref (z + 30)] (tput z S (im, ki, de, iA, iB)) P
  refine xw.callN (o := 33) rfl rfl rfl (tput_33 _ _ _) rfl rfl (c_size (tput_33 _ _ _) ?_)
  show xw z NK g 96 8 [(0, .ref (z + 30)), (1, .int n)] [.int (nI ki.length), .ref (z + 30)] (tput z S (im, ki, de, iA, iB)) P
  refine xw.steps 2 (fun _ => rfl) ?_
  show xw z NK g 96 10 [(0, .ref (z + 30)), (1, .int n)] [.int ((nI ki.length) - 1), .ref (z + 30)] (tput z S (im, ki, de, iA, iB)) P
  refine xw.callO (o := 30) rfl rfl rfl (tput_30 _ _ _) rfl rfl (c_toA (by omega) ?_)
  show xw z NK g 96 13 [(0, .ref (z + 30)), (1, .int n)] [] (tput z S (tr_toA (im, ki, de, iA, iB) ((nI ki.length) - 1))) P
  obtain ⟨t1, et1⟩ : ∃ t, t = (tr_toA (im, ki, de, iA, iB) ((nI ki.length) - 1)) := ⟨_, rfl⟩
  have lt1 := tr_toA_len (im, ki, de, iA, iB) ((nI ki.length) - 1)
  rw [← et1] at lt1
  try dsimp only at lt1
  show xw z NK g 96 _ _ _ (tput z S (tr_toA (im, ki, de, iA, iB) ((nI ki.length) - 1))) P
  rw [← et1]
  show xw z NK g 96 13 [(0, .ref (z + 30)), (1, .int n)] [] (tput z S t1) P
  refine xw.steps 3 (fun _ => rfl) ?_
  show xw z NK g 96 16 [(0, .ref (z + 30)), (1, .int n)] [.int 0, .int n, .ref (z + 30)] (tput z S t1) P
  refine xw.callO (o := 30) rfl rfl rfl (tput_30 _ _ _) rfl rfl (c_write (by omega) ?_)
  show xw z NK g 96 19 [(0, .ref (z + 30)), (1, .int n)] [] (tput z S (tr_write t1 n 0)) P
  obtain ⟨t2, et2⟩ : ∃ t, t = (tr_write t1 n 0) := ⟨_, rfl⟩
  have lt2 := tr_write_len t1 n 0
  rw [← et2] at lt2
  try dsimp only at lt2
  show xw z NK g 96 _ _ _ (tput z S (tr_write t1 n 0)) P
  rw [← et2]
  show xw z NK g 96 19 [(0, .ref (z + 30)), (1, .int n)] [] (tput z S t2) P
  refine xw.ret rfl (fun _ => rfl) ?_
  show P none (tput z S t2)
  subst et2 et1
  first | exact hP | simpa [tr_top] using hP | simp_all [tr_top]
end XT3
