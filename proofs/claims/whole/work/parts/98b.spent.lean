/-! THE REFERENCE: isSpent (walks by wip/gen98b.py) -/
theorem up_at' (f : Nat → Int32) (x : Nat) (v : Int32) : upd f x v x = v := by simp [upd]
theorem fre_iff {c : List II} {D : Nat → Option Nat} {i : Nat} {v : Int32} (hv : v = oI (D i)) (h : ∀ j, D i = some j → j < 2 ^ 30) : fre' c D i = true ↔ (¬ v = -1 ∧ ¬ nb c i = 15) := by
  rw [hv, oI_none h]
  unfold fre'
  cases D i with
  | none => simp
  | some j => simp
section MOD
variable {Bk : xS} {z : Nat} {NK : List Nat} {g : mx_G} {P : Option Value → xS → Prop} {th va fu hg : Int32} {nu ag lo wo he ro : Nat → Int32} {c : List II} {D : Nat → Option Nat}
theorem sp_init (hC : CO c nu ag) (hn : c.length ≤ 400) (hD : ∀ i, i < c.length → he i = oI (D i)) (hDl : ∀ i j, D i = some j → j < 2 ^ 30) (hP : ∀ go' S', MO Bk z S' th (nI c.length) va fu hg nu ag lo wo he go' ro → (∀ k, k < c.length → (go' k = 0 ↔ fre' c D k = true)) → xw z NK g 129 67 [(0, .ref (z + 52)), (1, .int (nI (zc go' c.length))), (2, .int (nI c.length))] [] S' P) :
    ∀ (r i : Nat) (hi : i + r = c.length) (go : Nat → Int32) (S : xS) (hM : MO Bk z S th (nI c.length) va fu hg nu ag lo wo he go ro) (hg0 : ∀ k, k < i → (go k = 0 ↔ fre' c D k = true)), xw z NK g 129 4 [(0, .ref (z + 52)), (1, .int (nI (zc go i))), (2, .int (nI i))] [] S P := by
  intro r
  induction r with
  | zero =>
    intro i hi go S hM hg0
    obtain ⟨q52, q53, q54, q55, q56, q57, q58, q59, qB⟩ := id hM
    have ec : (nI i).toNatClampNeg = i := nI_clamp (by omega)
    refine xw.steps 2 (fun _ => rfl) ?_
    refine xw.getf (o := 52) rfl q52 rfl ?_
    refine xw.icmp rfl (fun c1 => ?_) (fun c1 => ?_)
    · have c1 := Int32.not_lt.mpr (of_decide_eq_true c1)
      show xw z NK g 129 67 [(0, .ref (z + 52)), (1, .int (nI (zc go i))), (2, .int (nI i))] [] S P
      obtain rfl : i = c.length := by omega
      exact hP go S hM hg0
    · have c1 := Int32.not_le.mp (of_decide_eq_false c1)
      show xw z NK g 129 12 [(0, .ref (z + 52)), (1, .int (nI (zc go i))), (2, .int (nI i))] [] S P
      exact absurd c1 (nI_nlt (by omega) (by omega))
  | succ r ih =>
    intro i hi go S hM hg0
    obtain ⟨q52, q53, q54, q55, q56, q57, q58, q59, qB⟩ := id hM
    have ec : (nI i).toNatClampNeg = i := nI_clamp (by omega)
    refine xw.steps 2 (fun _ => rfl) ?_
    refine xw.getf (o := 52) rfl q52 rfl ?_
    refine xw.icmp rfl (fun c1 => ?_) (fun c1 => ?_)
    · have c1 := Int32.not_lt.mpr (of_decide_eq_true c1)
      show xw z NK g 129 67 [(0, .ref (z + 52)), (1, .int (nI (zc go i))), (2, .int (nI i))] [] S P
      exact absurd (nI_lt (by omega) (by omega)) c1
    · have c1 := Int32.not_le.mp (of_decide_eq_false c1)
      refine xw.steps 1 (fun _ => rfl) ?_
      refine xw.getf (o := 52) rfl q52 rfl ?_
      refine xw.steps 2 (fun _ => rfl) ?_
      refine xw.getf (o := 52) rfl q52 rfl ?_
      refine xw.steps 1 (fun _ => rfl) ?_
      refine xw.ald (o := 57) rfl q57 (nI_in (by omega) (by omega)) ?_
      refine xw.steps 1 (fun _ => rfl) ?_
      refine xw.icmp rfl (fun c2 => ?_) (fun c2 => ?_)
      · have c2 := of_decide_eq_true c2
        refine xw.steps 2 (fun _ => rfl) ?_
        refine xw.zst (o := 58) rfl q58 (nI_in (by omega) (by omega)) ?_
        show xw z NK g 129 44 [(0, .ref (z + 52)), (1, .int (nI (zc go i))), (2, .int (nI i))] [] (xu S 58 (.inr (.inl (true, 400, (upd go (nI i).toNatClampNeg (vp_nar .boolean 1)))))) P
        refine xw.steps 2 (fun _ => rfl) ?_
        refine xw.getf (o := 52) rfl ((xu_ne _ _ (by decide)).trans q52) rfl ?_
        refine xw.steps 1 (fun _ => rfl) ?_
        refine xw.ald (o := 58) rfl (xu_self _ _ _) (nI_in (by omega) (by omega)) ?_
        refine xw.if_ rfl (fun c3 => ?_) (fun c3 => ?_)
        · have c3 := of_decide_eq_true c3
          refine xw.steps 5 (fun _ => rfl) ?_
          show xw z NK g 129 4 [(0, .ref (z + 52)), (1, .int ((nI (zc go i)) + 1)), (2, .int ((nI i) + 1))] [] (xu S 58 (.inr (.inl (true, 400, (upd go (nI i).toNatClampNeg (vp_nar .boolean 1)))))) P
          rw [up_at'] at c3
          exact absurd (show (vp_nar .boolean 1 : Int32) = 0 from c3) (by decide)
        · have c3 := of_decide_eq_false c3
          refine xw.steps 6 (fun _ => rfl) ?_
          show xw z NK g 129 4 [(0, .ref (z + 52)), (1, .int ((nI (zc go i)) + 0)), (2, .int ((nI i) + 1))] [] (xu S 58 (.inr (.inl (true, 400, (upd go (nI i).toNatClampNeg (vp_nar .boolean 1)))))) P
          obtain ⟨a1, a2⟩ := hC i (by omega)
          simp only [ec, a1] at c2
          have e1 : vp_nar .boolean 1 = (1 : Int32) := by decide
          have hz : zc (upd go i 1) (i + 1) = zc go i + 0 := by rw [zc, zc_out i (Nat.le_refl i), up_at', if_neg (by decide)]
          have hfr := fre_iff (c := c) (hD i (by omega)) (hDl i)
          rw [ec, e1, nI_1, Int32.add_zero]
          have key := ih (i + 1) (by omega) (upd go i 1) (xu S 58 (.inr (.inl (true, 400, upd go i 1)))) ?_ ?_
          · rw [hz] at key; exact key
          · refine ⟨?_, ?_, ?_, ?_, ?_, ?_, ?_, ?_, ?_⟩
            all_goals first
              | (intro q hq; repeat rw [xu_ne _ _ (by omega)]
                 exact qB q hq)
              | (simp only [xu]; simp; try assumption)
          · intro k hk
            by_cases e : k = i
            · subst e; rw [up_at', hfr]
              exact ⟨fun w => absurd w (by decide), fun w => absurd c2 w.1⟩
            · have e3 : upd go i 1 k = go k := by simp [upd, e]
              rw [e3]; exact hg0 k (by omega)
      · have c2 := of_decide_eq_false c2
        refine xw.steps 1 (fun _ => rfl) ?_
        refine xw.getf (o := 52) rfl q52 rfl ?_
        refine xw.steps 1 (fun _ => rfl) ?_
        refine xw.ald (o := 53) rfl q53 (nI_in (by omega) (by omega)) ?_
        refine xw.steps 1 (fun _ => rfl) ?_
        refine xw.icmp rfl (fun c4 => ?_) (fun c4 => ?_)
        · have c4 := of_decide_eq_true c4
          refine xw.steps 1 (fun _ => rfl) ?_
          refine xw.zst (o := 58) rfl q58 (nI_in (by omega) (by omega)) ?_
          show xw z NK g 129 44 [(0, .ref (z + 52)), (1, .int (nI (zc go i))), (2, .int (nI i))] [] (xu S 58 (.inr (.inl (true, 400, (upd go (nI i).toNatClampNeg (vp_nar .boolean 0)))))) P
          refine xw.steps 2 (fun _ => rfl) ?_
          refine xw.getf (o := 52) rfl ((xu_ne _ _ (by decide)).trans q52) rfl ?_
          refine xw.steps 1 (fun _ => rfl) ?_
          refine xw.ald (o := 58) rfl (xu_self _ _ _) (nI_in (by omega) (by omega)) ?_
          refine xw.if_ rfl (fun c5 => ?_) (fun c5 => ?_)
          · have c5 := of_decide_eq_true c5
            refine xw.steps 5 (fun _ => rfl) ?_
            show xw z NK g 129 4 [(0, .ref (z + 52)), (1, .int ((nI (zc go i)) + 1)), (2, .int ((nI i) + 1))] [] (xu S 58 (.inr (.inl (true, 400, (upd go (nI i).toNatClampNeg (vp_nar .boolean 0)))))) P
            obtain ⟨a1, a2⟩ := hC i (by omega)
            simp only [ec, a1] at c2 c4
            have e1 : vp_nar .boolean 0 = (0 : Int32) := by decide
            have hz : zc (upd go i 0) (i + 1) = zc go i + 1 := by rw [zc, zc_out i (Nat.le_refl i), up_at', if_pos rfl]
            have hfr := fre_iff (c := c) (hD i (by omega)) (hDl i)
            rw [ec, e1, nI_1, nI_1]
            have key := ih (i + 1) (by omega) (upd go i 0) (xu S 58 (.inr (.inl (true, 400, upd go i 0)))) ?_ ?_
            · rw [hz] at key; exact key
            · refine ⟨?_, ?_, ?_, ?_, ?_, ?_, ?_, ?_, ?_⟩
              all_goals first
                | (intro q hq; repeat rw [xu_ne _ _ (by omega)]
                   exact qB q hq)
                | (simp only [xu]; simp; try assumption)
            · intro k hk
              by_cases e : k = i
              · subst e; rw [up_at', hfr]
                exact ⟨fun _ => ⟨c2, c4⟩, fun _ => rfl⟩
              · have e3 : upd go i 0 k = go k := by simp [upd, e]
                rw [e3]; exact hg0 k (by omega)
          · have c5 := of_decide_eq_false c5
            refine xw.steps 6 (fun _ => rfl) ?_
            show xw z NK g 129 4 [(0, .ref (z + 52)), (1, .int ((nI (zc go i)) + 0)), (2, .int ((nI i) + 1))] [] (xu S 58 (.inr (.inl (true, 400, (upd go (nI i).toNatClampNeg (vp_nar .boolean 0)))))) P
            rw [up_at'] at c5
            exact absurd (show ¬ (vp_nar .boolean 0 : Int32) = 0 from c5) (by decide)
        · have c4 := Decidable.not_not.mp (of_decide_eq_false c4)
          refine xw.steps 2 (fun _ => rfl) ?_
          refine xw.zst (o := 58) rfl q58 (nI_in (by omega) (by omega)) ?_
          show xw z NK g 129 44 [(0, .ref (z + 52)), (1, .int (nI (zc go i))), (2, .int (nI i))] [] (xu S 58 (.inr (.inl (true, 400, (upd go (nI i).toNatClampNeg (vp_nar .boolean 1)))))) P
          refine xw.steps 2 (fun _ => rfl) ?_
          refine xw.getf (o := 52) rfl ((xu_ne _ _ (by decide)).trans q52) rfl ?_
          refine xw.steps 1 (fun _ => rfl) ?_
          refine xw.ald (o := 58) rfl (xu_self _ _ _) (nI_in (by omega) (by omega)) ?_
          refine xw.if_ rfl (fun c6 => ?_) (fun c6 => ?_)
          · have c6 := of_decide_eq_true c6
            refine xw.steps 5 (fun _ => rfl) ?_
            show xw z NK g 129 4 [(0, .ref (z + 52)), (1, .int ((nI (zc go i)) + 1)), (2, .int ((nI i) + 1))] [] (xu S 58 (.inr (.inl (true, 400, (upd go (nI i).toNatClampNeg (vp_nar .boolean 1)))))) P
            rw [up_at'] at c6
            exact absurd (show (vp_nar .boolean 1 : Int32) = 0 from c6) (by decide)
          · have c6 := of_decide_eq_false c6
            refine xw.steps 6 (fun _ => rfl) ?_
            show xw z NK g 129 4 [(0, .ref (z + 52)), (1, .int ((nI (zc go i)) + 0)), (2, .int ((nI i) + 1))] [] (xu S 58 (.inr (.inl (true, 400, (upd go (nI i).toNatClampNeg (vp_nar .boolean 1)))))) P
            obtain ⟨a1, a2⟩ := hC i (by omega)
            simp only [ec, a1] at c2 c4
            have e1 : vp_nar .boolean 1 = (1 : Int32) := by decide
            have hz : zc (upd go i 1) (i + 1) = zc go i + 0 := by rw [zc, zc_out i (Nat.le_refl i), up_at', if_neg (by decide)]
            have hfr := fre_iff (c := c) (hD i (by omega)) (hDl i)
            rw [ec, e1, nI_1, Int32.add_zero]
            have key := ih (i + 1) (by omega) (upd go i 1) (xu S 58 (.inr (.inl (true, 400, upd go i 1)))) ?_ ?_
            · rw [hz] at key; exact key
            · refine ⟨?_, ?_, ?_, ?_, ?_, ?_, ?_, ?_, ?_⟩
              all_goals first
                | (intro q hq; repeat rw [xu_ne _ _ (by omega)]
                   exact qB q hq)
                | (simp only [xu]; simp; try assumption)
            · intro k hk
              by_cases e : k = i
              · subst e; rw [up_at', hfr]
                exact ⟨fun w => absurd w (by decide), fun w => absurd c4 w.2⟩
              · have e3 : upd go i 1 k = go k := by simp [upd, e]
                rw [e3]; exact hg0 k (by omega)
end MOD
