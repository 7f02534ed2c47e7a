/-! THE REFERENCE: isSpent, the inner loop (walks by wip/gen98c.py) -/
theorem oI_in {o : Option Nat} {n : Nat} (h : ∀ j, o = some j → j < n) (hn : n ≤ 400) (w : ¬ oI o = -1) : ¬ (oI o < 0 ∨ 400 ≤ (oI o).toNatClampNeg) := by
  cases o with
  | none => exact absurd rfl w
  | some j => have := h j rfl; exact nI_in (by omega) (by omega)
theorem gn_none {o : Option Nat} {go : Nat → Int32} {n : Nat} (h : ∀ j, o = some j → j < n) (hn : n ≤ 400) (w : oI o = -1) : gn go o := by
  rw [oI_none (fun j e => by have := h j e; omega)] at w
  intro j e; rw [w] at e; cases e
theorem gn_iff {o : Option Nat} {go : Nat → Int32} {n : Nat} (h : ∀ j, o = some j → j < n) (hn : n ≤ 400) (w : ¬ oI o = -1) : gn go o ↔ ¬ go (oI o).toNatClampNeg = 0 := by
  cases o with
  | none => exact absurd rfl w
  | some j =>
    have := h j rfl
    have e : (oI (some j)).toNatClampNeg = j := nI_clamp (by omega)
    rw [e]
    exact ⟨fun w => w j rfl, fun w q hq => by cases hq; exact w⟩
theorem frO {c : List II} {D : Nat → Option Nat} {go : Nat → Int32} {i : Nat} (h : SpI c D go) (hi : i < c.length) (hg : go i = 0) : fre' c D i = true := by
  cases hf : fre' c D i with
  | true => rfl
  | false => exact absurd hg (h.1 i hi hf)
/-- how far a pass has come: nothing yet and all before i held back, or fewer -/
abbrev SpM (c : List II) (go : Nat → Int32) (N0 i : Nat) (mo : Int32) : Prop := (mo = 0 ∧ ∀ k, k < i → go k = 0 → ¬ (gn go (nxt c k) ∧ gn go (gol c k))) ∨ (mo = 1 ∧ zc go c.length < N0)
theorem spM_next {c : List II} {go : Nat → Int32} {N0 i : Nat} {mo : Int32} (h : SpM c go N0 i mo) (hb : go i = 0 → ¬ (gn go (nxt c i) ∧ gn go (gol c i))) : SpM c go N0 (i + 1) mo := by
  rcases h with ⟨e, h⟩ | h
  · refine .inl ⟨e, fun k hk hg => ?_⟩
    by_cases w : k = i
    · subst w; exact hb hg
    · exact h k (by omega) hg
  · exact .inr h
section MOE
variable {Bk : xS} {z : Nat} {NK : List Nat} {g : mx_G} {P : Option Value → xS → Prop} {th va fu hg : Int32} {nu ag lo wo he ro : Nat → Int32} {c : List II} {D : Nat → Option Nat}
theorem sp_in (hC : CO c nu ag) (hn : c.length ≤ 400) (h18 : ∀ i, nb c i = 18 → i + 1 < c.length) (hW : ∀ i, fre' c D i = true → (∀ j, nxt c i = some j → j < c.length) ∧ (∀ j, gol c i = some j → j < c.length)) (N0 : Nat) (hP : ∀ go' mo' S', MO Bk z S' th (nI c.length) va fu hg nu ag lo wo he go' ro → SpI c D go' → zc go' c.length ≤ N0 → SpM c go' N0 c.length mo' → xw z NK g 129 163 [(0, .ref (z + 52)), (1, .int (nI (zc go' c.length))), (2, .int mo'), (3, .int (nI c.length))] [] S' P) :
    ∀ (r i : Nat) (hi : i + r = c.length) (go : Nat → Int32) (mo : Int32) (S : xS) (hM : MO Bk z S th (nI c.length) va fu hg nu ag lo wo he go ro) (hS : SpI c D go) (hN : zc go c.length ≤ N0) (hmo : SpM c go N0 i mo), xw z NK g 129 77 [(0, .ref (z + 52)), (1, .int (nI (zc go c.length))), (2, .int mo), (3, .int (nI i))] [] S P := by
  intro r
  induction r with
  | zero =>
    intro i hi go mo S hM hS hN hmo
    obtain ⟨q52, q53, q54, q55, q56, q57, q58, q59, qB⟩ := id hM
    have ec : (nI i).toNatClampNeg = i := nI_clamp (by omega)
    refine xw.steps 2 (fun _ => rfl) ?_
    refine xw.getf (o := 52) rfl q52 rfl ?_
    refine xw.icmp rfl (fun c1 => ?_) (fun c1 => ?_)
    · have c1 := Int32.not_lt.mpr (of_decide_eq_true c1)
      show xw z NK g 129 163 [(0, .ref (z + 52)), (1, .int (nI (zc go c.length))), (2, .int mo), (3, .int (nI i))] [] S P
      obtain rfl : i = c.length := by omega
      exact hP go mo S hM hS hN hmo
    · have c1 := Int32.not_le.mp (of_decide_eq_false c1)
      show xw z NK g 129 85 [(0, .ref (z + 52)), (1, .int (nI (zc go c.length))), (2, .int mo), (3, .int (nI i))] [] S P
      exact absurd c1 (nI_nlt (by omega) (by omega))
  | succ r ih =>
    intro i hi go mo S hM hS hN hmo
    obtain ⟨q52, q53, q54, q55, q56, q57, q58, q59, qB⟩ := id hM
    have ec : (nI i).toNatClampNeg = i := nI_clamp (by omega)
    refine xw.steps 2 (fun _ => rfl) ?_
    refine xw.getf (o := 52) rfl q52 rfl ?_
    refine xw.icmp rfl (fun c1 => ?_) (fun c1 => ?_)
    · have c1 := Int32.not_lt.mpr (of_decide_eq_true c1)
      show xw z NK g 129 163 [(0, .ref (z + 52)), (1, .int (nI (zc go c.length))), (2, .int mo), (3, .int (nI i))] [] S P
      exact absurd (nI_lt (by omega) (by omega)) c1
    · have c1 := Int32.not_le.mp (of_decide_eq_false c1)
      refine xw.steps 1 (fun _ => rfl) ?_
      refine xw.getf (o := 52) rfl q52 rfl ?_
      refine xw.steps 1 (fun _ => rfl) ?_
      refine xw.ald (o := 58) rfl q58 (nI_in (by omega) (by omega)) ?_
      refine xw.if_ rfl (fun c2 => ?_) (fun c2 => ?_)
      · have c2 := of_decide_eq_true c2
        show xw z NK g 129 97 [(0, .ref (z + 52)), (1, .int (nI (zc go c.length))), (2, .int mo), (3, .int (nI i))] [] S P
        rw [ec] at c2
        have hwi := hW i (frO hS (by omega) c2)
        refine xw.steps 3 (fun _ => rfl) ?_
        show xw z NK g 129 100 [(0, .ref (z + 52)), (1, .int (nI (zc go c.length))), (2, .int mo), (3, .int (nI i))] [.int 0, .int (nI i), .ref (z + 52)] S P
        refine xw.callO (o := 52) rfl rfl rfl q52 rfl rfl (c_way0 hM hC hn (by omega) ?_)
        show xw z NK g 129 103 [(0, .ref (z + 52)), (1, .int (nI (zc go c.length))), (2, .int mo), (3, .int (nI i))] [.int (oI (nxt c i))] S P
        refine xw.steps 4 (fun _ => rfl) ?_
        show xw z NK g 129 108 [(0, .ref (z + 52)), (1, .int (nI (zc go c.length))), (2, .int mo), (3, .int (nI i)), (4, .int (oI (nxt c i)))] [.int 1, .int (nI i), .ref (z + 52)] S P
        refine xw.callO (o := 52) rfl rfl rfl q52 rfl rfl (c_way1 hM hC hn (by omega) (h18 i) ?_)
        show xw z NK g 129 111 [(0, .ref (z + 52)), (1, .int (nI (zc go c.length))), (2, .int mo), (3, .int (nI i)), (4, .int (oI (nxt c i)))] [.int (oI (gol c i))] S P
        refine xw.steps 3 (fun _ => rfl) ?_
        refine xw.icmp rfl (fun c3 => ?_) (fun c3 => ?_)
        · have c3 := of_decide_eq_true c3
          refine xw.steps 2 (fun _ => rfl) ?_
          refine xw.icmp rfl (fun c4 => ?_) (fun c4 => ?_)
          · have c4 := of_decide_eq_true c4
            refine xw.steps 1 (fun _ => rfl) ?_
            refine xw.getf (o := 52) rfl q52 rfl ?_
            refine xw.steps 2 (fun _ => rfl) ?_
            refine xw.zst (o := 58) rfl q58 (nI_in (by omega) (by omega)) ?_
            show xw z NK g 129 152 [(0, .ref (z + 52)), (1, .int (nI (zc go c.length))), (2, .int mo), (3, .int (nI i)), (4, .int (oI (nxt c i))), (5, .int (oI (gol c i)))] [] (xu S 58 (.inr (.inl (true, 400, (upd go (nI i).toNatClampNeg (vp_nar .boolean 1)))))) P
            refine xw.steps 5 (fun _ => rfl) ?_
            show xw z NK g 129 77 [(0, .ref (z + 52)), (1, .int ((nI (zc go c.length)) + (-1))), (2, .int 1), (3, .int ((nI i) + 1)), (4, .int (oI (nxt c i))), (5, .int (oI (gol c i)))] [] (xu S 58 (.inr (.inl (true, 400, (upd go (nI i).toNatClampNeg (vp_nar .boolean 1)))))) P
            rw [nI_1]
            refine xw.forget (lv := [(0, .ref (z + 52)), (1, .int ((nI (zc go c.length)) + (-1))), (2, .int 1), (3, .int (nI (i + 1)))]) lk_129 (show [0, 1, 2, 3].Nodup by decide) (show [0, 1, 2, 3, 4, 5].Nodup by decide) (List.forall_mem_cons.mpr ⟨rfl, List.forall_mem_cons.mpr ⟨rfl, List.forall_mem_cons.mpr ⟨rfl, List.forall_mem_cons.mpr ⟨rfl, fun _ h => absurd h List.not_mem_nil⟩⟩⟩⟩) ?_
            have e1 : vp_nar .boolean 1 = (1 : Int32) := by decide
            have hz := zc_fall c2 c.length (by omega)
            rw [ec, e1, hz, nI_dec]
            refine ih (i + 1) (by omega) (upd go i 1) 1 _ ?_ (spI_step hS c2 ?_ ?_) (by omega) (.inr ⟨rfl, by omega⟩)
            · refine ⟨?_, ?_, ?_, ?_, ?_, ?_, ?_, ?_, ?_⟩
              all_goals first
                | (intro q hq; repeat rw [xu_ne _ _ (by omega)]
                   exact qB q hq)
                | (simp only [xu]; simp; try assumption)
            · first | exact gn_none hwi.1 hn (by assumption) | exact (gn_iff hwi.1 hn (by assumption)).mpr (by assumption)
            · first | exact gn_none hwi.2 hn (by assumption) | exact (gn_iff hwi.2 hn (by assumption)).mpr (by assumption)
          · have c4 := of_decide_eq_false c4
            refine xw.steps 1 (fun _ => rfl) ?_
            refine xw.getf (o := 52) rfl q52 rfl ?_
            refine xw.steps 1 (fun _ => rfl) ?_
            refine xw.ald (o := 58) rfl q58 (oI_in hwi.2 hn c4) ?_
            refine xw.if_ rfl (fun c5 => ?_) (fun c5 => ?_)
            · have c5 := of_decide_eq_true c5
              refine xw.steps 2 (fun _ => rfl) ?_
              show xw z NK g 129 77 [(0, .ref (z + 52)), (1, .int (nI (zc go c.length))), (2, .int mo), (3, .int ((nI i) + 1)), (4, .int (oI (nxt c i))), (5, .int (oI (gol c i)))] [] S P
              rw [nI_1]
              refine xw.forget (lv := [(0, .ref (z + 52)), (1, .int (nI (zc go c.length))), (2, .int mo), (3, .int (nI (i + 1)))]) lk_129 (show [0, 1, 2, 3].Nodup by decide) (show [0, 1, 2, 3, 4, 5].Nodup by decide) (List.forall_mem_cons.mpr ⟨rfl, List.forall_mem_cons.mpr ⟨rfl, List.forall_mem_cons.mpr ⟨rfl, List.forall_mem_cons.mpr ⟨rfl, fun _ h => absurd h List.not_mem_nil⟩⟩⟩⟩) ?_
              exact ih (i + 1) (by omega) go mo S hM hS hN (spM_next hmo (fun _ w => by first | exact (gn_iff hwi.1 hn c4).mp w.1 c5 | exact (gn_iff hwi.2 hn c4).mp w.2 c5))
            · have c5 := of_decide_eq_false c5
              refine xw.steps 1 (fun _ => rfl) ?_
              refine xw.getf (o := 52) rfl q52 rfl ?_
              refine xw.steps 2 (fun _ => rfl) ?_
              refine xw.zst (o := 58) rfl q58 (nI_in (by omega) (by omega)) ?_
              show xw z NK g 129 152 [(0, .ref (z + 52)), (1, .int (nI (zc go c.length))), (2, .int mo), (3, .int (nI i)), (4, .int (oI (nxt c i))), (5, .int (oI (gol c i)))] [] (xu S 58 (.inr (.inl (true, 400, (upd go (nI i).toNatClampNeg (vp_nar .boolean 1)))))) P
              refine xw.steps 5 (fun _ => rfl) ?_
              show xw z NK g 129 77 [(0, .ref (z + 52)), (1, .int ((nI (zc go c.length)) + (-1))), (2, .int 1), (3, .int ((nI i) + 1)), (4, .int (oI (nxt c i))), (5, .int (oI (gol c i)))] [] (xu S 58 (.inr (.inl (true, 400, (upd go (nI i).toNatClampNeg (vp_nar .boolean 1)))))) P
              rw [nI_1]
              refine xw.forget (lv := [(0, .ref (z + 52)), (1, .int ((nI (zc go c.length)) + (-1))), (2, .int 1), (3, .int (nI (i + 1)))]) lk_129 (show [0, 1, 2, 3].Nodup by decide) (show [0, 1, 2, 3, 4, 5].Nodup by decide) (List.forall_mem_cons.mpr ⟨rfl, List.forall_mem_cons.mpr ⟨rfl, List.forall_mem_cons.mpr ⟨rfl, List.forall_mem_cons.mpr ⟨rfl, fun _ h => absurd h List.not_mem_nil⟩⟩⟩⟩) ?_
              have e1 : vp_nar .boolean 1 = (1 : Int32) := by decide
              have hz := zc_fall c2 c.length (by omega)
              rw [ec, e1, hz, nI_dec]
              refine ih (i + 1) (by omega) (upd go i 1) 1 _ ?_ (spI_step hS c2 ?_ ?_) (by omega) (.inr ⟨rfl, by omega⟩)
              · refine ⟨?_, ?_, ?_, ?_, ?_, ?_, ?_, ?_, ?_⟩
                all_goals first
                  | (intro q hq; repeat rw [xu_ne _ _ (by omega)]
                     exact qB q hq)
                  | (simp only [xu]; simp; try assumption)
              · first | exact gn_none hwi.1 hn (by assumption) | exact (gn_iff hwi.1 hn (by assumption)).mpr (by assumption)
              · first | exact gn_none hwi.2 hn (by assumption) | exact (gn_iff hwi.2 hn (by assumption)).mpr (by assumption)
        · have c3 := of_decide_eq_false c3
          refine xw.steps 1 (fun _ => rfl) ?_
          refine xw.getf (o := 52) rfl q52 rfl ?_
          refine xw.steps 1 (fun _ => rfl) ?_
          refine xw.ald (o := 58) rfl q58 (oI_in hwi.1 hn c3) ?_
          refine xw.if_ rfl (fun c6 => ?_) (fun c6 => ?_)
          · have c6 := of_decide_eq_true c6
            refine xw.steps 2 (fun _ => rfl) ?_
            show xw z NK g 129 77 [(0, .ref (z + 52)), (1, .int (nI (zc go c.length))), (2, .int mo), (3, .int ((nI i) + 1)), (4, .int (oI (nxt c i))), (5, .int (oI (gol c i)))] [] S P
            rw [nI_1]
            refine xw.forget (lv := [(0, .ref (z + 52)), (1, .int (nI (zc go c.length))), (2, .int mo), (3, .int (nI (i + 1)))]) lk_129 (show [0, 1, 2, 3].Nodup by decide) (show [0, 1, 2, 3, 4, 5].Nodup by decide) (List.forall_mem_cons.mpr ⟨rfl, List.forall_mem_cons.mpr ⟨rfl, List.forall_mem_cons.mpr ⟨rfl, List.forall_mem_cons.mpr ⟨rfl, fun _ h => absurd h List.not_mem_nil⟩⟩⟩⟩) ?_
            exact ih (i + 1) (by omega) go mo S hM hS hN (spM_next hmo (fun _ w => by first | exact (gn_iff hwi.1 hn c3).mp w.1 c6 | exact (gn_iff hwi.2 hn c3).mp w.2 c6))
          · have c6 := of_decide_eq_false c6
            refine xw.steps 2 (fun _ => rfl) ?_
            refine xw.icmp rfl (fun c7 => ?_) (fun c7 => ?_)
            · have c7 := of_decide_eq_true c7
              refine xw.steps 1 (fun _ => rfl) ?_
              refine xw.getf (o := 52) rfl q52 rfl ?_
              refine xw.steps 2 (fun _ => rfl) ?_
              refine xw.zst (o := 58) rfl q58 (nI_in (by omega) (by omega)) ?_
              show xw z NK g 129 152 [(0, .ref (z + 52)), (1, .int (nI (zc go c.length))), (2, .int mo), (3, .int (nI i)), (4, .int (oI (nxt c i))), (5, .int (oI (gol c i)))] [] (xu S 58 (.inr (.inl (true, 400, (upd go (nI i).toNatClampNeg (vp_nar .boolean 1)))))) P
              refine xw.steps 5 (fun _ => rfl) ?_
              show xw z NK g 129 77 [(0, .ref (z + 52)), (1, .int ((nI (zc go c.length)) + (-1))), (2, .int 1), (3, .int ((nI i) + 1)), (4, .int (oI (nxt c i))), (5, .int (oI (gol c i)))] [] (xu S 58 (.inr (.inl (true, 400, (upd go (nI i).toNatClampNeg (vp_nar .boolean 1)))))) P
              rw [nI_1]
              refine xw.forget (lv := [(0, .ref (z + 52)), (1, .int ((nI (zc go c.length)) + (-1))), (2, .int 1), (3, .int (nI (i + 1)))]) lk_129 (show [0, 1, 2, 3].Nodup by decide) (show [0, 1, 2, 3, 4, 5].Nodup by decide) (List.forall_mem_cons.mpr ⟨rfl, List.forall_mem_cons.mpr ⟨rfl, List.forall_mem_cons.mpr ⟨rfl, List.forall_mem_cons.mpr ⟨rfl, fun _ h => absurd h List.not_mem_nil⟩⟩⟩⟩) ?_
              have e1 : vp_nar .boolean 1 = (1 : Int32) := by decide
              have hz := zc_fall c2 c.length (by omega)
              rw [ec, e1, hz, nI_dec]
              refine ih (i + 1) (by omega) (upd go i 1) 1 _ ?_ (spI_step hS c2 ?_ ?_) (by omega) (.inr ⟨rfl, by omega⟩)
              · refine ⟨?_, ?_, ?_, ?_, ?_, ?_, ?_, ?_, ?_⟩
                all_goals first
                  | (intro q hq; repeat rw [xu_ne _ _ (by omega)]
                     exact qB q hq)
                  | (simp only [xu]; simp; try assumption)
              · first | exact gn_none hwi.1 hn (by assumption) | exact (gn_iff hwi.1 hn (by assumption)).mpr (by assumption)
              · first | exact gn_none hwi.2 hn (by assumption) | exact (gn_iff hwi.2 hn (by assumption)).mpr (by assumption)
            · have c7 := of_decide_eq_false c7
              refine xw.steps 1 (fun _ => rfl) ?_
              refine xw.getf (o := 52) rfl q52 rfl ?_
              refine xw.steps 1 (fun _ => rfl) ?_
              refine xw.ald (o := 58) rfl q58 (oI_in hwi.2 hn c7) ?_
              refine xw.if_ rfl (fun c8 => ?_) (fun c8 => ?_)
              · have c8 := of_decide_eq_true c8
                refine xw.steps 2 (fun _ => rfl) ?_
                show xw z NK g 129 77 [(0, .ref (z + 52)), (1, .int (nI (zc go c.length))), (2, .int mo), (3, .int ((nI i) + 1)), (4, .int (oI (nxt c i))), (5, .int (oI (gol c i)))] [] S P
                rw [nI_1]
                refine xw.forget (lv := [(0, .ref (z + 52)), (1, .int (nI (zc go c.length))), (2, .int mo), (3, .int (nI (i + 1)))]) lk_129 (show [0, 1, 2, 3].Nodup by decide) (show [0, 1, 2, 3, 4, 5].Nodup by decide) (List.forall_mem_cons.mpr ⟨rfl, List.forall_mem_cons.mpr ⟨rfl, List.forall_mem_cons.mpr ⟨rfl, List.forall_mem_cons.mpr ⟨rfl, fun _ h => absurd h List.not_mem_nil⟩⟩⟩⟩) ?_
                exact ih (i + 1) (by omega) go mo S hM hS hN (spM_next hmo (fun _ w => by first | exact (gn_iff hwi.1 hn c7).mp w.1 c8 | exact (gn_iff hwi.2 hn c7).mp w.2 c8))
              · have c8 := of_decide_eq_false c8
                refine xw.steps 1 (fun _ => rfl) ?_
                refine xw.getf (o := 52) rfl q52 rfl ?_
                refine xw.steps 2 (fun _ => rfl) ?_
                refine xw.zst (o := 58) rfl q58 (nI_in (by omega) (by omega)) ?_
                show xw z NK g 129 152 [(0, .ref (z + 52)), (1, .int (nI (zc go c.length))), (2, .int mo), (3, .int (nI i)), (4, .int (oI (nxt c i))), (5, .int (oI (gol c i)))] [] (xu S 58 (.inr (.inl (true, 400, (upd go (nI i).toNatClampNeg (vp_nar .boolean 1)))))) P
                refine xw.steps 5 (fun _ => rfl) ?_
                show xw z NK g 129 77 [(0, .ref (z + 52)), (1, .int ((nI (zc go c.length)) + (-1))), (2, .int 1), (3, .int ((nI i) + 1)), (4, .int (oI (nxt c i))), (5, .int (oI (gol c i)))] [] (xu S 58 (.inr (.inl (true, 400, (upd go (nI i).toNatClampNeg (vp_nar .boolean 1)))))) P
                rw [nI_1]
                refine xw.forget (lv := [(0, .ref (z + 52)), (1, .int ((nI (zc go c.length)) + (-1))), (2, .int 1), (3, .int (nI (i + 1)))]) lk_129 (show [0, 1, 2, 3].Nodup by decide) (show [0, 1, 2, 3, 4, 5].Nodup by decide) (List.forall_mem_cons.mpr ⟨rfl, List.forall_mem_cons.mpr ⟨rfl, List.forall_mem_cons.mpr ⟨rfl, List.forall_mem_cons.mpr ⟨rfl, fun _ h => absurd h List.not_mem_nil⟩⟩⟩⟩) ?_
                have e1 : vp_nar .boolean 1 = (1 : Int32) := by decide
                have hz := zc_fall c2 c.length (by omega)
                rw [ec, e1, hz, nI_dec]
                refine ih (i + 1) (by omega) (upd go i 1) 1 _ ?_ (spI_step hS c2 ?_ ?_) (by omega) (.inr ⟨rfl, by omega⟩)
                · refine ⟨?_, ?_, ?_, ?_, ?_, ?_, ?_, ?_, ?_⟩
                  all_goals first
                    | (intro q hq; repeat rw [xu_ne _ _ (by omega)]
                       exact qB q hq)
                    | (simp only [xu]; simp; try assumption)
                · first | exact gn_none hwi.1 hn (by assumption) | exact (gn_iff hwi.1 hn (by assumption)).mpr (by assumption)
                · first | exact gn_none hwi.2 hn (by assumption) | exact (gn_iff hwi.2 hn (by assumption)).mpr (by assumption)
      · have c2 := of_decide_eq_false c2
        refine xw.steps 3 (fun _ => rfl) ?_
        show xw z NK g 129 77 [(0, .ref (z + 52)), (1, .int (nI (zc go c.length))), (2, .int mo), (3, .int ((nI i) + 1))] [] S P
        rw [nI_1]
        exact ih (i + 1) (by omega) go mo S hM hS hN (spM_next hmo (fun w => absurd (by rw [ec]; exact w) c2))
end MOE
