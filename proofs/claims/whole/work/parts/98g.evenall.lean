/-! THE REFERENCE: isEven as a whole (walks by wip/gen98g.py) -/
abbrev EvM (c : List II) (D : Nat → Option Nat) (Pr : List Nat) (N0 i : Nat) (mo : Int32) : Prop := (mo = 0 ∧ Pr.length = N0 ∧ ∀ k, k < i → D k ≠ none → k ∈ Pr) ∨ (mo = 1 ∧ N0 < Pr.length)
theorem evM_next {c : List II} {D : Nat → Option Nat} {Pr : List Nat} {N0 i : Nat} {mo : Int32} (h : EvM c D Pr N0 i mo) (hb : D i ≠ none → i ∈ Pr) : EvM c D Pr N0 (i + 1) mo := by
  rcases h with ⟨e, e2, h⟩ | h
  · refine .inl ⟨e, e2, fun k hk hg => ?_⟩
    by_cases w : k = i
    · subst w; exact hb hg
    · exact h k (by omega) hg
  · exact .inr h
theorem go_cons {go : Nat → Int32} {Pr : List Nat} {n i : Nat} (h : ∀ k, k < n → (go k = 0 ↔ k ∉ Pr)) : ∀ k, k < n → (upd go i 1 k = 0 ↔ k ∉ i :: Pr) := by
  intro k hk
  by_cases e : k = i
  · subst e
    rw [up_at']
    exact ⟨fun w => absurd w (by decide), fun w => absurd List.mem_cons_self w⟩
  · have e2 : upd go i 1 k = go k := by simp [upd, e]
    rw [e2, h k hk, List.mem_cons]
    exact ⟨fun w q => q.elim e w, fun w q => w (.inr q)⟩
section MOH
variable {Bk : xS} {z : Nat} {NK : List Nat} {g : mx_G} {P : Option Value → xS → Prop} {th va fu hg : Int32} {nu ag lo wo ro : Nat → Int32} {c : List II}
theorem ev_stop {i : Nat} {mo : Int32} {he go : Nat → Int32} {S : xS} (hM : MO Bk z S th (nI c.length) va fu hg nu ag lo wo he go ro) (hP : xw z NK g 128 232 [(0, .ref (z + 52)), (1, .int 0), (2, .int mo), (3, .int (nI i))] [] S P) : xw z NK g 128 53 [(0, .ref (z + 52)), (1, .int 0), (2, .int mo), (3, .int (nI i))] [] S P := by
  obtain ⟨q52, q53, q54, q55, q56, q57, q58, q59, qB⟩ := id hM
  refine xw.steps 2 (fun _ => rfl) ?_
  refine xw.getf (o := 52) rfl q52 rfl ?_
  refine xw.icmp rfl (fun c1 => ?_) (fun c1 => ?_)
  · have c1 := Int32.not_lt.mpr (of_decide_eq_true c1)
    show xw z NK g 128 232 [(0, .ref (z + 52)), (1, .int 0), (2, .int mo), (3, .int (nI i))] [] S P
    exact hP
  · have c1 := Int32.not_le.mp (of_decide_eq_false c1)
    refine xw.steps 1 (fun _ => rfl) ?_
    refine xw.steps 1 (pc' := 232) (fun _ => rfl) ?_
    show xw z NK g 128 232 [(0, .ref (z + 52)), (1, .int 0), (2, .int mo), (3, .int (nI i))] [] S P
    exact hP
theorem ev_ex0 {mo : Int32} {S : xS} (hP : P (some (.int 0)) S) : xw z NK g 128 41 [(0, .ref (z + 52)), (1, .int 0), (2, .int mo)] [] S P := by
  refine xw.steps 1 (fun _ => rfl) ?_
  refine xw.if_ rfl (fun c1 => ?_) (fun c1 => ?_)
  · have c1 := of_decide_eq_true c1
    refine xw.steps 1 (fun _ => rfl) ?_
    refine xw.ret rfl (fun _ => rfl) ?_
    show P (some (.int 0)) S
    exact hP
  · have c1 := of_decide_eq_false c1
    refine xw.steps 1 (fun _ => rfl) ?_
    refine xw.steps 1 (pc' := 235) (fun _ => rfl) ?_
    refine xw.steps 1 (fun _ => rfl) ?_
    refine xw.ret rfl (fun _ => rfl) ?_
    show P (some (.int 0)) S
    exact hP
theorem ev_ex1 {S : xS} (hP : P (some (.int 1)) S) : xw z NK g 128 41 [(0, .ref (z + 52)), (1, .int 1), (2, .int 0)] [] S P := by
  refine xw.steps 1 (fun _ => rfl) ?_
  refine xw.steps 1 (pc' := 235) (fun _ => rfl) ?_
  refine xw.steps 1 (fun _ => rfl) ?_
  refine xw.ret rfl (fun _ => rfl) ?_
  show P (some (.int 1)) S
  exact hP
theorem ev_in (hC : CO c nu ag) (hn : c.length ≤ 400) (h18 : ∀ i, nb c i = 18 → i + 1 < c.length) (hft : ∀ i, i < c.length → ¬ nb c i < 0 ∧ nb c i < 21) (N0 : Nat) (hP : ∀ he' go' D' Pr' gd' mo' i' S', MO Bk z S' th (nI c.length) va fu hg nu ag lo wo he' go' ro → ((gd' = 0 ∧ ¬ ∃ H, OkH c H) ∨ (gd' = 1 ∧ (∀ k, k < c.length → he' k = oI (D' k)) ∧ (∀ k, k < c.length → (go' k = 0 ↔ k ∉ Pr')) ∧ EvI c D' Pr' ∧ EvM c D' Pr' N0 c.length mo')) → xw z NK g 128 232 [(0, .ref (z + 52)), (1, .int gd'), (2, .int mo'), (3, .int i')] [] S' P) :
    ∀ (r i : Nat) (hi : i + r = c.length) (he go : Nat → Int32) (D : Nat → Option Nat) (Pr : List Nat) (mo : Int32) (S : xS) (hM : MO Bk z S th (nI c.length) va fu hg nu ag lo wo he go ro) (hD : (∀ k, k < c.length → he k = oI (D k))) (hgo : (∀ k, k < c.length → (go k = 0 ↔ k ∉ Pr))) (hE : EvI c D Pr) (hm : EvM c D Pr N0 i mo), xw z NK g 128 53 [(0, .ref (z + 52)), (1, .int 1), (2, .int mo), (3, .int (nI i))] [] S P := by
  intro r
  induction r with
  | zero =>
    intro i hi he go D Pr mo S hM hD hgo hE hm
    obtain ⟨q52, q53, q54, q55, q56, q57, q58, q59, qB⟩ := id hM
    have ec : (nI i).toNatClampNeg = i := nI_clamp (by omega)
    refine xw.steps 2 (fun _ => rfl) ?_
    refine xw.getf (o := 52) rfl q52 rfl ?_
    refine xw.icmp rfl (fun c1 => ?_) (fun c1 => ?_)
    · have c1 := Int32.not_lt.mpr (of_decide_eq_true c1)
      show xw z NK g 128 232 [(0, .ref (z + 52)), (1, .int 1), (2, .int mo), (3, .int (nI i))] [] S P
      obtain rfl : i = c.length := by omega
      exact hP he go D Pr 1 mo _ S hM (.inr ⟨rfl, hD, hgo, hE, hm⟩)
    · have c1 := Int32.not_le.mp (of_decide_eq_false c1)
      show xw z NK g 128 61 [(0, .ref (z + 52)), (1, .int 1), (2, .int mo), (3, .int (nI i))] [] S P
      exact absurd c1 (nI_nlt (by omega) (by omega))
  | succ r ih =>
    intro i hi he go D Pr mo S hM hD hgo hE hm
    obtain ⟨q52, q53, q54, q55, q56, q57, q58, q59, qB⟩ := id hM
    have ec : (nI i).toNatClampNeg = i := nI_clamp (by omega)
    refine xw.steps 2 (fun _ => rfl) ?_
    refine xw.getf (o := 52) rfl q52 rfl ?_
    refine xw.icmp rfl (fun c1 => ?_) (fun c1 => ?_)
    · have c1 := Int32.not_lt.mpr (of_decide_eq_true c1)
      show xw z NK g 128 232 [(0, .ref (z + 52)), (1, .int 1), (2, .int mo), (3, .int (nI i))] [] S P
      exact absurd (nI_lt (by omega) (by omega)) c1
    · have c1 := Int32.not_le.mp (of_decide_eq_false c1)
      refine xw.steps 1 (fun _ => rfl) ?_
      refine xw.steps 1 (pc' := 65) (fun _ => rfl) ?_
      refine xw.steps 1 (fun _ => rfl) ?_
      refine xw.getf (o := 52) rfl q52 rfl ?_
      refine xw.steps 1 (fun _ => rfl) ?_
      refine xw.ald (o := 57) rfl q57 (nI_in (by omega) (by omega)) ?_
      refine xw.steps 1 (fun _ => rfl) ?_
      refine xw.icmp rfl (fun c2 => ?_) (fun c2 => ?_)
      · have c2 := of_decide_eq_true c2
        refine xw.steps 2 (fun _ => rfl) ?_
        show xw z NK g 128 53 [(0, .ref (z + 52)), (1, .int 1), (2, .int mo), (3, .int ((nI i) + 1))] [] S P
        rw [nI_1]
        exact ih (i + 1) (by omega) he go D Pr mo S hM hD hgo hE (evM_next hm (by rw [ec, hD i (by omega), oI_none (fun j hj => by have := (ev_sml hE i j hj).2; omega)] at c2; exact fun w => absurd c2 w))
      · have c2 := of_decide_eq_false c2
        refine xw.steps 1 (fun _ => rfl) ?_
        refine xw.getf (o := 52) rfl q52 rfl ?_
        refine xw.steps 1 (fun _ => rfl) ?_
        refine xw.ald (o := 58) rfl q58 (nI_in (by omega) (by omega)) ?_
        refine xw.if_ rfl (fun c3 => ?_) (fun c3 => ?_)
        · have c3 := of_decide_eq_true c3
          refine xw.steps 1 (fun _ => rfl) ?_
          refine xw.getf (o := 52) rfl q52 rfl ?_
          refine xw.steps 2 (fun _ => rfl) ?_
          refine xw.zst (o := 58) rfl q58 (nI_in (by omega) (by omega)) ?_
          show xw z NK g 128 94 [(0, .ref (z + 52)), (1, .int 1), (2, .int mo), (3, .int (nI i))] [] (xu S 58 (.inr (.inl (true, 400, (upd go ((nI i).toNatClampNeg) (vp_nar .boolean 1)))))) P
          show xw z NK g 128 94 [(0, .ref (z + 52)), (1, .int 1), (2, .int mo), (3, .int (nI i))] [] (xu S 58 (.inr (.inl (true, 400, (upd go ((nI i).toNatClampNeg) (vp_nar .boolean 1)))))) P
          rw [ec] at c2 c3
          obtain ⟨h, hi2⟩ : ∃ h, D i = some h := by
            cases hv : D i with
            | none => rw [hD i (by omega), hv] at c2; exact absurd rfl c2
            | some h => exact ⟨h, rfl⟩
          have hp := (hgo i (by omega)).mp c3
          have e1 : vp_nar .boolean 1 = (1 : Int32) := by decide
          rw [ec, e1]
          refine ev_turn (Bk := Bk) (th := th) (va := va) (fu := fu) (hg := hg) (lo := lo) (wo := wo) (ro := ro) (go := upd go i 1) hC hn (h18 i) (hft i (by omega)) hE hi2 hp ?_ hD (fun he' D' gd S' hM' hR => ?_)
          · refine ⟨?_, ?_, ?_, ?_, ?_, ?_, ?_, ?_, ?_⟩
            all_goals first
              | (intro q hq; repeat rw [xu_ne _ _ (by omega)]
                 exact qB q hq)
              | (simp only [xu]; simp; try assumption)
          refine xw.steps 2 (pc' := 53) (fun _ => rfl) ?_
          show xw z NK g 128 53 [(0, .ref (z + 52)), (1, .int gd), (2, .int 1), (3, .int (nI i + 1))] [] S' P
          rw [nI_1]
          rcases hR with ⟨rfl, no⟩ | ⟨rfl, hD', hE'⟩
          · exact ev_stop hM' (hP he' _ D' Pr 0 1 _ S' hM' (.inl ⟨rfl, no⟩))
          · refine ih (i + 1) (by omega) he' (upd go i 1) D' (i :: Pr) 1 S' hM' hD' (go_cons hgo) hE' (.inr ⟨rfl, ?_⟩)
            rw [List.length_cons]
            rcases hm with hm | hm <;> omega
        · have c3 := of_decide_eq_false c3
          refine xw.steps 3 (fun _ => rfl) ?_
          show xw z NK g 128 53 [(0, .ref (z + 52)), (1, .int 1), (2, .int mo), (3, .int ((nI i) + 1))] [] S P
          rw [nI_1]
          exact ih (i + 1) (by omega) he go D Pr mo S hM hD hgo hE (evM_next hm (fun _ => Decidable.not_not.mp (fun w => by rw [ec] at c3; exact c3 ((hgo i (by omega)).mpr w))))
theorem ev_out (hC : CO c nu ag) (hn : c.length ≤ 400) (h18 : ∀ i, nb c i = 18 → i + 1 < c.length) (hft : ∀ i, i < c.length → ¬ nb c i < 0 ∧ nb c i < 21) (hP : ∀ he' go' S' b, MO Bk z S' th (nI c.length) va fu hg nu ag lo wo he' go' ro → (b = true → ∃ D, OkH c D ∧ Sound c D ∧ (∀ k, k < c.length → he' k = oI (D k))) → (b = false → ¬ ∃ H, OkH c H) → P (some (.int (bI b))) S') : ∀ (m : Nat) (he go : Nat → Int32) (D : Nat → Option Nat) (Pr : List Nat) (S : xS), c.length - Pr.length = m → MO Bk z S th (nI c.length) va fu hg nu ag lo wo he go ro → (∀ k, k < c.length → he k = oI (D k)) → (∀ k, k < c.length → (go k = 0 ↔ k ∉ Pr)) → EvI c D Pr → xw z NK g 128 41 [(0, .ref (z + 52)), (1, .int 1), (2, .int 1)] [] S P := by
  intro m
  induction m using Nat.strongRecOn with
  | ind m ih =>
  intro he go D Pr S hm hM hD hgo hE
  refine xw.steps 1 (fun _ => rfl) ?_
  refine xw.steps 1 (pc' := 45) (fun _ => rfl) ?_
  refine xw.steps 1 (fun _ => rfl) ?_
  refine xw.steps 1 (pc' := 49) (fun _ => rfl) ?_
  refine xw.steps 4 (fun _ => rfl) ?_
  show xw z NK g 128 53 [(0, .ref (z + 52)), (1, .int 1), (2, .int 0), (3, .int 0)] [] S P
  refine ev_in hC hn h18 hft Pr.length (fun he' go' D' Pr' gd' mo' i' S' hM' hR => ?_) c.length 0 (by omega) he go D Pr 0 S hM hD hgo hE (.inl ⟨rfl, rfl, fun k hk => by omega⟩)
  refine xw.steps 1 (pc' := 41) (fun _ => rfl) ?_
  refine xw.forget (lv := [(0, .ref (z + 52)), (1, .int gd'), (2, .int mo')]) lk_128 (show [0, 1, 2].Nodup by decide) (show [0, 1, 2, 3].Nodup by decide) (List.forall_mem_cons.mpr ⟨rfl, List.forall_mem_cons.mpr ⟨rfl, List.forall_mem_cons.mpr ⟨rfl, fun _ h => absurd h List.not_mem_nil⟩⟩⟩) ?_
  rcases hR with ⟨rfl, no⟩ | ⟨rfl, hD', hgo', hE', hm'⟩
  · exact ev_ex0 (hP he' go' S' false hM' (fun w => by cases w) (fun _ => no))
  rcases hm' with ⟨rfl, -, hall⟩ | ⟨rfl, hlt⟩
  · obtain ⟨o1, o2⟩ := ev_end hE' hall
    exact ev_ex1 (hP he' go' S' true hM' (fun _ => ⟨D', o1, o2, hD'⟩) (fun w => by cases w))
  · have hle := ev_len hE'
    exact ih (c.length - Pr'.length) (by omega) he' go' D' Pr' S' rfl hM' hD' hgo' hE'
theorem ev_ini (hn : c.length ≤ 400) (hP : ∀ he' go' S', MO Bk z S' th (nI c.length) va fu hg nu ag lo wo he' go' ro → (∀ k, k < c.length → he' k = -1 ∧ go' k = 0) → xw z NK g 128 30 [(0, .ref (z + 52)), (1, .int (nI c.length))] [] S' P) :
    ∀ (r i : Nat) (hi : i + r = c.length) (he go : Nat → Int32) (S : xS) (hM : MO Bk z S th (nI c.length) va fu hg nu ag lo wo he go ro) (h0 : (∀ k, k < i → he k = -1 ∧ go k = 0)), xw z NK g 128 2 [(0, .ref (z + 52)), (1, .int (nI i))] [] S P := by
  intro r
  induction r with
  | zero =>
    intro i hi he go S hM h0
    obtain ⟨q52, q53, q54, q55, q56, q57, q58, q59, qB⟩ := id hM
    have ec : (nI i).toNatClampNeg = i := nI_clamp (by omega)
    refine xw.steps 2 (fun _ => rfl) ?_
    refine xw.getf (o := 52) rfl q52 rfl ?_
    refine xw.icmp rfl (fun c1 => ?_) (fun c1 => ?_)
    · have c1 := Int32.not_lt.mpr (of_decide_eq_true c1)
      show xw z NK g 128 30 [(0, .ref (z + 52)), (1, .int (nI i))] [] S P
      obtain rfl : i = c.length := by omega
      exact hP he go S hM h0
    · have c1 := Int32.not_le.mp (of_decide_eq_false c1)
      show xw z NK g 128 10 [(0, .ref (z + 52)), (1, .int (nI i))] [] S P
      exact absurd c1 (nI_nlt (by omega) (by omega))
  | succ r ih =>
    intro i hi he go S hM h0
    obtain ⟨q52, q53, q54, q55, q56, q57, q58, q59, qB⟩ := id hM
    have ec : (nI i).toNatClampNeg = i := nI_clamp (by omega)
    refine xw.steps 2 (fun _ => rfl) ?_
    refine xw.getf (o := 52) rfl q52 rfl ?_
    refine xw.icmp rfl (fun c1 => ?_) (fun c1 => ?_)
    · have c1 := Int32.not_lt.mpr (of_decide_eq_true c1)
      show xw z NK g 128 30 [(0, .ref (z + 52)), (1, .int (nI i))] [] S P
      exact absurd (nI_lt (by omega) (by omega)) c1
    · have c1 := Int32.not_le.mp (of_decide_eq_false c1)
      refine xw.steps 1 (fun _ => rfl) ?_
      refine xw.getf (o := 52) rfl q52 rfl ?_
      refine xw.steps 2 (fun _ => rfl) ?_
      refine xw.ast (o := 57) rfl q57 (nI_in (by omega) (by omega)) ?_
      show xw z NK g 128 17 [(0, .ref (z + 52)), (1, .int (nI i))] [] (xu S 57 (.inr (.inl (false, 400, (upd he ((nI i).toNatClampNeg) (-1)))))) P
      refine xw.steps 1 (fun _ => rfl) ?_
      refine xw.getf (o := 52) rfl ((xu_ne _ _ (by decide)).trans q52) rfl ?_
      refine xw.steps 2 (fun _ => rfl) ?_
      refine xw.zst (o := 58) rfl ((xu_ne _ _ (by decide)).trans q58) (nI_in (by omega) (by omega)) ?_
      show xw z NK g 128 24 [(0, .ref (z + 52)), (1, .int (nI i))] [] (xu (xu S 57 (.inr (.inl (false, 400, (upd he ((nI i).toNatClampNeg) (-1)))))) 58 (.inr (.inl (true, 400, (upd go ((nI i).toNatClampNeg) (vp_nar .boolean 0)))))) P
      refine xw.steps 2 (fun _ => rfl) ?_
      show xw z NK g 128 2 [(0, .ref (z + 52)), (1, .int ((nI i) + 1))] [] (xu (xu S 57 (.inr (.inl (false, 400, (upd he ((nI i).toNatClampNeg) (-1)))))) 58 (.inr (.inl (true, 400, (upd go ((nI i).toNatClampNeg) (vp_nar .boolean 0)))))) P
      have e1 : vp_nar .boolean 0 = (0 : Int32) := by decide
      rw [nI_1, ec, e1]
      refine ih (i + 1) (by omega) (upd he i (-1)) (upd go i 0) _ ?_ (fun k hk => ?_)
      · refine ⟨?_, ?_, ?_, ?_, ?_, ?_, ?_, ?_, ?_⟩
        all_goals first
          | (intro q hq; repeat rw [xu_ne _ _ (by omega)]
             exact qB q hq)
          | (simp only [xu]; simp; try assumption)
      · by_cases e : k = i
        · subst e; exact ⟨up_at' _ _ _, up_at' _ _ _⟩
        · have := h0 k (by omega); simpa [upd, e] using this
theorem ev_go {he go : Nat → Int32} {S : xS} {x : Int32} (hC : CO c nu ag) (hn : c.length ≤ 400) (h18 : ∀ i, nb c i = 18 → i + 1 < c.length) (hft : ∀ i, i < c.length → ¬ nb c i < 0 ∧ nb c i < 21) (h1 : 0 < c.length) (hM : MO Bk z S th (nI c.length) va fu hg nu ag lo wo he go ro) (h0 : (∀ k, k < c.length → he k = -1 ∧ go k = 0)) (hP : ∀ he' go' S' b, MO Bk z S' th (nI c.length) va fu hg nu ag lo wo he' go' ro → (b = true → ∃ D, OkH c D ∧ Sound c D ∧ (∀ k, k < c.length → he' k = oI (D k))) → (b = false → ¬ ∃ H, OkH c H) → P (some (.int (bI b))) S') : xw z NK g 128 30 [(0, .ref (z + 52)), (1, .int x)] [] S P := by
  obtain ⟨q52, q53, q54, q55, q56, q57, q58, q59, qB⟩ := id hM
  refine xw.steps 1 (fun _ => rfl) ?_
  refine xw.getf (o := 52) rfl q52 rfl ?_
  refine xw.steps 2 (fun _ => rfl) ?_
  refine xw.ast (o := 57) rfl q57 ((by decide)) ?_
  show xw z NK g 128 37 [(0, .ref (z + 52)), (1, .int x)] [] (xu S 57 (.inr (.inl (false, 400, (upd he ((0 : Int32).toNatClampNeg) 0))))) P
  refine xw.steps 4 (fun _ => rfl) ?_
  show xw z NK g 128 41 [(0, .ref (z + 52)), (1, .int 1), (2, .int 1)] [] (xu S 57 (.inr (.inl (false, 400, (upd he ((0 : Int32).toNatClampNeg) 0))))) P
  have e0 : (0 : Int32).toNatClampNeg = 0 := by decide
  rw [e0]
  refine ev_out hC hn h18 hft hP _ (upd he 0 0) go (fun q => if q = 0 then some 0 else none) [] _ rfl ?_ (fun k hk => ?_) (fun k hk => ?_) (ev_init h1)
  · refine ⟨?_, ?_, ?_, ?_, ?_, ?_, ?_, ?_, ?_⟩
    all_goals first
      | (intro q hq; repeat rw [xu_ne _ _ (by omega)]
         exact qB q hq)
      | (simp only [xu]; simp; try assumption)
  · by_cases e : k = 0
    · subst e; rw [up_at']; rfl
    · have := (h0 k hk).1; simpa [upd, e, oI] using this
  · exact ⟨fun _ => List.not_mem_nil, fun _ => (h0 k hk).2⟩
theorem c_even {he go : Nat → Int32} {S : xS} (hC : CO c nu ag) (hn : c.length ≤ 400) (h18 : ∀ i, nb c i = 18 → i + 1 < c.length) (hft : ∀ i, i < c.length → ¬ nb c i < 0 ∧ nb c i < 21) (h1 : 0 < c.length) (hM : MO Bk z S th (nI c.length) va fu hg nu ag lo wo he go ro) (hP : ∀ he' go' S' b, MO Bk z S' th (nI c.length) va fu hg nu ag lo wo he' go' ro → (b = true → ∃ D, OkH c D ∧ Sound c D ∧ (∀ k, k < c.length → he' k = oI (D k))) → (b = false → ¬ ∃ H, OkH c H) → P (some (.int (bI b))) S') : xw z NK g 128 0 [(0, .ref (z + 52))] [] S P := by
  refine xw.steps 2 (fun _ => rfl) ?_
  show xw z NK g 128 2 [(0, .ref (z + 52)), (1, .int 0)] [] S P
  exact ev_ini hn (fun he' go' S' hM' h0' => ev_go hC hn h18 hft h1 hM' h0' hP) c.length 0 (by omega) he go S hM (fun k hk => by omega)
end MOH
