/-! THE REFERENCE: isSpent as a whole (walks by wip/gen98d.py) -/
section MOF
variable {Bk : xS} {z : Nat} {NK : List Nat} {g : mx_G} {P : Option Value → xS → Prop} {th va fu hg : Int32} {nu ag lo wo he ro : Nat → Int32} {c : List II} {D : Nat → Option Nat}
theorem sp_exit {go : Nat → Int32} {S : xS} (hn : c.length ≤ 400) (hW : ∀ i, fre' c D i = true → (∀ j, nxt c i = some j → j < c.length) ∧ (∀ j, gol c i = some j → j < c.length)) (hDl : ∀ i h, D i = some h → i < c.length) (hM : MO Bk z S th (nI c.length) va fu hg nu ag lo wo he go ro) (hS : SpI c D go) (hb : ∀ k, k < c.length → go k = 0 → ¬ (gn go (nxt c k) ∧ gn go (gol c k))) (hP : ∀ go' S' b, MO Bk z S' th (nI c.length) va fu hg nu ag lo wo he go' ro → (b = true ↔ Acy c D) → P (some (.int (bI b))) S') : xw z NK g 129 69 [(0, .ref (z + 52)), (1, .int (nI (zc go c.length))), (2, .int 0)] [] S P := by
  have hzl := zc_le go c.length
  refine xw.steps 1 (fun _ => rfl) ?_
  refine xw.steps 1 (pc' := 166) (fun _ => rfl) ?_
  refine xw.steps 1 (fun _ => rfl) ?_
  refine xw.if_ rfl (fun c1 => ?_) (fun c1 => ?_)
  · have c1 := of_decide_eq_true c1
    refine xw.steps 1 (fun _ => rfl) ?_
    refine xw.ret rfl (fun _ => rfl) ?_
    show P (some (.int 0)) S
    have hz : ¬ zc go c.length = 0 := fun w => c1 (by rw [w]; rfl)
    exact hP go S false hM ⟨fun w => absurd w (by decide), fun w => absurd w (spent_no hS (fun i j hi he => (cE_or he).elim ((hW i hi).1 j) ((hW i hi).2 j)) hb hz)⟩
  · have c1 := Decidable.not_not.mp (of_decide_eq_false c1)
    refine xw.steps 2 (fun _ => rfl) ?_
    refine xw.ret rfl (fun _ => rfl) ?_
    show P (some (.int 1)) S
    have hz : zc go c.length = 0 := (by have e := nI_clamp (show zc go c.length < 2 ^ 31 by omega); rw [c1] at e; exact e.symm)
    exact hP go S true hM ⟨fun _ => spent_yes hS hDl hz, fun _ => rfl⟩
theorem sp_out (hC : CO c nu ag) (hn : c.length ≤ 400) (h18 : ∀ i, nb c i = 18 → i + 1 < c.length) (hW : ∀ i, fre' c D i = true → (∀ j, nxt c i = some j → j < c.length) ∧ (∀ j, gol c i = some j → j < c.length)) (hDl : ∀ i h, D i = some h → i < c.length) (hP : ∀ go' S' b, MO Bk z S' th (nI c.length) va fu hg nu ag lo wo he go' ro → (b = true ↔ Acy c D) → P (some (.int (bI b))) S') : ∀ (N : Nat) (go : Nat → Int32) (S : xS), zc go c.length = N → MO Bk z S th (nI c.length) va fu hg nu ag lo wo he go ro → SpI c D go → xw z NK g 129 69 [(0, .ref (z + 52)), (1, .int (nI (zc go c.length))), (2, .int 1)] [] S P := by
  intro N
  induction N using Nat.strongRecOn with
  | ind N ih =>
  intro go S hN hM hS
  refine xw.steps 1 (fun _ => rfl) ?_
  refine xw.steps 1 (pc' := 73) (fun _ => rfl) ?_
  refine xw.steps 4 (fun _ => rfl) ?_
  show xw z NK g 129 77 [(0, .ref (z + 52)), (1, .int (nI (zc go c.length))), (2, .int 0), (3, .int 0)] [] S P
  refine sp_in hC hn h18 hW N (fun go' mo' S' hM' hS' hN' hm' => ?_) c.length 0 (by omega) go 0 S hM hS (by omega) (.inl ⟨rfl, fun k hk => by omega⟩)
  refine xw.steps 1 (pc' := 69) (fun _ => rfl) ?_
  refine xw.forget (lv := [(0, .ref (z + 52)), (1, .int (nI (zc go' c.length))), (2, .int mo')]) lk_129 (show [0, 1, 2].Nodup by decide) (show [0, 1, 2, 3].Nodup by decide) (List.forall_mem_cons.mpr ⟨rfl, List.forall_mem_cons.mpr ⟨rfl, List.forall_mem_cons.mpr ⟨rfl, fun _ h => absurd h List.not_mem_nil⟩⟩⟩) ?_
  rcases hm' with ⟨rfl, hb⟩ | ⟨rfl, hlt⟩
  · exact sp_exit hn hW hDl hM' hS' hb hP
  · exact ih _ hlt go' S' rfl hM' hS'
theorem c_spent {go : Nat → Int32} {S : xS} (hM : MO Bk z S th (nI c.length) va fu hg nu ag lo wo he go ro) (hC : CO c nu ag) (hn : c.length ≤ 400) (h18 : ∀ i, nb c i = 18 → i + 1 < c.length) (hW : ∀ i, fre' c D i = true → (∀ j, nxt c i = some j → j < c.length) ∧ (∀ j, gol c i = some j → j < c.length)) (hDl : ∀ i h, D i = some h → i < c.length ∧ h < 2 ^ 30) (hD : ∀ i, i < c.length → he i = oI (D i)) (hP : ∀ go' S' b, MO Bk z S' th (nI c.length) va fu hg nu ag lo wo he go' ro → (b = true ↔ Acy c D) → P (some (.int (bI b))) S') : xw z NK g 129 0 [(0, .ref (z + 52))] [] S P := by
  refine xw.steps 4 (fun _ => rfl) ?_
  show xw z NK g 129 4 [(0, .ref (z + 52)), (1, .int 0), (2, .int 0)] [] S P
  refine sp_init (D := D) hC hn hD (fun i j e => (hDl i j e).2) (fun go' S' hM' h0 => ?_) c.length 0 (by omega) go S hM (fun k hk => by omega)
  refine xw.steps 2 (pc' := 69) (fun _ => rfl) ?_
  refine sp_out hC hn h18 hW (fun i h e => (hDl i h e).1) hP _ go' S' rfl hM' ⟨fun i hi hf w => ?_, fun _ => 0, fun i j hi hf hg => ?_⟩
  · rw [(h0 i hi).mp w] at hf; cases hf
  · exact absurd ((h0 i hi).mpr hf) hg
end MOF
